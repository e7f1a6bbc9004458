/-! between, canHold, highOf: what the rounds come to -/
def Cmp (S : Nat → List Nat → Prop) (w : Nat → Int) (r : Nat) (f : Nat → Int64) : Prop := ∀ (v : Nat) (l : List Nat), v < 10 → S v l → l.length ≤ r → (f v).toInt ≤ sw w l
def Fixp (E : Nat → Prop) (X Y : Nat → Nat) (w : Nat → Int) (f : Nat → Int64) : Prop := ∀ k, E k → f (Y k) ≠ NOROW → (f (X k)).toInt ≤ (f (Y k)).toInt + w k
section BF2
variable {E : Nat → Prop} {X Y : Nat → Nat} {w : Nat → Int} {S : Nat → List Nat → Prop}
theorem ne_norow {f : Int64} {z : Int} (h : f.toInt ≤ z) (hz : z < 4611686018427387904) : f ≠ NOROW := fun e => by rw [e, norow_t] at h; omega
theorem cmp_step {n B r : Nat} {f0 f : Nat → Int64} {mv : Int32} (hw : ∀ k, E k → -4398046511104 ≤ w k ∧ w k ≤ 4398046511104) (hR : RowsTo E X Y S) (hE : ∀ k, E k → k < n ∧ X k < 10 ∧ Y k < 10) (hr : r ≤ 1000) (hP : Pass n E X Y w S B f0 n f mv) (hC : Cmp S w r f0) : Cmp S w (r + 1) f := by
  intro v l hv hS hl
  by_cases h : l.length ≤ r
  · exact Int.le_trans (hP.1 v hv) (hC v l hv hS h)
  · rcases List.eq_nil_or_concat l with e | ⟨l', k, e⟩
    · rw [e] at h; simp at h
    · rw [List.concat_eq_append] at e
      rw [e] at hS hl
      obtain ⟨h1, h2, h3⟩ := hR.2.2 v l' k hS
      obtain ⟨hk, hX, hY⟩ := hE k h2
      simp at hl
      have q := hC (Y k) l' hY h1 (by omega)
      obtain ⟨u, hu⟩ := hR.1 _ _ h1
      have q2 := (sw_bound hw hu).2
      have q3 := hP.2.1 k hk h2 (ne_norow q (by omega))
      rw [e, sw_snoc, ← h3]
      omega
theorem fix_all {B : Nat} {f : Nat → Int64} (hw : ∀ k, E k → -4398046511104 ≤ w k ∧ w k ≤ 4398046511104) (hR : RowsTo E X Y S) (hE : ∀ k, E k → X k < 10 ∧ Y k < 10) (hB : B ≤ 1000) (hs : Snd S w B f) (hF : Fixp E X Y w f) (h0 : Cmp S w 0 f) : ∀ (m : Nat) (v : Nat) (l : List Nat), l.length ≤ m → v < 10 → S v l → (f v).toInt ≤ sw w l ∧ f v ≠ NOROW := by
  intro m
  induction m with
  | zero =>
    intro v l hl hv hS
    have e : l = [] := List.length_eq_zero_iff.mp (by omega)
    subst e
    have := h0 v [] hv hS (Nat.le_refl _)
    exact ⟨this, ne_norow this (by simp [sw])⟩
  | succ m ih =>
    intro v l hl hv hS
    rcases List.eq_nil_or_concat l with e | ⟨l', k, e⟩
    · subst e
      have := h0 v [] hv hS (Nat.le_refl _)
      exact ⟨this, ne_norow this (by simp [sw])⟩
    · rw [List.concat_eq_append] at e
      subst e
      obtain ⟨h1, h2, h3⟩ := hR.2.2 v l' k hS
      obtain ⟨hX, hY⟩ := hE k h2
      simp at hl
      obtain ⟨q1, q2⟩ := ih (Y k) l' (by omega) hY h1
      have q3 := hF k h2 q2
      have q4 := (Snd.rng hw hR hB hs hY q2).2
      have q5 := (hw k h2).2
      rw [sw_snoc, ← h3]
      exact ⟨by omega, ne_norow q3 (by omega)⟩
theorem pot {f : Nat → Int64} (hE : ∀ k, E k → X k < 10 ∧ Y k < 10) (hF : Fixp E X Y w f) (hne : ∀ v, v < 10 → f v ≠ NOROW) : ∀ (l : List Nat) (a b : Nat), pw E X Y a l b → (f b).toInt ≤ (f a).toInt + sw w l := by
  intro l
  induction l with
  | nil => intro a b h; have h : a = b := h; subst h; simp [sw]
  | cons k l ih =>
    intro a b h
    have q := ih (X k) b h.2.2
    have q2 := hF k h.1 (hne _ (hE k h.1).2)
    rw [h.2.1] at q2
    simp only [sw]
    omega
theorem Pass.snd {n B : Nat} {f0 f : Nat → Int64} {mv : Int32} (h : Pass n E X Y w S B f0 n f mv) : Snd S w (B + n) f := h.2.2.1
theorem Pass.fix {n B : Nat} {f0 f : Nat → Int64} (hE : ∀ k, E k → k < n ∧ X k < 10 ∧ Y k < 10) (h : Pass n E X Y w S B f0 n f 0) : Fixp E X Y w f := by
  intro k hk hne
  obtain ⟨hn, hX, hY⟩ := hE k hk
  rcases h.2.2.2 with ⟨-, e⟩ | ⟨e, -⟩
  · rw [e (Y k) hY] at hne ⊢
    exact h.2.1 k hn hk hne
  · exact absurd e (by decide)
end BF2
section BT
variable {n : Nat} {X Y : Nat → Nat} {w : Nat → Int} {wh size : Int32} {lower limits stricts upper : Nat → Int32}
set_option maxHeartbeats 1000000 in
theorem s_between (hG : StG n X Y w wh size lower limits stricts upper) {skip : Int32} (hN : NoNeg (fun k => k < n ∧ nI k ≠ skip) X Y w) {a b : Nat} (ha : a < 10) (hb : b < 10) {f : Nat → Int64} {post : Int64 → (Nat → Int64) → Prop}
    (hp : ∀ (f' : Nat → Int64), (∀ v, v < 10 → (f' v = NOROW ∧ ∀ l, ¬ pw (fun k => k < n ∧ nI k ≠ skip) X Y a l v) ∨ (f' v ≠ NOROW ∧ Lst (fun k => k < n ∧ nI k ≠ skip) X Y w a v (f' v).toInt)) → post (f' b) f') : P_X2_between post f size wh lower limits stricts upper (nI a) (nI b) skip := by
  have hG' := hG
  obtain ⟨hsz, hn, hk⟩ := hG'
  have hw : ∀ k, (k < n ∧ nI k ≠ skip) → -4398046511104 ≤ w k ∧ w k ≤ 4398046511104 := fun k h => (hk k h.1).2.2.2.2.1
  have hE : ∀ k, (k < n ∧ nI k ≠ skip) → k < n ∧ X k < 10 ∧ Y k < 10 := fun k h => ⟨h.1, (hk k h.1).2.2.1, (hk k h.1).2.2.2.1⟩
  have hR := rowsFrom (E := fun k => k < n ∧ nI k ≠ skip) (x := X) (y := Y) a
  unfold P_X2_between
  refine s_fillJ (by omega) (fun f1 h1 => ⟨vin ha (by omega), ?_⟩)
  rw [nI_c (by omega)]
  have fin : ∀ (g : Nat → Int64) (B : Nat), B ≤ 1000 → Snd (fun v l => pw (fun k => k < n ∧ nI k ≠ skip) X Y a l v) w B g → (∀ (v : Nat) (l : List Nat), v < 10 → pw (fun k => k < n ∧ nI k ≠ skip) X Y a l v → (g v).toInt ≤ sw w l ∧ g v ≠ NOROW) → post (g b) g := fun g B hB hs ha => by
    refine hp g (fun v hv => ?_)
    by_cases hz : g v = NOROW
    · left
      exact ⟨hz, fun l hl => (ha v l hv hl).2 hz⟩
    · right
      refine ⟨hz, ?_, fun l hl => (ha v l hv hl).1⟩
      rcases hs v hv with q | ⟨l, q1, -, q3⟩
      · exact absurd q hz
      · exact ⟨l, q1, q3.symm⟩
  refine ml3 (F := LB_X2_between_23 post size wh lower limits stricts upper (nI b) skip) (I := fun g mv z => ∃ r : Nat, r ≤ 10 ∧ z = nI r ∧ Snd (fun v l => pw (fun k => k < n ∧ nI k ≠ skip) X Y a l v) w (24 * r) g ∧ Cmp (fun v l => pw (fun k => k < n ∧ nI k ≠ skip) X Y a l v) w r g ∧ ((mv = 0 ∧ Fixp (fun k => k < n ∧ nI k ≠ skip) X Y w g) ∨ mv = 1)) (μ := fun _ _ z => 10 - z.toNatClampNeg) ?_ _ 1 0 ⟨0, by omega, rfl, fun v hv => ?_, fun v l hv hS hl => ?_, Or.inr rfl⟩
  · rintro g mv z ⟨r, hr, rfl, hs, hc, hm⟩ K hK
    unfold LB_X2_between_23
    by_cases h10 : r = 10
    · subst h10
      refine br_t (nI_le (Nat.le_refl _) (by omega)) ⟨vin hb (by omega), ?_⟩
      rw [nI_c (by omega)]
      refine fin g 240 (by omega) hs (fun v l hv hl => ?_)
      obtain ⟨l', q1, q2, q3⟩ := shorten (fun k h => (hE k h).2.1) hN l.length l a v (Nat.le_refl _) ha hl
      have := hc v l' hv q2 (by omega)
      have q4 := (sw_bound hw q2).2
      exact ⟨by omega, ne_norow this (by omega)⟩
    · refine br_f (nI_ge (a := r) (b := 10) (by omega) (by omega)) (br_c (fun e => ⟨vin hb (by omega), ?_⟩) (fun e => ?_))
      · rw [nI_c (by omega)]
        rcases hm with ⟨-, hF⟩ | h
        · exact fin g (24 * r) (by omega) hs (fun v l hv hl => fix_all hw hR (fun k h => (hE k h).2) (by omega) hs hF (fun v l hv hS hl => hc v l hv hS (by omega)) l.length v l (Nat.le_refl _) hv hl)
        · rw [h] at e; exact absurd e (by decide)
      · refine s_goOver hG (B := 24 * r) (by omega) hR hs (fun mv' g' hPs => ?_)
        refine hK g' mv' _ ⟨r + 1, by omega, nI_1 r, fun v hv => ?_, cmp_step hw hR hE (by omega) hPs hc, ?_⟩ (by rw [nI_1, nI_c (by omega), nI_c (by omega)]; omega)
        · exact (hPs.snd v hv).imp id (fun ⟨l, a, b, c⟩ => ⟨l, a, by omega, c⟩)
        · have hq := hPs.2.2.2
          rcases hq with ⟨e0, -⟩ | ⟨e1, -⟩
          · subst e0; exact Or.inl ⟨rfl, hPs.fix hE⟩
          · exact Or.inr e1
  · by_cases e : v = a
    · subst e
      right
      exact ⟨[], rfl, by simp, by rw [pk_uLs]; rfl⟩
    · left
      rw [pk_uLn e]
      exact h1 v hv
  · have e : l = [] := List.length_eq_zero_iff.mp (by omega)
    subst e
    have hS : a = v := hS
    subst hS
    rw [pk_uLs]
    exact Int.le_refl _
theorem nI_m1 {k : Nat} (h : k < 24) : nI k ≠ (-1 : Int32) := fun e => by
  have := congrArg Int32.toInt e
  rw [nI_t (by omega)] at this
  have h1 : (-1 : Int32).toInt = -1 := by decide
  rw [h1] at this
  omega
set_option maxHeartbeats 1000000 in
theorem s_canHold (hG : StG n X Y w wh size lower limits stricts upper) {f : Nat → Int64} {post : Int32 → (Nat → Int64) → Prop}
    (hp1 : ∀ f' : Nat → Int64, NoNeg (fun k => k < n) X Y w → (∀ v, v < 10 → (∃ (u : Nat) (l : List Nat), u < 10 ∧ pw (fun k => k < n) X Y u l v ∧ (f' v).toInt = sw w l) ∧ ∀ (u : Nat) (l : List Nat), u < 10 → pw (fun k => k < n) X Y u l v → (f' v).toInt ≤ sw w l) → post 1 f')
    (hp0 : ∀ f' : Nat → Int64, ¬ NoNeg (fun k => k < n) X Y w → post 0 f') : P_X2_canHold post f size lower limits stricts upper wh := by
  have hG' := hG
  obtain ⟨hsz, hn, hk⟩ := hG'
  have eE : (fun k => k < n ∧ nI k ≠ (-1 : Int32)) = (fun k => k < n) := funext fun k => propext ⟨fun h => h.1, fun h => ⟨h, nI_m1 (by omega)⟩⟩
  have hw : ∀ k, k < n → -4398046511104 ≤ w k ∧ w k ≤ 4398046511104 := fun k h => (hk k h).2.2.2.2.1
  have hE : ∀ k, k < n → k < n ∧ X k < 10 ∧ Y k < 10 := fun k h => ⟨h, (hk k h).2.2.1, (hk k h).2.2.2.1⟩
  have hR := rowsAll (E := fun k => k < n) (x := X) (y := Y) (fun k h => (hE k h).2.2)
  unfold P_X2_canHold
  refine s_fillJ (by omega) (fun f1 h1 => ?_)
  have yes : ∀ (g : Nat → Int64) (B : Nat), B ≤ 1000 → Snd (fun v l => ∃ a, a < 10 ∧ pw (fun k => k < n) X Y a l v) w B g → Cmp (fun v l => ∃ a, a < 10 ∧ pw (fun k => k < n) X Y a l v) w 0 g → Fixp (fun k => k < n) X Y w g → post 1 g := fun g B hB hs hc hF => by
    have hne : ∀ v, v < 10 → g v ≠ NOROW := fun v hv => ne_norow (hc v [] hv ⟨v, hv, rfl⟩ (Nat.le_refl _)) (by simp [sw])
    refine hp1 g (fun a l hl => ?_) (fun v hv => ⟨?_, fun u l hu hl => ?_⟩)
    · have := pot (fun k h => (hE k h).2) hF hne l a a hl
      omega
    · rcases hs v hv with q | ⟨l, ⟨u, q0, q1⟩, -, q3⟩
      · exact absurd q (hne v hv)
      · exact ⟨u, l, q0, q1, q3⟩
    · exact (fix_all hw hR (fun k h => (hE k h).2) hB hs hF hc l.length v l (Nat.le_refl _) hv ⟨u, hu, hl⟩).1
  refine ml3 (F := LB_X2_canHold_13 post size lower limits stricts upper wh) (I := fun g mv z => ∃ r : Nat, r ≤ 10 ∧ z = nI r ∧ Snd (fun v l => ∃ a, a < 10 ∧ pw (fun k => k < n) X Y a l v) w (24 * r) g ∧ Cmp (fun v l => ∃ a, a < 10 ∧ pw (fun k => k < n) X Y a l v) w r g ∧ ((mv = 0 ∧ Fixp (fun k => k < n) X Y w g) ∨ (mv = 1 ∧ (r = 0 ∨ ∃ (g0 : Nat → Int64) (v : Nat) (l : List Nat) (u : Nat), Cmp (fun v l => ∃ a, a < 10 ∧ pw (fun k => k < n) X Y a l v) w (r - 1) g0 ∧ v < 10 ∧ u < 10 ∧ pw (fun k => k < n) X Y u l v ∧ sw w l < (g0 v).toInt)))) (μ := fun _ _ z => 10 - z.toNatClampNeg) ?_ _ 1 0 ⟨0, by omega, rfl, fun v hv => Or.inr ⟨[], ⟨v, hv, rfl⟩, by simp, by rw [h1 v hv]; rfl⟩, fun v l hv hS hl => ?_, Or.inr ⟨rfl, Or.inl rfl⟩⟩
  · rintro g mv z ⟨r, hr, rfl, hs, hc, hm⟩ K hK
    unfold LB_X2_canHold_13 B_X2_canHold_38
    have hend : (mv = 0 ∨ r = 10) → ((¬ mv = 0 → post 0 g) ∧ (mv = 0 → post 1 g)) := fun hor => by
      rcases hm with ⟨e, hF⟩ | ⟨e, hb⟩
      · exact ⟨fun z => absurd e z, fun _ => yes g (24 * r) (by omega) hs (fun v l hv hS hl => hc v l hv hS (by omega)) hF⟩
      · have hm0 : ¬ mv = 0 := by rw [e]; decide
        refine ⟨fun _ => hp0 g (fun hN => ?_), fun z => absurd z hm0⟩
        have h10 : r = 10 := hor.resolve_left hm0
        rcases hb with q | ⟨g0, v, l, u, c1, c2, c3, c4, c5⟩
        · omega
        · obtain ⟨l', q1, q2, q3⟩ := shorten (fun k h => (hE k h).2.1) hN l.length l u v (Nat.le_refl _) c3 c4
          have := c1 v l' c2 ⟨u, c3, q2⟩ (by omega)
          omega
    by_cases h10 : r = 10
    · subst h10
      exact br_t (nI_le (Nat.le_refl _) (by omega)) (hend (Or.inr rfl))
    · refine br_f (nI_ge (a := r) (b := 10) (by omega) (by omega)) (br_c (fun e => hend (Or.inl e)) (fun e => ?_))
      refine s_goOver hG (B := 24 * r) (by omega) (by rw [eE]; exact hR) hs (fun mv' g' hPs => ?_)
      rw [eE] at hPs
      refine hK g' mv' _ ⟨r + 1, by omega, nI_1 r, fun v hv => ?_, cmp_step hw hR hE (by omega) hPs hc, ?_⟩ (by rw [nI_1, nI_c (by omega), nI_c (by omega)]; omega)
      · exact (hPs.snd v hv).imp id (fun ⟨l, a, b, c⟩ => ⟨l, a, by omega, c⟩)
      · have hq := hPs.2.2.2
        rcases hq with ⟨e0, -⟩ | ⟨e1, v, l, hv, ⟨u, hu, hl⟩, hlt⟩
        · subst e0; exact Or.inl ⟨rfl, hPs.fix hE⟩
        · exact Or.inr ⟨e1, Or.inr ⟨g, v, l, u, by rw [Nat.add_sub_cancel]; exact hc, hv, hu, hl, hlt⟩⟩
  · have e : l = [] := List.length_eq_zero_iff.mp (by omega)
    subst e
    rw [h1 v hv]
    exact Int.le_refl _
end BT
