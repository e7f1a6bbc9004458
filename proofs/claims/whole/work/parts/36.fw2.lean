/-! reckons: all rounds, and what they come to -/
def it (X : Nat → Nat) (m : Nat) : List Nat → Prop
  | [] => True
  | [_] => True
  | k :: k' :: l => X k < m ∧ it X m (k' :: l)
theorem it_split {X : Nat → Nat} (m : Nat) : ∀ (l : List Nat) (a : Nat), it X (m + 1) l → it X m l ∨ ∃ l1 l2 : List Nat, l = l1 ++ l2 ∧ l1 ≠ [] ∧ it X m l1 ∧ it X (m + 1) l2 ∧ en X a l1 = m := by
  intro l
  induction l with
  | nil => intro a _; exact Or.inl trivial
  | cons k l ih =>
    intro a h
    cases l with
    | nil => exact Or.inl trivial
    | cons k' l =>
      by_cases e : X k = m
      · exact Or.inr ⟨[k], k' :: l, rfl, by simp, trivial, h.2, e⟩
      · have hlt : X k < m := by have := h.1; omega
        rcases ih (X k) h.2 with q | ⟨l1, l2, e1, hne, i1, i2, i3⟩
        · exact Or.inl ⟨hlt, q⟩
        · right
          refine ⟨k :: l1, l2, by rw [e1]; rfl, by simp, ?_, i2, i3⟩
          cases l1 with
          | nil => exact absurd rfl hne
          | cons j t => exact ⟨hlt, i1⟩
theorem it_all {E : Nat → Prop} {X Y : Nat → Nat} (hE : ∀ k, E k → X k < 10) : ∀ (l : List Nat) (a b : Nat), pw E X Y a l b → it X 10 l := by
  intro l
  induction l with
  | nil => intro a b _; trivial
  | cons k l ih =>
    intro a b h
    cases l with
    | nil => trivial
    | cons k' l => exact ⟨hE k h.1, ih _ _ h.2.2⟩
section FW2
variable {E : Nat → Prop} {X Y : Nat → Nat} {w : Nat → Int}
def CmpM (E : Nat → Prop) (X Y : Nat → Nat) (w : Nat → Int) (m : Nat) (D : Nat → Int64) : Prop := ∀ (a b : Nat) (l : List Nat), a < 10 → pw E X Y a l b → it X m l → l.length ≤ 1000 → (D (10 * a + b)).toInt ≤ sw w l
theorem pw_lt (hX : ∀ k, E k → X k < 10) : ∀ (l : List Nat) (a b : Nat), a < 10 → pw E X Y a l b → b < 10 := by
  intro l
  induction l with
  | nil => intro a b ha h; have h : a = b := h; omega
  | cons k l ih => intro a b _ h; exact ih (X k) b (hX k h.1) h.2.2
theorem fw_step (hE : ∀ k, E k → X k < 10 ∧ Y k < 10) (hw : ∀ k, E k → -4398046511104 ≤ w k ∧ w k ≤ 4398046511104) {m L : Nat} {U : Int} (hm : m < 10) {D0 D : Nat → Int64} (hR : Rnd E X Y w m L U D0 100 D) (h0 : 0 ≤ (D0 (10 * m + m)).toInt) (hC : CmpM E X Y w m D0) : CmpM E X Y w (m + 1) D := by
  have hX : ∀ k, E k → X k < 10 := fun k h => (hE k h).1
  have sub : ∀ (n : Nat) (l : List Nat) (c : Nat), l.length ≤ n → pw E X Y m l c → it X (m + 1) l → l.length ≤ 1000 → (D0 (10 * m + c)).toInt ≤ sw w l := by
    intro n
    induction n with
    | zero =>
      intro l c hl hp hi h1
      have e : l = [] := List.length_eq_zero_iff.mp (by omega)
      subst e
      exact hC m c [] hm hp trivial (by simp)
    | succ n ih =>
      intro l c hl hp hi h1
      rcases it_split m l m hi with q | ⟨l1, l2, e, hne, i1, i2, i3⟩
      · exact hC m c l hm hp q h1
      · rw [e] at hp
        obtain ⟨d, p1, p2⟩ := pw_split hp
        have ed := pw_en p1
        rw [i3] at ed
        subst ed
        have hl1 : 0 < l1.length := List.length_pos_iff.mpr hne
        have hlen : l.length = l1.length + l2.length := by rw [e]; simp
        have q1 := hC d d l1 hm p1 i1 (by omega)
        have q2 := ih l2 c (by omega) p2 i2 (by omega)
        rw [e, sw_app]
        omega
  intro a b l ha hp hi hl
  have hb := pw_lt hX l a b ha hp
  rcases it_split m l a hi with q | ⟨l1, l2, e, hne, i1, i2, i3⟩
  · exact Int.le_trans (hR.2.1 a b ha hb) (hC a b l ha hp q hl)
  · rw [e] at hp
    obtain ⟨d, p1, p2⟩ := pw_split hp
    have ed := pw_en p1
    rw [i3] at ed
    subst ed
    have hlen : l.length = l1.length + l2.length := by rw [e]; simp
    have q1 := hC a d l1 ha p1 i1 (by omega)
    have q2 := sub l2.length l2 b (Nat.le_refl _) p2 i2 (by omega)
    have b1 := (sw_bound hw p1).2
    have b2 := (sw_bound hw p2).2
    have q3 := hR.2.2 a b ha hb (by omega) (by omega) (by omega)
    rw [e, sw_app]
    omega
/-- what the page's cells say of the bounds: things, and a weight in the scale of 1000 -/
def RfG (o n : Nat) (X Y : Nat → Nat) (w : Nat → Int) (st : Nat → Int32) : Prop :=
  o + 107 ≤ 535 ∧ st (o + 104) = nI n ∧ n ≤ 24 ∧ ∀ k, k < n → st (o + 24 + k) = nI (Y k) ∧ st (o + k) = nI (X k) ∧ X k < 10 ∧ Y k < 10 ∧ (-4398046511104 ≤ w k ∧ w k ≤ 4398046511104) ∧ ∀ post : Int64 → Prop, (∀ r : Int64, r.toInt = w k → post r) → P_X8_weightOf post st (nI o) (nI k)
def FwOk (E : Nat → Prop) (X Y : Nat → Nat) (w : Nat → Int) (D : Nat → Int64) : Prop :=
  (∀ a b, a < 10 → b < 10 → Ent E X Y w a b 362797056 100000000000000000 (D (10 * a + b))) ∧ ((∀ v, v < 10 → 0 ≤ (D (10 * v + v)).toInt) → ∀ (a b : Nat) (l : List Nat), a < 10 → pw E X Y a l b → l.length ≤ 1000 → (D (10 * a + b)).toInt ≤ sw w l)
theorem fw_nn {D : Nat → Int64} (hE : ∀ k, E k → X k < 10 ∧ Y k < 10) (h : FwOk E X Y w D) (hd : ∀ v, v < 10 → 0 ≤ (D (10 * v + v)).toInt) : NoNeg E X Y w := by
  refine noNeg_of_short (fun k h => (hE k h).1) (fun a l hl hp => ?_)
  cases l with
  | nil => simp [sw]
  | cons k l =>
    have ha : a < 10 := by rw [← hp.2.1]; exact (hE k hp.1).2
    have := h.2 hd a a (k :: l) ha hp (by omega)
    have := hd a ha
    omega
theorem fw_diag {D : Nat → Int64} (h : FwOk E X Y w D) (hN : NoNeg E X Y w) : ∀ v, v < 10 → 0 ≤ (D (10 * v + v)).toInt := fun v hv => by
  rcases h.1 v v hv hv with e | ⟨l, h1, h2, h3, h4⟩
  · rw [e, far_t]; omega
  · rw [h3]; exact hN v l h1
theorem fw_lst {D : Nat → Int64} (hE : ∀ k, E k → X k < 10 ∧ Y k < 10) (hw : ∀ k, E k → -4398046511104 ≤ w k ∧ w k ≤ 4398046511104) (h : FwOk E X Y w D) (hN : NoNeg E X Y w) {a b : Nat} (ha : a < 10) (hb : b < 10) : (D (10 * a + b) = FARL ∧ ∀ l, ¬ pw E X Y a l b) ∨ ((D (10 * a + b)).toInt < 1000000000000000000 ∧ Lst E X Y w a b (D (10 * a + b)).toInt) := by
  have hall : ∀ l, pw E X Y a l b → (D (10 * a + b)).toInt ≤ sw w l ∧ (D (10 * a + b)).toInt < 1000000000000000000 := fun l hl => by
    obtain ⟨l', q1, q2, q3⟩ := shorten (fun k h => (hE k h).1) hN l.length l a b (Nat.le_refl _) ha hl
    have := h.2 (fw_diag h hN) a b l' ha q2 (by omega)
    have := (sw_bound hw q2).2
    exact ⟨by omega, by omega⟩
  rcases h.1 a b ha hb with e | ⟨l, h1, h2, h3, h4⟩
  · left
    exact ⟨e, fun l hl => by
      have := (hall l hl).2
      rw [e, far_t] at this
      omega⟩
  · right
    exact ⟨by omega, ⟨l, h1, h3.symm⟩, fun l hl => (hall l hl).1⟩
set_option maxHeartbeats 4000000 in
theorem s_rounds (hp : PotOk E X Y w) (hE : ∀ k, E k → X k < 10 ∧ Y k < 10) (hw : ∀ k, E k → -4398046511104 ≤ w k ∧ w k ≤ 4398046511104) {D0 : Nat → Int64} (h0 : ∀ a b, a < 10 → b < 10 → Ent E X Y w a b 1 4398046511104 (D0 (10 * a + b))) (hd : ∀ v, v < 10 → (D0 (10 * v + v)).toInt ≤ 0) (hk : ∀ k, E k → (D0 (10 * Y k + X k)).toInt ≤ w k)
    {post : (Nat → Int64) → Prop} (hpost : ∀ D : Nat → Int64, FwOk E X Y w D → post D) : ∃ n : Nat, L_X8_reckons_127 post n D0 0 := by
  have hX : ∀ k, E k → X k < 10 := fun k h => (hE k h).1
  refine ml2 (F := LB_X8_reckons_127 post) (I := fun D z => ∃ m : Nat, m ≤ 10 ∧ z = nI m ∧ (∃ (L : Nat) (U : Int), L ≤ 6 ^ m ∧ 0 ≤ U ∧ U ≤ 4398046511104 * 2 ^ m ∧ ∀ a b, a < 10 → b < 10 → Ent E X Y w a b L U (D (10 * a + b))) ∧ ∃ Dd : Nat → Int, (∀ v, v < m → (D (10 * v + v)).toInt ≤ Dd v) ∧ ((∀ v, v < m → 0 ≤ Dd v) → CmpM E X Y w m D)) (μ := fun _ z => 10 - z.toNatClampNeg) ?_ D0 0 ⟨0, by omega, rfl, ⟨1, 4398046511104, by simp, by omega, by simp, h0⟩, fun _ => 0, fun v h => absurd h (by omega), fun _ a b l ha hl hi _ => ?_⟩
  · rintro D z ⟨m, hm, rfl, ⟨L, U, hL, hU0, hU, hs⟩, Dd, d1, d2⟩ K hK
    unfold LB_X8_reckons_127
    have p6 : 6 ^ m ≤ 6 ^ 10 := Nat.pow_le_pow_right (by decide) hm
    have p2n : 2 ^ m ≤ 2 ^ 10 := Nat.pow_le_pow_right (by decide) hm
    have p2 : (2 : Int) ^ m ≤ 2 ^ 10 := by exact_mod_cast p2n
    by_cases h10 : m = 10
    · subst h10
      refine br_t (nI_le (Nat.le_refl _) (by omega)) (hpost D ⟨fun a b ha hb => (hs a b ha hb).weaken (by omega) (by omega), fun hv a b l ha hl hlen => ?_⟩)
      exact d2 (fun v hv2 => Int.le_trans (hv v hv2) (d1 v hv2)) a b l ha hl (it_all hX l a b hl) hlen
    · refine br_f (nI_ge (a := m) (b := 10) (by omega) (by omega)) (s_round hp hE (m := m) (L := L) (U := U) (by omega) (by omega) ⟨hU0, by omega⟩ hs (fun D' hR => ?_))
      refine hK D' _ ⟨m + 1, by omega, nI_1 m, ⟨6 * L, 2 * U, by rw [Nat.pow_succ]; omega, by omega, by rw [Int.pow_succ]; omega, fun a b ha hb => (hR.1 a b ha hb).weaken ?_ ?_⟩, fun v => if v = m then (D (10 * m + m)).toInt else Dd v, fun v hv => ?_, fun hall => ?_⟩ (by rw [nI_1, nI_c (by omega), nI_c (by omega)]; omega)
      · unfold Lb; split <;> (try split) <;> (try split) <;> omega
      · unfold Ub; split <;> omega
      · dsimp only
        by_cases e : v = m
        · subst e; rw [if_pos rfl]; exact hR.2.1 v v (by omega) (by omega)
        · rw [if_neg e]
          have := hR.2.1 v v (by omega) (by omega)
          have := d1 v (by omega)
          omega
      · have q := hall m (by omega)
        dsimp only at q
        rw [if_pos rfl] at q
        refine fw_step hE hw (by omega) hR q (d2 (fun v hv => ?_))
        have q2 := hall v (by omega)
        dsimp only at q2
        rw [if_neg (by omega)] at q2
        exact q2
  · cases l with
    | nil =>
      have hl : a = b := hl
      subst hl
      simp only [sw]
      exact hd a ha
    | cons k l =>
      cases l with
      | nil =>
        obtain ⟨q1, q2, q3⟩ := hl
        have q3 : X k = b := q3
        subst q2; subst q3
        simp only [sw]
        have := hk k q1
        omega
      | cons k' l => exact absurd hi.1 (by omega)
theorem ix3 {o k c : Nat} (h : o + c + k ≤ 2147483647) (cc : Int32) (hc : cc = nI c) : (nI o + cc) + nI k = nI (o + c + k) := by rw [hc, nI_add, nI_add]
set_option maxHeartbeats 4000000 in
theorem s_reckons {o n : Nat} {st : Nat → Int32} {skip : Int32} (hG : RfG o n X Y w st) (hp : PotOk (fun k => k < n ∧ nI k ≠ skip) X Y w) {D0 : Nat → Int64} {post : (Nat → Int64) → Prop} (hpost : ∀ D : Nat → Int64, FwOk (fun k => k < n ∧ nI k ≠ skip) X Y w D → post D) : P_X8_reckons post st D0 (nI o) skip := by
  obtain ⟨ho, h104, hn, hk⟩ := hG
  have hE : ∀ k, (k < n ∧ nI k ≠ skip) → X k < 10 ∧ Y k < 10 := fun k h => ⟨(hk k h.1).2.2.1, (hk k h.1).2.2.2.1⟩
  have hw : ∀ k, (k < n ∧ nI k ≠ skip) → -4398046511104 ≤ w k ∧ w k ≤ 4398046511104 := fun k h => (hk k h.1).2.2.2.2.1
  refine ml2 (F := LB_X8_reckons_2 post st (nI o) skip) (I := fun D z => ∃ i : Nat, i ≤ 100 ∧ z = nI i ∧ ∀ j, j < i → D j = if j % 11 = 0 then 0 else FARL) (μ := fun _ z => 100 - z.toNatClampNeg) ?_ D0 0 ⟨0, by omega, rfl, fun j hj => absurd hj (by omega)⟩
  rintro D z ⟨i, hi, rfl, hD⟩ K hK
  unfold LB_X8_reckons_2 B_X8_reckons_27
  by_cases h100 : i = 100
  · subst h100
    refine br_t (nI_le (Nat.le_refl _) (by omega)) ?_
    refine ml2 (F := LB_X8_reckons_36 post st (nI o) skip) (I := fun D z => ∃ i : Nat, i ≤ n ∧ z = nI i ∧ (∀ a b, a < 10 → b < 10 → Ent (fun k => k < n ∧ nI k ≠ skip) X Y w a b 1 4398046511104 (D (10 * a + b))) ∧ (∀ v, v < 10 → (D (10 * v + v)).toInt ≤ 0) ∧ ∀ k, k < i → nI k ≠ skip → (D (10 * Y k + X k)).toInt ≤ w k) (μ := fun _ z => n - z.toNatClampNeg) ?_ D 0 ⟨0, by omega, rfl, fun a b ha hb => ?_, fun v hv => ?_, fun k h => absurd h (by omega)⟩
    · rintro D z ⟨i, hi, rfl, r1, r2, r3⟩ K hK
      unfold LB_X8_reckons_36 B_X8_reckons_111 B_X8_reckons_118
      rw [show (104 : Int32) = nI 104 from rfl, nI_add, nI_c (by omega), h104]
      refine ⟨vin (by omega) (by omega), ?_⟩
      by_cases hin : i = n
      · subst hin
        refine br_t (nI_le (Nat.le_refl _) (by omega)) ?_
        exact s_rounds hp hE hw r1 r2 (fun k h => r3 k h.1 h.2) hpost
      · have hlt : i < n := by omega
        obtain ⟨e1, e2, hX, hY, -, hwg⟩ := hk i hlt
        rw [ix3 (c := 24) (by omega) (24 : Int32) rfl, nI_add, nI_c (show o + 24 + i ≤ 2147483647 by omega), nI_c (show o + i ≤ 2147483647 by omega), e1, e2]
        rw [show (10 : Int32) = nI 10 from rfl, pk_mul, nI_add, nI_c (show 10 * Y i + X i ≤ 2147483647 by omega)]
        have va : vp_in (nI (10 * Y i + X i)) 100 := vin (by omega) (by omega)
        have hmu : n - (nI i + 1).toNatClampNeg < n - (nI i).toNatClampNeg := by rw [nI_1, nI_c (by omega), nI_c (by omega)]; omega
        have same : ∀ j, vp_updL D (10 * Y i + X i) (D (10 * Y i + X i)) j = D j := fun j => by
          by_cases e : j = 10 * Y i + X i
          · subst e; exact pk_uLs
          · exact pk_uLn e
        have stay : (nI i ≠ skip → (D (10 * Y i + X i)).toInt ≤ w i) → K (vp_updL D (10 * Y i + X i) (D (10 * Y i + X i))) (nI i + 1) := fun hh => by
          refine hK _ _ ⟨i + 1, by omega, nI_1 i, fun a b ha hb => by rw [same]; exact r1 a b ha hb, fun v hv => by rw [same]; exact r2 v hv, fun k hk1 hs => ?_⟩ hmu
          rw [same]
          by_cases e : k = i
          · subst e; exact hh hs
          · exact r3 k (by omega) hs
        refine br_f (nI_ge (by omega) (by omega)) ⟨vin (by omega) (by omega), vin (by omega) (by omega), hwg _ (fun r hr => br_c (fun hs => ⟨va, va, ?_⟩) (fun hs => ⟨va, br_c (fun hle => ⟨va, va, ?_⟩) (fun hle => ⟨va, ?_⟩)⟩))⟩
        · exact stay (fun h => absurd hs h)
        · rw [Int64.le_iff_toInt_le, hr] at hle
          exact stay (fun _ => hle)
        · rw [Int64.le_iff_toInt_le, hr] at hle
          obtain ⟨w1, w2⟩ := hw i ⟨hlt, hs⟩
          refine hK _ _ ⟨i + 1, by omega, nI_1 i, fun a b ha hb => ?_, fun v hv => ?_, fun k hk1 hs => ?_⟩ hmu
          · by_cases e : 10 * a + b = 10 * Y i + X i
            · have ea : a = Y i := by omega
              have eb : b = X i := by omega
              subst ea; subst eb
              rw [pk_uLs]
              right
              exact ⟨[i], ⟨⟨hlt, hs⟩, rfl, rfl⟩, by simp, by rw [hr]; simp [sw], by omega⟩
            · rw [pk_uLn e]; exact r1 a b ha hb
          · by_cases e : 10 * v + v = 10 * Y i + X i
            · rw [e, pk_uLs]
              have := r2 v hv
              rw [e] at this
              omega
            · rw [pk_uLn e]; exact r2 v hv
          · by_cases e : 10 * Y k + X k = 10 * Y i + X i
            · rw [e, pk_uLs]
              by_cases ek : k = i
              · subst ek; omega
              · have := r3 k (by omega) hs
                rw [e] at this
                omega
            · rw [pk_uLn e]
              by_cases ek : k = i
              · subst ek; exact absurd rfl e
              · exact r3 k (by omega) hs
    · rw [hD (10 * a + b) (by omega)]
      by_cases e : a = b
      · subst e
        rw [if_pos (by omega)]
        right
        exact ⟨[], rfl, by simp, rfl, by decide⟩
      · rw [if_neg (by omega)]
        exact Or.inl rfl
    · rw [hD (10 * v + v) (by omega), if_pos (by omega)]
      exact Int.le_refl _
  · have hlt : i < 100 := by omega
    have hmu : 100 - (nI i + 1).toNatClampNeg < 100 - (nI i).toNatClampNeg := by rw [nI_1, nI_c (by omega), nI_c (by omega)]; omega
    rw [show (11 : Int32) = nI 11 from rfl, pk_rem (by omega) (by omega) (by omega), nI_c (show i ≤ 2147483647 by omega)]
    have go : ∀ v : Int64, v = (if i % 11 = 0 then 0 else FARL) → K (vp_updL D i v) (nI i + 1) := fun v hv => by
      refine hK _ _ ⟨i + 1, by omega, nI_1 i, fun j hj => ?_⟩ hmu
      by_cases e : j = i
      · subst e; rw [pk_uLs, hv]
      · rw [pk_uLn e]; exact hD j (by omega)
    refine br_f (nI_ge (a := i) (b := 100) (by omega) (by omega)) ⟨fun hz => ⟨vin hlt (by omega), ?_⟩, fun hz => ⟨vin hlt (by omega), ?_⟩⟩
    · have hz' : i % 11 ≠ 0 := fun e => hz (by rw [e]; rfl)
      exact go _ (by rw [if_neg hz'])
    · have hz' : i % 11 = 0 := (nI_eq (by omega) (by omega)).mp (show nI (i % 11) = nI 0 from hz)
      exact go _ (by rw [if_pos hz'])
end FW2
