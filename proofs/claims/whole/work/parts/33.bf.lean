/-! the class's least weights: going over all bounds again and again -/
abbrev NOROW : Int64 := 4611686018427387904
theorem norow_t : NOROW.toInt = 4611686018427387904 := by decide
theorem s_fillJ {post : (Nat → Int64) → Prop} {n : Nat} {a : Nat → Int64} {v : Int64} (hn : n ≤ 2147483647) (h : ∀ a' : Nat → Int64, (∀ j, j < n → a' j = v) → post a') : P_J7_fill_d0a16 post n a v := by
  refine ml2 (F := LB_J7_fill_d0a16_6 post n (nI n) v) (I := fun b z => ∃ i : Nat, i ≤ n ∧ z = nI i ∧ ∀ j, j < i → b j = v) (μ := fun _ z => n - z.toNatClampNeg) ?_ a 0 ⟨0, Nat.zero_le _, rfl, fun j hj => absurd hj (by omega)⟩
  rintro b z ⟨i, hi, rfl, hb⟩ K hK
  unfold LB_J7_fill_d0a16_6
  by_cases hin : i = n
  · subst hin
    exact br_t (nI_le (Nat.le_refl _) (by omega)) (h b hb)
  · refine br_f (nI_ge (by omega) (by omega)) ⟨vin (by omega) hn, ?_⟩
    rw [nI_c (by omega)]
    refine hK _ _ ⟨i + 1, by omega, nI_1 i, fun j hj => ?_⟩ ?_
    · by_cases e : j = i
      · subst e; exact pk_uLs
      · rw [pk_uLn e]; exact hb j (by omega)
    · rw [nI_1, nI_c (by omega), nI_c (by omega)]; omega
/-- what the store's cells say of the bounds: things, and a weight in the scale of 1024 -/
def StG (n : Nat) (X Y : Nat → Nat) (w : Nat → Int) (wh size : Int32) (lower limits stricts upper : Nat → Int32) : Prop :=
  size = nI n ∧ n ≤ 24 ∧ ∀ k, k < n → lower k = nI (Y k) ∧ upper k = nI (X k) ∧ X k < 10 ∧ Y k < 10 ∧ (-4398046511104 ≤ w k ∧ w k ≤ 4398046511104) ∧ ∀ post : Int64 → Prop, (∀ r : Int64, r.toInt = w k → post r) → P_X7_weigh post (limits k) (stricts k) wh
theorem sw_bound {w : Nat → Int} {E : Nat → Prop} {x y : Nat → Nat} (hw : ∀ k, E k → -4398046511104 ≤ w k ∧ w k ≤ 4398046511104) : ∀ {l : List Nat} {a b : Nat}, pw E x y a l b → -4398046511104 * (l.length : Int) ≤ sw w l ∧ sw w l ≤ 4398046511104 * (l.length : Int) := by
  intro l
  induction l with
  | nil => intro a b _; simp [sw]
  | cons k l ih =>
    intro a b h
    obtain ⟨h1, h2⟩ := ih h.2.2
    obtain ⟨h3, h4⟩ := hw k h.1
    simp only [sw, List.length_cons]
    omega
/-- rows that count: S v l, 'l is a row that leads to v' -/
def RowsTo (E : Nat → Prop) (x y : Nat → Nat) (S : Nat → List Nat → Prop) : Prop :=
  (∀ v l, S v l → ∃ u, pw E x y u l v) ∧ (∀ v l k, S v l → E k → y k = v → S (x k) (l ++ [k])) ∧ (∀ v l k, S v (l ++ [k]) → S (y k) l ∧ E k ∧ x k = v)
theorem rowsFrom {E : Nat → Prop} {x y : Nat → Nat} (a : Nat) : RowsTo E x y (fun v l => pw E x y a l v) := by
  refine ⟨fun v l h => ⟨a, h⟩, fun v l k h hk hy => pw_snoc h hk hy, fun v l k h => ?_⟩
  obtain ⟨b, h1, h2, h3, h4⟩ := pw_split h
  subst h3
  exact ⟨h1, h2, h4⟩
theorem rowsAll {E : Nat → Prop} {x y : Nat → Nat} (hy : ∀ k, E k → y k < 10) : RowsTo E x y (fun v l => ∃ a, a < 10 ∧ pw E x y a l v) := by
  refine ⟨fun v l ⟨a, _, h⟩ => ⟨a, h⟩, fun v l k ⟨a, ha, h⟩ hk hy => ⟨a, ha, pw_snoc h hk hy⟩, fun v l k ⟨a, ha, h⟩ => ?_⟩
  obtain ⟨b, h1, h2, h3, h4⟩ := pw_split h
  subst h3
  exact ⟨⟨a, ha, h1⟩, h2, h4⟩
/-- each weight is that of a row of at most B bounds, or there is none -/
def Snd (S : Nat → List Nat → Prop) (w : Nat → Int) (B : Nat) (f : Nat → Int64) : Prop := ∀ v, v < 10 → f v = NOROW ∨ ∃ l : List Nat, S v l ∧ l.length ≤ B ∧ (f v).toInt = sw w l
/-- what one going over all does: f0 before, f now, i bounds done -/
def Pass (n : Nat) (E : Nat → Prop) (X Y : Nat → Nat) (w : Nat → Int) (S : Nat → List Nat → Prop) (B : Nat) (f0 : Nat → Int64) (i : Nat) (f : Nat → Int64) (mv : Int32) : Prop :=
  (∀ v, v < 10 → (f v).toInt ≤ (f0 v).toInt) ∧
  (∀ k, k < i → E k → f0 (Y k) ≠ NOROW → (f (X k)).toInt ≤ (f0 (Y k)).toInt + w k) ∧
  Snd S w (B + i) f ∧
  ((mv = 0 ∧ ∀ v, v < 10 → f v = f0 v) ∨ (mv = 1 ∧ ∃ (v : Nat) (l : List Nat), v < 10 ∧ S v l ∧ sw w l < (f0 v).toInt))
theorem Snd.rng {S : Nat → List Nat → Prop} {w : Nat → Int} {E : Nat → Prop} {x y : Nat → Nat} {B : Nat} {f : Nat → Int64} (hw : ∀ k, E k → -4398046511104 ≤ w k ∧ w k ≤ 4398046511104) (hR : RowsTo E x y S) (hB : B ≤ 1000) (h : Snd S w B f) {v : Nat} (hv : v < 10) (hne : f v ≠ NOROW) : -4398046511104000 ≤ (f v).toInt ∧ (f v).toInt ≤ 4398046511104000 := by
  rcases h v hv with e | ⟨l, h1, h2, h3⟩
  · exact absurd e hne
  · obtain ⟨u, hu⟩ := hR.1 v l h1
    obtain ⟨q1, q2⟩ := sw_bound hw hu
    rw [h3]
    omega
set_option maxHeartbeats 1000000 in
theorem s_goOver {n : Nat} {X Y : Nat → Nat} {w : Nat → Int} {wh size skip : Int32} {lower limits stricts upper : Nat → Int32} (hG : StG n X Y w wh size lower limits stricts upper) {S : Nat → List Nat → Prop} {B : Nat} (hB : B + 24 ≤ 1000)
    (hR : RowsTo (fun k => k < n ∧ nI k ≠ skip) X Y S) {f0 : Nat → Int64} (h0 : Snd S w B f0) {post : Int32 → (Nat → Int64) → Prop} (hp : ∀ (mv : Int32) (f : Nat → Int64), Pass n (fun k => k < n ∧ nI k ≠ skip) X Y w S B f0 n f mv → post mv f) : P_X2_goOver post size lower f0 limits stricts upper wh skip := by
  obtain ⟨hsz, hn, hk⟩ := hG
  subst hsz
  have hw : ∀ k, (k < n ∧ nI k ≠ skip) → -4398046511104 ≤ w k ∧ w k ≤ 4398046511104 := fun k h => (hk k h.1).2.2.2.2.1
  refine ml3 (F := LB_X2_goOver_6 post (nI n) lower limits stricts upper wh skip) (I := fun f mv z => ∃ i : Nat, i ≤ n ∧ z = nI i ∧ Pass n (fun k => k < n ∧ nI k ≠ skip) X Y w S B f0 i f mv) (μ := fun _ _ z => n - z.toNatClampNeg) ?_ f0 0 0 ⟨0, Nat.zero_le _, rfl, fun v _ => Int.le_refl _, fun k h => absurd h (by omega), h0, Or.inl ⟨rfl, fun _ _ => rfl⟩⟩
  rintro f mv z ⟨i, hi, rfl, hP⟩ K hK
  unfold LB_X2_goOver_6
  by_cases hin : i = n
  · subst hin
    refine br_t (nI_le (Nat.le_refl _) (by omega)) ⟨?_, hp mv f hP⟩
    rcases hP.2.2.2 with ⟨h, _⟩ | ⟨h, _⟩
    · rw [h]; exact bz0
    · rw [h]; exact bz1
  · have hlt : i < n := by omega
    obtain ⟨e1, e2, hX, hY, -, hwg⟩ := hk i hlt
    have ci : (nI i).toNatClampNeg = i := nI_c (by omega)
    have vi : vp_in (nI i) 24 := vin (by omega) (by omega)
    have hmu : n - (nI i + 1).toNatClampNeg < n - (nI i).toNatClampNeg := by rw [nI_1, nI_c (by omega), nI_c (by omega)]; omega
    obtain ⟨p1, p2, p3, p4⟩ := hP
    have stay : ((nI i ≠ skip) → f (Y i) ≠ NOROW → (f (X i)).toInt ≤ (f (Y i)).toInt + w i) → K f mv (nI i + 1) := fun hr => by
      refine hK f mv _ ⟨i + 1, by omega, nI_1 i, p1, fun k hk1 hE hne => ?_, fun v hv => (p3 v hv).imp id (fun ⟨l, a, b, c⟩ => ⟨l, a, by omega, c⟩), p4⟩ hmu
      by_cases ek : k = i
      · subst ek
        by_cases hz : f (Y k) = NOROW
        · have q1 := p1 (Y k) hY
          rcases h0 (Y k) hY with q2 | ⟨l, a, b, c⟩
          · exact absurd q2 hne
          · obtain ⟨u, hu⟩ := hR.1 _ _ a
            have := (sw_bound hw hu).2
            rw [hz, norow_t, c] at q1
            omega
        · have q1 := hr hE.2 hz
          have q2 := p1 (Y k) hY
          omega
      · exact p2 k (by omega) hE hne
    refine br_f (nI_ge (by omega) (by omega)) ⟨vi, ?_⟩
    rw [ci, e1, e2]
    rw [nI_c (show Y i ≤ 2147483647 by omega)]
    refine ⟨vin hY (by omega), br_c (fun hs => ?_) (fun hs => br_c (fun hz => ?_) (fun hz => ⟨vi, vi, ?_⟩))⟩
    · exact stay (fun h => absurd hs h)
    · exact stay (fun _ h => absurd hz h)
    · refine hwg _ (fun r hr => ⟨vi, ?_⟩)
      rw [nI_c (show X i ≤ 2147483647 by omega)]
      obtain ⟨b1, b2⟩ := Snd.rng hw hR (show B + i ≤ 1000 by omega) p3 hY hz
      obtain ⟨w1, w2⟩ := hw i ⟨hlt, hs⟩
      have hsum : (f (Y i) + r).toInt = (f (Y i)).toInt + w i := by rw [l_add (by rw [hr]; omega) (by rw [hr]; omega), hr]
      refine ⟨vin hX (by omega), br_c (fun hc => ?_) (fun hc => ⟨vi, vin hX (by omega), ?_⟩)⟩
      · rw [Int64.le_iff_toInt_le, hsum] at hc
        exact stay (fun _ _ => hc)
      · rw [Int64.le_iff_toInt_le, hsum] at hc
        have hup : ∀ v, (vp_updL f (X i) (f (Y i) + r) v).toInt = if v = X i then (f (Y i)).toInt + w i else (f v).toInt := fun v => by
          by_cases e : v = X i
          · subst e; rw [pk_uLs, if_pos rfl, hsum]
          · rw [pk_uLn e, if_neg e]
        have hrow : ∃ l : List Nat, S (Y i) l ∧ l.length ≤ B + i ∧ (f (Y i)).toInt = sw w l := by
          rcases p3 (Y i) hY with q | q
          · exact absurd q hz
          · exact q
        obtain ⟨l, hl1, hl2, hl3⟩ := hrow
        have hS' : S (X i) (l ++ [i]) := hR.2.1 _ l i hl1 ⟨hlt, hs⟩ rfl
        have hsw : sw w (l ++ [i]) = (f (Y i)).toInt + w i := by rw [sw_snoc, hl3]
        refine hK _ 1 _ ⟨i + 1, by omega, nI_1 i, fun v hv => ?_, fun k hk1 hE hne => ?_, fun v hv => ?_, Or.inr ⟨rfl, X i, l ++ [i], hX, hS', ?_⟩⟩ hmu
        · rw [hup]
          have := p1 v hv
          by_cases e : v = X i
          · subst e; rw [if_pos rfl]; omega
          · rw [if_neg e]; exact this
        · rw [hup]
          by_cases ek : k = i
          · subst ek
            rw [if_pos rfl]
            have := p1 (Y k) hY
            omega
          · have q := p2 k (by omega) hE hne
            by_cases e : X k = X i
            · rw [if_pos e]; rw [e] at q; omega
            · rw [if_neg e]; exact q
        · by_cases e : v = X i
          · subst e
            right
            refine ⟨l ++ [i], hS', by simp; omega, ?_⟩
            rw [hup, if_pos rfl, hsw]
          · rw [pk_uLn e]
            exact (p3 v hv).imp id (fun ⟨l, a, b, c⟩ => ⟨l, a, by omega, c⟩)
        · have := p1 (X i) hX
          rw [hsw]; omega
