/-! tightest -/
section TI
variable {n m W : Nat} {X Y S L : Nat → Nat} {c : Nat → Int32} {size marked wh : Int32} {up lo lim str mk : Nat → Int32} {st : Nat → Int32}
def BI (X Y : Nat → Nat) (w : Nat → Int) (a b i k : Nat) : Prop := k < i ∧ X k = a ∧ Y k = b ∧ ∀ j, j < i → X j = a → Y j = b → w k ≤ w j ∧ (j < k → w k < w j)
theorem BI.uniq {w : Nat → Int} {a b i k k' : Nat} (h : BI X Y w a b i k) (h' : BI X Y w a b i k') : k = k' := by
  obtain ⟨h1, h2, h3, h4⟩ := h
  obtain ⟨g1, g2, g3, g4⟩ := h'
  have q1 := h4 k' g1 g2 g3
  have q2 := g4 k h1 h2 h3
  rcases Nat.lt_trichotomy k k' with q | q | q
  · have := q2.2 q; omega
  · exact q
  · have := q1.2 q; omega
theorem wle (hp : Pw n X Y S m L W) {k j : Nat} (hk : k < n) (hj : j < n) : wsc 1024 (cwt W c S) (ewt W S) k ≤ wsc 1024 (cwt W c S) (ewt W S) j ↔ wsc 1000 (cwt W c S) (ewt W S) k ≤ wsc 1000 (cwt W c S) (ewt W S) j := by
  have h1 := ewt_le (W := W) (hp.2.2.2.1 k hk).2.2.2
  have h2 := ewt_le (W := W) (hp.2.2.2.1 j hj).2.2.2
  unfold wsc
  omega
/-- the next bound: stays or takes -/
theorem BI.stay {w : Nat → Int} {a b i k : Nat} (h : BI X Y w a b i k) (hs : X i = a → Y i = b → w k ≤ w i) : BI X Y w a b (i + 1) k := by
  obtain ⟨h1, h2, h3, h4⟩ := h
  refine ⟨by omega, h2, h3, fun j hj ex ey => ?_⟩
  by_cases e : j = i
  · subst e; exact ⟨hs ex ey, fun z => absurd z (by omega)⟩
  · exact h4 j (by omega) ex ey
theorem BI.take {w : Nat → Int} {a b i k : Nat} (h : BI X Y w a b i k) (ex : X i = a) (ey : Y i = b) (hs : w i < w k) : BI X Y w a b (i + 1) i := by
  obtain ⟨h1, h2, h3, h4⟩ := h
  refine ⟨by omega, ex, ey, fun j hj ex ey => ?_⟩
  by_cases e : j = i
  · subst e; exact ⟨Int.le_refl _, fun z => absurd z (by omega)⟩
  · have := (h4 j (by omega) ex ey).1
    exact ⟨by omega, fun _ => by omega⟩
theorem BI.one {w : Nat → Int} {a b i : Nat} (no : ∀ j, j < i → ¬ (X j = a ∧ Y j = b)) (ex : X i = a) (ey : Y i = b) : BI X Y w a b (i + 1) i := by
  refine ⟨by omega, ex, ey, fun j hj ex ey => ?_⟩
  by_cases e : j = i
  · subst e; exact ⟨Int.le_refl _, fun z => absurd z (by omega)⟩
  · exact absurd ⟨ex, ey⟩ (no j (by omega))
theorem s_tight7 (hp : Pw n X Y S m L W) (hs : StP n X Y c S m L W size marked wh up lo lim str mk) {a b : Nat} (ha : a < 10) (hb : b < 10) {post : Int32 → Prop} (h1 : ∀ k, k < n → BI X Y (wsc 1000 (cwt W c S) (ewt W S)) a b n k → post (nI k)) (h0 : (∀ j, j < n → ¬ (X j = a ∧ Y j = b)) → post (-4)) : ∃ N : Nat, L_X7_tightest_21 post size wh up lo lim str (nI a) (nI b) N (-4) 4611686018427387904 0 := by
  have hn := hp.1
  have hG := stg hp hs hp.2.2.1 hs.2.2.1
  refine ml3 (F := LB_X7_tightest_21 post size wh up lo lim str (nI a) (nI b)) (I := fun x y z => ∃ i : Nat, i ≤ n ∧ z = nI i ∧ ((x = -4 ∧ y = 4611686018427387904 ∧ ∀ j, j < i → ¬ (X j = a ∧ Y j = b)) ∨ ∃ k, x = nI k ∧ y.toInt = wsc 1024 (cwt W c S) (ewt W S) k ∧ BI X Y (wsc 1000 (cwt W c S) (ewt W S)) a b i k)) (μ := fun _ _ z => n - z.toNatClampNeg) ?_ (-4) 4611686018427387904 0 ⟨0, by omega, rfl, Or.inl ⟨rfl, rfl, fun j hj => absurd hj (by omega)⟩⟩
  rintro x y z ⟨i, hi, rfl, hI⟩ K hK
  unfold LB_X7_tightest_21 B_X7_tightest_76
  rw [hs.1]
  by_cases e : i = n
  · subst e
    refine br_t (nI_le (Nat.le_refl _) (by omega)) ?_
    rcases hI with ⟨rfl, -, no⟩ | ⟨k, rfl, -, hB⟩
    · exact h0 no
    · exact h1 k hB.1 hB
  · have hlt : i < n := by omega
    have hmu : n - (nI i + 1).toNatClampNeg < n - (nI i).toNatClampNeg := by rw [nI_1, nI_c (by omega), nI_c (by omega)]; omega
    have hwr := wsc_rng (W := W) (c := c) 1024 (Or.inr rfl) (hp.2.2.2.1 i hlt).2.2.2
    refine br_f (nI_ge (by omega) (by omega)) (s_isOf hp hs hlt ha hb (fun ex ey => br_f o_ne (s_weightOf hG hlt (fun r hr => br_c (fun hle => ?_) (fun hle => s_weightOf hG hlt (fun r2 hr2 => ?_))))) (fun hno => br_t rfl (hK _ _ _ ⟨i + 1, by omega, nI_1 i, ?_⟩ hmu)))
    · rcases hI with ⟨rfl, rfl, no⟩ | ⟨k, rfl, hy, hB⟩
      · exfalso
        rw [Int64.le_iff_toInt_le, hr, show (4611686018427387904 : Int64).toInt = 4611686018427387904 from by decide] at hle
        omega
      · rw [Int64.le_iff_toInt_le, hy, hr, wle hp (by have := hB.1; omega) hlt] at hle
        exact hK _ _ _ ⟨i + 1, by omega, nI_1 i, Or.inr ⟨k, rfl, hy, hB.stay (fun _ _ => hle)⟩⟩ hmu
    · refine hK _ _ _ ⟨i + 1, by omega, nI_1 i, Or.inr ⟨i, rfl, hr2, ?_⟩⟩ hmu
      rcases hI with ⟨rfl, rfl, no⟩ | ⟨k, rfl, hy, hB⟩
      · exact BI.one no ex ey
      · rw [Int64.le_iff_toInt_le, hy, hr, wle hp (by have := hB.1; omega) hlt] at hle
        exact hB.take ex ey (by omega)
    · rcases hI with ⟨rfl, rfl, no⟩ | ⟨k, rfl, hy, hB⟩
      · refine Or.inl ⟨rfl, rfl, fun j hj => ?_⟩
        by_cases ej : j = i
        · subst ej; exact hno
        · exact no j (by omega)
      · exact Or.inr ⟨k, rfl, hy, hB.stay (fun ex ey => absurd ⟨ex, ey⟩ hno)⟩
theorem nI_m4 {k : Nat} (h : k < 1000) : ¬ nI k = (-4 : Int32) := fun e => by
  have h1 : (nI k).toInt = (-4 : Int32).toInt := by rw [e]
  rw [nI_t (by omega), show (-4 : Int32).toInt = -4 from by decide] at h1
  omega
theorem s_tight8 (hp : Pw n X Y S m L W) (hr : RfP 0 n X Y c S m L W st) {a b : Nat} (ha : a < 10) (hb : b < 10) {post : Int32 → Prop} (h1 : ∀ k, k < n → BI X Y (wsc 1000 (cwt W c S) (ewt W S)) a b n k → post (nI k)) (h0 : (∀ j, j < n → ¬ (X j = a ∧ Y j = b)) → post (-4)) : ∃ N : Nat, L_X8_tightest_16 post st (nI a) (nI b) N (-4) 0 := by
  have hn := hp.1
  have hG := rfg (o := 0) (by omega) hp hr
  refine ml2 (F := LB_X8_tightest_16 post st (nI a) (nI b)) (I := fun x z => ∃ i : Nat, i ≤ n ∧ z = nI i ∧ ((x = -4 ∧ ∀ j, j < i → ¬ (X j = a ∧ Y j = b)) ∨ ∃ k, x = nI k ∧ BI X Y (wsc 1000 (cwt W c S) (ewt W S)) a b i k)) (μ := fun _ z => n - z.toNatClampNeg) ?_ (-4) 0 ⟨0, by omega, rfl, Or.inl ⟨rfl, fun j hj => absurd hj (by omega)⟩⟩
  rintro x z ⟨i, hi, rfl, hI⟩ K hK
  unfold LB_X8_tightest_16 B_X8_tightest_67 B_X8_tightest_63 B_X8_tightest_68 B_X8_tightest_81
  refine s_many (o := 0) hr ?_
  by_cases e : i = n
  · subst e
    refine br_t (nI_le (Nat.le_refl _) (by omega)) ?_
    rcases hI with ⟨rfl, no⟩ | ⟨k, rfl, hB⟩
    · exact h0 no
    · exact h1 k hB.1 hB
  · have hlt : i < n := by omega
    have hmu : n - (nI i + 1).toNatClampNeg < n - (nI i).toNatClampNeg := by rw [nI_1, nI_c (by omega), nI_c (by omega)]; omega
    obtain ⟨p1, p2, -, -⟩ := hp.2.2.2.1 i hlt
    rw [ixp (by omega)]
    refine br_f (nI_ge (by omega) (by omega)) (s_pairOf hp hr hlt ⟨fun hne => ?_, fun he => ?_⟩)
    · have hno : ¬ (X i = a ∧ Y i = b) := fun z => hne ((pr_eq p2 hb p1 ha).mpr z)
      refine br_t rfl (hK _ _ ⟨i + 1, by omega, nI_1 i, ?_⟩ hmu)
      rcases hI with ⟨rfl, no⟩ | ⟨k, rfl, hB⟩
      · refine Or.inl ⟨rfl, fun j hj => ?_⟩
        by_cases ej : j = i
        · subst ej; exact hno
        · exact no j (by omega)
      · exact Or.inr ⟨k, rfl, hB.stay (fun ex ey => absurd ⟨ex, ey⟩ hno)⟩
    · obtain ⟨ex, ey⟩ := (pr_eq p2 hb p1 ha).mp he
      rcases hI with ⟨rfl, no⟩ | ⟨k, rfl, hB⟩
      · exact br_t rfl (br_f o_ne (hK _ _ ⟨i + 1, by omega, nI_1 i, Or.inr ⟨i, rfl, BI.one no ex ey⟩⟩ hmu))
      · have hk := hB.1
        refine br_f (nI_m4 (by omega)) ((hG.2.2.2 i hlt).2.2.2.2.2 _ (fun r4 h4 => (hG.2.2.2 k (by omega)).2.2.2.2.2 _ (fun r5 h5 => br_c (fun hle => br_t rfl (hK _ _ ⟨i + 1, by omega, nI_1 i, Or.inr ⟨k, rfl, hB.stay (fun _ _ => ?_)⟩⟩ hmu)) (fun hle => br_f o_ne (hK _ _ ⟨i + 1, by omega, nI_1 i, Or.inr ⟨i, rfl, hB.take ex ey ?_⟩⟩ hmu)))))
        · rw [Int64.le_iff_toInt_le, h4, h5] at hle; exact hle
        · rw [Int64.le_iff_toInt_le, h4, h5] at hle; omega
theorem k_tightest (hp : Pw n X Y S m L W) (hs : StP n X Y c S m L W size marked wh up lo lim str mk) (hr : RfP 0 n X Y c S m L W st) (x1 x2 : Int32) {Q : Int32 → Int32 → Prop} (hQ : ∀ r, Q r r) : P_X7_tightest (fun r => P_X8_tightest (fun r2 => Q r r2) st x1 x2) size wh up lo lim str x1 x2 := by
  unfold P_X7_tightest
  refine pair7 (fun hP => ⟨fun _ => ?_, fun h => absurd h o_ne⟩) (fun hP => ⟨fun h => absurd rfl h, fun _ => ?_⟩)
  · obtain ⟨a, b, ha, hb, hab, rfl, rfl⟩ := id hP
    refine s_tight7 hp hs ha hb (fun k hk hB => ?_) (fun no => ?_)
    · unfold P_X8_tightest
      refine pair8 (fun _ => ⟨fun _ => s_tight8 hp hr ha hb (fun k2 hk2 hB2 => ?_) (fun no => absurd ⟨hB.2.1, hB.2.2.1⟩ (no k hk)), fun h => absurd h o_ne⟩) (fun h => absurd hP h)
      have := hB.uniq hB2
      subst this
      exact hQ _
    · unfold P_X8_tightest
      exact pair8 (fun _ => ⟨fun _ => s_tight8 hp hr ha hb (fun k2 hk2 hB2 => absurd ⟨hB2.2.1, hB2.2.2.1⟩ (no k2 hk2)) (fun _ => hQ _), fun h => absurd h o_ne⟩) (fun h => absurd hP h)
  · unfold P_X8_tightest
    exact pair8 (fun h => absurd h hP) (fun _ => ⟨fun h => absurd rfl h, fun _ => hQ _⟩)
end TI
