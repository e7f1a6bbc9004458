/-! the class's CONFLICT -/
section CL
variable {n : Nat} {X Y : Nat → Nat} {cw : Nat → Int} {ew : Nat → Nat} {wh size skip : Int32} {lower limits stricts upper : Nat → Int32} {y0 : Nat}
theorem s_weightOf {w : Nat → Int} (hG : StG n X Y w wh size lower limits stricts upper) {k : Nat} (hk : k < n) {post : Int64 → Prop} (h : ∀ r : Int64, r.toInt = w k → post r) : P_X5_weightOf post wh limits stricts (nI k) := by
  obtain ⟨-, hn, hs⟩ := hG
  unfold P_X5_weightOf
  rw [nI_c (by omega)]
  exact ⟨vin (by omega) (by omega), vin (by omega) (by omega), (hs k hk).2.2.2.2.2 _ (fun r hr => h r hr)⟩
set_option maxHeartbeats 2000000 in
theorem s_lengthen (hG : StG n X Y (wsc 1024 cw ew) wh size lower limits stricts upper) {q : Nat} (hq : q ≤ 8) {M : Nat → Nat → Int64} (hM : TB1024 (fun k => k < n ∧ nI k ≠ skip) X Y cw ew y0 q (M q)) {post : (Nat → Nat → Int64) → Prop}
    (hp : ∀ M' : Nat → Nat → Int64, (∀ j, j ≠ q + 1 → M' j = M j) → TB1024 (fun k => k < n ∧ nI k ≠ skip) X Y cw ew y0 (q + 1) (M' (q + 1)) → post M') : P_X0_lengthen post size wh upper lower limits stricts M (nI (q + 1)) skip := by
  have hG' := hG
  obtain ⟨hsz, hn, hs⟩ := hG'
  subst hsz
  have hw : ∀ k, (k < n ∧ nI k ≠ skip) → -4398046511104 ≤ wsc 1024 cw ew k ∧ wsc 1024 cw ew k ≤ 4398046511104 := fun k h => (hs k h.1).2.2.2.2.1
  have hE : ∀ k, (k < n ∧ nI k ≠ skip) → k < n ∧ X k < 10 ∧ Y k < 10 := fun k h => ⟨h.1, (hs k h.1).2.2.1, (hs k h.1).2.2.2.1⟩
  unfold P_X0_lengthen
  rw [nI_pred, nI_c (by omega)]
  refine ⟨vin (by omega) (by omega), vin (by omega) (by omega), s_fillJ (by omega) (fun a ha => ?_)⟩
  refine ml2 (F := LB_X0_lengthen_29 post (nI n) wh upper lower limits stricts (nI (q + 1)) skip) (I := fun M' z => ∃ i : Nat, i ≤ n ∧ z = nI i ∧ (∀ j, j ≠ q + 1 → M' j = M j) ∧ ∀ v, v < 10 → (M' (q + 1) v = NOROW ∧ ∀ k, k < i → nI k ≠ skip → Y k = v → M q (X k) = NOROW) ∨ (M' (q + 1) v ≠ NOROW ∧ (∃ k, k < i ∧ nI k ≠ skip ∧ Y k = v ∧ M q (X k) ≠ NOROW ∧ (M' (q + 1) v).toInt = wsc 1024 cw ew k + (M q (X k)).toInt) ∧ ∀ k, k < i → nI k ≠ skip → Y k = v → M q (X k) ≠ NOROW → (M' (q + 1) v).toInt ≤ wsc 1024 cw ew k + (M q (X k)).toInt)) (μ := fun _ z => n - z.toNatClampNeg) ?_ _ 0 ⟨0, by omega, rfl, fun j hj => va_up_ne _ _ hj, fun v hv => Or.inl ⟨by rw [va_up_self]; exact ha v hv, fun k h => absurd h (by omega)⟩⟩
  rintro M' z ⟨i, hi, rfl, hoth, hrow⟩ K hK
  unfold LB_X0_lengthen_29 B_X0_lengthen_96
  by_cases hin : i = n
  · subst hin
    refine br_t (nI_le (Nat.le_refl _) (by omega)) (hp M' hoth (hM.step hE (fun v hv => ?_)))
    rcases hrow v hv with ⟨e, h⟩ | ⟨e, ⟨k, a1, a2, a3, a4, a5⟩, h⟩
    · exact Or.inl ⟨e, fun k hk hy => h k hk.1 hk.2 hy⟩
    · exact Or.inr ⟨e, ⟨k, ⟨a1, a2⟩, a3, a4, a5⟩, fun k hk hy hf => h k hk.1 hk.2 hy hf⟩
  · have hlt : i < n := by omega
    obtain ⟨e1, e2, hX, hY, -, -⟩ := hs i hlt
    have hmu : n - (nI i + 1).toNatClampNeg < n - (nI i).toNatClampNeg := by rw [nI_1, nI_c (by omega), nI_c (by omega)]; omega
    rw [nI_pred, nI_c (show i ≤ 2147483647 by omega), nI_c (show q ≤ 2147483647 by omega), nI_c (show q + 1 ≤ 2147483647 by omega), e1, e2, nI_c (show X i ≤ 2147483647 by omega), nI_c (show Y i ≤ 2147483647 by omega), hoth q (by omega)]
    have stay : (nI i ≠ skip → M q (X i) = NOROW) → K M' (nI i + 1) := fun hh => by
      refine hK M' _ ⟨i + 1, by omega, nI_1 i, hoth, fun v hv => ?_⟩ hmu
      rcases hrow v hv with ⟨e, h⟩ | ⟨e, ⟨k, a1, a2, a3, a4, a5⟩, h⟩
      · left
        refine ⟨e, fun k hk hsk hy => ?_⟩
        by_cases ek : k = i
        · subst ek; exact hh hsk
        · exact h k (by omega) hsk hy
      · right
        refine ⟨e, ⟨k, by omega, a2, a3, a4, a5⟩, fun k hk hsk hy hf => ?_⟩
        by_cases ek : k = i
        · subst ek; exact absurd (hh hsk) hf
        · exact h k (by omega) hsk hy hf
    have vi : vp_in (nI i) 24 := vin (by omega) (by omega)
    refine br_f (nI_ge (by omega) (by omega)) ⟨vi, vin hX (by omega), br_c (fun hsk => ?_) (fun hsk => br_c (fun hz => ?_) (fun hz => ⟨vi, vin hY (by omega), s_weightOf hG hlt (fun r hr => ⟨vin hY (by omega), ?_⟩)⟩))⟩
    · exact stay (fun h => absurd hsk h)
    · exact stay (fun _ => hz)
    · obtain ⟨b1, b2⟩ := hM.rng hw (by omega) hX hz
      obtain ⟨w1, w2⟩ := hw i ⟨hlt, hsk⟩
      have hsum : (r + M q (X i)).toInt = wsc 1024 cw ew i + (M q (X i)).toInt := by rw [l_add (by rw [hr]; omega) (by rw [hr]; omega), hr]
      refine hK _ _ ⟨i + 1, by omega, nI_1 i, fun j hj => by rw [va_up_ne _ _ hj]; exact hoth j hj, fun v hv => ?_⟩ hmu
      rw [va_up_self]
      by_cases ev : v = Y i
      · subst ev
        rw [pk_uLs]
        right
        rcases hrow (Y i) hv with ⟨e, h⟩ | ⟨e, ⟨k, a1, a2, a3, a4, a5⟩, h⟩
        · have hc : r + M q (X i) < M' (q + 1) (Y i) := by rw [Int64.lt_iff_toInt_lt, hsum, e, norow_t]; omega
          rw [if_pos hc]
          refine ⟨ne_norow (Int.le_of_eq hsum) (by omega), ⟨i, by omega, hsk, rfl, hz, hsum⟩, fun k hk hs2 hy hf => ?_⟩
          by_cases ek : k = i
          · subst ek; exact Int.le_of_eq hsum
          · exact absurd (h k (by omega) hs2 hy) hf
        · by_cases hc : r + M q (X i) < M' (q + 1) (Y i)
          · rw [if_pos hc]
            rw [Int64.lt_iff_toInt_lt, hsum] at hc
            refine ⟨ne_norow (Int.le_of_eq hsum) (by omega), ⟨i, by omega, hsk, rfl, hz, hsum⟩, fun k hk hs2 hy hf => ?_⟩
            by_cases ek : k = i
            · subst ek; exact Int.le_of_eq hsum
            · have := h k (by omega) hs2 hy hf
              omega
          · rw [if_neg hc]
            rw [Int64.lt_iff_toInt_lt, hsum] at hc
            refine ⟨e, ⟨k, by omega, a2, a3, a4, a5⟩, fun k hk hs2 hy hf => ?_⟩
            by_cases ek : k = i
            · subst ek; omega
            · exact h k (by omega) hs2 hy hf
      · rw [pk_uLn ev]
        rcases hrow v hv with ⟨e, h⟩ | ⟨e, ⟨k, a1, a2, a3, a4, a5⟩, h⟩
        · left
          refine ⟨e, fun k hk hs2 hy => ?_⟩
          by_cases ek : k = i
          · subst ek; exact absurd hy.symm ev
          · exact h k (by omega) hs2 hy
        · right
          refine ⟨e, ⟨k, by omega, a2, a3, a4, a5⟩, fun k hk hs2 hy hf => ?_⟩
          by_cases ek : k = i
          · subst ek; exact absurd hy.symm ev
          · exact h k (by omega) hs2 hy hf
set_option maxHeartbeats 2000000 in
theorem s_firstStep (hG : StG n X Y (wsc 1024 cw ew) wh size lower limits stricts upper) (he : ∀ k, k < n → ew k ≤ 1) {q : Nat} (hq : q ≤ 9) {M : Nat → Nat → Int64} (hM : TB1024 (fun k => k < n ∧ nI k ≠ skip) X Y cw ew y0 q (M q)) {v : Nat} (hv : v < 10) {C e : Int} {s : Int64} (hs : s.toInt = 1024 * C - e) (hr1 : -1000000000000000 ≤ s.toInt) (hr2 : s.toInt ≤ 1000000000000000) (h0 : 0 ≤ e) (h1 : e ≤ 19) {post : Int32 → Prop}
    (hk : ∀ k, k < n → cank (fun k => k < n ∧ nI k ≠ skip) X Y cw ew y0 q v C e k → (∀ j, j < k → ¬ cank (fun k => k < n ∧ nI k ≠ skip) X Y cw ew y0 q v C e j) → post (nI k)) (hno : (∀ k, ¬ cank (fun k => k < n ∧ nI k ≠ skip) X Y cw ew y0 q v C e k) → post (-4)) : P_X0_firstStep post size wh upper lower limits stricts M (nI v) (nI q) skip s := by
  have hG' := hG
  obtain ⟨hsz, hn, hst⟩ := hG'
  subst hsz
  have hw : ∀ k, (k < n ∧ nI k ≠ skip) → -4398046511104 ≤ wsc 1024 cw ew k ∧ wsc 1024 cw ew k ≤ 4398046511104 := fun k h => (hst k h.1).2.2.2.2.1
  refine ml1 (F := LB_X0_firstStep_3 post (nI n) wh upper lower limits stricts M (nI v) (nI q) skip s) (I := fun z => ∃ i : Nat, i ≤ n ∧ z = nI i ∧ ∀ j, j < i → ¬ cank (fun k => k < n ∧ nI k ≠ skip) X Y cw ew y0 q v C e j) (μ := fun z => n - z.toNatClampNeg) ?_ 0 ⟨0, by omega, rfl, fun j hj => absurd hj (by omega)⟩
  rintro z ⟨i, hi, rfl, hnot⟩ K hK
  unfold LB_X0_firstStep_3 B_X0_firstStep_60 B_X0_firstStep_61 B_X0_firstStep_87
  by_cases hin : i = n
  · subst hin
    exact br_t (nI_le (Nat.le_refl _) (by omega)) (hno (fun k hc => hnot k hc.1.1 hc))
  · have hlt : i < n := by omega
    obtain ⟨e1, e2, hX, hY, -, -⟩ := hst i hlt
    have hmu : n - (nI i + 1).toNatClampNeg < n - (nI i).toNatClampNeg := by rw [nI_1, nI_c (by omega), nI_c (by omega)]; omega
    have vi : vp_in (nI i) 24 := vin (by omega) (by omega)
    rw [nI_c (show i ≤ 2147483647 by omega), nI_c (show q ≤ 2147483647 by omega), e1, e2, nI_c (show X i ≤ 2147483647 by omega)]
    have nx : ¬ cank (fun k => k < n ∧ nI k ≠ skip) X Y cw ew y0 q v C e i → K (nI i + 1) := fun hc => by
      refine hK _ ⟨i + 1, by omega, nI_1 i, fun j hj => ?_⟩ hmu
      by_cases ej : j = i
      · subst ej; exact hc
      · exact hnot j (by omega)
    refine br_f (nI_ge (by omega) (by omega)) ⟨vin (by omega) (by omega), vi, vin hX (by omega), br_c (fun hsk => br_t rfl (nx (fun hc => hc.1.2 hsk))) (fun hsk => ⟨vi, fun hy => br_t rfl (nx (fun hc => hy (by rw [hc.2.1]))), fun hy => ?_⟩)⟩
    have hyv : Y i = v := (nI_eq (by omega) (by omega)).mp hy
    refine br_c (fun hz => br_t rfl (nx (fun hc => ?_))) (fun hz => br_f (by decide) (s_weightOf hG hlt (fun r hr => ?_)))
    · have hew := he i hlt
      have hcan := (hM.can (fun k h => he k h.1) (by omega) hX (C := C + cw i) (e := e + (ew i : Int)) (by omega) (by omega)).mpr hc.2.2
      exact hcan.1 hz
    · have hew := he i hlt
      obtain ⟨b1, b2⟩ := hM.rng hw (by omega) hX hz
      obtain ⟨w1, w2⟩ := hw i ⟨hlt, hsk⟩
      have s1 : (s + r).toInt = s.toInt + wsc 1024 cw ew i := by rw [l_add (by rw [hr]; omega) (by rw [hr]; omega), hr]
      have s2 : (s + r + M q (X i)).toInt = s.toInt + wsc 1024 cw ew i + (M q (X i)).toInt := by rw [l_add (by rw [s1]; omega) (by rw [s1]; omega), s1]
      have hiff := hM.can (fun k h => he k h.1) (by omega) hX (C := C + cw i) (e := e + (ew i : Int)) (by omega) (by omega)
      have hz0 : (0 : Int64).toInt = 0 := by decide
      refine br_c (fun hle => nx (fun hc => ?_)) (fun hle => hk i hlt ⟨⟨hlt, hsk⟩, hyv, hiff.mp ⟨hz, ?_⟩⟩ hnot)
      · rw [Int64.le_iff_toInt_le, s2, hz0] at hle
        have := (hiff.mpr hc.2.2).2
        rw [hs] at hle
        unfold wsc at hle
        omega
      · rw [Int64.le_iff_toInt_le, s2, hz0] at hle
        rw [hs] at hle
        unfold wsc at hle
        omega
end CL
