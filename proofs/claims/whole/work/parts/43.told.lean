/-! numbers told of a weight; things, pairs, bits -/
theorem ldiv_pos {a b : Int64} {K : Int} (hb : b.toInt = K) (hK : 1 ≤ K) (h0 : 0 ≤ a.toInt) : (a / b).toInt = a.toInt / K := by
  obtain ⟨r1, r2⟩ := l_rng a
  have h1 : 0 ≤ a.toInt / K := Int.ediv_nonneg h0 (by omega)
  have h2 : a.toInt / K ≤ a.toInt := Int.ediv_le_self _ h0
  rw [Int64.toInt_div, hb, Int.tdiv_eq_ediv_of_nonneg h0]
  exact Int.bmod_eq_of_le (by omega) (by omega)
theorem ldiv_neg {a b : Int64} {K : Int} (hb : b.toInt = K) (hK : 1 ≤ K) (h0 : a.toInt < 0) (h1 : -9223372036854775808 < a.toInt) : (a / b).toInt = -((-a.toInt) / K) := by
  have h2 : 0 ≤ (-a.toInt) / K := Int.ediv_nonneg (by omega) (by omega)
  have h3 : (-a.toInt) / K ≤ -a.toInt := Int.ediv_le_self _ (by omega)
  have e : a.toInt.tdiv K = -((-a.toInt) / K) := by
    rw [← Int.tdiv_eq_ediv_of_nonneg (by omega), Int.neg_tdiv, Int.neg_neg]
  rw [Int64.toInt_div, hb, e]
  exact Int.bmod_eq_of_le (by omega) (by omega)
theorem xor_sign (a : Int64) : (0 : Int64) ≤ a ^^^ (1024 : Int64) ↔ (0 : Int64) ≤ a := by
  rw [Int64.le_iff_toBitVec_sle, Int64.le_iff_toBitVec_sle, Int64.toBitVec_xor]
  rw [show (0 : Int64).toBitVec = 0#64 from rfl, BitVec.zero_sle_iff_msb_eq_false, BitVec.zero_sle_iff_msb_eq_false, BitVec.msb_xor]
  rw [show (1024 : Int64).toBitVec.msb = false from by decide, Bool.xor_false]
theorem z64 : (0 : Int64).toInt = 0 := by decide
theorem s_amountOf {y : Int64} {C e : Int} (hy : y.toInt = 1024 * C - e) (h0 : 0 ≤ e) (h1 : e ≤ 1000) (c1 : -1000000000000 ≤ C) (c2 : C ≤ 1000000000000) {post : Int64 → Prop} (h : ∀ r : Int64, r.toInt = C → post r) : P_X7_amountOf post y := by
  have hn : (-y).toInt = e - 1024 * C := by rw [l_neg (by omega) (by omega)]; omega
  unfold P_X7_amountOf P_J9_floorDiv_f86c9
  refine ⟨by decide, ?_⟩
  rw [xor_sign]
  refine br_c (fun hc => ?_) (fun hc => ?_)
  · rw [Int64.le_iff_toInt_le, z64, hn] at hc
    have hq := ldiv_pos c_1024 (by omega) (a := -y) (by omega)
    rw [hn] at hq
    exact h _ (by rw [l_neg (by omega) (by omega)]; omega)
  · rw [Int64.le_iff_toInt_le, z64, hn] at hc
    have hq := ldiv_neg c_1024 (by omega) (a := -y) (by omega) (by omega)
    rw [hn] at hq
    have hm : (-y / (1024 : Int64) * (1024 : Int64)).toInt = (-y / (1024 : Int64)).toInt * 1024 := by rw [l_mul (by rw [c_1024]; omega) (by rw [c_1024]; omega), c_1024]
    refine br_c (fun he => ?_) (fun he => ?_)
    · rw [← Int64.toInt_inj, hm, hn] at he
      exact h _ (by rw [l_neg (by omega) (by omega)]; omega)
    · rw [← Int64.toInt_inj, hm, hn] at he
      have h1' : (1 : Int64).toInt = 1 := by decide
      have hs : (-y / (1024 : Int64) - (1 : Int64)).toInt = (-y / (1024 : Int64)).toInt - 1 := by rw [l_sub (by rw [h1']; omega) (by rw [h1']; omega), h1']
      exact h _ (by rw [l_neg (by rw [hs]; omega) (by rw [hs]; omega), hs]; omega)
theorem s_edgesOf7 {y : Int64} {C e : Int} (hy : y.toInt = 1024 * C - e) (h0 : 0 ≤ e) (h1 : e ≤ 1000) (c1 : -1000000000000 ≤ C) (c2 : C ≤ 1000000000000) {post : Int64 → Prop} (h : ∀ r : Int64, r.toInt = e → post r) : P_X7_edgesOf post y := by
  unfold P_X7_edgesOf
  refine s_amountOf hy h0 h1 c1 c2 (fun r hr => h _ ?_)
  have e1 : (r * (1024 : Int64)).toInt = C * 1024 := by rw [l_mul (by rw [hr, c_1024]; omega) (by rw [hr, c_1024]; omega), hr, c_1024]
  rw [l_sub (by rw [e1]; omega) (by rw [e1]; omega), e1]
  omega
theorem s_limitOf {y : Int64} {C e : Int} (hy : y.toInt = 1000 * C - e) (h0 : 0 ≤ e) (h1 : e ≤ 900) (c1 : -1000000000000 ≤ C) (c2 : C ≤ 1000000000000) {post : Int64 → Prop} (h : ∀ r : Int64, r.toInt = C → post r) : P_X8_limitOf post y := by
  have h1' : (1 : Int64).toInt = 1 := by decide
  have h999 : (999 : Int64).toInt = 999 := by decide
  have e1 : (y + (1000 : Int64)).toInt = y.toInt + 1000 := by rw [l_add (by rw [c_1000]; omega) (by rw [c_1000]; omega), c_1000]
  have e2 : (y + (1000 : Int64) - (1 : Int64)).toInt = y.toInt + 999 := by rw [l_sub (by rw [e1, h1']; omega) (by rw [e1, h1']; omega), e1, h1']; omega
  unfold P_X8_limitOf
  refine br_c (fun hc => ?_) (fun hc => ?_)
  · rw [Int64.lt_iff_toInt_lt, z64, e2] at hc
    have e3 : ((999 : Int64) - (y + (1000 : Int64) - (1 : Int64))).toInt = -y.toInt := by rw [l_sub (by rw [e2, h999]; omega) (by rw [e2, h999]; omega), e2, h999]; omega
    have hq := ldiv_pos c_1000 (by omega) (a := (999 : Int64) - (y + (1000 : Int64) - (1 : Int64))) (by omega)
    rw [e3, hy] at hq
    exact h _ (by rw [l_neg (by omega) (by omega)]; omega)
  · rw [Int64.lt_iff_toInt_lt, z64, e2] at hc
    have hq := ldiv_pos c_1000 (by omega) (a := y + (1000 : Int64) - (1 : Int64)) (by omega)
    rw [e2, hy] at hq
    exact h _ (by omega)
theorem s_edgesOf8 {y : Int64} {C e : Int} (hy : y.toInt = 1000 * C - e) (h0 : 0 ≤ e) (h1 : e ≤ 900) (c1 : -1000000000000 ≤ C) (c2 : C ≤ 1000000000000) {post : Int64 → Prop} (h : ∀ r : Int64, r.toInt = e → post r) : P_X8_edgesOf post y := by
  unfold P_X8_edgesOf
  refine s_limitOf hy h0 h1 c1 c2 (fun r hr => h _ ?_)
  have e1 : ((1000 : Int64) * r).toInt = 1000 * C := by rw [l_mul (by rw [hr, c_1000]; omega) (by rw [hr, c_1000]; omega), hr, c_1000]
  rw [l_sub (by rw [e1]; omega) (by rw [e1]; omega), e1]
  omega
/-- a number of a range is a count -/
theorem cnt {x : Int32} {n : Nat} (h1 : 0 ≤ x.toInt) (h2 : x.toInt < (n : Int)) : ∃ v, v < n ∧ x = nI v := by
  refine ⟨x.toInt.toNat, by omega, ?_⟩
  have := (i_rng x).2
  rw [← Int32.toInt_inj, nI_t (by omega)]
  omega
theorem z32 : (0 : Int32).toInt = 0 := by decide
/-- within a count, or not -/
theorem cnt_cases (x : Int32) (n : Nat) : (∃ v, v < n ∧ x = nI v) ∨ (x.toInt < 0 ∨ (n : Int) ≤ x.toInt) := by
  by_cases h1 : 0 ≤ x.toInt
  · by_cases h2 : x.toInt < (n : Int)
    · exact Or.inl (cnt h1 h2)
    · exact Or.inr (Or.inr (by omega))
  · exact Or.inr (Or.inl (by omega))
theorem o_ne : ¬ (1 : Int32) = 0 := by decide
theorem s_in {y a b : Int64} {post : Int32 → Prop} (h1 : a.toInt ≤ y.toInt → y.toInt ≤ b.toInt → post 1) (h0 : (y.toInt < a.toInt ∨ b.toInt < y.toInt) → post 0) : P_X8_in post y a b := by
  unfold P_X8_in
  refine br_c (fun h => h0 (Or.inl ?_)) (fun h => br_c (fun g => h0 (Or.inr ?_)) (fun g => h1 ?_ ?_))
  · rw [Int64.lt_iff_toInt_lt] at h; exact h
  · rw [Int64.lt_iff_toInt_lt] at g; exact g
  · rw [Int64.lt_iff_toInt_lt] at h; omega
  · rw [Int64.lt_iff_toInt_lt] at g; omega
section TH
variable {post : Int32 → Prop} {x y : Int32} {v u : Nat}
theorem th7_y (hv : v < 10) (h : post 1) : P_X7_isThing post (nI v) := by
  unfold P_X7_isThing
  exact br_f (Int32.not_lt.mpr (show nI 0 ≤ nI v from nI_le (Nat.zero_le _) (by omega))) (br_f (nI_ge (a := v) (b := 10) hv (by omega)) h)
theorem th7_n (hx : x.toInt < 0 ∨ (10 : Int) ≤ x.toInt) (h : post 0) : P_X7_isThing post x := by
  unfold P_X7_isThing
  have t10 : (10 : Int32).toInt = 10 := by decide
  refine br_c (fun _ => h) (fun g => br_c (fun _ => h) (fun g2 => absurd ?_ g2))
  rw [Int32.lt_iff_toInt_lt, z32] at g
  rw [Int32.le_iff_toInt_le, t10]
  omega
theorem th8_y (hv : v < 10) (h : post 1) : P_X8_isThing post (nI v) := by
  unfold P_X8_isThing
  have t9 : (9 : Int64).toInt = 9 := by decide
  refine s_in (fun _ _ => ⟨bz1, h⟩) (fun g => ?_)
  rw [i2l, nI_t (by omega), z64, t9] at g
  omega
theorem th8_n (hx : x.toInt < 0 ∨ (10 : Int) ≤ x.toInt) (h : post 0) : P_X8_isThing post x := by
  unfold P_X8_isThing
  have t9 : (9 : Int64).toInt = 9 := by decide
  refine s_in (fun a b => ?_) (fun _ => ⟨bz0, h⟩)
  rw [i2l, z64] at a
  rw [i2l, t9] at b
  omega
theorem bit7 (h1 : (x = 0 ∨ x = 1) → post 1) (h0 : ¬ (x = 0 ∨ x = 1) → post 0) : P_X7_isBit post x := by
  unfold P_X7_isBit
  exact br_c (fun h => h1 (Or.inl h)) (fun h => ⟨fun g => h0 (fun z => z.elim h g), fun g => h1 (Or.inr g)⟩)
theorem bit8 (h1 : (x = 0 ∨ x = 1) → post 1) (h0 : ¬ (x = 0 ∨ x = 1) → post 0) : P_X8_isFlag post x := by
  unfold P_X8_isFlag
  have t1 : (1 : Int64).toInt = 1 := by decide
  have t1' : (1 : Int32).toInt = 1 := by decide
  refine s_in (fun a b => ⟨bz1, h1 ?_⟩) (fun g => ⟨bz0, h0 (fun z => ?_)⟩)
  · rw [i2l, z64] at a
    rw [i2l, t1] at b
    rw [← Int32.toInt_inj, ← Int32.toInt_inj, z32, t1']
    omega
  · rw [i2l, z64, t1] at g
    rcases z with rfl | rfl
    · rw [z32] at g; omega
    · rw [t1'] at g; omega
/-- a pair of things -/
def Pair (x y : Int32) : Prop := ∃ a b : Nat, a < 10 ∧ b < 10 ∧ a ≠ b ∧ x = nI a ∧ y = nI b
theorem pair7 (h1 : Pair x y → post 1) (h0 : ¬ Pair x y → post 0) : P_X7_arePair post x y := by
  unfold P_X7_arePair
  rcases cnt_cases x 10 with ⟨a, ha, rfl⟩ | hx
  · refine th7_y ha (br_f o_ne ?_)
    rcases cnt_cases y 10 with ⟨b, hb, rfl⟩ | hy
    · refine th7_y hb (br_f o_ne (br_c (fun e => h0 ?_) (fun e => h1 ⟨a, b, ha, hb, fun z => e (by rw [z]), rfl, rfl⟩)))
      rintro ⟨a', b', p1, p2, p3, p4, p5⟩
      rw [nI_eq (by omega) (by omega)] at p4 p5 e
      omega
    · refine th7_n hy (br_t rfl (h0 ?_))
      rintro ⟨a', b', p1, p2, p3, p4, rfl⟩
      rw [nI_t (by omega)] at hy
      omega
  · refine th7_n hx (br_t rfl (h0 ?_))
    rintro ⟨a', b', p1, p2, p3, rfl, p5⟩
    rw [nI_t (by omega)] at hx
    omega
theorem pair8 (h1 : Pair x y → post 1) (h0 : ¬ Pair x y → post 0) : P_X8_isPair post x y := by
  unfold P_X8_isPair
  rcases cnt_cases x 10 with ⟨a, ha, rfl⟩ | hx
  · refine th8_y ha (br_f o_ne ?_)
    rcases cnt_cases y 10 with ⟨b, hb, rfl⟩ | hy
    · refine th8_y hb (br_f o_ne (br_c (fun e => h0 ?_) (fun e => h1 ⟨a, b, ha, hb, fun z => e (by rw [z]), rfl, rfl⟩)))
      rintro ⟨a', b', p1, p2, p3, p4, p5⟩
      rw [nI_eq (by omega) (by omega)] at p4 p5 e
      omega
    · refine th8_n hy (br_t rfl (h0 ?_))
      rintro ⟨a', b', p1, p2, p3, p4, rfl⟩
      rw [nI_t (by omega)] at hy
      omega
  · refine th8_n hx (br_t rfl (h0 ?_))
    rintro ⟨a', b', p1, p2, p3, rfl, p5⟩
    rw [nI_t (by omega)] at hx
    omega
end TH
