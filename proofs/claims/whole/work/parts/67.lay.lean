/-! lay: one sheet -/
theorem flt_n {b y : Int32} {post : Int32 → Prop} (h : post 1) : P_X3_faultAt post (-1) b (-1) 1 y.toInt64 := by
  unfold P_X3_faultAt
  exact ⟨fun z => absurd rfl z, fun _ => h⟩
theorem flt_y {l q : Nat} (hl : l < 3) (hq : q ≤ 40) {y : Int32} {post : Int32 → Prop} (h0 : ∀ i, i < q → y = nI i → post 0) (h2 : (y.toInt < 0 ∨ (q : Int) ≤ y.toInt) → post 2) : P_X3_faultAt post (nI l) (nI q) (nI l) 1 y.toInt64 := by
  obtain ⟨r1, r2⟩ := i_rng y
  have e1 : (1 : Int32).toInt64.toInt = 1 := by decide
  have hs : (y.toInt64 + (1 : Int32).toInt64).toInt = y.toInt + 1 := by rw [l_add (by rw [i2l, e1]; omega) (by rw [i2l, e1]; omega), i2l, e1]
  unfold P_X3_faultAt
  refine ⟨fun _ => br_t rfl (br_c (fun hz => h2 (Or.inl ?_)) (fun hz => br_c (fun hle => ?_) (fun hle => h2 (Or.inr ?_)))), fun z => absurd z (nI_m1 (by omega))⟩
  · rw [Int64.lt_iff_toInt_lt, i2l, z64] at hz; exact hz
  · rw [Int64.lt_iff_toInt_lt, i2l, z64] at hz
    rw [Int64.le_iff_toInt_le, hs, i2l, nI_t (by omega)] at hle
    obtain ⟨i, hi, e⟩ := cnt (x := y) (n := q) (by omega) (by omega)
    exact h0 i hi e
  · rw [Int64.le_iff_toInt_le, hs, i2l, nI_t (by omega)] at hle
    omega
/-- what is left of a number in a lane -/
def lft (l : Nat) (x : Int32) : Int32 := if l = 0 then x.toInt8.toInt32 else if l = 1 then x.toInt16.toInt32 else x
theorem s_put {l i : Nat} (hl : l < 3) (hi : i < 40) {d : Nat → Int32} {x : Int32} {post : (Nat → Int32) → Prop} (h : post (upd d i (lft l x))) : P_X3_put post (nI l) d (nI i) x := by
  have vi : vp_in (nI i) 40 := vin hi (by omega)
  unfold P_X3_put
  rw [nI_c (show i ≤ 2147483647 by omega)]
  have e : l = 0 ∨ l = 1 ∨ l = 2 := by omega
  rcases e with rfl | rfl | rfl
  · exact br_t rfl ⟨vi, h⟩
  · exact br_f (by decide) (br_t rfl ⟨vi, h⟩)
  · exact br_f (by decide) (br_f (by decide) ⟨vi, h⟩)
