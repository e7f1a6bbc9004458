/-! ways: both -/
section WB
variable {size marked wh : Int32} {up lo lim str mk : Nat → Int32} {st : Nat → Int32}
theorem k_ways (hP : RPg 0 size marked wh up lo lim str mk st) (things top : Int32) (vals : Nat → Int64) (caps : Nat → Nat → Int64) (pl : Nat → Int32) (x1 x2 : Int32) {Q : Int32 → Int32 → Int32 → (Nat → Int64) → (Nat → Nat → Int64) → Int32 → (Nat → Int32) → Prop}
    (hQ : ∀ r things' top' vals' caps' pl', Q r things' top' vals' caps' r pl') :
    P_X7_ways (fun r th tp v cp => P_X8_ways (fun r2 pl' => Q r th tp v cp r2 pl') pl st x1 x2) things top size up lo lim str vals caps x1 x2 := by
  obtain ⟨n, X, Y, c, S, m, L, W, hp, ho, hs, hr⟩ := id hP
  have t5 : (5 : Int32).toInt = 5 := by decide
  have t6 : (6 : Int32).toInt = 6 := by decide
  have T5 : (5 : Int64).toInt = 5 := by decide
  have T6 : (6 : Int64).toInt = 6 := by decide
  unfold P_X7_ways
  by_cases hx : 1 ≤ x1.toInt ∧ x1.toInt ≤ 5 ∧ 0 ≤ x2.toInt ∧ x2.toInt ≤ 6
  · obtain ⟨hx1, hx2, hx3, hx4⟩ := hx
    obtain ⟨N, hN, rfl⟩ := cnt (x := x1) (n := 6) (by omega) (by omega)
    obtain ⟨mm, hm, rfl⟩ := cnt (x := x2) (n := 7) (by omega) (by omega)
    rw [nI_t (by omega)] at hx1
    refine br_f (Int32.not_lt.mpr (show nI 1 ≤ nI N from nI_le (by omega) (by omega))) (br_f (Int32.not_lt.mpr (show nI N ≤ nI 5 from nI_le (by omega) (by omega))) (br_f (Int32.not_lt.mpr (show nI 0 ≤ nI mm from nI_le (Nat.zero_le _) (by omega))) (br_t (show nI mm ≤ nI 6 from nI_le (by omega) (by omega)) ?_)))
    refine s_prepare hp hs (by omega) (fun caps' hcap => ?_)
    exact s_ways4 (fun k hk => (hp.2.2.2.1 k hk).2.2.1) (by omega) (by omega) (by omega) hcap (fun _ => 0) vals _ (fun j hj => absurd hj (by omega)) (fun j hj => absurd hj (by omega)) (fun k _ hz => absurd hz (by omega)) (fun f' _ => s_ways8 hp hr (by omega) (by omega) (by omega) (fun pl' => hQ _ _ _ _ _ _))
  · have bad : P_X8_ways (fun r2 pl' => Q (-1) things top vals caps r2 pl') pl st x1 x2 := by
      unfold P_X8_ways
      refine s_in (fun a b => br_f o_ne (s_in (fun a2 b2 => ?_) (fun _ => ⟨fun z => absurd rfl z, fun _ => hQ _ _ _ _ _ _⟩))) (fun _ => br_t rfl (hQ _ _ _ _ _ _))
      exfalso
      rw [i2l, o64] at a
      rw [i2l, T5] at b
      rw [i2l, z64] at a2
      rw [i2l, T6] at b2
      omega
    refine br_c (fun _ => bad) (fun g1 => br_c (fun _ => bad) (fun g2 => br_c (fun _ => bad) (fun g3 => br_c (fun g4 => ?_) (fun _ => bad))))
    exfalso
    rw [Int32.lt_iff_toInt_lt, o32] at g1
    rw [Int32.lt_iff_toInt_lt, t5] at g2
    rw [Int32.lt_iff_toInt_lt, z32] at g3
    rw [Int32.le_iff_toInt_le, t6] at g4
    omega
end WB
