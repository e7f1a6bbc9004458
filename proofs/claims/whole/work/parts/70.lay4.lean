/-! lay: all sheets -/
section LW
variable {a0 b0 a1 b1 a2 b2 a3 b3 : Int32} {d0 d1 d2 d3 lanes lengths rc : Nat → Int32}
theorem k_lay (h0 : RSh 0 a0 b0 d0 lanes lengths rc) (h1 : RSh 1 a1 b1 d1 lanes lengths rc) (h2 : RSh 2 a2 b2 d2 lanes lengths rc) (h3 : RSh 3 a3 b3 d3 lanes lengths rc) (x1 x2 x3 : Int32)
    {Q : Int32 → (Nat → Int32) → (Nat → Int32) → (Nat → Int32) → (Nat → Int32) → Int32 → (Nat → Int32) → Prop}
    (hQ : ∀ r d0' d1' d2' d3' rc', RSh 0 a0 b0 d0' lanes lengths rc' → RSh 1 a1 b1 d1' lanes lengths rc' → RSh 2 a2 b2 d2' lanes lengths rc' → RSh 3 a3 b3 d3' lanes lengths rc' → Q r d0' d1' d2' d3' r rc') :
    P_X7_lay (fun r d0' d1' d2' d3' => P_X8_lay (fun r2 rc' => Q r d0' d1' d2' d3' r2 rc') lanes lengths rc x1 x2 x3) a0 b0 a1 b1 a2 b2 a3 b3 d0 d1 d2 d3 x1 x2 x3 := by
  have same : ∀ r, Q r d0 d1 d2 d3 r rc := fun r => hQ _ _ _ _ _ _ h0 h1 h2 h3
  unfold P_X7_lay
  rcases cnt_cases x1 4 with ⟨k, hk, rfl⟩ | hx
  · refine br_f (Int32.not_lt.mpr (show nI 0 ≤ nI k from nI_le (Nat.zero_le _) (by omega))) (br_t (Int32.not_le.mp (nI_ge (a := k) (b := 4) hk (by omega))) ⟨vin hk (by omega), ?_⟩)
    have oth : ∀ (k' : Nat) {a b : Int32} {d : Nat → Int32} {rc' : Nat → Int32}, k' ≠ k → k' < 4 → RSh k' a b d lanes lengths rc → (∀ x, (x < 40 * k ∨ 40 * k + 40 ≤ x) → rc' x = rc x) → RSh k' a b d lanes lengths rc' := fun k' a b d rc' hne _ hR hf => hR.frame rfl rfl (fun j hj => hf _ (by omega))
    have e : k = 0 ∨ k = 1 ∨ k = 2 ∨ k = 3 := by omega
    rcases e with rfl | rfl | rfl | rfl
    · exact br_t rfl (lay_one (P := fun r d' r2 rc' => Q r d' d1 d2 d3 r2 rc') hk h0 x2 x3 same (fun d' rc' hR hf => hQ _ _ _ _ _ _ hR (oth 1 (by omega) (by omega) h1 hf) (oth 2 (by omega) (by omega) h2 hf) (oth 3 (by omega) (by omega) h3 hf)))
    · exact br_f (by decide) (br_t rfl (lay_one (P := fun r d' r2 rc' => Q r d0 d' d2 d3 r2 rc') hk h1 x2 x3 same (fun d' rc' hR hf => hQ _ _ _ _ _ _ (oth 0 (by omega) (by omega) h0 hf) hR (oth 2 (by omega) (by omega) h2 hf) (oth 3 (by omega) (by omega) h3 hf))))
    · exact br_f (by decide) (br_f (by decide) (br_t rfl (lay_one (P := fun r d' r2 rc' => Q r d0 d1 d' d3 r2 rc') hk h2 x2 x3 same (fun d' rc' hR hf => hQ _ _ _ _ _ _ (oth 0 (by omega) (by omega) h0 hf) (oth 1 (by omega) (by omega) h1 hf) hR (oth 3 (by omega) (by omega) h3 hf)))))
    · exact br_f (by decide) (br_f (by decide) (br_f (by decide) (lay_one (P := fun r d' r2 rc' => Q r d0 d1 d2 d' r2 rc') hk h3 x2 x3 same (fun d' rc' hR hf => hQ _ _ _ _ _ _ (oth 0 (by omega) (by omega) h0 hf) (oth 1 (by omega) (by omega) h1 hf) (oth 2 (by omega) (by omega) h2 hf) hR))))
  · have bad : P_X8_lay (fun r2 rc' => Q (-1) d0 d1 d2 d3 r2 rc') lanes lengths rc x1 x2 x3 := by
      unfold P_X8_lay
      refine s_in (fun a b => ?_) (fun _ => ⟨fun h => absurd rfl h, fun _ => same _⟩)
      rw [i2l, z64] at a
      rw [i2l, show (3 : Int64).toInt = 3 from by decide] at b
      omega
    refine br_c (fun _ => bad) (fun g => br_c (fun g2 => ?_) (fun _ => bad))
    exfalso
    rw [Int32.lt_iff_toInt_lt, z32] at g
    rw [Int32.lt_iff_toInt_lt, show (4 : Int32).toInt = 4 from by decide] at g2
    omega
end LW
