/-! sheet -/
section SH
variable {a0 b0 a1 b1 a2 b2 a3 b3 : Int32} {d0 d1 d2 d3 lanes lengths rc : Nat → Int32}
theorem k_sheet (h0 : RSh 0 a0 b0 d0 lanes lengths rc) (h1 : RSh 1 a1 b1 d1 lanes lengths rc) (h2 : RSh 2 a2 b2 d2 lanes lengths rc) (h3 : RSh 3 a3 b3 d3 lanes lengths rc) (x1 x2 x3 : Int32)
    {Q : Int32 → Int32 → Int32 → (Nat → Int32) → Int32 → Int32 → (Nat → Int32) → Int32 → Int32 → (Nat → Int32) → Int32 → Int32 → (Nat → Int32) → Int32 → (Nat → Int32) → (Nat → Int32) → (Nat → Int32) → Prop}
    (hQ : ∀ r a0 b0 d0 a1 b1 d1 a2 b2 d2 a3 b3 d3 lanes' lengths' rc', RSh 0 a0 b0 d0 lanes' lengths' rc' → RSh 1 a1 b1 d1 lanes' lengths' rc' → RSh 2 a2 b2 d2 lanes' lengths' rc' → RSh 3 a3 b3 d3 lanes' lengths' rc' → Q r a0 b0 d0 a1 b1 d1 a2 b2 d2 a3 b3 d3 r lanes' lengths' rc') :
    P_X7_sheet (fun r a0 b0 d0 a1 b1 d1 a2 b2 d2 a3 b3 d3 => P_X8_sheet (fun r2 lanes' lengths' rc' => Q r a0 b0 d0 a1 b1 d1 a2 b2 d2 a3 b3 d3 r2 lanes' lengths' rc') lanes lengths rc x1 x2 x3) a0 b0 d0 a1 b1 d1 a2 b2 d2 a3 b3 d3 x1 x2 x3 := by
  have t3 : (3 : Int64).toInt = 3 := by decide
  have t2 : (2 : Int64).toInt = 2 := by decide
  have same : ∀ r, Q r a0 b0 d0 a1 b1 d1 a2 b2 d2 a3 b3 d3 r lanes lengths rc := fun r => hQ _ _ _ _ _ _ _ _ _ _ _ _ _ _ _ _ h0 h1 h2 h3
  unfold P_X7_sheet P_X3_renew
  rcases cnt_cases x1 4 with ⟨k, hk, rfl⟩ | hx
  · have i1 : ∀ {post : Int32 → Prop}, post 1 → P_X8_in post (nI k).toInt64 (0 : Int64) (3 : Int64) := fun hh => by
      refine s_in (fun _ _ => hh) (fun g => ?_)
      rw [i2l, nI_t (by omega), z64, t3] at g
      omega
    refine br_f (Int32.not_lt.mpr (show nI 0 ≤ nI k from nI_le (Nat.zero_le _) (by omega))) (br_f (nI_ge (a := k) (b := 4) hk (by omega)) ?_)
    rcases cnt_cases x2 3 with ⟨l, hl, rfl⟩ | hx2
    · have i2 : ∀ {post : Int32 → Prop}, post 1 → P_X8_in post (nI l).toInt64 (0 : Int64) (2 : Int64) := fun hh => by
        refine s_in (fun _ _ => hh) (fun g => ?_)
        rw [i2l, nI_t (by omega), z64, t2] at g
        omega
      refine br_f (Int32.not_lt.mpr (show nI 0 ≤ nI l from nI_le (Nat.zero_le _) (by omega))) (br_f (nI_ge (a := l) (b := 3) hl (by omega)) (br_c (fun h40 => br_c (fun hz => ⟨vin hk (by omega), ?_⟩) (fun hz => ?_)) (fun h40 => ?_)))
      · have z1 := hz
        have z2 := h40
        rw [Int32.le_iff_toInt_le, z32] at z1
        rw [Int32.le_iff_toInt_le, show (40 : Int32).toInt = 40 from by decide] at z2
        obtain ⟨q, hq, rfl⟩ := cnt (x := x3) (n := 41) (by omega) (by omega)
        have oth : ∀ (k' : Nat) {a b : Int32} {d : Nat → Int32} {rc' : Nat → Int32}, k' ≠ k → RSh k' a b d lanes lengths rc → (∀ x, (x < 40 * k ∨ 40 * k + 40 ≤ x) → rc' x = rc x) → RSh k' a b d (upd lanes k (nI l)) (upd lengths k (nI q)) rc' := fun k' a b d rc' hne hR hf => hR.frame (pk_un hne) (pk_un hne) (fun j hj => hf _ (by omega))
        have new : ∀ {d rc' : Nat → Int32}, (∀ j, j < 40 → d j = 0) → (∀ j, j < 40 → rc' (40 * k + j) = 0) → RSh k (nI l) (nI q) d (upd lanes k (nI l)) (upd lengths k (nI q)) rc' := fun hd hc => Or.inr ⟨l, q, hl, by omega, rfl, pk_us, rfl, pk_us, fun j hj => (hd j (by omega)).trans (hc j (by omega)).symm⟩
        have e : k = 0 ∨ k = 1 ∨ k = 2 ∨ k = 3 := by omega
        rcases e with rfl | rfl | rfl | rfl
        · exact br_t rfl (s_fillI (by omega) (fun d' hd => s_sheet8 hk hl (by omega) (fun rc' c1 c2 => hQ _ _ _ _ _ _ _ _ _ _ _ _ _ _ _ _ (new hd c1) (oth 1 (by omega) h1 c2) (oth 2 (by omega) h2 c2) (oth 3 (by omega) h3 c2))))
        · exact br_f (by decide) (br_t rfl (s_fillI (by omega) (fun d' hd => s_sheet8 hk hl (by omega) (fun rc' c1 c2 => hQ _ _ _ _ _ _ _ _ _ _ _ _ _ _ _ _ (oth 0 (by omega) h0 c2) (new hd c1) (oth 2 (by omega) h2 c2) (oth 3 (by omega) h3 c2)))))
        · exact br_f (by decide) (br_f (by decide) (br_t rfl (s_fillI (by omega) (fun d' hd => s_sheet8 hk hl (by omega) (fun rc' c1 c2 => hQ _ _ _ _ _ _ _ _ _ _ _ _ _ _ _ _ (oth 0 (by omega) h0 c2) (oth 1 (by omega) h1 c2) (new hd c1) (oth 3 (by omega) h3 c2))))))
        · exact br_f (by decide) (br_f (by decide) (br_f (by decide) (s_fillI (by omega) (fun d' hd => s_sheet8 hk hl (by omega) (fun rc' c1 c2 => hQ _ _ _ _ _ _ _ _ _ _ _ _ _ _ _ _ (oth 0 (by omega) h0 c2) (oth 1 (by omega) h1 c2) (oth 2 (by omega) h2 c2) (new hd c1))))))
      · unfold P_X8_sheet
        exact i1 (br_f o_ne (i2 (br_f o_ne (br_t h40 (br_f hz (same _))))))
      · unfold P_X8_sheet
        exact i1 (br_f o_ne (i2 (br_f o_ne (br_f h40 (same _)))))
    · have bad : P_X8_sheet (fun r2 lanes' lengths' rc' => Q (-1) a0 b0 d0 a1 b1 d1 a2 b2 d2 a3 b3 d3 r2 lanes' lengths' rc') lanes lengths rc (nI k) x2 x3 := by
        unfold P_X8_sheet
        refine i1 (br_f o_ne (s_in (fun a b => ?_) (fun _ => br_t rfl (same _))))
        rw [i2l, z64] at a
        rw [i2l, t2] at b
        omega
      refine br_c (fun _ => bad) (fun g => br_c (fun _ => bad) (fun g2 => absurd ?_ g2))
      rw [Int32.lt_iff_toInt_lt, z32] at g
      rw [Int32.le_iff_toInt_le, show (3 : Int32).toInt = 3 from by decide]
      omega
  · have bad : P_X8_sheet (fun r2 lanes' lengths' rc' => Q (-1) a0 b0 d0 a1 b1 d1 a2 b2 d2 a3 b3 d3 r2 lanes' lengths' rc') lanes lengths rc x1 x2 x3 := by
      unfold P_X8_sheet
      refine s_in (fun a b => ?_) (fun _ => br_t rfl (same _))
      rw [i2l, z64] at a
      rw [i2l, t3] at b
      omega
    refine br_c (fun _ => bad) (fun g => br_c (fun _ => bad) (fun g2 => absurd ?_ g2))
    rw [Int32.lt_iff_toInt_lt, z32] at g
    rw [Int32.le_iff_toInt_le, show (4 : Int32).toInt = 4 from by decide]
    omega
end SH
