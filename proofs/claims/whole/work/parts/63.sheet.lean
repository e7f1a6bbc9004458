/-! sheets -/
theorem s_fillI {post : (Nat → Int32) → Prop} {n : Nat} {a : Nat → Int32} {v : Int32} (hn : n ≤ 2147483647) (h : ∀ a' : Nat → Int32, (∀ j, j < n → a' j = v) → post a') : P_J7_fill_53178 post n a v := by
  refine ml2 (F := LB_J7_fill_53178_5 post n v (nI n)) (I := fun b z => ∃ i : Nat, i ≤ n ∧ z = nI i ∧ ∀ j, j < i → b j = v) (μ := fun _ z => n - z.toNatClampNeg) ?_ a 0 ⟨0, Nat.zero_le _, rfl, fun j hj => absurd hj (by omega)⟩
  rintro b z ⟨i, hi, rfl, hb⟩ K hK
  unfold LB_J7_fill_53178_5
  by_cases hin : i = n
  · subst hin
    exact br_t (nI_le (Nat.le_refl _) (by omega)) (h b hb)
  · refine br_f (nI_ge (by omega) (by omega)) ⟨vin (by omega) (by omega), ?_⟩
    rw [nI_c (show i ≤ 2147483647 by omega)]
    refine hK _ _ ⟨i + 1, by omega, nI_1 i, fun j hj => ?_⟩ (by rw [nI_1, nI_c (by omega), nI_c (by omega)]; omega)
    by_cases e : j = i
    · subst e; exact pk_us
    · rw [pk_un e]; exact hb j (by omega)
/-- a sheet of both sides -/
def RSh (k : Nat) (lane size : Int32) (cells : Nat → Int32) (lanes lengths rc : Nat → Int32) : Prop := (lane = -1 ∧ lanes k = -4) ∨ (∃ l q : Nat, l < 3 ∧ q ≤ 40 ∧ lane = nI l ∧ lanes k = nI l ∧ size = nI q ∧ lengths k = nI q ∧ ∀ j, j < q → cells j = rc (40 * k + j))
theorem RSh.frame {k : Nat} {lane size : Int32} {cells lanes lengths rc lanes' lengths' rc' : Nat → Int32} (h : RSh k lane size cells lanes lengths rc) (e1 : lanes' k = lanes k) (e2 : lengths' k = lengths k) (e3 : ∀ j, j < 40 → rc' (40 * k + j) = rc (40 * k + j)) : RSh k lane size cells lanes' lengths' rc' := by
  unfold RSh
  rw [e1, e2]
  rcases h with h | ⟨l, q, h1, h2, h3, h4, h5, h6, h7⟩
  · exact Or.inl h
  · exact Or.inr ⟨l, q, h1, h2, h3, h4, h5, h6, fun j hj => (h7 j hj).trans (e3 j (by omega)).symm⟩
theorem s_sheet8 {lanes lengths rc : Nat → Int32} {k l q : Nat} (hk : k < 4) (hl : l < 3) (hq : q ≤ 40) {post : Int32 → (Nat → Int32) → (Nat → Int32) → (Nat → Int32) → Prop}
    (h : ∀ rc', (∀ j, j < 40 → rc' (40 * k + j) = 0) → (∀ x, (x < 40 * k ∨ 40 * k + 40 ≤ x) → rc' x = rc x) → post 1 (upd lanes k (nI l)) (upd lengths k (nI q)) rc') : P_X8_sheet post lanes lengths rc (nI k) (nI l) (nI q) := by
  have t3 : (3 : Int64).toInt = 3 := by decide
  have t2 : (2 : Int64).toInt = 2 := by decide
  have vk : vp_in (nI k) 4 := vin hk (by omega)
  unfold P_X8_sheet
  rw [nI_c (show k ≤ 2147483647 by omega)]
  refine s_in (fun _ _ => br_f o_ne (s_in (fun _ _ => br_f o_ne (br_t (show nI q ≤ nI 40 from nI_le hq (by omega)) (br_t (show nI 0 ≤ nI q from nI_le (Nat.zero_le _) (by omega)) ⟨vk, vk, ?_⟩))) (fun g => ?_))) (fun g => ?_)
  · refine ml2 (F := LB_X8_sheet_56 post (upd lanes k (nI l)) (upd lengths k (nI q)) (nI k)) (I := fun r z => ∃ i : Nat, i ≤ 40 ∧ z = nI i ∧ (∀ j, j < i → r (40 * k + j) = 0) ∧ ∀ x, (x < 40 * k ∨ 40 * k + i ≤ x) → r x = rc x) (μ := fun _ z => 40 - z.toNatClampNeg) ?_ rc 0 ⟨0, by omega, rfl, fun j hj => absurd hj (by omega), fun _ _ => rfl⟩
    rintro r z ⟨i, hi, rfl, h1, h2⟩ K hK
    unfold LB_X8_sheet_56
    by_cases e : i = 40
    · subst e
      exact br_t (by decide) (h r h1 h2)
    · refine br_f (nI_ge (a := i) (b := 40) (by omega) (by omega)) ?_
      rw [show (40 : Int32) = nI 40 from rfl, pk_mul, nI_add, nI_c (show 40 * k + i ≤ 2147483647 by omega)]
      refine ⟨vin (by omega) (by omega), hK _ _ ⟨i + 1, by omega, nI_1 i, fun j hj => ?_, fun x hx => by rw [pk_un (by omega)]; exact h2 x (by omega)⟩ (by rw [nI_1, nI_c (by omega), nI_c (by omega)]; omega)⟩
      by_cases ej : j = i
      · subst ej; exact pk_us
      · rw [pk_un (by omega)]; exact h1 j (by omega)
  · rw [i2l, nI_t (by omega), z64, t2] at g
    omega
  · rw [i2l, nI_t (by omega), z64, t3] at g
    omega
