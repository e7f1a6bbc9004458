/-! lay: the reference, one sheet -/
section LY
variable {lanes lengths rc : Nat → Int32} {k : Nat}
theorem lay_in (hk : k < 4) {post : Int32 → Prop} (h : post 1) : P_X8_in post (nI k).toInt64 (0 : Int64) (3 : Int64) := by
  refine s_in (fun _ _ => h) (fun g => ?_)
  rw [i2l, nI_t (by omega), z64, show (3 : Int64).toInt = 3 from by decide] at g
  omega
theorem lay8_n (hk : k < 4) (hl : lanes k = -4) {y x : Int32} {post : Int32 → (Nat → Int32) → Prop} (h : post (-11) rc) : P_X8_lay post lanes lengths rc (nI k) y x := by
  unfold P_X8_lay
  rw [nI_c (show k ≤ 2147483647 by omega)]
  exact lay_in hk ⟨fun _ => ⟨vin hk (by omega), fun z => absurd hl z, fun _ => h⟩, fun h => absurd h o_ne⟩
theorem lay8_2 (hk : k < 4) {l q : Nat} (hl3 : l < 3) (hq : q ≤ 40) (hl : lanes k = nI l) (hg : lengths k = nI q) {y x : Int32} (hy : y.toInt < 0 ∨ (q : Int) ≤ y.toInt) {post : Int32 → (Nat → Int32) → Prop} (h : post (-12) rc) : P_X8_lay post lanes lengths rc (nI k) y x := by
  have vk : vp_in (nI k) 4 := vin hk (by omega)
  unfold P_X8_lay
  rw [nI_c (show k ≤ 2147483647 by omega), hl, hg]
  exact lay_in hk ⟨fun _ => ⟨vk, fun _ => ⟨vk, in8_n (by omega) hy ⟨fun h => absurd rfl h, fun _ => h⟩⟩, fun z => absurd z (nI_m4 (by omega))⟩, fun h => absurd h o_ne⟩
theorem lay8_y (hk : k < 4) {l q i : Nat} (hl3 : l < 3) (hq : q ≤ 40) (hl : lanes k = nI l) (hg : lengths k = nI q) (hi : i < q) {x : Int32} {post : Int32 → (Nat → Int32) → Prop} (h : post 1 (upd rc (40 * k + i) (lft l x))) : P_X8_lay post lanes lengths rc (nI k) (nI i) x := by
  have vk : vp_in (nI k) 4 := vin hk (by omega)
  have vc : vp_in (nI (40 * k + i)) 160 := vin (by omega) (by omega)
  unfold P_X8_lay
  rw [nI_c (show k ≤ 2147483647 by omega), hl, hg, show (40 : Int32) = nI 40 from rfl, pk_mul, nI_add, nI_c (show 40 * k + i ≤ 2147483647 by omega), ← nar8, ← nar16]
  refine lay_in hk ⟨fun _ => ⟨vk, fun _ => ⟨vk, in8_y (by omega) hi ⟨fun _ => ⟨vk, ?_⟩, fun h => absurd h o_ne⟩⟩, fun z => absurd z (nI_m4 (by omega))⟩, fun h => absurd h o_ne⟩
  have e : l = 0 ∨ l = 1 ∨ l = 2 := by omega
  rcases e with rfl | rfl | rfl
  · exact ⟨fun z => absurd rfl z, fun _ => ⟨vc, h⟩⟩
  · exact ⟨fun _ => ⟨vk, fun z => absurd rfl z, fun _ => ⟨vc, h⟩⟩, fun z => absurd z (by decide)⟩
  · exact ⟨fun _ => ⟨vk, fun _ => ⟨vc, h⟩, fun z => absurd z (by decide)⟩, fun z => absurd z (by decide)⟩
end LY
