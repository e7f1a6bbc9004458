/-! count -/
section TA
variable {n m W : Nat} {X Y S L : Nat → Nat} {c : Nat → Int32} {size marked wh : Int32} {up lo lim str mk : Nat → Int32} {st : Nat → Int32}
theorem s_made7 {im : Nat → Int32} {post : Int32 → Prop} (h : post (nI (ct (fun k => ¬ im k = 0) 2))) : P_X7_imagesMade post im := by
  unfold P_X7_imagesMade
  refine ml2 (F := LB_X7_imagesMade_4 post im) (I := fun q z => ∃ i : Nat, i ≤ 2 ∧ z = nI i ∧ q = nI (ct (fun k => ¬ im k = 0) i)) (μ := fun _ z => 2 - z.toNatClampNeg) ?_ 0 0 ⟨0, by omega, rfl, rfl⟩
  rintro q z ⟨i, hi, rfl, rfl⟩ K hK
  unfold LB_X7_imagesMade_4 B_X7_imagesMade_21
  by_cases e : i = 2
  · subst e
    exact br_t (by decide) h
  · have hmu : 2 - (nI i + 1).toNatClampNeg < 2 - (nI i).toNatClampNeg := by rw [nI_1, nI_c (by omega), nI_c (by omega)]; omega
    rw [nI_c (show i ≤ 2147483647 by omega)]
    exact br_f (nI_ge (a := i) (b := 2) (by omega) (by omega)) ⟨vin (by omega) (by omega), br_c (fun hz => hK _ _ ⟨i + 1, by omega, nI_1 i, by rw [ct_n (P := fun k => ¬ im k = 0) (fun z => z hz)]⟩ hmu) (fun hz => hK _ _ ⟨i + 1, by omega, nI_1 i, by rw [nI_1, ct_y (P := fun k => ¬ im k = 0) hz]⟩ hmu)⟩
theorem k_count (hp : Pw n X Y S m L W) (hs : StP n X Y c S m L W size marked wh up lo lim str mk) (hr : RfP 0 n X Y c S m L W st) {ts td : Int32} {tb tp : Nat → Int32} (hT : RTape ts tb td tp) {im kp : Nat → Int32} (h0 : (im 0 = 0 ∧ kp 0 = 0) ∨ (im 0 = 1 ∧ kp 0 = 1)) (h1 : (im 1 = 0 ∧ kp 1 = 0) ∨ (im 1 = 1 ∧ kp 1 = 1)) {a0 b0 : Int32} {d0 lanes lengths rc : Nat → Int32} (hS : RSh 0 a0 b0 d0 lanes lengths rc) (D : Nat → Int64) (x1 : Int32) {Q : Int32 → Int32 → (Nat → Int64) → Prop} (hQ : ∀ r D', Q r r D') :
    P_X7_count (fun r => P_X8_count (fun r2 D' => Q r r2 D') td st D kp lanes lengths x1) im ts size str a0 b0 x1 := by
  unfold P_X7_count P_X8_count
  refine br_c (fun e0 => ?_) (fun e0 => br_c (fun e1 => ?_) (fun e1 => br_c (fun e2 => ?_) (fun e2 => br_c (fun e3 => ?_) (fun e3 => br_f e0 (br_f e1 (br_f e2 (br_f e3 (hQ _ _))))))))
  · have v0 : vp_in (0 : Int32) 2 := vin (n := 0) (by omega) (by omega)
    have v1 : vp_in (1 : Int32) 2 := vin (n := 1) (by omega) (by omega)
    have k0 : kp (0 : Int32).toNatClampNeg = kp 0 := rfl
    have k1 : kp (1 : Int32).toNatClampNeg = kp 1 := rfl
    unfold B_X8_count_46
    rw [k0, k1]
    have ne1 : ∀ {a : Int32}, a = 1 → ¬ a = 0 := fun h => by rw [h]; exact o_ne
    rcases h0 with ⟨p, q⟩ | ⟨p, q⟩ <;> rcases h1 with ⟨p', q'⟩ | ⟨p', q'⟩
    · refine s_made7 ?_
      rw [ct_n (P := fun k => ¬ im k = 0) (fun z => z p'), ct_n (P := fun k => ¬ im k = 0) (fun z => z p)]
      exact br_t e0 ⟨v0, br_t q ⟨v1, br_t q' (hQ _ _)⟩⟩
    · refine s_made7 ?_
      rw [ct_y (P := fun k => ¬ im k = 0) (ne1 p'), ct_n (P := fun k => ¬ im k = 0) (fun z => z p)]
      exact br_t e0 ⟨v0, br_t q ⟨v1, br_f (ne1 q') (hQ _ _)⟩⟩
    · refine s_made7 ?_
      rw [ct_n (P := fun k => ¬ im k = 0) (fun z => z p'), ct_y (P := fun k => ¬ im k = 0) (ne1 p)]
      exact br_t e0 ⟨v0, br_f (ne1 q) ⟨v1, br_t q' (hQ _ _)⟩⟩
    · refine s_made7 ?_
      rw [ct_y (P := fun k => ¬ im k = 0) (ne1 p'), ct_y (P := fun k => ¬ im k = 0) (ne1 p)]
      exact br_t e0 ⟨v0, br_f (ne1 q) ⟨v1, br_f (ne1 q') (hQ _ _)⟩⟩
  · obtain ⟨q, -, rfl, rfl, -⟩ := hT
    exact br_f e0 (br_t e1 (hQ _ _))
  · have v4 : vp_in (0 : Int32) 4 := vin (n := 0) (by omega) (by omega)
    have l0 : lanes (0 : Int32).toNatClampNeg = lanes 0 := rfl
    have g0 : lengths (0 : Int32).toNatClampNeg = lengths 0 := rfl
    rw [l0, g0]
    rcases hS with ⟨rfl, hl⟩ | ⟨l, q, hl3, hq, rfl, hl, rfl, hg, -⟩
    · exact ⟨fun h => absurd rfl h, fun _ => br_f e0 (br_f e1 (br_t e2 ⟨v4, fun h => absurd hl h, fun _ => hQ _ _⟩))⟩
    · refine ⟨fun _ => br_f e0 (br_f e1 (br_t e2 ⟨v4, fun _ => ⟨v4, ?_⟩, fun h => absurd (hl.symm.trans h) (nI_m4 (by omega))⟩)), fun h => absurd h (nI_m1 (by omega))⟩
      rw [hg]
      exact hQ _ _
  · exact s_strict7 hp hs (br_f e0 (br_f e1 (br_f e2 (br_t e3 (s_strict8 hp hr (fun _ => hQ _ _))))))
end TA
