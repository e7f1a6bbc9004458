/-! pair, tightest -/
section PA
variable {n m W : Nat} {X Y S L : Nat → Nat} {c : Nat → Int32} {size marked wh : Int32} {up lo lim str mk : Nat → Int32} {st : Nat → Int32}
theorem s_pair7 (hp : Pw n X Y S m L W) (hs : StP n X Y c S m L W size marked wh up lo lim str mk) {q : Int32} (hq : 0 ≤ q.toInt) {post : Int32 → Prop} (h1 : ∀ k, k < n → FP X Y k → ((ct (FP X Y) k : Nat) : Int) = q.toInt → post (nI (10 * X k + Y k))) (h0 : ((ct (FP X Y) n : Nat) : Int) ≤ q.toInt → post (-4)) : P_X7_pair post size up lo q := by
  have hn := hp.1
  unfold P_X7_pair
  refine br_t (by rw [Int32.le_iff_toInt_le, z32]; exact hq) ?_
  rw [hs.1]
  refine ml2 (F := LB_X7_pair_10 post (nI n) up lo q) (I := fun a z => ∃ i : Nat, i ≤ n ∧ z = nI i ∧ a = nI (ct (FP X Y) i) ∧ ((ct (FP X Y) i : Nat) : Int) ≤ q.toInt) (μ := fun _ z => n - z.toNatClampNeg) ?_ 0 0 ⟨0, by omega, rfl, rfl, hq⟩
  rintro a z ⟨i, hi, rfl, rfl, hle⟩ K hK
  unfold LB_X7_pair_10 B_X7_pair_63
  have hc := ct_le (P := FP X Y) i
  by_cases e : i = n
  · subst e
    exact br_t (nI_le (Nat.le_refl _) (by omega)) (h0 hle)
  · have hmu : n - (nI i + 1).toNatClampNeg < n - (nI i).toNatClampNeg := by rw [nI_1, nI_c (by omega), nI_c (by omega)]; omega
    obtain ⟨p1, p2, p3, p4⟩ := hp.2.2.2.1 i (by omega)
    obtain ⟨a1, a2, a3, a4⟩ := hs.2.2.2.1 i (by omega)
    have vi : vp_in (nI i) 24 := vin (by omega) (by omega)
    rw [nI_c (show i ≤ 2147483647 by omega), a1, a2, ixp (by omega)]
    have hiff : nI (ct (FP X Y) i) = q ↔ ((ct (FP X Y) i : Nat) : Int) = q.toInt := by rw [← Int32.toInt_inj, nI_t (by omega)]
    refine br_f (nI_ge (by omega) (by omega)) (s_firstPair7 hp hs (by omega) (fun hF => br_f o_ne ⟨fun hne => hK _ _ ⟨i + 1, by omega, nI_1 i, by rw [nI_1, ct_y hF], ?_⟩ hmu, fun he => ⟨vi, vi, h1 i (by omega) hF (hiff.mp he)⟩⟩) (fun hF => br_t rfl (hK _ _ ⟨i + 1, by omega, nI_1 i, by rw [ct_n hF], by rw [ct_n hF]; exact hle⟩ hmu)))
    rw [ct_y hF]
    have : ((ct (FP X Y) i : Nat) : Int) ≠ q.toInt := fun z => hne (hiff.mpr z)
    omega
theorem s_pair8 (hp : Pw n X Y S m L W) (hr : RfP 0 n X Y c S m L W st) {q : Int32} (hq : 0 ≤ q.toInt) {post : Int32 → Prop} (h1 : ∀ k, k < n → FP X Y k → ((ct (FP X Y) k : Nat) : Int) = q.toInt → post (nI (10 * X k + Y k))) (h0 : ((ct (FP X Y) n : Nat) : Int) ≤ q.toInt → post (-4)) : P_X8_pair post st q := by
  have hn := hp.1
  obtain ⟨-, hq2⟩ := i_rng q
  unfold P_X8_pair
  refine br_t (by rw [Int32.le_iff_toInt_le, z32]; exact hq) ?_
  refine ml2 (F := LB_X8_pair_10 post st) (I := fun a z => ∃ i : Nat, i ≤ n ∧ z = nI i ∧ a.toInt = q.toInt - ((ct (FP X Y) i : Nat) : Int) ∧ ((ct (FP X Y) i : Nat) : Int) ≤ q.toInt) (μ := fun _ z => n - z.toNatClampNeg) ?_ q 0 ⟨0, by omega, rfl, by unfold ct; omega, hq⟩
  rintro a z ⟨i, hi, rfl, ha, hle⟩ K hK
  unfold LB_X8_pair_10 B_X8_pair_39
  refine s_many (o := 0) hr ?_
  have hc := ct_le (P := FP X Y) i
  by_cases e : i = n
  · subst e
    exact br_t (nI_le (Nat.le_refl _) (by omega)) (h0 hle)
  · have hmu : n - (nI i + 1).toNatClampNeg < n - (nI i).toNatClampNeg := by rw [nI_1, nI_c (by omega), nI_c (by omega)]; omega
    refine br_f (nI_ge (by omega) (by omega)) (s_firstPair8 hp hr (by omega) (fun hF => br_f o_ne ⟨fun hne => hK _ _ ⟨i + 1, by omega, nI_1 i, ?_, ?_⟩ hmu, fun he => s_pairOf hp hr (by omega) (h1 i (by omega) hF ?_)⟩) (fun hF => br_t rfl (hK _ _ ⟨i + 1, by omega, nI_1 i, by rw [ct_n hF]; exact ha, by rw [ct_n hF]; exact hle⟩ hmu)))
    · rw [i_am1, i_sub (by rw [o32]; omega) (by rw [o32]; omega), o32, ct_y hF]
      omega
    · rw [ct_y hF]
      have : a.toInt ≠ 0 := fun z => hne (by rw [← Int32.toInt_inj, z32]; exact z)
      omega
    · rw [he, z32] at ha
      omega
theorem ct_mono {P : Nat → Prop} : ∀ {i j : Nat}, i ≤ j → ct P i ≤ ct P j := by
  intro i j h
  induction j with
  | zero => rw [show i = 0 by omega]; exact Nat.le_refl _
  | succ j ih =>
    by_cases e : i = j + 1
    · rw [e]; exact Nat.le_refl _
    · have := ih (by omega)
      by_cases hP : P j
      · rw [ct_y hP]; omega
      · rw [ct_n hP]; exact this
theorem ct_inj {P : Nat → Prop} {i j : Nat} (hi : P i) (hj : P j) (h : ct P i = ct P j) : i = j := by
  rcases Nat.lt_trichotomy i j with q | q | q
  · have := ct_mono (P := P) (show i + 1 ≤ j by omega)
    rw [ct_y hi] at this
    omega
  · exact q
  · have := ct_mono (P := P) (show j + 1 ≤ i by omega)
    rw [ct_y hj] at this
    omega
theorem k_pair (hp : Pw n X Y S m L W) (hs : StP n X Y c S m L W size marked wh up lo lim str mk) (hr : RfP 0 n X Y c S m L W st) (x1 : Int32) {Q : Int32 → Int32 → Prop} (hQ : ∀ r, Q r r) : P_X7_pair (fun r => P_X8_pair (fun r2 => Q r r2) st x1) size up lo x1 := by
  by_cases hx : 0 ≤ x1.toInt
  · refine s_pair7 hp hs hx (fun k hk hF he => s_pair8 hp hr hx (fun k2 hk2 hF2 he2 => ?_) (fun hle => ?_)) (fun hle => s_pair8 hp hr hx (fun k2 hk2 hF2 he2 => ?_) (fun _ => hQ _))
    · have : k = k2 := ct_inj (P := FP X Y) hF hF2 (by omega)
      subst this
      exact hQ _
    · have := ct_mono (P := FP X Y) (show k + 1 ≤ n by omega)
      rw [ct_y hF] at this
      omega
    · have := ct_mono (P := FP X Y) (show k2 + 1 ≤ n by omega)
      rw [ct_y hF2] at this
      omega
  · have hno : ¬ (0 : Int32) ≤ x1 := by rw [Int32.le_iff_toInt_le, z32]; exact hx
    unfold P_X7_pair P_X8_pair
    exact br_f hno (br_f hno (hQ _))
end PA
