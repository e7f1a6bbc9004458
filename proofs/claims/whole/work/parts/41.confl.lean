/-! the reference's CONFLICT: the row -/
section CW
variable {n : Nat} {X Y : Nat → Nat} {cw : Nat → Int} {ew : Nat → Nat} {st : Nat → Int32} {skip : Int32} {y0 : Nat}
/-- the first bound from which the rest comes below nothing -/
theorem s_confStep (hG : RfG 0 n X Y (wsc 1000 cw ew) st) (he : ∀ k, k < n → ew k ≤ 1) {q : Nat} (hq : q ≤ 9) {B : Nat → Int64} (hB : TB1000 (fun k => k < n ∧ nI k ≠ skip) X Y cw ew y0 q (fun v => B (10 * q + v))) {v : Nat} (hv : v < 10) {C e : Int} {s : Int64} (hs : s.toInt = 1000 * C - e) (hr1 : -1000000000000000 ≤ s.toInt) (hr2 : s.toInt ≤ 1000000000000000) (h0 : 0 ≤ e) (h1 : e ≤ 19)
    (hcan : can (fun k => k < n ∧ nI k ≠ skip) X Y cw ew y0 (q + 1) v C e) {many : Int32} {cf : Nat → Int32} {K : Int32 → (Nat → Int32) → Int64 → Int32 → Int32 → Prop}
    (hk : ∀ k, k < n → cank (fun k => k < n ∧ nI k ≠ skip) X Y cw ew y0 q v C e k → (∀ j, j < k → ¬ cank (fun k => k < n ∧ nI k ≠ skip) X Y cw ew y0 q v C e j) → B_X8_conflictsWith_154 K many st cf (nI (q + 1)) (nI k) s) :
    ∃ m : Nat, L_X8_conflictsWith_84 K many B st cf skip (nI v) (nI (q + 1)) s m 0 := by
  have hG' := hG
  obtain ⟨ho, h104, hn, hst⟩ := hG'
  have hw : ∀ k, (k < n ∧ nI k ≠ skip) → -4398046511104 ≤ wsc 1000 cw ew k ∧ wsc 1000 cw ew k ≤ 4398046511104 := fun k h => (hst k h.1).2.2.2.2.1
  obtain ⟨k0, hk0⟩ := can_step hcan
  refine ml1 (F := LB_X8_conflictsWith_84 K many B st cf skip (nI v) (nI (q + 1)) s) (I := fun z => ∃ i : Nat, i < n ∧ z = nI i ∧ ∀ j, j < i → ¬ cank (fun k => k < n ∧ nI k ≠ skip) X Y cw ew y0 q v C e j) (μ := fun z => n - z.toNatClampNeg) ?_ 0 ⟨0, by have := hk0.1.1; omega, rfl, fun j hj => absurd hj (by omega)⟩
  rintro z ⟨i, hi, rfl, hnot⟩ K2 hK2
  unfold LB_X8_conflictsWith_84 P_X8_many B_X8_conflictsWith_148
  rw [show (104 : Int32).toNatClampNeg = 0 + 104 from rfl, h104, nI_1]
  refine ⟨vin (n := 104) (by omega) (by omega), ?_⟩
  have hle : ∀ k, cank (fun k => k < n ∧ nI k ≠ skip) X Y cw ew y0 q v C e k → i ≤ k := fun k h => by
    by_cases hh : k < i
    · exact absurd h (hnot k hh)
    · omega
  by_cases hin : i + 1 = n
  · refine br_t (nI_le (by omega) (by omega)) (hk i hi ?_ hnot)
    have h1 := hle k0 hk0
    have h2 := hk0.1.1
    have e : k0 = i := by omega
    rw [← e]; exact hk0
  · obtain ⟨e1, e2, hX, hY, -, -⟩ := hst i hi
    have hmu : n - (nI (i + 1)).toNatClampNeg < n - (nI i).toNatClampNeg := by rw [nI_c (by omega), nI_c (by omega)]; omega
    have nx : ¬ cank (fun k => k < n ∧ nI k ≠ skip) X Y cw ew y0 q v C e i → K2 (nI (i + 1)) := fun hc => by
      refine hK2 _ ⟨i + 1, by omega, rfl, fun j hj => ?_⟩ hmu
      by_cases ej : j = i
      · subst ej; exact hc
      · exact hnot j (by omega)
    rw [show (24 : Int32) = nI 24 from rfl, nI_add, nI_c (show 24 + i ≤ 2147483647 by omega), show 24 + i = 0 + 24 + i by omega, e1]
    have hew := he i hi
    have hiff := hB.can (fun k h => he k h.1) (by omega) hX (C := C + cw i) (e := e + (ew i : Int)) (by omega) (by omega)
    have hz0 : (0 : Int64).toInt = 0 := by decide
    refine br_f (nI_ge (by omega) (by omega)) (br_c (fun hsk => nx (fun hc => hc.1.2 hsk)) (fun hsk => ⟨vin (by omega) (by omega), ⟨fun hy => nx (fun hc => hy (by rw [hc.2.1])), fun hy => ?_⟩⟩))
    have hyv : Y i = v := (nI_eq (by omega) (by omega)).mp hy
    refine s_follow hG hq hB hi (fun hz => br_t (by decide) (nx (fun hc => (hiff.mpr hc.2.2).1 hz))) (fun r hz hr => ?_)
    obtain ⟨b1, b2⟩ := hB.rng hw (by omega) hX hz
    have b1 : -43980465111040 ≤ (B (10 * q + X i)).toInt := b1
    have b2 : (B (10 * q + X i)).toInt ≤ 43980465111040 := b2
    obtain ⟨w1, w2⟩ := hw i ⟨hi, hsk⟩
    have hrf : ¬ (1000000000000000000 : Int64) ≤ r := by
      rw [Int64.le_iff_toInt_le, hr]
      have : (1000000000000000000 : Int64).toInt = 1000000000000000000 := by decide
      omega
    refine br_f hrf (s_follow hG hq hB hi (fun hz2 => absurd hz2 hz) (fun r2 _ hr2 => ?_))
    have s2 : (s + r2).toInt = s.toInt + (wsc 1000 cw ew i + (B (10 * q + X i)).toInt) := by rw [l_add (by rw [hr2]; omega) (by rw [hr2]; omega), hr2]
    refine br_c (fun hlt => hk i hi ⟨⟨hi, hsk⟩, hyv, hiff.mp ⟨hz, ?_⟩⟩ hnot) (fun hlt => nx (fun hc => ?_))
    · rw [Int64.lt_iff_toInt_lt, s2, hz0, hs] at hlt
      unfold wsc at hlt
      show 1000 * (C + cw i) - (e + (ew i : Int)) + (B (10 * q + X i)).toInt < 0
      omega
    · rw [Int64.lt_iff_toInt_lt, s2, hz0, hs] at hlt
      have h3 : 1000 * (C + cw i) - (e + (ew i : Int)) + (B (10 * q + X i)).toInt < 0 := (hiff.mpr hc.2.2).2
      unfold wsc at hlt
      omega
set_option maxHeartbeats 2000000 in
theorem s_conflictsWith (hG : RfG 0 n X Y (wsc 1000 cw ew) st) (he : ∀ k, k < n → ew k ≤ 1) {B : Nat → Int64} {x0 : Nat} (hx : x0 < 10) (hy0 : y0 < 10) {C e : Int} {s : Int64} (hs : s.toInt = 1000 * C - e) (hr1 : -100000000000000 ≤ s.toInt) (hr2 : s.toInt ≤ 100000000000000) (h0 : 0 ≤ e) (h1 : e ≤ 1)
    (hcan : ∃ r, 1 ≤ r ∧ r ≤ 9 ∧ can (fun k => k < n ∧ nI k ≠ skip) X Y cw ew y0 r x0 C e) {cf : Nat → Int32} {post : Int32 → (Nat → Int64) → (Nat → Int32) → Prop}
    (hp : ∀ (l : List Nat) (cf' : Nat → Int32) (B' : Nat → Int64), Cf (fun k => k < n ∧ nI k ≠ skip) X Y cw ew x0 y0 C e l → (∀ j, j < l.length → cf' j = nI (l.getD j 0)) → post (nI l.length) B' cf') : P_X8_conflictsWith post B st cf (nI x0) (nI y0) skip s := by
  have hG' := hG
  obtain ⟨ho, h104, hn, hst⟩ := hG'
  have hw : ∀ k, (k < n ∧ nI k ≠ skip) → -4398046511104 ≤ wsc 1000 cw ew k ∧ wsc 1000 cw ew k ≤ 4398046511104 := fun k h => (hst k h.1).2.2.2.2.1
  unfold P_X8_conflictsWith
  refine s_behindAll hG hy0 (fun B1 hB => ?_)
  have hz0 : (0 : Int64).toInt = 0 := by decide
  obtain ⟨rr, hr1', hr9, hrc⟩ := hcan
  refine ml1 (F := LB_X8_conflictsWith_10 post B1 st cf (nI x0) skip s) (I := fun z => ∃ q : Nat, 1 ≤ q ∧ q ≤ rr ∧ z = nI q ∧ ∀ j, 1 ≤ j → j < q → ¬ can (fun k => k < n ∧ nI k ≠ skip) X Y cw ew y0 j x0 C e) (μ := fun z => 10 - z.toNatClampNeg) ?_ 1 ⟨1, by omega, by omega, rfl, fun j h1 h2 => by omega⟩
  rintro z ⟨q, hq1, hq2, rfl, hnc⟩ K hK
  unfold LB_X8_conflictsWith_10 B_X8_conflictsWith_61 B_X8_conflictsWith_55
  rw [show (10 : Int32) = nI 10 from rfl, pk_mul, nI_add, nI_c (show 10 * q + x0 ≤ 2147483647 by omega)]
  have hiff := (hB q (by omega)).can (fun k h => he k h.1) (by omega) hx (C := C) (e := e) (by omega) (by omega)
  have nx : ¬ can (fun k => k < n ∧ nI k ≠ skip) X Y cw ew y0 q x0 C e → K (nI q + 1) := fun hc => by
    have hne : q ≠ rr := fun e => hc (by rw [e]; exact hrc)
    refine hK _ ⟨q + 1, by omega, by omega, nI_1 _, fun j a b => ?_⟩ (by rw [nI_1, nI_c (by omega), nI_c (by omega)]; omega)
    by_cases ej : j = q
    · subst ej; exact hc
    · exact hnc j a (by omega)
  refine br_f (nI_ge (by omega) (by omega)) ⟨vin (by omega) (by omega), ?_⟩
  by_cases hz : B1 (10 * q + x0) = FARL
  · rw [hz]
    exact br_t (by decide) (nx (fun hc => (hiff.mpr hc).1 hz))
  · obtain ⟨b1, b2⟩ := (hB q (by omega)).rng hw (by omega) hx hz
    have b1 : -43980465111040 ≤ (B1 (10 * q + x0)).toInt := b1
    have b2 : (B1 (10 * q + x0)).toInt ≤ 43980465111040 := b2
    have hsum : (B1 (10 * q + x0) + s).toInt = (B1 (10 * q + x0)).toInt + s.toInt := l_add (by omega) (by omega)
    refine br_f (far_le hz (by omega)) ⟨vin (by omega) (by omega), br_c (fun hlt => ?_) (fun hlt => nx (fun hc => ?_))⟩
    · rw [Int64.lt_iff_toInt_lt, hsum, hz0] at hlt
      have hc := hiff.mp ⟨hz, by omega⟩
      refine ml5 (F := LB_X8_conflictsWith_76 post B1 st skip) (I := fun sz rw y8 x7 x10 => ∃ (r' v : Nat) (C' e' : Int) (d : List Nat), d.length + r' = q ∧ sz = nI d.length ∧ x10 = nI r' ∧ x7 = nI v ∧ v < 10 ∧ y8.toInt = 1000 * C' - e' ∧ (-100000000000000 - 4398046511104 * (d.length : Int) ≤ y8.toInt ∧ y8.toInt ≤ 100000000000000 + 4398046511104 * (d.length : Int)) ∧ 0 ≤ e' ∧ e' ≤ 1 + (d.length : Int) ∧ can (fun k => k < n ∧ nI k ≠ skip) X Y cw ew y0 r' v C' e' ∧ (∀ l', Tr (fun k => k < n ∧ nI k ≠ skip) X Y cw ew y0 r' v C' e' l' → Tr (fun k => k < n ∧ nI k ≠ skip) X Y cw ew y0 q x0 C e (d ++ l')) ∧ ∀ j, j < d.length → rw j = nI (d.getD j 0)) (μ := fun _ _ _ _ x10 => x10.toNatClampNeg) ?_ _ _ _ _ _ ⟨q, x0, C, e, [], by simp, rfl, rfl, rfl, hx, hs, by simpa using ⟨hr1, hr2⟩, h0, by simpa using h1, hc, fun l' h => h, fun j hj => by simp at hj⟩
      rintro sz rw y8 x7 x10 ⟨r', v, C', e', d, hd, rfl, rfl, rfl, hv, hy, ⟨hb1, hb2⟩, he0, he1, hc', hT, hrow⟩ K2 hK2
      unfold LB_X8_conflictsWith_76
      cases r' with
      | zero =>
        refine br_t (by decide) ?_
        have := hT [] rfl
        rw [List.append_nil] at this
        exact hp d rw B1 ⟨q, hq1, by omega, hc, hnc, this⟩ hrow
      | succ p =>
        have hgt : ¬ nI (p + 1) ≤ 0 := show ¬ nI (p + 1) ≤ nI 0 from nI_ge (by omega) (by omega)
        refine br_f hgt (s_confStep hG he (by omega) (hB p (by omega)) hv hy (by omega) (by omega) he0 (by omega) hc' (fun k hk hck hfirst => ?_))
        obtain ⟨e1, e2, hX, hY, hwk, hwg⟩ := hst k hk
        rw [Nat.zero_add] at e2
        unfold B_X8_conflictsWith_154
        refine ⟨vin (by omega) (by omega), hwg _ (fun r2 hr2 => ⟨vin (by omega) (by omega), ?_⟩)⟩
        rw [nI_c (show k ≤ 2147483647 by omega), nI_c (show d.length ≤ 2147483647 by omega), nI_1, e2, i_am1, nI_pred]
        have hew := he k hk
        have hsum : (y8 + r2).toInt = y8.toInt + wsc 1000 cw ew k := by rw [l_add (by rw [hr2]; omega) (by rw [hr2]; omega), hr2]
        have hlen : (d ++ [k]).length = d.length + 1 := by simp
        refine hK2 _ _ _ _ _ ⟨p, X k, C' + cw k, e' + (ew k : Int), d ++ [k], by rw [hlen]; omega, by rw [hlen], rfl, rfl, hX, ?_, ?_, by omega, by rw [hlen]; omega, hck.2.2, fun l' hl' => ?_, fun j hj => ?_⟩ ?_
        · rw [hsum, hy]; unfold wsc; omega
        · rw [hsum, hlen]; omega
        · rw [List.append_assoc]
          exact hT _ ⟨k, l', rfl, hck, hfirst, hl'⟩
        · rw [hlen] at hj
          by_cases ej : j = d.length
          · subst ej; rw [pk_us, getD_last]
          · rw [pk_un ej, getD_snoc (by omega)]; exact hrow j (by omega)
        · rw [nI_c (by omega), nI_c (by omega)]; omega
    · rw [Int64.lt_iff_toInt_lt, hsum, hz0] at hlt
      have h3 : 1000 * C - e + (B1 (10 * q + x0)).toInt < 0 := (hiff.mpr hc).2
      omega
end CW
