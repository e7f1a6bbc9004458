/-! the class's CONFLICT, the row taken and the search -/
section CL2
variable {n : Nat} {X Y : Nat → Nat} {cw : Nat → Int} {ew : Nat → Nat} {wh size skip : Int32} {lower limits stricts upper : Nat → Int32} {y0 : Nat}
theorem i_am1 (a : Int32) : a + (-1 : Int32) = a - 1 := (Int32.sub_eq_add_neg a 1).symm
theorem getD_snoc {l : List Nat} {k j : Nat} (h : j < l.length) : (l ++ [k]).getD j 0 = l.getD j 0 := by simp [List.getD, List.getElem?_append_left h]
theorem getD_last {l : List Nat} {k : Nat} : (l ++ [k]).getD l.length 0 = k := by simp [List.getD]
set_option maxHeartbeats 2000000 in
theorem s_trace (hG : StG n X Y (wsc 1024 cw ew) wh size lower limits stricts upper) (he : ∀ k, k < n → ew k ≤ 1) {r : Nat} (hr : r ≤ 9) {M : Nat → Nat → Int64} (hM : ∀ j, j < r → TB1024 (fun k => k < n ∧ nI k ≠ skip) X Y cw ew y0 j (M j)) {x0 : Nat} (hx : x0 < 10) {C e : Int} {s : Int64} (hs : s.toInt = 1024 * C - e) (hr1 : -100000000000000 ≤ s.toInt) (hr2 : s.toInt ≤ 100000000000000) (h0 : 0 ≤ e) (h1 : e ≤ 1)
    (hcan : can (fun k => k < n ∧ nI k ≠ skip) X Y cw ew y0 r x0 C e) {row : Nat → Int32} {post : Int32 → (Nat → Int32) → Prop}
    (hp : ∀ (l : List Nat) (row' : Nat → Int32), Tr (fun k => k < n ∧ nI k ≠ skip) X Y cw ew y0 r x0 C e l → (∀ j, j < l.length → row' j = nI (l.getD j 0)) → post (nI l.length) row') : P_X0_trace post size wh 0 upper lower limits stricts row M (nI x0) (nI r) skip s := by
  have hG' := hG
  obtain ⟨hsz, hn, hst⟩ := hG'
  unfold P_X0_trace
  refine ml5 (F := LB_X0_trace_12 post size wh upper lower limits stricts M skip) (I := fun sz rw x7 y8 x10 => ∃ (rr v : Nat) (C' e' : Int) (d : List Nat), d.length + rr = r ∧ sz = nI d.length ∧ x10 = nI rr - 1 ∧ x7 = nI v ∧ v < 10 ∧ y8.toInt = 1024 * C' - e' ∧ (-100000000000000 - 4398046511104 * (d.length : Int) ≤ y8.toInt ∧ y8.toInt ≤ 100000000000000 + 4398046511104 * (d.length : Int)) ∧ 0 ≤ e' ∧ e' ≤ 1 + (d.length : Int) ∧ can (fun k => k < n ∧ nI k ≠ skip) X Y cw ew y0 rr v C' e' ∧ (∀ l', Tr (fun k => k < n ∧ nI k ≠ skip) X Y cw ew y0 rr v C' e' l' → Tr (fun k => k < n ∧ nI k ≠ skip) X Y cw ew y0 r x0 C e (d ++ l')) ∧ ∀ j, j < d.length → rw j = nI (d.getD j 0)) (μ := fun _ _ _ _ x10 => (x10 + 1).toNatClampNeg) ?_ _ _ _ _ _ ⟨r, x0, C, e, [], by simp, rfl, rfl, rfl, hx, hs, by simpa using ⟨hr1, hr2⟩, h0, by simpa using h1, hcan, fun l' h => h, fun j hj => by simp at hj⟩
  rintro sz rw x7 y8 x10 ⟨rr, v, C', e', d, hd, rfl, rfl, rfl, hv, hy, ⟨hb1, hb2⟩, he0, he1, hc, hT, hrow⟩ K hK
  unfold LB_X0_trace_12
  cases rr with
  | zero =>
    refine br_t (by decide) ?_
    have := hT [] rfl
    rw [List.append_nil] at this
    exact hp d rw this hrow
  | succ q =>
    rw [nI_pred] at hK ⊢
    have hz : ¬ nI q < 0 := Int32.not_lt.mpr (show nI 0 ≤ nI q from nI_le (Nat.zero_le _) (by omega))
    refine br_f hz (s_firstStep hG he (by omega) (hM q (by omega)) hv hy (by omega) (by omega) he0 (by omega) (fun k hk hck hfirst => ?_) (fun hno => ?_))
    · have hk0 : (0 : Int32) ≤ nI k := (show nI 0 ≤ nI k from nI_le (Nat.zero_le _) (by omega))
      obtain ⟨e1, e2, hX, hY, hw, -⟩ := hst k hk
      refine br_t hk0 ⟨vin (by omega) (by omega), s_weightOf hG hk (fun r2 hr2 => ⟨vin (by omega) (by omega), ?_⟩)⟩
      rw [nI_c (show k ≤ 2147483647 by omega), nI_c (show d.length ≤ 2147483647 by omega), nI_1, e2, i_am1]
      have hew := he k hk
      have hsum : (y8 + r2).toInt = y8.toInt + wsc 1024 cw ew k := by rw [l_add (by rw [hr2]; omega) (by rw [hr2]; omega), hr2]
      have hlen : (d ++ [k]).length = d.length + 1 := by simp
      refine hK _ _ _ _ _ ⟨q, X k, C' + cw k, e' + (ew k : Int), d ++ [k], by rw [hlen]; omega, by rw [hlen], rfl, rfl, hX, ?_, ?_, by omega, by rw [hlen]; omega, hck.2.2, fun l' hl' => ?_, fun j hj => ?_⟩ ?_
      · rw [hsum, hy]; unfold wsc; omega
      · rw [hsum, hlen]; omega
      · rw [List.append_assoc]
        exact hT _ ⟨k, l', rfl, hck, hfirst, hl'⟩
      · rw [hlen] at hj
        by_cases ej : j = d.length
        · subst ej; rw [pk_us, getD_last]
        · rw [pk_un ej, getD_snoc (by omega)]; exact hrow j (by omega)
      · rw [show nI q - 1 + 1 = nI q from Int32.sub_add_cancel _ _, nI_1, nI_c (by omega), nI_c (by omega)]; omega
    · obtain ⟨k, hk⟩ := can_step hc
      exact absurd hk (hno k)
set_option maxHeartbeats 2000000 in
theorem s_find (hG : StG n X Y (wsc 1024 cw ew) wh size lower limits stricts upper) (he : ∀ k, k < n → ew k ≤ 1) {M : Nat → Nat → Int64} {x0 : Nat} (hx : x0 < 10) (hy0 : y0 < 10) {C e : Int} {s : Int64} (hs : s.toInt = 1024 * C - e) (hr1 : -100000000000000 ≤ s.toInt) (hr2 : s.toInt ≤ 100000000000000) (h0 : 0 ≤ e) (h1 : e ≤ 1)
    {row : Nat → Int32} {post : Int32 → (Nat → Int32) → (Nat → Nat → Int64) → Prop}
    (hp : ∀ (l : List Nat) (row' : Nat → Int32) (M' : Nat → Nat → Int64), Cf (fun k => k < n ∧ nI k ≠ skip) X Y cw ew x0 y0 C e l → (∀ j, j < l.length → row' j = nI (l.getD j 0)) → post (nI l.length) row' M')
    (hno : ∀ M' : Nat → Nat → Int64, (∀ r, 1 ≤ r → r ≤ 9 → ¬ can (fun k => k < n ∧ nI k ≠ skip) X Y cw ew y0 r x0 C e) → post 0 row M') : P_X0_find post size wh upper lower limits stricts row M (nI x0) (nI y0) skip s := by
  have hG' := hG
  obtain ⟨hsz, hn, hst⟩ := hG'
  have hw : ∀ k, (k < n ∧ nI k ≠ skip) → -4398046511104 ≤ wsc 1024 cw ew k ∧ wsc 1024 cw ew k ≤ 4398046511104 := fun k h => (hst k h.1).2.2.2.2.1
  unfold P_X0_find
  refine ⟨vin (n := 0) (by omega) (by omega), s_fillJ (by omega) (fun a ha => ⟨vin (n := 0) (by omega) (by omega), vin hy0 (by omega), ?_⟩)⟩
  rw [nI_c (show y0 ≤ 2147483647 by omega), va_up_self]
  refine ml2 (F := LB_X0_find_29 post 0 size wh upper lower limits stricts row (nI x0) skip s) (I := fun M' z => ∃ q : Nat, 1 ≤ q ∧ q ≤ 10 ∧ z = nI q ∧ (∀ j, j < q → TB1024 (fun k => k < n ∧ nI k ≠ skip) X Y cw ew y0 j (M' j)) ∧ ∀ j, 1 ≤ j → j < q → ¬ can (fun k => k < n ∧ nI k ≠ skip) X Y cw ew y0 j x0 C e) (μ := fun _ z => 10 - z.toNatClampNeg) ?_ _ 1 ⟨1, by omega, by omega, rfl, fun j hj => ?_, fun j h1 h2 => by omega⟩
  · rintro M' z ⟨q, hq1, hq2, rfl, hT, hnc⟩ K hK
    unfold LB_X0_find_29 B_X0_find_91
    by_cases hq : q = 10
    · subst hq
      exact br_t (by decide) (hno M' (fun r a b => hnc r a (by omega)))
    · obtain ⟨p, rfl⟩ : ∃ p, q = p + 1 := ⟨q - 1, by omega⟩
      refine br_f (nI_ge (a := p + 1) (b := 10) (by omega) (by omega)) (s_lengthen hG (by omega) (hT p (by omega)) (fun M2 hoth h2 => ⟨vin (by omega) (by omega), vin hx (by omega), ?_⟩))
      rw [nI_c (show p + 1 ≤ 2147483647 by omega), nI_c (show x0 ≤ 2147483647 by omega)]
      have hT2 : ∀ j, j < p + 1 + 1 → TB1024 (fun k => k < n ∧ nI k ≠ skip) X Y cw ew y0 j (M2 j) := fun j hj => by
        by_cases ej : j = p + 1
        · subst ej; exact h2
        · rw [hoth j ej]; exact hT j (by omega)
      have hiff := h2.can (fun k h => he k h.1) (by omega) hx (C := C) (e := e) (by omega) (by omega)
      have nx : ¬ can (fun k => k < n ∧ nI k ≠ skip) X Y cw ew y0 (p + 1) x0 C e → K M2 (nI (p + 1) + 1) := fun hc => by
        refine hK _ _ ⟨p + 1 + 1, by omega, by omega, nI_1 _, hT2, fun j a b => ?_⟩ ?_
        · by_cases ej : j = p + 1
          · subst ej; exact hc
          · exact hnc j a (by omega)
        · rw [nI_1, nI_c (by omega), nI_c (by omega)]; omega
      have hz0 : (0 : Int64).toInt = 0 := by decide
      refine br_c (fun hz => nx (fun hc => (hiff.mpr hc).1 hz)) (fun hz => ⟨vin (by omega) (by omega), vin hx (by omega), ?_⟩)
      obtain ⟨b1, b2⟩ := h2.rng hw (by omega) hx hz
      have hsum : (M2 (p + 1) x0 + s).toInt = (M2 (p + 1) x0).toInt + s.toInt := l_add (by omega) (by omega)
      refine br_c (fun hle => nx (fun hc => ?_)) (fun hle => ?_)
      · rw [Int64.le_iff_toInt_le, hsum, hz0] at hle
        have := (hiff.mpr hc).2
        omega
      · rw [Int64.le_iff_toInt_le, hsum, hz0] at hle
        have hc := hiff.mp ⟨hz, by omega⟩
        exact s_trace hG he (by omega) (fun j hj => hT2 j (by omega)) hx hs hr1 hr2 h0 h1 hc (fun l row' hl hr => hp l row' M2 ⟨p + 1, by omega, by omega, hc, fun j a b => hnc j a b, hl⟩ hr)
  · obtain rfl : j = 0 := by omega
    have key : TB1024 (fun k => k < n ∧ nI k ≠ skip) X Y cw ew y0 0 (vp_updL a y0 0) := ?_
    · show TB1024 (fun k => k < n ∧ nI k ≠ skip) X Y cw ew y0 0 (va_up (va_up M 0 a) 0 (vp_updL a y0 0) 0)
      rw [va_up_self]
      exact key
    intro v hv
    by_cases ev : v = y0
    · subst ev
      rw [pk_uLs]
      right
      refine ⟨by decide, ⟨[], rfl, rfl, rfl⟩, fun l hl _ => ?_⟩
      rw [List.eq_nil_of_length_eq_zero hl]
      exact Int.le_of_eq (show (0 : Int64).toInt = 0 from by decide)
    · rw [pk_uLn ev]
      left
      refine ⟨ha v hv, fun l hl hp => ?_⟩
      rw [List.eq_nil_of_length_eq_zero hl] at hp
      exact ev hp
end CL2
