/-! the reference's CONFLICT: the rows behind -/
section BH
variable {n : Nat} {X Y : Nat → Nat} {cw : Nat → Int} {ew : Nat → Nat} {st : Nat → Int32} {skip : Int32} {y0 : Nat}
theorem far_le {a : Int64} (h : a ≠ FARL) (h2 : a.toInt < 1000000000000000000) : ¬ (1000000000000000000 : Int64) ≤ a := by
  rw [Int64.le_iff_toInt_le]
  have : (1000000000000000000 : Int64).toInt = 1000000000000000000 := by decide
  omega
theorem s_follow (hG : RfG 0 n X Y (wsc 1000 cw ew) st) {p : Nat} (hp : p ≤ 9) {B : Nat → Int64} (hB : TB1000 (fun k => k < n ∧ nI k ≠ skip) X Y cw ew y0 p (fun v => B (10 * p + v))) {k : Nat} (hk : k < n) {post : Int64 → Prop}
    (h1 : B (10 * p + X k) = FARL → post FARL) (h2 : ∀ r : Int64, B (10 * p + X k) ≠ FARL → r.toInt = wsc 1000 cw ew k + (B (10 * p + X k)).toInt → post r) : P_X8_follow post st B (nI k) (nI (p + 1)) := by
  obtain ⟨ho, h104, hn, hs⟩ := hG
  have hw : ∀ k, (k < n ∧ nI k ≠ skip) → -4398046511104 ≤ wsc 1000 cw ew k ∧ wsc 1000 cw ew k ≤ 4398046511104 := fun k h => (hs k h.1).2.2.2.2.1
  obtain ⟨e1, e2, hX, hY, hwk, hwg⟩ := hs k hk
  rw [Nat.zero_add] at e2
  unfold P_X8_follow
  rw [nI_pred, nI_c (show k ≤ 2147483647 by omega), e2, show (10 : Int32) = nI 10 from rfl, pk_mul, nI_add, nI_c (show 10 * p + X k ≤ 2147483647 by omega)]
  refine ⟨vin (by omega) (by omega), vin (by omega) (by omega), ?_⟩
  by_cases hz : B (10 * p + X k) = FARL
  · rw [hz]
    exact br_t (by decide) (h1 hz)
  · obtain ⟨b1, b2⟩ := hB.rng hw (by omega) hX hz
    have b1 : -43980465111040 ≤ (B (10 * p + X k)).toInt := b1
    have b2 : (B (10 * p + X k)).toInt ≤ 43980465111040 := b2
    refine br_f (far_le hz (by omega)) (hwg _ (fun r hr => h2 _ hz ?_))
    rw [l_add (by rw [hr]; omega) (by rw [hr]; omega), hr]
theorem TB_congr {E : Nat → Prop} {r : Nat} {f g : Nat → Int64} (h : TB1000 E X Y cw ew y0 r f) (e : ∀ v, v < 10 → g v = f v) : TB1000 E X Y cw ew y0 r g := fun v hv => by
  rw [e v hv]; exact h v hv
set_option maxHeartbeats 4000000 in
theorem s_behindRow (hG : RfG 0 n X Y (wsc 1000 cw ew) st) {p : Nat} (hp : p ≤ 9) {B : Nat → Int64} (hB : TB1000 (fun k => k < n ∧ nI k ≠ skip) X Y cw ew y0 p (fun v => B (10 * p + v))) {K : (Nat → Int64) → Int32 → Prop}
    (hK : ∀ B' : Nat → Int64, (∀ j, j < 10 * (p + 1) → B' j = B j) → TB1000 (fun k => k < n ∧ nI k ≠ skip) X Y cw ew y0 (p + 1) (fun v => B' (10 * (p + 1) + v)) → K B' (nI (p + 1) + 1)) : ∃ m : Nat, L_X8_behindAll_43 K st skip (nI (p + 1)) m B 0 := by
  have hG' := hG
  obtain ⟨ho, h104, hn, hs⟩ := hG'
  have hw : ∀ k, (k < n ∧ nI k ≠ skip) → -4398046511104 ≤ wsc 1000 cw ew k ∧ wsc 1000 cw ew k ≤ 4398046511104 := fun k h => (hs k h.1).2.2.2.2.1
  have hE : ∀ k, (k < n ∧ nI k ≠ skip) → k < n ∧ X k < 10 ∧ Y k < 10 := fun k h => ⟨h.1, (hs k h.1).2.2.1, (hs k h.1).2.2.2.1⟩
  refine ml2 (F := LB_X8_behindAll_43 K st skip (nI (p + 1))) (I := fun B' z => ∃ i : Nat, i ≤ 10 ∧ z = nI i ∧ (∀ j, j < 10 * (p + 1) → B' j = B j) ∧ ∀ v, v < i → B' (10 * (p + 1) + v) = FARL) (μ := fun _ z => 10 - z.toNatClampNeg) ?_ B 0 ⟨0, by omega, rfl, fun _ _ => rfl, fun v hv => absurd hv (by omega)⟩
  rintro B1 z ⟨i, hi, rfl, hoth, hfar⟩ K1 hK1
  unfold LB_X8_behindAll_43
  by_cases h10 : i = 10
  · subst h10
    refine br_t (by decide) ?_
    refine ml2 (F := LB_X8_behindAll_74 K st skip (nI (p + 1))) (I := fun B' z => ∃ i : Nat, i ≤ n ∧ z = nI i ∧ (∀ j, j < 10 * (p + 1) → B' j = B j) ∧ ∀ v, v < 10 → (B' (10 * (p + 1) + v) = FARL ∧ ∀ k, k < i → nI k ≠ skip → Y k = v → B (10 * p + X k) = FARL) ∨ (B' (10 * (p + 1) + v) ≠ FARL ∧ (∃ k, k < i ∧ nI k ≠ skip ∧ Y k = v ∧ B (10 * p + X k) ≠ FARL ∧ (B' (10 * (p + 1) + v)).toInt = wsc 1000 cw ew k + (B (10 * p + X k)).toInt) ∧ ∀ k, k < i → nI k ≠ skip → Y k = v → B (10 * p + X k) ≠ FARL → (B' (10 * (p + 1) + v)).toInt ≤ wsc 1000 cw ew k + (B (10 * p + X k)).toInt)) (μ := fun _ z => n - z.toNatClampNeg) ?_ B1 0 ⟨0, by omega, rfl, hoth, fun v hv => Or.inl ⟨hfar v hv, fun k h => absurd h (by omega)⟩⟩
    rintro B2 z ⟨i, hi, rfl, hoth, hrow⟩ K2 hK2
    unfold LB_X8_behindAll_74 P_X8_many B_X8_behindAll_119 B_X8_behindAll_152
    rw [show (104 : Int32).toNatClampNeg = 0 + 104 from rfl, h104]
    refine ⟨vin (n := 104) (by omega) (by omega), ?_⟩
    by_cases hin : i = n
    · subst hin
      refine br_t (nI_le (Nat.le_refl _) (by omega)) (hK B2 hoth (hB.step hE (fun v hv => ?_)))
      rcases hrow v hv with ⟨e, h⟩ | ⟨e, ⟨k, a1, a2, a3, a4, a5⟩, h⟩
      · exact Or.inl ⟨e, fun k hk hy => h k hk.1 hk.2 hy⟩
      · exact Or.inr ⟨e, ⟨k, ⟨a1, a2⟩, a3, a4, a5⟩, fun k hk hy hf => h k hk.1 hk.2 hy hf⟩
    · have hlt : i < n := by omega
      obtain ⟨e1, e2, hX, hY, -, -⟩ := hs i hlt
      have hmu : n - (nI i + 1).toNatClampNeg < n - (nI i).toNatClampNeg := by rw [nI_1, nI_c (by omega), nI_c (by omega)]; omega
      rw [show (24 : Int32) = nI 24 from rfl, nI_add, nI_c (show 24 + i ≤ 2147483647 by omega), show 24 + i = 0 + 24 + i by omega, e1, show (10 : Int32) = nI 10 from rfl, pk_mul, nI_add, nI_c (show 10 * (p + 1) + Y i ≤ 2147483647 by omega)]
      have va : vp_in (nI (10 * (p + 1) + Y i)) 110 := vin (by omega) (by omega)
      have same : ∀ j, vp_updL B2 (10 * (p + 1) + Y i) (B2 (10 * (p + 1) + Y i)) j = B2 j := fun j => by
        by_cases e : j = 10 * (p + 1) + Y i
        · subst e; exact pk_uLs
        · exact pk_uLn e
      have hBp : ∀ k, k < n → B2 (10 * p + X k) = B (10 * p + X k) := fun k hk => hoth _ (by have := (hs k hk).2.2.1; omega)
      have hB2 : TB1000 (fun k => k < n ∧ nI k ≠ skip) X Y cw ew y0 p (fun v => B2 (10 * p + v)) := TB_congr hB (fun v hv => hoth _ (by omega))
      -- the entry stays
      have stay : (nI i ≠ skip → B (10 * p + X i) ≠ FARL → B2 (10 * (p + 1) + Y i) ≠ FARL ∧ (B2 (10 * (p + 1) + Y i)).toInt ≤ wsc 1000 cw ew i + (B (10 * p + X i)).toInt) → K2 (vp_updL B2 (10 * (p + 1) + Y i) (B2 (10 * (p + 1) + Y i))) (nI i + 1) := fun hh => by
        refine hK2 _ _ ⟨i + 1, by omega, nI_1 i, fun j hj => by rw [same]; exact hoth j hj, fun v hv => ?_⟩ hmu
        rw [same]
        rcases hrow v hv with ⟨e, h⟩ | ⟨e, ⟨k, a1, a2, a3, a4, a5⟩, h⟩
        · left
          refine ⟨e, fun k hk hsk hy => ?_⟩
          by_cases ek : k = i
          · subst ek
            by_cases hz : B (10 * p + X k) = FARL
            · exact hz
            · rw [hy] at hh
              exact absurd e (hh hsk hz).1
          · exact h k (by omega) hsk hy
        · right
          refine ⟨e, ⟨k, by omega, a2, a3, a4, a5⟩, fun k hk hsk hy hf => ?_⟩
          by_cases ek : k = i
          · subst ek; rw [hy] at hh; exact (hh hsk hf).2
          · exact h k (by omega) hsk hy hf
      have hB2far : ∀ v, v < 10 → (B2 (10 * (p + 1) + v)).toInt ≤ 1000000000000000000 := fun v hv => by
        rcases hrow v hv with ⟨e, -⟩ | ⟨-, ⟨k, a1, a2, a3, a4, a5⟩, -⟩
        · rw [e, far_t]; omega
        · obtain ⟨b1, b2⟩ := hB.rng hw (by omega) (hs k (by omega)).2.2.1 a4
          have b2 : (B (10 * p + X k)).toInt ≤ 43980465111040 := b2
          have := (hw k ⟨by omega, a2⟩).2
          omega
      refine br_f (nI_ge (by omega) (by omega)) ⟨vin (by omega) (by omega), ⟨fun hsk => ?_, fun hsk => ⟨va, br_c (fun hle => ⟨va, va, stay (fun h => absurd hsk h)⟩) (fun hle => absurd ?_ hle)⟩⟩⟩
      · refine s_follow hG hp hB2 hlt (fun hz => ⟨va, br_c (fun hle => ⟨va, va, stay (fun _ hf => absurd ((hBp i hlt).symm.trans hz) hf)⟩) (fun hle => absurd ?_ hle)⟩) (fun r hz hr => ⟨va, br_c (fun hle => ⟨va, va, stay (fun _ hf => ?_)⟩) (fun hle => ⟨va, ?_⟩)⟩)
        · rw [Int64.le_iff_toInt_le, far_t]; exact hB2far (Y i) hY
        · obtain ⟨b1, b2⟩ := hB.rng hw (by omega) hX hf
          have b2 : (B (10 * p + X i)).toInt ≤ 43980465111040 := b2
          have w2 := (hw i ⟨hlt, hsk⟩).2
          rw [Int64.le_iff_toInt_le, hr, hBp i hlt] at hle
          refine ⟨fun e => ?_, hle⟩
          rw [e, far_t] at hle
          omega
        · rw [hBp i hlt] at hz hr
          obtain ⟨b1, b2⟩ := hB.rng hw (by omega) hX hz
          have b2 : (B (10 * p + X i)).toInt ≤ 43980465111040 := b2
          have w2 := (hw i ⟨hlt, hsk⟩).2
          rw [Int64.le_iff_toInt_le, hr] at hle
          have hrne : r ≠ FARL := fun e => by rw [e, far_t] at hr; omega
          refine hK2 _ _ ⟨i + 1, by omega, nI_1 i, fun j hj => by rw [pk_uLn (by omega)]; exact hoth j hj, fun v hv => ?_⟩ hmu
          by_cases ev : v = Y i
          · subst ev
            rw [pk_uLs]
            right
            refine ⟨hrne, ⟨i, by omega, hsk, rfl, hz, hr⟩, fun k hk hs2 hy hf => ?_⟩
            by_cases ek : k = i
            · subst ek; exact Int.le_of_eq hr
            · rcases hrow (Y i) hv with ⟨e, h⟩ | ⟨e, -, h⟩
              · exact absurd (h k (by omega) hs2 hy) hf
              · have := h k (by omega) hs2 hy hf
                omega
          · rw [pk_uLn (by omega)]
            rcases hrow v hv with ⟨e, h⟩ | ⟨e, ⟨k, a1, a2, a3, a4, a5⟩, h⟩
            · left
              refine ⟨e, fun k hk hs2 hy => ?_⟩
              by_cases ek : k = i
              · subst ek; exact absurd hy.symm ev
              · exact h k (by omega) hs2 hy
            · right
              refine ⟨e, ⟨k, by omega, a2, a3, a4, a5⟩, fun k hk hs2 hy hf => ?_⟩
              by_cases ek : k = i
              · subst ek; exact absurd hy.symm ev
              · exact h k (by omega) hs2 hy hf
      · rw [Int64.le_iff_toInt_le]
        have := hB2far (Y i) hY
        have e : (1000000000000000000 : Int64).toInt = 1000000000000000000 := by decide
        omega
  · have hlt : i < 10 := by omega
    refine br_f (nI_ge (a := i) (b := 10) (by omega) (by omega)) ?_
    rw [show (10 : Int32) = nI 10 from rfl, pk_mul, nI_add, nI_c (show 10 * (p + 1) + i ≤ 2147483647 by omega)]
    refine ⟨vin (by omega) (by omega), hK1 _ _ ⟨i + 1, by omega, nI_1 i, fun j hj => by rw [pk_uLn (by omega)]; exact hoth j hj, fun v hv => ?_⟩ (by rw [nI_1, nI_c (by omega), nI_c (by omega)]; omega)⟩
    by_cases e : v = i
    · subst e; rw [pk_uLs]
    · rw [pk_uLn (by omega)]; exact hfar v (by omega)
set_option maxHeartbeats 4000000 in
theorem s_behindAll (hG : RfG 0 n X Y (wsc 1000 cw ew) st) (hy0 : y0 < 10) {B : Nat → Int64} {post : (Nat → Int64) → Prop}
    (hp : ∀ B' : Nat → Int64, (∀ q, q ≤ 10 → TB1000 (fun k => k < n ∧ nI k ≠ skip) X Y cw ew y0 q (fun v => B' (10 * q + v))) → post B') : P_X8_behindAll post B st (nI y0) skip := by
  unfold P_X8_behindAll
  refine ml2 (F := LB_X8_behindAll_2 post st (nI y0) skip) (I := fun B' z => ∃ i : Nat, i ≤ 10 ∧ z = nI i ∧ ∀ v, v < i → B' v = if v = y0 then 0 else FARL) (μ := fun _ z => 10 - z.toNatClampNeg) ?_ B 0 ⟨0, by omega, rfl, fun v hv => absurd hv (by omega)⟩
  rintro B1 z ⟨i, hi, rfl, hrow⟩ K hK
  unfold LB_X8_behindAll_2 B_X8_behindAll_25
  by_cases h10 : i = 10
  · subst h10
    refine br_t (by decide) ?_
    refine ml2 (F := LB_X8_behindAll_34 post st skip) (I := fun B' z => ∃ p : Nat, p ≤ 10 ∧ z = nI (p + 1) ∧ ∀ q, q ≤ p → TB1000 (fun k => k < n ∧ nI k ≠ skip) X Y cw ew y0 q (fun v => B' (10 * q + v))) (μ := fun _ z => 12 - z.toNatClampNeg) ?_ B1 1 ⟨0, by omega, rfl, fun q hq => ?_⟩
    · rintro B2 z ⟨p, hp10, rfl, hT⟩ K2 hK2
      unfold LB_X8_behindAll_34
      by_cases hpe : p = 10
      · subst hpe
        exact br_t (by decide) (hp B2 hT)
      · refine br_f (nI_ge (a := p + 1) (b := 11) (by omega) (by omega)) (s_behindRow hG (by omega) (hT p (by omega)) (fun B' hoth h' => hK2 _ _ ⟨p + 1, by omega, nI_1 _, fun q hq => ?_⟩ (by rw [nI_1, nI_c (by omega), nI_c (by omega)]; omega)))
        by_cases eq : q = p + 1
        · subst eq; exact h'
        · exact TB_congr (hT q (by omega)) (fun v hv => hoth _ (by omega))
    · obtain rfl : q = 0 := by omega
      intro v hv
      dsimp only
      rw [show 10 * 0 + v = v by omega, hrow v hv]
      by_cases ev : v = y0
      · rw [if_pos ev]
        right
        refine ⟨by decide, ⟨[], rfl, ev, rfl⟩, fun l hl _ => ?_⟩
        rw [List.eq_nil_of_length_eq_zero hl]
        exact Int.le_of_eq (show (0 : Int64).toInt = 0 from by decide)
      · rw [if_neg ev]
        left
        refine ⟨rfl, fun l hl hp => ?_⟩
        rw [List.eq_nil_of_length_eq_zero hl] at hp
        exact ev hp
  · have hlt : i < 10 := by omega
    have hmu : 10 - (nI i + 1).toNatClampNeg < 10 - (nI i).toNatClampNeg := by rw [nI_1, nI_c (by omega), nI_c (by omega)]; omega
    refine br_f (nI_ge (a := i) (b := 10) (by omega) (by omega)) ⟨fun hne => ⟨vin (by omega) (by omega), ?_⟩, fun he => ⟨vin (by omega) (by omega), ?_⟩⟩
    · rw [nI_c (by omega)]
      have hne : i ≠ y0 := fun e => hne (by rw [e])
      refine hK _ _ ⟨i + 1, by omega, nI_1 i, fun v hv => ?_⟩ hmu
      by_cases e : v = i
      · subst e; rw [pk_uLs, if_neg hne]
      · rw [pk_uLn e]; exact hrow v (by omega)
    · rw [nI_c (by omega)]
      have he : i = y0 := (nI_eq (by omega) (by omega)).mp he
      refine hK _ _ ⟨i + 1, by omega, nI_1 i, fun v hv => ?_⟩ hmu
      by_cases e : v = i
      · subst e; rw [pk_uLs, if_pos he]
      · rw [pk_uLn e]; exact hrow v (by omega)
end BH
