/-! ways: the reference -/
section WR
variable {n m W : Nat} {X Y S L : Nat → Nat} {c : Nat → Int32} {st : Nat → Int32} {N M : Nat}
theorem exd_0 {w : Nat → Nat} {code v : Nat} : exd M w 0 code v = code / M ^ v % M := if_pos (Nat.zero_le _)
set_option maxHeartbeats 1000000 in
theorem s_isWay (hp : Pw n X Y S m L W) (hr : RfP 0 n X Y c S m L W st) (hN : N ≤ 5) (hM1 : 1 ≤ M) (hM : M ≤ 7) {code : Nat} (hc : code ≤ 20000) {w : Nat → Nat} {pl : Nat → Int32} {post : Int32 → (Nat → Int32) → Prop} (h1 : PO n X Y c S N (exd M w 0 code) → ∀ pl', post 1 pl') (h0 : ¬ PO n X Y c S N (exd M w 0 code) → ∀ pl', post 0 pl') : P_X8_isWay post pl st (nI code) (nI N) (nI M) := by
  have hn := hp.1
  have hM0 : ¬ nI M = 0 := nI_ne0 (by omega) (by omega)
  unfold P_X8_isWay
  refine ml2 (F := LB_X8_isWay_3 post st (nI code) (nI N) (nI M)) (I := fun _ z => ∃ i : Nat, i ≤ N ∧ z = nI i) (μ := fun _ z => 10 - z.toNatClampNeg) ?_ pl 0 ⟨0, by omega, rfl⟩
  rintro pl z ⟨i, hi, rfl⟩ K hK
  unfold LB_X8_isWay_3
  by_cases ei : i = N
  · subst ei
    refine br_t (nI_le (Nat.le_refl _) (by omega)) ?_
    refine ml3 (F := LB_X8_isWay_29 post st (nI i) (nI M)) (I := fun pl left z => ∃ v : Nat, v ≤ i ∧ z = nI v ∧ left = nI (code / M ^ v) ∧ ∀ j, j < v → pl j = nI (code / M ^ j % M)) (μ := fun _ _ z => 10 - z.toNatClampNeg) ?_ pl (nI code) 0 ⟨0, by omega, rfl, by rw [Nat.pow_zero, Nat.div_one], fun j hj => absurd hj (by omega)⟩
    rintro pl left z ⟨v, hv, rfl, rfl, hpl⟩ K2 hK2
    unfold LB_X8_isWay_29
    by_cases ev : v = i
    · subst ev
      refine br_t (nI_le (Nat.le_refl _) (by omega)) ?_
      refine ml2 (F := LB_X8_isWay_64 post pl st (nI v)) (I := fun is z => ∃ k : Nat, k ≤ n ∧ z = nI k ∧ ((is = 1 ∧ ∀ k', k' < k → X k' < v → Y k' < v → ((exd M w 0 code (X k') : Nat) : Int) - (exd M w 0 code (Y k') : Nat) ≤ (c k').toInt - (S k' : Int)) ∨ (is = 0 ∧ ¬ PO n X Y c S v (exd M w 0 code)))) (μ := fun _ z => 30 - z.toNatClampNeg) ?_ 1 0 ⟨0, by omega, rfl, Or.inl ⟨rfl, fun k hk => absurd hk (by omega)⟩⟩
      rintro is z ⟨k, hk, rfl, hcase⟩ K3 hK3
      unfold LB_X8_isWay_64 B_X8_isWay_159 B_X8_isWay_161
      refine s_many (o := 0) hr ?_
      rcases hcase with ⟨rfl, hok⟩ | ⟨rfl, hno⟩
      · by_cases ek : k = n
        · subst ek
          exact br_t (nI_le (Nat.le_refl _) (by omega)) ⟨bz1, h1 (fun k' a b d => hok k' a b d) pl⟩
        · obtain ⟨r1, r2, r3, r4⟩ := hr.2.2.2.1 k (by omega)
          obtain ⟨b1, b2, b3, b4⟩ := hp.2.2.2.1 k (by omega)
          rw [show 0 + k = k by omega] at r1
          rw [show 0 + 24 + k = 24 + k by omega] at r2
          rw [show 0 + 48 + k = 48 + k by omega] at r3
          rw [show 0 + 72 + k = 72 + k by omega] at r4
          have hmu : 30 - (nI k + 1).toNatClampNeg < 30 - (nI k).toNatClampNeg := by rw [nI_1, nI_c (by omega), nI_c (by omega)]; omega
          have v1 : vp_in (nI k) 535 := vin (by omega) (by omega)
          have v2 : vp_in ((24 : Int32) + nI k) 535 := ixv (a := 24) rfl (by omega) (by omega)
          have v3 : vp_in ((48 : Int32) + nI k) 535 := ixv (a := 48) rfl (by omega) (by omega)
          have v4 : vp_in ((72 : Int32) + nI k) 535 := ixv (a := 72) rfl (by omega) (by omega)
          rw [nI_c (show k ≤ 2147483647 by omega), ixc (cc := 24) (a := 24) (k := k) rfl (by omega), ixc (cc := 48) (a := 48) (k := k) rfl (by omega), ixc (cc := 72) (a := 72) (k := k) rfl (by omega), r1, r2, r3, r4, nI_c (show X k ≤ 2147483647 by omega), nI_c (show Y k ≤ 2147483647 by omega)]
          have skip : ¬ (X k < v ∧ Y k < v) → ∃ k'' : Nat, k'' ≤ n ∧ nI k + 1 = nI k'' ∧ (((1 : Int32) = 1 ∧ ∀ k', k' < k'' → X k' < v → Y k' < v → ((exd M w 0 code (X k') : Nat) : Int) - (exd M w 0 code (Y k') : Nat) ≤ (c k').toInt - (S k' : Int)) ∨ ((1 : Int32) = 0 ∧ ¬ PO n X Y c S v (exd M w 0 code))) := fun hz => ⟨k + 1, by omega, nI_1 k, Or.inl ⟨rfl, fun k' a b d => by
            by_cases e : k' = k
            · subst e; exact absurd ⟨b, d⟩ hz
            · exact hok k' (by omega) b d⟩⟩
          refine br_f (nI_ge (by omega) (by omega)) (br_f o_ne ⟨v1, v2, br_c (fun g => hK3 _ _ (skip (fun z => nI_ge z.1 (by omega) g)) hmu) (fun g => br_c (fun g2 => hK3 _ _ (skip (fun z => nI_ge z.2 (by omega) g2)) hmu) (fun g2 => ?_))⟩)
          have hxN : X k < v := by
            by_cases z : X k < v
            · exact z
            · exact absurd (nI_le (by omega) (by omega)) g
          have hyN : Y k < v := by
            by_cases z : Y k < v
            · exact z
            · exact absurd (nI_le (by omega) (by omega)) g2
          rw [hpl _ hxN, hpl _ hyN]
          obtain ⟨c1, c2⟩ := i_rng (c k)
          have m1 : code / M ^ X k % M < M := Nat.mod_lt _ (by omega)
          have m2 : code / M ^ Y k % M < M := Nat.mod_lt _ (by omega)
          have e1 : ((c k).toInt64 - (nI (S k)).toInt64).toInt = (c k).toInt - (S k : Int) := by
            rw [l_sub (by rw [i2l, i2l, nI_t (by omega)]; omega) (by rw [i2l, i2l, nI_t (by omega)]; omega), i2l, i2l, nI_t (by omega)]
          have e2 : (nI (code / M ^ X k % M) - nI (code / M ^ Y k % M)).toInt64.toInt = ((code / M ^ X k % M : Nat) : Int) - (code / M ^ Y k % M : Nat) := by
            rw [i2l, pk_sub_toInt (by omega) (by omega)]
          refine ⟨vin (by omega) (by omega), vin (by omega) (by omega), v3, v4, br_c (fun g3 => hK3 _ _ ⟨k + 1, by omega, nI_1 k, Or.inr ⟨rfl, fun hpo => ?_⟩⟩ hmu) (fun g3 => hK3 _ _ ⟨k + 1, by omega, nI_1 k, Or.inl ⟨rfl, fun k' a b d => ?_⟩⟩ hmu)⟩
          · rw [Int64.lt_iff_toInt_lt, e1, e2] at g3
            have := hpo k (by omega) hxN hyN
            rw [exd_0, exd_0] at this
            omega
          · by_cases e : k' = k
            · subst e
              rw [Int64.lt_iff_toInt_lt, e1, e2] at g3
              rw [exd_0, exd_0]
              omega
            · exact hok k' (by omega) b d
      · exact br_c (fun _ => ⟨bz0, h0 hno pl⟩) (fun _ => br_t rfl ⟨bz0, h0 hno pl⟩)
    · have hle : code / M ^ v ≤ code := Nat.div_le_self _ _
      refine br_f (nI_ge (by omega) (by omega)) ⟨hM0, vin (by omega) (by omega), hM0, ?_⟩
      rw [pk_rem (by omega) (by omega) (by omega), pk_div (by omega) (by omega) (by omega), nI_c (show v ≤ 2147483647 by omega)]
      refine hK2 _ _ _ ⟨v + 1, by omega, nI_1 v, ?_, fun j hj => ?_⟩ (by rw [nI_1, nI_c (by omega), nI_c (by omega)]; omega)
      · rw [Nat.div_div_eq_div_mul, Nat.pow_succ]
      · by_cases e : j = v
        · subst e; rw [pk_us]
        · rw [pk_un e]; exact hpl j (by omega)
  · exact br_f (nI_ge (by omega) (by omega)) ⟨vin (by omega) (by omega), hK _ _ ⟨i + 1, by omega, nI_1 i⟩ (by rw [nI_1, nI_c (by omega), nI_c (by omega)]; omega)⟩
set_option maxHeartbeats 1000000 in
theorem s_ways8 (hp : Pw n X Y S m L W) (hr : RfP 0 n X Y c S m L W st) (hN1 : 1 ≤ N) (hN : N ≤ 5) {mm : Nat} (hm : mm ≤ 6) {w : Nat → Nat} {pl : Nat → Int32} {post : Int32 → (Nat → Int32) → Prop} (h : ∀ pl', post (nI (Cn (mm + 1) (fun w => ind (PO n X Y c S N w)) N 0 w)) pl') : P_X8_ways post pl st (nI N) (nI mm) := by
  have hpow : ∀ v, v ≤ 5 → (mm + 1) ^ v ≤ 16807 := fun v hv => Nat.le_trans (Nat.pow_le_pow_left (show mm + 1 ≤ 7 by omega) v) (Nat.le_trans (Nat.pow_le_pow_right (by omega) hv) (by decide))
  have hall := hpow N hN
  rw [← cn_codes (fun _ _ => po_ext) N 0 w (by omega)] at h
  unfold P_X8_ways
  refine s_in (fun _ _ => br_f o_ne (s_in (fun _ _ => ⟨fun _ => ?_, fun z => absurd z o_ne⟩) (fun g => ?_))) (fun g => ?_)
  · refine ml2 (F := LB_X8_ways_31 post pl st (nI N) (nI mm)) (I := fun a z => ∃ v : Nat, v ≤ N ∧ z = nI v ∧ a = nI ((mm + 1) ^ v)) (μ := fun _ z => 10 - z.toNatClampNeg) ?_ 1 0 ⟨0, by omega, rfl, rfl⟩
    rintro a z ⟨v, hv, rfl, rfl⟩ K hK
    unfold LB_X8_ways_31
    by_cases ev : v = N
    · subst ev
      refine br_t (nI_le (Nat.le_refl _) (by omega)) ?_
      refine ml3 (F := LB_X8_ways_55 post st (nI v) (nI mm) (nI ((mm + 1) ^ v))) (I := fun _ acc z => ∃ q : Nat, q ≤ (mm + 1) ^ v ∧ z = nI q ∧ acc = nI (sm q (fun code => ind (PO n X Y c S v (exd (mm + 1) w 0 code))))) (μ := fun _ _ z => 20000 - z.toNatClampNeg) ?_ pl 0 0 ⟨0, Nat.zero_le _, rfl, rfl⟩
      rintro pl acc z ⟨q, hq, rfl, rfl⟩ K2 hK2
      unfold LB_X8_ways_55 B_X8_ways_81
      by_cases eq : q = (mm + 1) ^ v
      · subst eq
        exact br_t (nI_le (Nat.le_refl _) (by omega)) (h pl)
      · have hmu : 20000 - (nI q + 1).toNatClampNeg < 20000 - (nI q).toNatClampNeg := by rw [nI_1, nI_c (by omega), nI_c (by omega)]; omega
        refine br_f (nI_ge (by omega) (by omega)) ?_
        rw [nI_1 mm]
        refine s_isWay hp hr hN (by omega) (by omega) (by omega) (w := w) (fun hy pl' => br_f o_ne (hK2 _ _ _ ⟨q + 1, by omega, nI_1 q, ?_⟩ hmu)) (fun hno pl' => br_t rfl (hK2 _ _ _ ⟨q + 1, by omega, nI_1 q, ?_⟩ hmu))
        · show _ = nI (sm q (fun code => ind (PO n X Y c S v (exd (mm + 1) w 0 code))) + ind (PO n X Y c S v (exd (mm + 1) w 0 q)))
          rw [ind_t hy, nI_1]
        · show _ = nI (sm q (fun code => ind (PO n X Y c S v (exd (mm + 1) w 0 code))) + ind (PO n X Y c S v (exd (mm + 1) w 0 q)))
          rw [ind_f hno, Nat.add_zero]
          exact nI_add _ 0
    · refine br_f (nI_ge (by omega) (by omega)) ?_
      rw [nI_1 mm, pk_mul, ← Nat.pow_succ]
      exact hK _ _ ⟨v + 1, by omega, nI_1 v, rfl⟩ (by rw [nI_1, nI_c (by omega), nI_c (by omega)]; omega)
  · rw [i2l, nI_t (by omega), z64, show (6 : Int64).toInt = 6 from by decide] at g
    omega
  · rw [i2l, nI_t (by omega), o64, show (5 : Int64).toInt = 5 from by decide] at g
    omega
end WR
