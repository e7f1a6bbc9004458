/-! reach, high -/
section A3
variable {n m W : Nat} {X Y S L : Nat → Nat} {c : Nat → Int32} {size marked wh : Int32} {up lo lim str mk : Nat → Int32} {st : Nat → Int32} {skip : Int32}
set_option maxHeartbeats 1000000 in
theorem k_reach (hp : Pw n X Y S m L W) (ho : PgOk n X Y c S W) (hs : StP n X Y c S m L W size marked wh up lo lim str mk) (hr : RfP 0 n X Y c S m L W st) (f D : Nat → Int64) (x1 x2 x3 x4 : Int32) {Q : Int64 → (Nat → Int64) → Int64 → (Nat → Int64) → Prop} (hQ : ∀ r f' D', Q r f' r D') :
    P_X7_reach (fun r f' => P_X8_reach (fun r2 D' => Q r f' r2 D') st D x1 x2 x3 x4) f size wh lo lim str up x1 x2 x3 x4 := by
  unfold P_X7_reach
  have t3 : (3 : Int64).toInt = 3 := by decide
  rcases cnt_cases x1 10 with ⟨a, ha, rfl⟩ | hx
  · refine th7_y ha (br_f o_ne ?_)
    rcases cnt_cases x2 10 with ⟨b, hb, rfl⟩ | hy
    · refine th7_y hb (br_f o_ne ?_)
      rcases cnt_cases x4 4 with ⟨w, hw, rfl⟩ | hw
      · -- the reference, behind its tests
        have ask : ∀ (r : Int64) (f' : Nat → Int64), (∀ D' : Nat → Int64, (∀ a b, a < 10 → b < 10 → LR n (-4) X Y c S W a b (D' (10 * a + b))) → B_X8_reach_70 (fun r2 D' => Q r f' r2 D') D' (if w % 2 = 0 then D' (10 * b + a) else D' (10 * a + b)) x3 (nI w)) → P_X8_reach (fun r2 D' => Q r f' r2 D') st D (nI a) (nI b) x3 (nI w) := fun r f' hh => by
          unfold P_X8_reach
          refine th8_y ha (br_f o_ne (th8_y hb (br_f o_ne (s_in (fun _ _ => ⟨fun _ => s_rck hp ho hr (fun D' hD => ?_), fun h => absurd h o_ne⟩) (fun h => ?_)))))
          · have hh := hh D' hD
            rw [ixp (a := a) (b := b) (by omega), ixp (a := b) (b := a) (by omega), nI_c (show 10 * a + b ≤ 2147483647 by omega), nI_c (show 10 * b + a ≤ 2147483647 by omega)]
            rw [show (2 : Int32) = nI 2 from rfl, pk_rem (by omega) (by omega) (by omega)]
            refine ⟨fun h => ⟨vin (by omega) (by omega), ?_⟩, fun h => ⟨vin (by omega) (by omega), ?_⟩⟩
            · have : w % 2 ≠ 0 := fun e => h (by rw [e]; rfl)
              rw [if_neg this] at hh
              exact hh
            · have : w % 2 = 0 := (nI_eq (by omega) (by omega)).mp (show nI (w % 2) = nI 0 from h)
              rw [if_pos this] at hh
              exact hh
          · rw [i2l, nI_t (by omega), z64, t3] at h
            omega
        -- both, of a least pair
        have run : ∀ (u v : Nat), u < 10 → v < 10 → ∀ (k0 : Int32) (f' : Nat → Int64), (∀ v, v < 10 → LC n (-1) X Y c S W u v (f' v)) → (∀ D' : Nat → Int64, (if w % 2 = 0 then D' (10 * b + a) else D' (10 * a + b)) = D' (10 * u + v)) → (k0 = 0 ↔ w % 2 ≠ 0) → B_X7_reach_83 (fun r f' => P_X8_reach (fun r2 D' => Q r f' r2 D') st D (nI a) (nI b) x3 (nI w)) f' (f' v) x3 (nI w) k0 := fun u v hu hv k0 f' hf hD hk0 => by
          unfold B_X7_reach_83
          rcases lcs hp ho hu (hf v hv) with ⟨e, no⟩ | ⟨C, e, hl, q1, q2, q3, q4, ne, q5⟩
          · refine ⟨fun h => absurd e h, fun _ => ask _ f' (fun D' hL => ?_)⟩
            rw [hD, lr_n no (hL u v hu hv)]
            unfold B_X8_reach_70 B_X8_reach_87
            exact br_t far_n (told_n (hQ _ _ _))
          · refine ⟨fun _ => br_c (fun hlt => ?_) (fun hge => ?_), fun h => absurd h ne⟩
            · have hw2 : w < 2 := by
                rw [Int32.lt_iff_toInt_lt, nI_t (by omega), show (2 : Int32).toInt = 2 from by decide] at hlt
                omega
              have hle1 : nI w ≤ (1 : Int32) := show nI w ≤ nI 1 from nI_le (by omega) (by omega)
              refine br_c (fun hk => s_amountOf q5 q1 (by omega) (by omega) (by omega) (fun r hr => ask _ f' (fun D' hL => ?_))) (fun hk => s_amountOf q5 q1 (by omega) (by omega) (by omega) (fun r hr => ask _ f' (fun D' hL => ?_)))
              · obtain ⟨p1, p2⟩ := lr_y hl (hL u v hu hv)
                have hodd := hk0.mp hk
                have hwne : ¬ nI w = 0 := fun z => by
                  have := (nI_eq (b := 0) (by omega) (by omega)).mp z
                  omega
                rw [hD]
                unfold B_X8_reach_70
                refine br_f (far_y p1 q1 q4) (br_t hle1 ⟨fun _ => s_limitOf p1 q1 (by omega) (by omega) (by omega) (fun r2 hr2 => ?_), fun h => absurd h hwne⟩)
                rw [eq64 (hr2.trans hr.symm)]
                exact hQ _ _ _
              · obtain ⟨p1, p2⟩ := lr_y hl (hL u v hu hv)
                have hev : w % 2 = 0 := by
                  by_cases z : w % 2 = 0
                  · exact z
                  · exact absurd (hk0.mpr z) hk
                have hw0 : nI w = 0 := by
                  have : w = 0 := by omega
                  rw [this]; rfl
                rw [hD]
                unfold B_X8_reach_70
                refine br_f (far_y p1 q1 q4) (br_t hle1 ⟨fun h => absurd hw0 h, fun _ => s_limitOf p1 q1 (by omega) (by omega) (by omega) (fun r2 hr2 => ?_)⟩)
                rw [eq64 (hr2.trans hr.symm)]
                exact hQ _ _ _
            · have hw2 : 2 ≤ w := by
                rw [Int32.lt_iff_toInt_lt, nI_t (by omega), show (2 : Int32).toInt = 2 from by decide] at hge
                omega
              have hle1 : ¬ nI w ≤ (1 : Int32) := show ¬ nI w ≤ nI 1 from nI_ge (by omega) (by omega)
              refine s_edgesOf7 q5 q1 (by omega) (by omega) (by omega) (fun r hr => ask _ f' (fun D' hL => ?_))
              obtain ⟨p1, p2⟩ := lr_y hl (hL u v hu hv)
              rw [hD]
              unfold B_X8_reach_70 B_X8_reach_87
              refine br_f (far_y p1 q1 q4) (br_f hle1 (told_y p1 q1 q2 q3 q4 (fun r2 hr2 => ?_)))
              rw [if_neg o_ne] at hr2
              rw [eq64 (hr2.trans hr.symm)]
              exact hQ _ _ _
        have up1 : w % 2 = 0 → B_X7_reach_45 (fun r f' => P_X8_reach (fun r2 D' => Q r f' r2 D') st D (nI a) (nI b) x3 (nI w)) f size wh lo lim str up 1 (nI a) (nI b) x3 (nI w) := fun hev => by
          unfold B_X7_reach_45
          exact br_f o_ne (s_btw hp ho hs hb ha (fun f' hf => run b a hb ha 1 f' hf (fun D' => if_pos hev) ⟨fun h => absurd h o_ne, fun h => absurd hev h⟩))
        have dn : w % 2 ≠ 0 → B_X7_reach_45 (fun r f' => P_X8_reach (fun r2 D' => Q r f' r2 D') st D (nI a) (nI b) x3 (nI w)) f size wh lo lim str up 0 (nI a) (nI b) x3 (nI w) := fun hev => by
          unfold B_X7_reach_45
          exact br_t rfl (s_btw hp ho hs ha hb (fun f' hf => run a b ha hb 0 f' hf (fun D' => if_neg hev) ⟨fun _ => hev, fun _ => rfl⟩))
        refine br_f (Int32.not_lt.mpr (show nI 0 ≤ nI w from nI_le (Nat.zero_le _) (by omega))) (br_t (show nI w ≤ nI 3 from nI_le (by omega) (by omega)) (br_c (fun h => ?_) (fun h => ⟨fun h2 => dn ?_, fun h2 => ?_⟩)))
        · unfold B_X7_reach_40
          have := (nI_eq (b := 0) (by omega) (by omega)).mp h
          exact up1 (by omega)
        · have e0 : w ≠ 0 := fun e => h (by rw [e]; rfl)
          have e2 : w ≠ 2 := fun e => h2 (by rw [e]; rfl)
          omega
        · unfold B_X7_reach_40
          have := (nI_eq (b := 2) (by omega) (by omega)).mp h2
          exact up1 (by omega)
      · have bad : ∀ f', P_X8_reach (fun r2 D' => Q (-1) f' r2 D') st D (nI a) (nI b) x3 x4 := fun f' => by
          unfold P_X8_reach
          refine th8_y ha (br_f o_ne (th8_y hb (br_f o_ne (s_in (fun h1 h2 => ?_) (fun _ => ⟨fun h => absurd rfl h, fun _ => hQ _ _ _⟩)))))
          rw [i2l, z64] at h1
          rw [i2l, t3] at h2
          omega
        refine br_c (fun _ => bad f) (fun h => ⟨fun h2 => ?_, fun _ => bad f⟩)
        rw [Int32.lt_iff_toInt_lt, z32] at h
        rw [Int32.le_iff_toInt_le, show (3 : Int32).toInt = 3 from by decide] at h2
        omega
    · refine th7_n hy (br_t rfl ?_)
      unfold P_X8_reach
      exact th8_y ha (br_f o_ne (th8_n hy (br_t rfl (hQ _ _ _))))
  · refine th7_n hx (br_t rfl ?_)
    unfold P_X8_reach
    exact th8_n hx (br_t rfl (hQ _ _ _))
theorem k_high (hp : Pw n X Y S m L W) (ho : PgOk n X Y c S W) (hs : StP n X Y c S m L W size marked wh up lo lim str mk) (hr : RfP 0 n X Y c S m L W st) (f D : Nat → Int64) (x1 x2 : Int32) {Q : Int64 → (Nat → Int64) → Int64 → (Nat → Int64) → Prop} (hQ : ∀ r f' D', Q r f' r D') :
    P_X7_high (fun r f' => P_X8_high (fun r2 D' => Q r f' r2 D') st D x1 x2) size wh f lo lim str up x1 x2 := by
  unfold P_X7_high
  rcases cnt_cases x1 10 with ⟨a, ha, rfl⟩ | hx
  · refine th7_y ha (br_f o_ne (bit7 (fun hbit => ⟨fun _ => ?_, fun h => absurd h o_ne⟩) (fun hbit => ⟨fun h => absurd rfl h, fun _ => ?_⟩)))
    · have hX : ∀ k, k < n → X k < 10 := fun k h => (hp.2.2.2.1 k h).1
      have hN : NoNeg (fun k => k < n) X Y (wsc 1000 (cwt W c S) (ewt W S)) := ho
      have he : ∀ k, k < n → ewt W S k ≤ 1 := fun k h => ewt_le (hp.2.2.2.1 k h).2.2.2
      have hN' := nn_ab hX he hN
      unfold P_X2_highOf
      refine s_canHold (stg hp hs hp.2.2.1 hs.2.2.1) (fun f' _ hf => ?_) (fun _ h => absurd hN' h)
      rw [nI_c (show a ≤ 2147483647 by omega)]
      refine ⟨vin ha (by omega), ?_⟩
      obtain ⟨⟨u1, l1, hu1, hl1, hv1⟩, hall⟩ := hf a ha
      obtain ⟨l2, s1, s2, s3⟩ := shorten hX hN' l1.length l1 u1 a (Nat.le_refl _) hu1 hl1
      have h4 := hall u1 l2 hu1 s2
      have hv : (f' a).toInt = sw (wsc 1024 (cwt W c S) (ewt W S)) l2 := by omega
      obtain ⟨b1, b2⟩ := se_le he s2
      obtain ⟨g1, g2⟩ := sw_bound (fun k h => wsc_rng (W := W) (c := c) 1024 (Or.inr rfl) (hp.2.2.2.1 k h).2.2.2) s2
      rw [sw_wsc] at hv g1 g2
      have ask : ∀ (r : Int64), (∀ (D' : Nat → Int64) (y : Int64), y.toInt = 1000 * sw (cwt W c S) l2 - sw (fun k => (ewt W S k : Int)) l2 → P_X8_told (fun r2 => Q r f' r2 D') x2 y) → P_X8_high (fun r2 D' => Q r f' r2 D') st D (nI a) x2 := fun r hh => by
        unfold P_X8_high
        refine th8_y ha (br_f o_ne (bit8 (fun _ => ⟨fun _ => s_rck hp ho hr (fun D' hD => ?_), fun h => absurd h o_ne⟩) (fun h => absurd hbit h)))
        unfold LR at hD
        rw [noskip hp.1 (Or.inr rfl)] at hD
        refine ml2 (F := LB_X8_high_30 (fun r2 D' => Q r f' r2 D') D' (nI a) x2) (I := fun y z => ∃ i : Nat, i ≤ 10 ∧ z = nI i ∧ y.toInt ≤ 0 ∧ (∃ u l, u < 10 ∧ pw (fun k => k < n) X Y u l a ∧ y.toInt = sw (wsc 1000 (cwt W c S) (ewt W S)) l) ∧ ∀ u l, u < i → pw (fun k => k < n) X Y u l a → y.toInt ≤ sw (wsc 1000 (cwt W c S) (ewt W S)) l) (μ := fun _ z => 10 - z.toNatClampNeg) ?_ 0 0 ⟨0, by omega, rfl, Int.le_of_eq z64, ⟨a, [], ha, rfl, z64⟩, fun u l h => absurd h (by omega)⟩
        rintro y z ⟨i, hi, rfl, hle0, ⟨u0, l0, hu0, hl0, hy0⟩, hmin⟩ K hK
        unfold LB_X8_high_30 B_X8_high_70
        by_cases h10 : i = 10
        · subst h10
          refine br_t (by decide) (hh D' y ?_)
          obtain ⟨l3, t1, t2, t3⟩ := shorten hX hN l0.length l0 u0 a (Nat.le_refl _) hu0 hl0
          have h5 := hmin u0 l3 hu0 t2
          have hy : y.toInt = sw (wsc 1000 (cwt W c S) (ewt W S)) l3 := by omega
          obtain ⟨d1, d2⟩ := se_le he t2
          have k1 := hmin u1 l2 hu1 s2
          have k2 := hall u0 l3 hu0 t2
          rw [sw_wsc] at hy k1 k2
          omega
        · have hlt : i < 10 := by omega
          refine br_f (nI_ge (a := i) (b := 10) (by omega) (by omega)) ?_
          rw [ixp (by omega), nI_c (show 10 * i + a ≤ 2147483647 by omega)]
          have va : vp_in (nI (10 * i + a)) 100 := vin (by omega) (by omega)
          have hmu : 10 - (nI i + 1).toNatClampNeg < 10 - (nI i).toNatClampNeg := by rw [nI_1, nI_c (by omega), nI_c (by omega)]; omega
          refine ⟨va, br_c (fun hle => hK _ _ ⟨i + 1, by omega, nI_1 i, hle0, ⟨u0, l0, hu0, hl0, hy0⟩, fun u l hu hl => ?_⟩ hmu) (fun hle => ⟨va, hK _ _ ⟨i + 1, by omega, nI_1 i, by rw [Int64.le_iff_toInt_le] at hle; omega, ?_, fun u l hu hl => ?_⟩ hmu⟩)⟩
          · by_cases e : u = i
            · subst e
              rcases hD u a hlt ha with ⟨-, no⟩ | ⟨-, -, hq⟩
              · exact absurd hl (no l)
              · have := hq l hl
                rw [Int64.le_iff_toInt_le] at hle
                omega
            · exact hmin u l (by omega) hl
          · rcases hD i a hlt ha with ⟨e, -⟩ | ⟨-, ⟨l, hl, hq⟩, -⟩
            · exfalso
              refine hle ?_
              rw [e, Int64.le_iff_toInt_le, far_t]
              omega
            · exact ⟨i, l, hlt, hl, hq.symm⟩
          · rw [Int64.le_iff_toInt_le] at hle
            by_cases e : u = i
            · subst e
              rcases hD u a hlt ha with ⟨-, no⟩ | ⟨-, -, hq⟩
              · exact absurd hl (no l)
              · exact hq l hl
            · have := hmin u l (by omega) hl
              omega
      refine told7 hv b1 (by omega) (by omega) (by omega) (fun r hr => ask r (fun D' y hy => told_y hy b1 (by omega) (by omega) (by omega) (fun r2 hr2 => ?_)))
      rw [eq64 (hr2.trans hr.symm)]
      exact hQ _ _ _
    · unfold P_X8_high
      exact th8_y ha (br_f o_ne (bit8 (fun h => absurd h hbit) (fun _ => ⟨fun h => absurd rfl h, fun _ => hQ _ _ _⟩)))
  · refine th7_n hx (br_t rfl ?_)
    unfold P_X8_high
    exact th8_n hx (br_t rfl (hQ _ _ _))
end A3
