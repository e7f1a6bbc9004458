/-! counts of both sides; groups; rule -/
section RU
variable {n m W : Nat} {X Y S L : Nat → Nat} {c : Nat → Int32} {size marked wh : Int32} {up lo lim str mk : Nat → Int32} {st : Nat → Int32}
theorem s_limits7 (hp : Pw n X Y S m L W) (hs : StP n X Y c S m L W size marked wh up lo lim str mk) {post : Int32 → Prop} (h : post (nI (ct (FL c) n))) : P_X5_differentLimits post size lim := by
  have hn := hp.1
  rw [hs.1]
  unfold P_X5_differentLimits
  refine ml2 (F := LB_X5_differentLimits_4 post (nI n) lim) (I := fun q z => ∃ i : Nat, i ≤ n ∧ z = nI i ∧ q = nI (ct (FL c) i)) (μ := fun _ z => n - z.toNatClampNeg) ?_ 0 0 ⟨0, by omega, rfl, rfl⟩
  rintro q z ⟨i, hi, rfl, rfl⟩ K hK
  unfold LB_X5_differentLimits_4 B_X5_differentLimits_23
  by_cases e : i = n
  · subst e
    exact br_t (nI_le (Nat.le_refl _) (by omega)) h
  · have hmu : n - (nI i + 1).toNatClampNeg < n - (nI i).toNatClampNeg := by rw [nI_1, nI_c (by omega), nI_c (by omega)]; omega
    exact br_f (nI_ge (by omega) (by omega)) (s_firstLimit7 hp hs (by omega) (fun hF => br_f o_ne (hK _ _ ⟨i + 1, by omega, nI_1 i, by rw [nI_1, ct_y hF]⟩ hmu)) (fun hF => br_t rfl (hK _ _ ⟨i + 1, by omega, nI_1 i, by rw [ct_n hF]⟩ hmu)))
theorem s_needs7 (hp : Pw n X Y S m L W) (ho : PgOk n X Y c S W) (hs : StP n X Y c S m L W size marked wh up lo lim str mk) {f : Nat → Int64} {post : Int32 → (Nat → Int64) → Prop} (h : ∀ f', post (nI (ct (Nd n X Y c S W) n)) f') : P_X7_needlessBounds post size wh lo up f lim str := by
  have hn := hp.1
  unfold P_X7_needlessBounds
  refine ml3 (F := LB_X7_needlessBounds_4 post size wh lo up lim str) (I := fun _ q z => ∃ i : Nat, i ≤ n ∧ z = nI i ∧ q = nI (ct (Nd n X Y c S W) i)) (μ := fun _ _ z => n - z.toNatClampNeg) ?_ f 0 0 ⟨0, by omega, rfl, rfl⟩
  rintro f' q z ⟨i, hi, rfl, rfl⟩ K hK
  unfold LB_X7_needlessBounds_4 B_X7_needlessBounds_26
  by_cases e : i = n
  · subst e
    refine br_t ?_ (h f')
    rw [hs.1]
    exact nI_le (Nat.le_refl _) (by omega)
  · have hmu : n - (nI i + 1).toNatClampNeg < n - (nI i).toNatClampNeg := by rw [nI_1, nI_c (by omega), nI_c (by omega)]; omega
    refine br_f ?_ (s_need7 hp ho hs (by omega) (fun hF f2 => br_f o_ne (hK _ _ _ ⟨i + 1, by omega, nI_1 i, by rw [nI_1, ct_y hF]⟩ hmu)) (fun hF f2 => br_t rfl (hK _ _ _ ⟨i + 1, by omega, nI_1 i, by rw [ct_n hF]⟩ hmu)))
    rw [hs.1]
    exact nI_ge (by omega) (by omega)
theorem s_strict7 (hp : Pw n X Y S m L W) (hs : StP n X Y c S m L W size marked wh up lo lim str mk) {post : Int32 → Prop} (h : post (nI (ct (fun k => S k = 1) n))) : P_X5_strictBounds post size str := by
  have hn := hp.1
  rw [hs.1]
  unfold P_X5_strictBounds
  refine ml2 (F := LB_X5_strictBounds_4 post (nI n) str) (I := fun q z => ∃ i : Nat, i ≤ n ∧ z = nI i ∧ q = nI (ct (fun k => S k = 1) i)) (μ := fun _ z => n - z.toNatClampNeg) ?_ 0 0 ⟨0, by omega, rfl, rfl⟩
  rintro q z ⟨i, hi, rfl, rfl⟩ K hK
  unfold LB_X5_strictBounds_4
  by_cases e : i = n
  · subst e
    exact br_t (nI_le (Nat.le_refl _) (by omega)) h
  · have hmu : n - (nI i + 1).toNatClampNeg < n - (nI i).toNatClampNeg := by rw [nI_1, nI_c (by omega), nI_c (by omega)]; omega
    have hS := (hp.2.2.2.1 i (by omega)).2.2.2
    rw [nI_c (show i ≤ 2147483647 by omega), (hs.2.2.2.1 i (by omega)).2.2.2, nI_add]
    refine br_f (nI_ge (by omega) (by omega)) ⟨vin (by omega) (by omega), hK _ _ ⟨i + 1, by omega, nI_1 i, ?_⟩ hmu⟩
    by_cases e1 : S i = 1
    · rw [ct_y (P := fun k => S k = 1) e1, e1]
    · rw [ct_n (P := fun k => S k = 1) e1, show S i = 0 by omega, Nat.add_zero]
/-- the reference's count, by what is told of each -/
theorem s_ofBounds (hp : Pw n X Y S m L W) (hr : RfP 0 n X Y c S m L W st) {P : Nat → Prop} {x : Int32} {D : Nat → Int64} {post : Int32 → (Nat → Int64) → Prop}
    (hk : ∀ (k : Nat) (D : Nat → Int64) (K : (Nat → Int64) → Int32 → Prop), k < n → (P k → ∀ D', K D' 1) → (¬ P k → ∀ D', K D' 0) → ((¬ x = (3 : Int32) → ((¬ x = (4 : Int32) → ((¬ x = (5 : Int32) → (vp_in ((72 : Int32) + nI k) 535 ∧ ((¬ st ((72 : Int32) + nI k).toNatClampNeg = (1 : Int32) → K D 0) ∧ (st ((72 : Int32) + nI k).toNatClampNeg = (1 : Int32) → K D 1)))) ∧ (x = (5 : Int32) → P_X8_isNeedless (fun r2 D' => K D' r2) st D (nI k)))) ∧ (x = (4 : Int32) → P_X8_isFirstLimit (fun r3 => K D r3) st (nI k)))) ∧ (x = (3 : Int32) → P_X8_isFirstPair (fun r4 => K D r4) st (nI k))))
    (h : ∀ D', post (nI (ct P n)) D') : P_X8_ofBounds post st D x := by
  have hn := hp.1
  unfold P_X8_ofBounds
  refine ml3 (F := LB_X8_ofBounds_4 post st x) (I := fun _ q z => ∃ i : Nat, i ≤ n ∧ z = nI i ∧ q = nI (ct P i)) (μ := fun _ _ z => n - z.toNatClampNeg) ?_ D 0 0 ⟨0, by omega, rfl, rfl⟩
  rintro D1 q z ⟨i, hi, rfl, rfl⟩ K hK
  unfold LB_X8_ofBounds_4 B_X8_ofBounds_69 B_X8_ofBounds_82
  refine s_many (o := 0) hr ?_
  by_cases e : i = n
  · subst e
    exact br_t (nI_le (Nat.le_refl _) (by omega)) (h D1)
  · have hmu : n - (nI i + 1).toNatClampNeg < n - (nI i).toNatClampNeg := by rw [nI_1, nI_c (by omega), nI_c (by omega)]; omega
    exact br_f (nI_ge (by omega) (by omega)) (hk i D1 (fun D' b => (b = 0 → K D' (nI (ct P i) + 0) (nI i + 1)) ∧ (¬ b = 0 → K D' (nI (ct P i) + 1) (nI i + 1))) (by omega) (fun hP D' => br_f o_ne (hK _ _ _ ⟨i + 1, by omega, nI_1 i, by rw [nI_1, ct_y hP]⟩ hmu)) (fun hP D' => br_t rfl (hK _ _ _ ⟨i + 1, by omega, nI_1 i, by rw [Int32.add_zero, ct_n hP]⟩ hmu)))
theorem s_pairs8 (hp : Pw n X Y S m L W) (hr : RfP 0 n X Y c S m L W st) {D : Nat → Int64} {post : Int32 → (Nat → Int64) → Prop} (h : ∀ D', post (nI (ct (FP X Y) n)) D') : P_X8_ofBounds post st D 3 :=
  s_ofBounds hp hr (fun k D K hk h1 h0 => ⟨fun z => absurd rfl z, fun _ => s_firstPair8 hp hr hk (fun q => h1 q D) (fun q => h0 q D)⟩) h
theorem s_limits8 (hp : Pw n X Y S m L W) (hr : RfP 0 n X Y c S m L W st) {D : Nat → Int64} {post : Int32 → (Nat → Int64) → Prop} (h : ∀ D', post (nI (ct (FL c) n)) D') : P_X8_ofBounds post st D 4 :=
  s_ofBounds hp hr (fun k D K hk h1 h0 => ⟨fun _ => ⟨fun z => absurd rfl z, fun _ => s_firstLimit8 hp hr hk (fun q => h1 q D) (fun q => h0 q D)⟩, fun z => absurd z (by decide)⟩) h
theorem s_needs8 (hp : Pw n X Y S m L W) (ho : PgOk n X Y c S W) (hr : RfP 0 n X Y c S m L W st) {D : Nat → Int64} {post : Int32 → (Nat → Int64) → Prop} (h : ∀ D', post (nI (ct (Nd n X Y c S W) n)) D') : P_X8_ofBounds post st D 5 :=
  s_ofBounds hp hr (fun k D K hk h1 h0 => ⟨fun _ => ⟨fun _ => ⟨fun z => absurd rfl z, fun _ => s_need8 hp ho hr hk h1 h0⟩, fun z => absurd z (by decide)⟩, fun z => absurd z (by decide)⟩) h
theorem s_strict8 (hp : Pw n X Y S m L W) (hr : RfP 0 n X Y c S m L W st) {D : Nat → Int64} {post : Int32 → (Nat → Int64) → Prop} (h : ∀ D', post (nI (ct (fun k => S k = 1) n)) D') : P_X8_ofBounds post st D 9 := by
  refine s_ofBounds hp hr (fun k D K hk h1 h0 => ⟨fun _ => ⟨fun _ => ⟨fun _ => ?_, fun z => absurd z (by decide)⟩, fun z => absurd z (by decide)⟩, fun z => absurd z (by decide)⟩) h
  have hn := hp.1
  have hS := (hp.2.2.2.1 k hk).2.2.2
  have r4 := (hr.2.2.2.1 k hk).2.2.2
  rw [Nat.zero_add] at r4
  rw [ixc (cc := 72) (a := 72) (k := k) rfl (by omega), r4]
  exact ⟨ixv (a := 72) rfl (by omega) (by omega), fun z => h0 (fun e => z (by rw [e]; rfl)) D, fun z => h1 ((nI_eq (b := 1) (by omega) (by omega)).mp z) D⟩
end RU
