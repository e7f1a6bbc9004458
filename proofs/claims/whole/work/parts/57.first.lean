/-! the first of a pair, of a limit; pairs met -/
section FI
variable {n m W : Nat} {X Y S L : Nat → Nat} {c : Nat → Int32} {size marked wh : Int32} {up lo lim str mk : Nat → Int32} {st : Nat → Int32}
def FP (X Y : Nat → Nat) (k : Nat) : Prop := ∀ j, j < k → ¬ (X j = X k ∧ Y j = Y k)
def FL (c : Nat → Int32) (k : Nat) : Prop := ∀ j, j < k → ¬ c j = c k
theorem s_isOf (hp : Pw n X Y S m L W) (hs : StP n X Y c S m L W size marked wh up lo lim str mk) {k a b : Nat} (hk : k < n) (ha : a < 10) (hb : b < 10) {post : Int32 → Prop} (h1 : X k = a → Y k = b → post 1) (h0 : ¬ (X k = a ∧ Y k = b) → post 0) : P_X5_isOf post up lo (nI k) (nI a) (nI b) := by
  have hn := hp.1
  obtain ⟨p1, p2, p3, p4⟩ := hp.2.2.2.1 k hk
  obtain ⟨a1, a2, a3, a4⟩ := hs.2.2.2.1 k hk
  have vk : vp_in (nI k) 24 := vin (by omega) (by omega)
  unfold P_X5_isOf
  rw [nI_c (show k ≤ 2147483647 by omega), a1, a2]
  refine ⟨vk, fun hx => h0 (fun z => hx (by rw [z.1])), fun hx => ⟨vk, fun hy => h0 (fun z => hy (by rw [z.2])), fun hy => h1 ((nI_eq (by omega) (by omega)).mp hx) ((nI_eq (by omega) (by omega)).mp hy)⟩⟩
theorem s_firstPair7 (hp : Pw n X Y S m L W) (hs : StP n X Y c S m L W size marked wh up lo lim str mk) {k : Nat} (hk : k < n) {post : Int32 → Prop} (h1 : FP X Y k → post 1) (h0 : ¬ FP X Y k → post 0) : P_X5_isFirstOfPair post up lo (nI k) := by
  have hn := hp.1
  obtain ⟨p1, p2, p3, p4⟩ := hp.2.2.2.1 k hk
  obtain ⟨a1, a2, a3, a4⟩ := hs.2.2.2.1 k hk
  have vk : vp_in (nI k) 24 := vin (by omega) (by omega)
  unfold P_X5_isFirstOfPair
  refine ml1 (F := LB_X5_isFirstOfPair_2 post up lo (nI k)) (I := fun z => ∃ i : Nat, i ≤ k ∧ z = nI i ∧ ∀ j, j < i → ¬ (X j = X k ∧ Y j = Y k)) (μ := fun z => k - z.toNatClampNeg) ?_ 0 ⟨0, by omega, rfl, fun j hj => absurd hj (by omega)⟩
  rintro z ⟨i, hi, rfl, hall⟩ K hK
  unfold LB_X5_isFirstOfPair_2
  by_cases e : i = k
  · subst e
    exact br_t (nI_le (Nat.le_refl _) (by omega)) (h1 hall)
  · refine br_f (nI_ge (by omega) (by omega)) ⟨vk, vk, ?_⟩
    rw [nI_c (show k ≤ 2147483647 by omega), a1, a2]
    refine s_isOf hp hs (by omega) p1 p2 (fun ex ey => br_f o_ne (h0 (fun z => z i (by omega) ⟨ex, ey⟩))) (fun hno => br_t rfl (hK _ ⟨i + 1, by omega, nI_1 i, fun j hj => ?_⟩ (by rw [nI_1, nI_c (by omega), nI_c (by omega)]; omega)))
    by_cases ej : j = i
    · subst ej; exact hno
    · exact hall j (by omega)
theorem s_firstLimit7 (hp : Pw n X Y S m L W) (hs : StP n X Y c S m L W size marked wh up lo lim str mk) {k : Nat} (hk : k < n) {post : Int32 → Prop} (h1 : FL c k → post 1) (h0 : ¬ FL c k → post 0) : P_X5_isFirstOfLimit post lim (nI k) := by
  have hn := hp.1
  have vk : vp_in (nI k) 24 := vin (by omega) (by omega)
  unfold P_X5_isFirstOfLimit
  refine ml1 (F := LB_X5_isFirstOfLimit_2 post lim (nI k)) (I := fun z => ∃ i : Nat, i ≤ k ∧ z = nI i ∧ ∀ j, j < i → ¬ c j = c k) (μ := fun z => k - z.toNatClampNeg) ?_ 0 ⟨0, by omega, rfl, fun j hj => absurd hj (by omega)⟩
  rintro z ⟨i, hi, rfl, hall⟩ K hK
  unfold LB_X5_isFirstOfLimit_2
  by_cases e : i = k
  · subst e
    exact br_t (nI_le (Nat.le_refl _) (by omega)) (h1 hall)
  · refine br_f (nI_ge (by omega) (by omega)) ⟨vin (by omega) (by omega), vk, ?_⟩
    rw [nI_c (show k ≤ 2147483647 by omega), nI_c (show i ≤ 2147483647 by omega), (hs.2.2.2.1 k hk).2.2.1, (hs.2.2.2.1 i (by omega)).2.2.1]
    refine ⟨fun hno => hK _ ⟨i + 1, by omega, nI_1 i, fun j hj => ?_⟩ (by rw [nI_1, nI_c (by omega), nI_c (by omega)]; omega), fun hy => h0 (fun z => z i (by omega) hy)⟩
    by_cases ej : j = i
    · subst ej; exact hno
    · exact hall j (by omega)
theorem s_pairOf (hp : Pw n X Y S m L W) (hr : RfP 0 n X Y c S m L W st) {k : Nat} (hk : k < n) {post : Int32 → Prop} (h : post (nI (10 * X k + Y k))) : P_X8_pairOf post st (nI k) := by
  have hn := hp.1
  obtain ⟨p1, p2, p3, p4⟩ := hp.2.2.2.1 k hk
  obtain ⟨r1, r2, r3, r4⟩ := hr.2.2.2.1 k hk
  rw [Nat.zero_add] at r1 r2
  unfold P_X8_pairOf
  rw [ixc (cc := 24) (a := 24) (k := k) rfl (by omega), nI_c (show k ≤ 2147483647 by omega), r1, r2, ixp (by omega)]
  exact ⟨vin (by omega) (by omega), ixv (a := 24) rfl (by omega) (by omega), h⟩
theorem pr_eq {a b a' b' : Nat} (h1 : b < 10) (h2 : b' < 10) (h3 : a < 10) (h4 : a' < 10) : nI (10 * a + b) = nI (10 * a' + b') ↔ (a = a' ∧ b = b') := by
  rw [nI_eq (by omega) (by omega)]
  omega
theorem s_firstPair8 (hp : Pw n X Y S m L W) (hr : RfP 0 n X Y c S m L W st) {k : Nat} (hk : k < n) {post : Int32 → Prop} (h1 : FP X Y k → post 1) (h0 : ¬ FP X Y k → post 0) : P_X8_isFirstPair post st (nI k) := by
  have hn := hp.1
  obtain ⟨p1, p2, -, -⟩ := hp.2.2.2.1 k hk
  unfold P_X8_isFirstPair
  refine ml2 (F := LB_X8_isFirstPair_4 post st (nI k)) (I := fun b z => ∃ i : Nat, i ≤ k ∧ z = nI i ∧ ((b = 1 ∧ ∀ j, j < i → ¬ (X j = X k ∧ Y j = Y k)) ∨ (b = 0 ∧ ¬ FP X Y k))) (μ := fun _ z => k - z.toNatClampNeg) ?_ 1 0 ⟨0, by omega, rfl, Or.inl ⟨rfl, fun j hj => absurd hj (by omega)⟩⟩
  rintro b z ⟨i, hi, rfl, hb⟩ K hK
  unfold LB_X8_isFirstPair_4 B_X8_isFirstPair_30 B_X8_isFirstPair_31
  by_cases e : i = k
  · subst e
    refine br_t (nI_le (Nat.le_refl _) (by omega)) ?_
    rcases hb with ⟨rfl, hall⟩ | ⟨rfl, hno⟩
    · exact ⟨bz1, h1 hall⟩
    · exact ⟨bz0, h0 hno⟩
  · have hmu : k - (nI i + 1).toNatClampNeg < k - (nI i).toNatClampNeg := by rw [nI_1, nI_c (by omega), nI_c (by omega)]; omega
    obtain ⟨q1, q2, -, -⟩ := hp.2.2.2.1 i (by omega)
    refine br_f (nI_ge (by omega) (by omega)) ?_
    rcases hb with ⟨rfl, hall⟩ | ⟨rfl, hno⟩
    · refine br_f o_ne (s_pairOf hp hr (by omega) (s_pairOf hp hr hk (br_c (fun hy => hK _ _ ⟨i + 1, by omega, nI_1 i, Or.inr ⟨rfl, fun z => z i (by omega) ((pr_eq q2 p2 q1 p1).mp hy)⟩⟩ hmu) (fun hno => hK _ _ ⟨i + 1, by omega, nI_1 i, Or.inl ⟨rfl, fun j hj => ?_⟩⟩ hmu))))
      by_cases ej : j = i
      · subst ej; exact fun z => hno ((pr_eq q2 p2 q1 p1).mpr z)
      · exact hall j (by omega)
    · exact br_t rfl (hK _ _ ⟨i + 1, by omega, nI_1 i, Or.inr ⟨rfl, hno⟩⟩ hmu)
theorem s_firstLimit8 (hp : Pw n X Y S m L W) (hr : RfP 0 n X Y c S m L W st) {k : Nat} (hk : k < n) {post : Int32 → Prop} (h1 : FL c k → post 1) (h0 : ¬ FL c k → post 0) : P_X8_isFirstLimit post st (nI k) := by
  have hn := hp.1
  have r3 := (hr.2.2.2.1 k hk).2.2.1
  rw [Nat.zero_add] at r3
  unfold P_X8_isFirstLimit
  refine ml2 (F := LB_X8_isFirstLimit_4 post st (nI k)) (I := fun b z => ∃ i : Nat, i ≤ k ∧ z = nI i ∧ ((b = 1 ∧ ∀ j, j < i → ¬ c j = c k) ∨ (b = 0 ∧ ¬ FL c k))) (μ := fun _ z => k - z.toNatClampNeg) ?_ 1 0 ⟨0, by omega, rfl, Or.inl ⟨rfl, fun j hj => absurd hj (by omega)⟩⟩
  rintro b z ⟨i, hi, rfl, hb⟩ K hK
  unfold LB_X8_isFirstLimit_4 B_X8_isFirstLimit_38 B_X8_isFirstLimit_39
  by_cases e : i = k
  · subst e
    refine br_t (nI_le (Nat.le_refl _) (by omega)) ?_
    rcases hb with ⟨rfl, hall⟩ | ⟨rfl, hno⟩
    · exact ⟨bz1, h1 hall⟩
    · exact ⟨bz0, h0 hno⟩
  · have hmu : k - (nI i + 1).toNatClampNeg < k - (nI i).toNatClampNeg := by rw [nI_1, nI_c (by omega), nI_c (by omega)]; omega
    have q3 := (hr.2.2.2.1 i (by omega)).2.2.1
    rw [Nat.zero_add] at q3
    rw [ixc (cc := 48) (a := 48) (k := i) rfl (by omega), ixc (cc := 48) (a := 48) (k := k) rfl (by omega), r3, q3]
    refine br_f (nI_ge (by omega) (by omega)) ?_
    rcases hb with ⟨rfl, hall⟩ | ⟨rfl, hno⟩
    · refine br_f o_ne ⟨ixv (a := 48) rfl (by omega) (by omega), ixv (a := 48) rfl (by omega) (by omega), br_c (fun hy => hK _ _ ⟨i + 1, by omega, nI_1 i, Or.inr ⟨rfl, fun z => z i (by omega) hy⟩⟩ hmu) (fun hno => hK _ _ ⟨i + 1, by omega, nI_1 i, Or.inl ⟨rfl, fun j hj => ?_⟩⟩ hmu)⟩
      by_cases ej : j = i
      · subst ej; exact hno
      · exact hall j (by omega)
    · exact br_t rfl (hK _ _ ⟨i + 1, by omega, nI_1 i, Or.inr ⟨rfl, hno⟩⟩ hmu)
/-- the pair met as the i-th -/
theorem s_pairs7 (hp : Pw n X Y S m L W) (hs : StP n X Y c S m L W size marked wh up lo lim str mk) {post : Int32 → Prop} (h : post (nI (ct (FP X Y) n))) : P_X5_pairs post size up lo := by
  have hn := hp.1
  rw [hs.1]
  unfold P_X5_pairs
  refine ml2 (F := LB_X5_pairs_4 post (nI n) up lo) (I := fun q z => ∃ i : Nat, i ≤ n ∧ z = nI i ∧ q = nI (ct (FP X Y) i)) (μ := fun _ z => n - z.toNatClampNeg) ?_ 0 0 ⟨0, by omega, rfl, rfl⟩
  rintro q z ⟨i, hi, rfl, rfl⟩ K hK
  unfold LB_X5_pairs_4 B_X5_pairs_23
  by_cases e : i = n
  · subst e
    exact br_t (nI_le (Nat.le_refl _) (by omega)) h
  · have hmu : n - (nI i + 1).toNatClampNeg < n - (nI i).toNatClampNeg := by rw [nI_1, nI_c (by omega), nI_c (by omega)]; omega
    exact br_f (nI_ge (by omega) (by omega)) (s_firstPair7 hp hs (by omega) (fun hF => br_f o_ne (hK _ _ ⟨i + 1, by omega, nI_1 i, by rw [nI_1, ct_y hF]⟩ hmu)) (fun hF => br_t rfl (hK _ _ ⟨i + 1, by omega, nI_1 i, by rw [ct_n hF]⟩ hmu)))
end FI
