/-! needless bounds, counts, bound -/
section CO
variable {n m W : Nat} {X Y S L : Nat → Nat} {c : Nat → Int32} {size marked wh : Int32} {up lo lim str mk : Nat → Int32} {st : Nat → Int32}
def Nd (n : Nat) (X Y : Nat → Nat) (c : Nat → Int32) (S : Nat → Nat) (W k : Nat) : Prop := ∃ C e : Int, Lp (fun j => j < n ∧ nI j ≠ nI k) X Y (cwt W c S) (ewt W S) (Y k) (X k) C e ∧ 1000 * C - e ≤ 1000 * cwt W c S k - (ewt W S k : Int)
theorem s_need7 (hp : Pw n X Y S m L W) (ho : PgOk n X Y c S W) (hs : StP n X Y c S m L W size marked wh up lo lim str mk) {k : Nat} (hk : k < n) {f : Nat → Int64} {post : Int32 → (Nat → Int64) → Prop} (h1 : Nd n X Y c S W k → ∀ f', post 1 f') (h0 : ¬ Nd n X Y c S W k → ∀ f', post 0 f') : P_X7_isNeedless post size wh lo up f lim str (nI k) := by
  have hn := hp.1
  obtain ⟨p1, p2, p3, p4⟩ := hp.2.2.2.1 k hk
  obtain ⟨a1, a2, a3, a4⟩ := hs.2.2.2.1 k hk
  have vk : vp_in (nI k) 24 := vin (by omega) (by omega)
  have hG := stg hp hs hp.2.2.1 hs.2.2.1
  obtain ⟨c1, c2⟩ := cwt_rng (W := W) (c := c) p4
  have he := ewt_le (W := W) p4
  unfold P_X7_isNeedless
  rw [nI_c (show k ≤ 2147483647 by omega), a1, a2]
  refine ⟨vk, vk, s_btw hp ho hs p2 p1 (fun f' hf => s_weightOf hG hk (fun r hr => ?_))⟩
  unfold wsc at hr
  rcases hf (X k) p1 with ⟨e, no⟩ | ⟨ne, hl⟩
  · rw [e]
    refine br_t ?_ (h0 (fun ⟨C, e, z, _⟩ => lp_no no z) f')
    rw [Int64.lt_iff_toInt_lt, hr, norow_t]
    omega
  · obtain ⟨⟨l0, hl0, -⟩, -⟩ := id hl
    obtain ⟨C, e, h3⟩ := lp_ex (pg_E hp) (pg_e hp) (pg_w hp) (pg_w' hp) (pg_n ho) p2 ⟨l0, hl0⟩
    have hv := hl.uniq h3.2.2.2
    have q1 := h3.1
    have q2 := h3.2.1
    refine br_c (fun hc => h0 (fun ⟨C2, e2, z1, z2⟩ => ?_) f') (fun hc => h1 ⟨C, e, h3, ?_⟩ f')
    · obtain ⟨rfl, rfl⟩ := h3.uniq z1
      rw [Int64.lt_iff_toInt_lt, hr, hv] at hc
      omega
    · rw [Int64.lt_iff_toInt_lt, hr, hv] at hc
      omega
theorem s_need8 (hp : Pw n X Y S m L W) (ho : PgOk n X Y c S W) (hr : RfP 0 n X Y c S m L W st) {k : Nat} (hk : k < n) {D : Nat → Int64} {post : Int32 → (Nat → Int64) → Prop} (h1 : Nd n X Y c S W k → ∀ f', post 1 f') (h0 : ¬ Nd n X Y c S W k → ∀ f', post 0 f') : P_X8_isNeedless post st D (nI k) := by
  have hn := hp.1
  obtain ⟨p1, p2, p3, p4⟩ := hp.2.2.2.1 k hk
  obtain ⟨r1, r2, r3, r4⟩ := hr.2.2.2.1 k hk
  rw [Nat.zero_add] at r1 r2
  obtain ⟨c1, c2⟩ := cwt_rng (W := W) (c := c) p4
  have he := ewt_le (W := W) p4
  have hG := rfg (o := 0) (by omega) hp hr
  unfold P_X8_isNeedless
  refine s_rck hp ho hr (fun D' hD => ?_)
  rw [ixc (cc := 24) (a := 24) (k := k) rfl (by omega), nI_c (show k ≤ 2147483647 by omega), r1, r2, ixp (by omega), nI_c (show 10 * Y k + X k ≤ 2147483647 by omega)]
  refine ⟨ixv (a := 24) rfl (by omega) (by omega), vin (by omega) (by omega), vin (by omega) (by omega), (hG.2.2.2 k hk).2.2.2.2.2 _ (fun r hr => ?_)⟩
  unfold wsc at hr
  rcases hD (Y k) (X k) p2 p1 with ⟨e, no⟩ | ⟨ne, hl⟩
  · rw [e]
    refine br_t ?_ (h0 (fun ⟨C, e, z, _⟩ => lp_no no z) D')
    rw [Int64.lt_iff_toInt_lt, hr, far_t]
    omega
  · obtain ⟨⟨l0, hl0, -⟩, -⟩ := id hl
    obtain ⟨C, e, h3⟩ := lp_ex (pg_E hp) (pg_e hp) (pg_w hp) (pg_w' hp) (pg_n ho) p2 ⟨l0, hl0⟩
    have hv := hl.uniq h3.2.2.1
    have q1 := h3.1
    have q2 := h3.2.1
    refine br_c (fun hc => h0 (fun ⟨C2, e2, z1, z2⟩ => ?_) D') (fun hc => h1 ⟨C, e, h3, ?_⟩ D')
    · obtain ⟨rfl, rfl⟩ := h3.uniq z1
      rw [Int64.lt_iff_toInt_lt, hr, hv] at hc
      omega
    · rw [Int64.lt_iff_toInt_lt, hr, hv] at hc
      omega
theorem s_ofPair7 (hp : Pw n X Y S m L W) (hs : StP n X Y c S m L W size marked wh up lo lim str mk) {a b : Nat} (ha : a < 10) (hb : b < 10) {post : Int32 → Prop} (h : post (nI (ct (fun j => X j = a ∧ Y j = b) n))) : P_X5_ofPair post size up lo (nI a) (nI b) := by
  have hn := hp.1
  rw [hs.1]
  unfold P_X5_ofPair
  refine ml2 (F := LB_X5_ofPair_5 post (nI n) up lo (nI a) (nI b)) (I := fun q z => ∃ i : Nat, i ≤ n ∧ z = nI i ∧ q = nI (ct (fun j => X j = a ∧ Y j = b) i)) (μ := fun _ z => n - z.toNatClampNeg) ?_ 0 0 ⟨0, by omega, rfl, rfl⟩
  rintro q z ⟨i, hi, rfl, rfl⟩ K hK
  unfold LB_X5_ofPair_5 B_X5_ofPair_28
  by_cases e : i = n
  · subst e
    exact br_t (nI_le (Nat.le_refl _) (by omega)) h
  · have hmu : n - (nI i + 1).toNatClampNeg < n - (nI i).toNatClampNeg := by rw [nI_1, nI_c (by omega), nI_c (by omega)]; omega
    exact br_f (nI_ge (by omega) (by omega)) (s_isOf hp hs (by omega) ha hb (fun e1 e2 => br_f o_ne (hK _ _ ⟨i + 1, by omega, nI_1 i, by rw [nI_1, ct_y (P := fun j => X j = a ∧ Y j = b) ⟨e1, e2⟩]⟩ hmu)) (fun hF => br_t rfl (hK _ _ ⟨i + 1, by omega, nI_1 i, by rw [ct_n (P := fun j => X j = a ∧ Y j = b) hF]⟩ hmu)))
theorem s_ofPair8 (hp : Pw n X Y S m L W) (hr : RfP 0 n X Y c S m L W st) {k : Nat} (hk : k < n) {post : Int32 → Prop} (h : post (nI (ct (fun j => X j = X k ∧ Y j = Y k) n))) : P_X8_ofPair post st (nI k) := by
  have hn := hp.1
  obtain ⟨p1, p2, -, -⟩ := hp.2.2.2.1 k hk
  unfold P_X8_ofPair
  refine ml2 (F := LB_X8_ofPair_4 post st (nI k)) (I := fun q z => ∃ i : Nat, i ≤ n ∧ z = nI i ∧ q = nI (ct (fun j => X j = X k ∧ Y j = Y k) i)) (μ := fun _ z => n - z.toNatClampNeg) ?_ 0 0 ⟨0, by omega, rfl, rfl⟩
  rintro q z ⟨i, hi, rfl, rfl⟩ K hK
  unfold LB_X8_ofPair_4 B_X8_ofPair_31
  refine s_many (o := 0) hr ?_
  by_cases e : i = n
  · subst e
    exact br_t (nI_le (Nat.le_refl _) (by omega)) h
  · have hmu : n - (nI i + 1).toNatClampNeg < n - (nI i).toNatClampNeg := by rw [nI_1, nI_c (by omega), nI_c (by omega)]; omega
    obtain ⟨q1, q2, -, -⟩ := hp.2.2.2.1 i (by omega)
    refine br_f (nI_ge (by omega) (by omega)) (s_pairOf hp hr (by omega) (s_pairOf hp hr hk ⟨fun hno => hK _ _ ⟨i + 1, by omega, nI_1 i, ?_⟩ hmu, fun hy => hK _ _ ⟨i + 1, by omega, nI_1 i, ?_⟩ hmu⟩))
    · rw [Int32.add_zero, ct_n (P := fun j => X j = X k ∧ Y j = Y k) (fun z => hno ((pr_eq q2 p2 q1 p1).mpr z))]
    · rw [nI_1, ct_y (P := fun j => X j = X k ∧ Y j = Y k) ((pr_eq q2 p2 q1 p1).mp hy)]
theorem k_bound (hp : Pw n X Y S m L W) (ho : PgOk n X Y c S W) (hs : StP n X Y c S m L W size marked wh up lo lim str mk) (hr : RfP 0 n X Y c S m L W st) (f D : Nat → Int64) (x1 x2 : Int32) {Q : Int32 → (Nat → Int64) → Int32 → (Nat → Int64) → Prop} (hQ : ∀ r f' D', Q r f' r D') :
    P_X7_bound (fun r f' => P_X8_bound (fun r2 D' => Q r f' r2 D') st D x1 x2) size wh lo up f lim str x1 x2 := by
  have hn := hp.1
  unfold P_X7_bound
  rcases cnt_cases x1 n with ⟨k, hk, rfl⟩ | hx
  · obtain ⟨p1, p2, p3, p4⟩ := hp.2.2.2.1 k hk
    obtain ⟨a1, a2, a3, a4⟩ := hs.2.2.2.1 k hk
    obtain ⟨r1, r2, r3, r4⟩ := hr.2.2.2.1 k hk
    rw [Nat.zero_add] at r1 r2 r3 r4
    have vk : vp_in (nI k) 24 := vin (by omega) (by omega)
    have v5 : vp_in (nI k) 535 := vin (by omega) (by omega)
    rw [nI_c (show k ≤ 2147483647 by omega), a1, a2, a4]
    have ask : ∀ {post : Int32 → (Nat → Int64) → Prop}, ((x2 = 0 → post (nI (X k)) D) ∧ (¬ x2 = 0 → ((x2 = 1 → post (nI (Y k)) D) ∧ (¬ x2 = 1 → ((x2 = 2 → post (nI (S k)) D) ∧ (¬ x2 = 2 → ((x2 = 3 → P_X8_isNeedless (fun r2 D' => ((r2 = 0 → post 0 D') ∧ (¬ r2 = 0 → post 1 D'))) st D (nI k)) ∧ (¬ x2 = 3 → ((x2 = 4 → P_X8_ofPair (fun r3 => post r3 D) st (nI k)) ∧ (¬ x2 = 4 → post (-1) D)))))))))) → P_X8_bound post st D (nI k) x2 := fun {post} hh => by
      unfold P_X8_bound
      rw [ixc (cc := 24) (a := 24) (k := k) rfl (by omega), ixc (cc := 72) (a := 72) (k := k) rfl (by omega), nI_c (show k ≤ 2147483647 by omega), r1, r2, r4]
      refine bnd8_y hr.1 (by omega) hk ⟨fun _ => ?_, fun h => absurd h o_ne⟩
      exact br_c (fun h => ⟨v5, hh.1 h⟩) (fun h => br_c (fun g => ⟨ixv (a := 24) rfl (by omega) (by omega), (hh.2 h).1 g⟩) (fun g => br_c (fun i => ⟨ixv (a := 72) rfl (by omega) (by omega), ((hh.2 h).2 g).1 i⟩) (fun i => ((hh.2 h).2 g).2 i)))
    refine has7_y hs.1 (by omega) hk ⟨fun _ => ?_, fun h => absurd h o_ne⟩
    refine br_c (fun h => ⟨vk, ask (br_t h (hQ _ _ _))⟩) (fun h => br_c (fun g => ⟨vk, ask (br_f h (br_t g (hQ _ _ _)))⟩) (fun g => br_c (fun i => ⟨vk, ask (br_f h (br_f g (br_t i (hQ _ _ _))))⟩) (fun i => br_c (fun j => ?_) (fun j => br_c (fun q => ⟨vk, vk, ?_⟩) (fun q => ask (br_f h (br_f g (br_f i (br_f j (br_f q (hQ _ _ _)))))))))))
    · refine s_need7 hp ho hs hk (fun hN f' => br_f o_ne (ask (br_f h (br_f g (br_f i (br_t j ?_)))))) (fun hN f' => br_t rfl (ask (br_f h (br_f g (br_f i (br_t j ?_))))))
      · exact s_need8 hp ho hr hk (fun _ D' => br_f o_ne (hQ _ _ _)) (fun z => absurd hN z)
      · exact s_need8 hp ho hr hk (fun z => absurd z hN) (fun _ D' => br_t rfl (hQ _ _ _))
    · exact s_ofPair7 hp hs p1 p2 (ask (br_f h (br_f g (br_f i (br_f j (br_t q (s_ofPair8 hp hr hk (hQ _ _ _))))))))
  · refine has7_n hs.1 (by omega) hx ⟨fun h => absurd rfl h, fun _ => ?_⟩
    unfold P_X8_bound
    exact bnd8_n hr.1 (by omega) hx ⟨fun h => absurd rfl h, fun _ => hQ _ _ _⟩
end CO
