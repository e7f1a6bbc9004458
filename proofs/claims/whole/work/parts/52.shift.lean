/-! shift; counts -/
noncomputable def ct (P : Nat → Prop) : Nat → Nat
  | 0 => 0
  | n + 1 => ct P n + @ite Nat (P n) (Classical.propDecidable (P n)) 1 0
theorem ct_y {P : Nat → Prop} {n : Nat} (h : P n) : ct P (n + 1) = ct P n + 1 := by rw [ct, if_pos h]
theorem ct_n {P : Nat → Prop} {n : Nat} (h : ¬ P n) : ct P (n + 1) = ct P n := by rw [ct, if_neg h, Nat.add_zero]
theorem ct_le {P : Nat → Prop} : ∀ n, ct P n ≤ n
  | 0 => Nat.le_refl _
  | n + 1 => by
    have := ct_le (P := P) n
    by_cases h : P n
    · rw [ct_y h]; omega
    · rw [ct_n h]; omega
theorem is32 {r : Int64} {post : Int32 → Prop} (h1 : -2147483648 ≤ r.toInt → r.toInt ≤ 2147483647 → post 1) (h0 : ¬ (-2147483648 ≤ r.toInt ∧ r.toInt ≤ 2147483647) → post 0) : P_X7_is32Bits post r := by
  unfold P_X7_is32Bits
  refine ⟨fun h => h0 (fun ⟨a, b⟩ => h (eq64 ?_)), fun h => ?_⟩
  · rw [i2l, Int64.toInt_toInt32]
    exact (Int.bmod_eq_of_le (by omega) (by omega)).symm
  · have e : r.toInt = r.toInt32.toInt := by
      have e2 : r.toInt = r.toInt32.toInt64.toInt := congrArg Int64.toInt h
      rw [i2l] at e2
      exact e2
    obtain ⟨a, b⟩ := i_rng r.toInt32
    exact h1 (by omega) (by omega)
section SF
variable {n m W : Nat} {X Y S L : Nat → Nat} {c : Nat → Int32} {size marked wh : Int32} {up lo lim str mk : Nat → Int32} {st : Nat → Int32}
/-- what is added to a bound's limit -/
def sby (X Y : Nat → Nat) (v : Nat) (t : Int) (k : Nat) : Int := if X k = v then t else if Y k = v then -t else 0
def shl (X Y : Nat → Nat) (v : Nat) (t : Int32) (c : Nat → Int32) (k : Nat) : Int32 := if X k = v then c k + t else if Y k = v then c k - t else c k
def sin (X Y : Nat → Nat) (v : Nat) (t : Int32) (c : Nat → Int32) (k : Nat) : Prop := -2147483648 ≤ (c k).toInt + sby X Y v t.toInt k ∧ (c k).toInt + sby X Y v t.toInt k ≤ 2147483647
theorem shl_t {v k : Nat} {t : Int32} (h : sin X Y v t c k) : (shl X Y v t c k).toInt = (c k).toInt + sby X Y v t.toInt k := by
  unfold sin sby at h
  unfold shl sby
  by_cases e : X k = v
  · rw [if_pos e] at h
    rw [if_pos e, if_pos e, i_add (by omega) (by omega)]
  · rw [if_neg e] at h
    rw [if_neg e, if_neg e]
    by_cases e2 : Y k = v
    · rw [if_pos e2] at h
      rw [if_pos e2, if_pos e2, i_sub (by omega) (by omega)]
      omega
    · rw [if_neg e2, if_neg e2]
      omega
theorem s_shl (hn : n ≤ 24) (hp : ∀ k, k < n → X k < 10 ∧ Y k < 10) (hU : ∀ k, k < n → up k = nI (X k) ∧ lo k = nI (Y k)) {k : Nat} (hk : k < n) {li : Nat → Int32} (hl : li k = c k) {v : Nat} (hv : v < 10) {t : Int32} {post : Int64 → Prop} (h : ∀ r : Int64, r.toInt = (c k).toInt + sby X Y v t.toInt k → r.toInt32 = shl X Y v t c k → post r) : P_X5_shiftedLimit post up lo li (nI k) (nI v) t := by
  obtain ⟨e1, e2⟩ := hU k hk
  obtain ⟨x1, x2⟩ := hp k hk
  obtain ⟨a, b⟩ := i_rng (c k)
  obtain ⟨a', b'⟩ := i_rng t
  have vk : vp_in (nI k) 24 := vin (by omega) (by omega)
  unfold P_X5_shiftedLimit
  rw [nI_c (show k ≤ 2147483647 by omega), e1, e2, hl]
  refine ⟨vk, fun hx => ⟨vk, fun hy => ⟨vk, h _ ?_ ?_⟩, fun hy => ⟨vk, h _ ?_ ?_⟩⟩, fun hx => ⟨vk, h _ ?_ ?_⟩⟩
  · have hx : X k ≠ v := fun e => hx (by rw [e])
    have hy : Y k ≠ v := fun e => hy (by rw [e])
    unfold sby; rw [if_neg hx, if_neg hy, i2l]; omega
  · have hx : X k ≠ v := fun e => hx (by rw [e])
    have hy : Y k ≠ v := fun e => hy (by rw [e])
    unfold shl; rw [if_neg hx, if_neg hy, Int32.toInt32_toInt64]
  · have hx : X k ≠ v := fun e => hx (by rw [e])
    have hy : Y k = v := (nI_eq (by omega) (by omega)).mp hy
    unfold sby; rw [if_neg hx, if_pos hy, l_sub (by rw [i2l, i2l]; omega) (by rw [i2l, i2l]; omega), i2l, i2l]; omega
  · have hx : X k ≠ v := fun e => hx (by rw [e])
    have hy : Y k = v := (nI_eq (by omega) (by omega)).mp hy
    unfold shl; rw [if_neg hx, if_pos hy, Int64.toInt32_sub, Int32.toInt32_toInt64, Int32.toInt32_toInt64]
  · have hx : X k = v := (nI_eq (by omega) (by omega)).mp hx
    unfold sby; rw [if_pos hx, l_add (by rw [i2l, i2l]; omega) (by rw [i2l, i2l]; omega), i2l, i2l]
  · have hx : X k = v := (nI_eq (by omega) (by omega)).mp hx
    unfold shl; rw [if_pos hx, Int64.toInt32_add, Int32.toInt32_toInt64, Int32.toInt32_toInt64]
theorem s_shift7 (hp : Pw n X Y S m L W) (hs : StP n X Y c S m L W size marked wh up lo lim str mk) {v : Nat} (hv : v < 10) (t : Int32) {post : Int32 → (Nat → Int32) → Prop}
    (h0 : (∃ k, k < n ∧ ¬ sin X Y v t c k) → post (-5) lim) (h1 : (∀ k, k < n → sin X Y v t c k) → ∀ lim', (∀ k, k < n → lim' k = shl X Y v t c k) → post (nI (ct (fun k => X k = v ∨ Y k = v) n)) lim') : P_X7_shift post size up lo lim (nI v) t := by
  obtain ⟨p1, p2, p3, p4, p5, p6⟩ := id hp
  obtain ⟨s1, s2, s3, s4, s5⟩ := id hs
  subst s1
  have hX : ∀ k, k < n → X k < 10 ∧ Y k < 10 := fun k hk => ⟨(p4 k hk).1, (p4 k hk).2.1⟩
  have hU : ∀ k, k < n → up k = nI (X k) ∧ lo k = nI (Y k) := fun k hk => ⟨(s4 k hk).1, (s4 k hk).2.1⟩
  unfold P_X7_shift
  refine th7_y hv ⟨fun _ => ?_, fun h => absurd h o_ne⟩
  refine ml1 (F := LB_X7_shift_11 post (nI n) up lo lim (nI v) t) (I := fun z => ∃ i : Nat, i ≤ n ∧ z = nI i ∧ ∀ k, k < i → sin X Y v t c k) (μ := fun z => n - z.toNatClampNeg) ?_ 0 ⟨0, by omega, rfl, fun k hk => absurd hk (by omega)⟩
  rintro z ⟨i, hi, rfl, hall⟩ K hK
  unfold LB_X7_shift_11
  by_cases hin : i = n
  · subst hin
    refine br_t (nI_le (Nat.le_refl _) (by omega)) ?_
    refine ml3 (F := LB_X7_shift_52 post (nI i) up lo (nI v) t) (I := fun li q z => ∃ j : Nat, j ≤ i ∧ z = nI j ∧ q = nI (ct (fun k => X k = v ∨ Y k = v) j) ∧ ∀ k, k < i → li k = if k < j then shl X Y v t c k else c k) (μ := fun _ _ z => i - z.toNatClampNeg) ?_ lim 0 0 ⟨0, by omega, rfl, rfl, fun k hk => by rw [if_neg (by omega)]; exact (s4 k hk).2.2.1⟩
    rintro li q z ⟨j, hj, rfl, rfl, hli⟩ K2 hK2
    unfold LB_X7_shift_52 B_X7_shift_117 B_X7_shift_92
    by_cases hje : j = i
    · subst hje
      exact br_t (nI_le (Nat.le_refl _) (by omega)) (h1 hall li (fun k hk => by rw [hli k hk, if_pos hk]))
    · have hlt : j < i := by omega
      have hmu : i - (nI j + 1).toNatClampNeg < i - (nI j).toNatClampNeg := by rw [nI_1, nI_c (by omega), nI_c (by omega)]; omega
      have vj : vp_in (nI j) 24 := vin (by omega) (by omega)
      obtain ⟨x1, x2⟩ := hX j hlt
      have move : (X j = v ∨ Y j = v) → P_X5_shiftedLimit (fun (r2 : Int64) => (vp_in (nI j) 24 ∧ K2 (upd li (nI j).toNatClampNeg r2.toInt32) (nI (ct (fun k => X k = v ∨ Y k = v) j) + (1 : Int32)) (nI j + (1 : Int32)))) up lo li (nI j) (nI v) t := fun hor => by
        refine s_shl p1 hX hU hlt (c := c) (by rw [hli j hlt, if_neg (by omega)]) hv (fun r _ hr => ⟨vj, hK2 _ _ _ ⟨j + 1, by omega, nI_1 j, ?_, fun k hk => ?_⟩ hmu⟩)
        · rw [nI_1, ct_y hor]
        · rw [nI_c (by omega)]
          by_cases e : k = j
          · subst e; rw [pk_us, if_pos (by omega), hr]
          · rw [pk_un e, hli k hk]; exact ifc (by omega)
      rw [nI_c (show j ≤ 2147483647 by omega), (hU j hlt).1, (hU j hlt).2]
      rw [nI_c (show j ≤ 2147483647 by omega)] at move
      refine br_f (nI_ge (by omega) (by omega)) ⟨vj, br_c (fun hx => move (Or.inl ((nI_eq (by omega) (by omega)).mp hx))) (fun hx => ⟨vj, fun hy => hK2 _ _ _ ⟨j + 1, by omega, nI_1 j, ?_, fun k hk => ?_⟩ hmu, fun hy => move (Or.inr ((nI_eq (by omega) (by omega)).mp hy))⟩)⟩
      · rw [ct_n]
        rintro (e | e)
        · exact hx (by rw [e])
        · exact hy (by rw [e])
      · have hx : X j ≠ v := fun e => hx (by rw [e])
        have hy : Y j ≠ v := fun e => hy (by rw [e])
        rw [hli k hk]
        by_cases e : k = j
        · subst e; rw [if_neg (by omega), if_pos (by omega)]; unfold shl; rw [if_neg hx, if_neg hy]
        · exact ifc (by omega)
  · have hlt : i < n := by omega
    refine br_f (nI_ge (by omega) (by omega)) (s_shl p1 hX hU hlt (c := c) (s4 i hlt).2.2.1 hv (fun r hr _ => is32 (fun a b => ⟨fun _ => hK _ ⟨i + 1, by omega, nI_1 i, fun k hk => ?_⟩ (by rw [nI_1, nI_c (by omega), nI_c (by omega)]; omega), fun h => absurd h o_ne⟩) (fun a => ⟨fun h => absurd rfl h, fun _ => h0 ⟨i, hlt, fun z => a ?_⟩⟩)))
    · by_cases e : k = i
      · subst e; unfold sin; omega
      · exact hall k (by omega)
    · unfold sin at z; omega
set_option maxHeartbeats 1000000 in
theorem s_shift8 (hp : Pw n X Y S m L W) (hr : RfP 0 n X Y c S m L W st) {v : Nat} (hv : v < 10) (t : Int32) {post : Int32 → (Nat → Int32) → Prop}
    (h0 : (∃ k, k < n ∧ ¬ sin X Y v t c k) → post (-5) st) (h1 : (∀ k, k < n → sin X Y v t c k) → ∀ st', RfP 0 n X Y (shl X Y v t c) S m L W st' → (∀ j, 107 ≤ j → st' j = st j) → post (nI (ct (fun k => X k = v ∨ Y k = v) n)) st') : P_X8_shift post st (nI v) t := by
  obtain ⟨p1, p2, p3, p4, p5, p6⟩ := id hp
  obtain ⟨r1, r2, r3, r4, r5⟩ := id hr
  have t1 : (-2147483648 : Int64).toInt = -2147483648 := by decide
  have t2 : (2147483647 : Int64).toInt = 2147483647 := by decide
  unfold P_X8_shift
  refine th8_y hv ⟨fun _ => ?_, fun h => absurd h o_ne⟩
  have many : ∀ {s : Nat → Int32} {P : Int32 → Prop}, s (0 + 104) = nI n → P (nI n) → P_X8_many P s := fun e hh => by
    unfold P_X8_many
    rw [show (104 : Int32).toNatClampNeg = 0 + 104 from rfl, e]
    exact ⟨vin (n := 104) (by omega) (by omega), hh⟩
  refine ml2 (F := LB_X8_shift_17 post st (nI v) t 0) (I := fun b z => ∃ i : Nat, i ≤ n ∧ z = nI i ∧ ((b = 0 ∧ ∀ k, k < i → sin X Y v t c k) ∨ (b = 1 ∧ ∃ k, k < n ∧ ¬ sin X Y v t c k))) (μ := fun _ z => n - z.toNatClampNeg) ?_ 0 0 ⟨0, by omega, rfl, Or.inl ⟨rfl, fun k hk => absurd hk (by omega)⟩⟩
  rintro b z ⟨i, hi, rfl, hb⟩ K hK
  unfold LB_X8_shift_17
  refine many r1 ?_
  by_cases hin : i = n
  · subst hin
    refine br_t (nI_le (Nat.le_refl _) (by omega)) ?_
    rcases hb with ⟨rfl, hall⟩ | ⟨rfl, hex⟩
    · refine ml3 (F := LB_X8_shift_112 post (nI v) t 0) (I := fun s q z => ∃ j : Nat, j ≤ i ∧ z = nI j ∧ q = nI (ct (fun k => X k = v ∨ Y k = v) j) ∧ (∀ k, k < i → s (48 + k) = if k < j then shl X Y v t c k else c k) ∧ ∀ x, (x < 48 ∨ 72 ≤ x) → s x = st x) (μ := fun _ _ z => i - z.toNatClampNeg) ?_ st 0 0 ⟨0, by omega, rfl, rfl, fun k hk => ?_, fun _ _ => rfl⟩
      · rintro s q z ⟨j, hj, rfl, rfl, hs1, hs2⟩ K2 hK2
        unfold LB_X8_shift_112 B_X8_shift_225 B_X8_shift_151 B_X8_shift_156 B_X8_shift_204 B_X8_shift_217
        refine many ((hs2 _ (by omega)).trans r1) ?_
        by_cases hje : j = i
        · subst hje
          refine br_t (nI_le (Nat.le_refl _) (by omega)) (br_t rfl (h1 hall s ⟨?_, ?_, ?_, fun k hk => ?_, fun k hk => ?_⟩ (fun x hx => hs2 x (by omega))))
          · rw [hs2 _ (by omega)]; exact r1
          · rw [hs2 _ (by omega)]; exact r2
          · rw [hs2 _ (by omega)]; exact r3
          · obtain ⟨z1, z2, z3, z4⟩ := r4 k hk
            refine ⟨(hs2 _ (by omega)).trans z1, (hs2 _ (by omega)).trans z2, ?_, (hs2 _ (by omega)).trans z4⟩
            rw [show 0 + 48 + k = 48 + k by omega, hs1 k hk, if_pos hk]
          · rw [hs2 _ (by omega)]; exact r5 k hk
        · have hlt : j < i := by omega
          have hmu : i - (nI j + 1).toNatClampNeg < i - (nI j).toNatClampNeg := by rw [nI_1, nI_c (by omega), nI_c (by omega)]; omega
          obtain ⟨x1, x2, x3, x4⟩ := p4 j hlt
          obtain ⟨z1, z2, z3, z4⟩ := r4 j hlt
          have e1 : s j = nI (X j) := (hs2 j (by omega)).trans (by rw [← z1, Nat.zero_add])
          have e2 : s (24 + j) = nI (Y j) := (hs2 _ (by omega)).trans (by rw [← z2, Nat.zero_add])
          have e3 : s (48 + j) = c j := by rw [hs1 j hlt, if_neg (by omega)]
          have vj : vp_in (nI j) 535 := vin (by omega) (by omega)
          have v24 : vp_in ((24 : Int32) + nI j) 535 := ixv (a := 24) rfl (by omega) (by omega)
          have v48 : vp_in ((48 : Int32) + nI j) 535 := ixv (a := 48) rfl (by omega) (by omega)
          rw [ixc (cc := 24) (a := 24) (k := j) rfl (by omega), ixc (cc := 48) (a := 48) (k := j) rfl (by omega), nI_c (show j ≤ 2147483647 by omega), e1, e2, e3]
          have nx : ∀ (y : Int32) (q : Int32), y = shl X Y v t c j → q = nI (ct (fun k => X k = v ∨ Y k = v) (j + 1)) → K2 (upd s (48 + j) y) q (nI j + 1) := fun y q hy hq => by
            refine hK2 _ _ _ ⟨j + 1, by omega, nI_1 j, hq, fun k hk => ?_, fun x hx => by rw [pk_un (by omega)]; exact hs2 x hx⟩ hmu
            by_cases e : k = j
            · subst e; rw [pk_us, if_pos (by omega), hy]
            · rw [pk_un (by omega), hs1 k hk]; exact ifc (by omega)
          refine br_f (nI_ge (by omega) (by omega)) ⟨fun h => absurd rfl h, fun _ => ⟨vj, br_c (fun hx => ?_) (fun hx => ⟨v24, fun hy => ?_, fun hy => ?_⟩)⟩⟩
          · have hx' : X j = v := (nI_eq (by omega) (by omega)).mp hx
            refine ⟨v48, vj, fun h => absurd hx h, fun _ => ⟨v48, fun h => absurd h o_ne, fun _ => nx _ _ (by unfold shl; rw [if_pos hx']) (by rw [nI_1, ct_y (Or.inl hx')])⟩⟩
          · have hx' : X j ≠ v := fun e => hx (by rw [e])
            have hy' : Y j ≠ v := fun e => hy (by rw [e])
            refine ⟨v48, vj, fun _ => ⟨v24, fun _ => ⟨v48, fun _ => nx _ _ (by unfold shl; rw [if_neg hx', if_neg hy', Int32.add_zero]) (by rw [ct_n (fun h => h.elim hx' hy'), Int32.add_zero]), fun h => absurd rfl h⟩, fun h => absurd h hy⟩, fun h => absurd h hx⟩
          · have hx' : X j ≠ v := fun e => hx (by rw [e])
            have hy' : Y j = v := (nI_eq (by omega) (by omega)).mp hy
            refine ⟨v48, vj, fun _ => ⟨v24, fun h => absurd hy h, fun _ => ⟨v48, fun h => absurd h o_ne, fun _ => nx _ _ (by unfold shl; rw [if_neg hx', if_pos hy', Int32.sub_eq_add_neg]) (by rw [nI_1, ct_y (Or.inr hy')])⟩⟩, fun h => absurd h hx⟩
      · rw [if_neg (by omega)]
        have := (r4 k hk).2.2.1
        rw [show 0 + 48 + k = 48 + k by omega] at this
        exact this
    · refine ⟨1, ?_⟩
      show LB_X8_shift_112 post (nI v) t 1 _ st 0 0
      unfold LB_X8_shift_112 B_X8_shift_225
      exact many r1 (br_c (fun _ => br_f o_ne (h0 hex)) (fun _ => ⟨fun _ => br_f o_ne (h0 hex), fun h => absurd h o_ne⟩))
  · have hlt : i < n := by omega
    have hmu : n - (nI i + 1).toNatClampNeg < n - (nI i).toNatClampNeg := by rw [nI_1, nI_c (by omega), nI_c (by omega)]; omega
    obtain ⟨x1, x2, x3, x4⟩ := p4 i hlt
    obtain ⟨z1, z2, z3, z4⟩ := r4 i hlt
    rw [Nat.zero_add] at z1 z2 z3
    obtain ⟨a, b1⟩ := i_rng (c i)
    obtain ⟨a', b'⟩ := i_rng t
    have vi : vp_in (nI i) 535 := vin (by omega) (by omega)
    have v24 : vp_in ((24 : Int32) + nI i) 535 := ixv (a := 24) rfl (by omega) (by omega)
    have v48 : vp_in ((48 : Int32) + nI i) 535 := ixv (a := 48) rfl (by omega) (by omega)
    rw [ixc (cc := 24) (a := 24) (k := i) rfl (by omega), nI_c (show i ≤ 2147483647 by omega), z1, z2]
    have go : ∀ l0 : Int64, l0.toInt = sby X Y v t.toInt i → B_X8_shift_63 K st l0 b (nI i) := fun l0 hl0 => by
      unfold B_X8_shift_63 B_X8_shift_96 B_X8_shift_101
      rcases hb with ⟨rfl, hall⟩ | ⟨rfl, hex⟩
      · refine ⟨fun h => absurd rfl h, fun _ => ⟨v48, ?_⟩⟩
        rw [ixc (cc := 48) (a := 48) (k := i) rfl (by omega), z3]
        have hby : -2147483648 ≤ sby X Y v t.toInt i ∧ sby X Y v t.toInt i ≤ 2147483648 := by unfold sby; split <;> (try split) <;> omega
        have hsum : ((c i).toInt64 + l0).toInt = (c i).toInt + sby X Y v t.toInt i := by rw [l_add (by rw [i2l, hl0]; omega) (by rw [i2l, hl0]; omega), i2l, hl0]
        refine s_in (fun g1 g2 => ⟨fun _ => hK _ _ ⟨i + 1, by omega, nI_1 i, Or.inl ⟨rfl, fun k hk => ?_⟩⟩ hmu, fun h => absurd h o_ne⟩) (fun g => ⟨fun h => absurd rfl h, fun _ => hK _ _ ⟨i + 1, by omega, nI_1 i, Or.inr ⟨rfl, i, hlt, fun z => ?_⟩⟩ hmu⟩)
        · rw [t1, hsum] at g1
          rw [t2, hsum] at g2
          by_cases e : k = i
          · subst e; exact ⟨g1, g2⟩
          · exact hall k (by omega)
        · rw [t1, t2, hsum] at g
          unfold sin at z
          omega
      · exact ⟨fun _ => hK _ _ ⟨i + 1, by omega, nI_1 i, Or.inr ⟨rfl, hex⟩⟩ hmu, fun h => absurd h o_ne⟩
    refine br_f (nI_ge (by omega) (by omega)) ⟨vi, fun hx => ⟨v24, fun hy => go _ ?_, fun hy => go _ ?_⟩, fun hx => go _ ?_⟩
    · have hx : X i ≠ v := fun e => hx (by rw [e])
      have hy : Y i ≠ v := fun e => hy (by rw [e])
      unfold sby; rw [if_neg hx, if_neg hy]; rfl
    · have hx : X i ≠ v := fun e => hx (by rw [e])
      have hy : Y i = v := (nI_eq (by omega) (by omega)).mp hy
      unfold sby; rw [if_neg hx, if_pos hy, l_neg (by rw [i2l]; omega) (by rw [i2l]; omega), i2l]
    · have hx : X i = v := (nI_eq (by omega) (by omega)).mp hx
      unfold sby; rw [if_pos hx, i2l]
theorem k_shift (hP : RPg 0 size marked wh up lo lim str mk st) (x1 x2 : Int32) {Q : Int32 → (Nat → Int32) → Int32 → (Nat → Int32) → Prop}
    (hQ : ∀ r lim' st', RPg 0 size marked wh up lo lim' str mk st' → (∀ j, 107 ≤ j → st' j = st j) → Q r lim' r st') :
    P_X7_shift (fun r lim' => P_X8_shift (fun r2 st' => Q r lim' r2 st') st x1 x2) size up lo lim x1 x2 := by
  obtain ⟨n, X, Y, c, S, m, L, W, hp, ho, hs, hr⟩ := id hP
  rcases cnt_cases x1 10 with ⟨v, hv, rfl⟩ | hx
  · refine s_shift7 hp hs hv x2 (fun hex => s_shift8 hp hr hv x2 (fun _ => hQ _ _ _ hP (fun _ _ => rfl)) (fun hall => ?_)) (fun hall lim' hl => s_shift8 hp hr hv x2 (fun hex => ?_) (fun _ st' hr' hfr => hQ _ _ _ ⟨n, X, Y, shl X Y v x2 c, S, m, L, W, hp, ?_, ?_, hr'⟩ hfr))
    · obtain ⟨k, hk, hno⟩ := hex
      exact absurd (hall k hk) hno
    · obtain ⟨k, hk, hno⟩ := hex
      exact absurd (hall k hk) hno
    · refine pot_nn (fun u => if u = v then 1000 * x2.toInt else 0) ho (fun k hk => ?_)
      have h1 := shl_t (hall k hk)
      have hne := (hp.2.2.2.1 k hk).2.2.1
      unfold wsc cwt
      rw [h1]
      unfold sby
      by_cases ex : X k = v
      · rw [if_pos ex, if_pos ex, if_neg (show ¬ Y k = v from fun e => hne (ex.trans e.symm))]
        split <;> omega
      · rw [if_neg ex, if_neg ex]
        by_cases ey : Y k = v
        · rw [if_pos ey, if_pos ey]
          split <;> omega
        · rw [if_neg ey, if_neg ey]
          split <;> omega
    · obtain ⟨s1, s2, s3, s4, s5⟩ := hs
      exact ⟨s1, s2, s3, fun k hk => ⟨(s4 k hk).1, (s4 k hk).2.1, hl k hk, (s4 k hk).2.2.2⟩, s5⟩
  · unfold P_X7_shift P_X8_shift
    exact th7_n hx ⟨fun h => absurd rfl h, fun _ => th8_n hx ⟨fun h => absurd rfl h, fun _ => hQ _ _ _ hP (fun _ _ => rfl)⟩⟩
end SF
