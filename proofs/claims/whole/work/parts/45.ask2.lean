/-! fixed, reach, room, high, may -/
def Fx (E : Nat → Prop) (X Y : Nat → Nat) (cw : Nat → Int) (ew : Nat → Nat) (a b : Nat) : Prop := ∃ C : Int, Lp E X Y cw ew a b C 0 ∧ Lp E X Y cw ew b a (-C) 0
section A2
variable {n m W : Nat} {X Y S L : Nat → Nat} {c : Nat → Int32} {size marked wh : Int32} {up lo lim str mk : Nat → Int32} {st : Nat → Int32} {skip : Int32}
theorem lp_no {E : Nat → Prop} {cw : Nat → Int} {ew : Nat → Nat} {a b : Nat} {C e : Int} (no : ∀ l, ¬ pw E X Y a l b) (h : Lp E X Y cw ew a b C e) : False := by
  obtain ⟨-, -, ⟨⟨l, hl, -⟩, -⟩, -⟩ := h
  exact no l hl
theorem s_sum7 (hp : Pw n X Y S m L W) (ho : PgOk n X Y c S W) {a b : Nat} (ha : a < 10) (hb : b < 10) {r1 r2 : Int64} (h1 : LC n (-1) X Y c S W a b r1) (h2 : LC n (-1) X Y c S W b a r2) {post : Int32 → Prop}
    (hy : Fx (fun k => k < n ∧ nI k ≠ (-4 : Int32)) X Y (cwt W c S) (ewt W S) a b → post 1) (hn : ¬ Fx (fun k => k < n ∧ nI k ≠ (-4 : Int32)) X Y (cwt W c S) (ewt W S) a b → post 0) : P_X7_sumToNothing post r1 r2 := by
  unfold P_X7_sumToNothing
  rcases lcs hp ho ha h1 with ⟨e, no⟩ | ⟨C, e, hl, q1, q2, q3, q4, ne, q5⟩
  · exact br_t e (hn (fun ⟨C, z, _⟩ => lp_no no z))
  · refine br_f ne ?_
    rcases lcs hp ho hb h2 with ⟨e', no⟩ | ⟨C', e', hl', p1, p2, p3, p4, ne', p5⟩
    · exact br_t e' (hn (fun ⟨C, _, z⟩ => lp_no no z))
    · have hs : (r1 + r2).toInt = r1.toInt + r2.toInt := l_add (by omega) (by omega)
      refine br_f ne' ⟨fun h => hn (fun ⟨C2, z1, z2⟩ => h (eq64 ?_)), fun h => hy ?_⟩
      · obtain ⟨k1, k2⟩ := hl.uniq z1
        obtain ⟨k3, k4⟩ := hl'.uniq z2
        rw [hs, z64]
        omega
      · rw [← Int64.toInt_inj, hs, z64] at h
        have e1 : e = 0 := by omega
        have e2 : e' = 0 := by omega
        have e3 : C' = -C := by omega
        subst e1; subst e2; subst e3
        exact ⟨C, hl, hl'⟩
theorem lrs (hp : Pw n X Y S m L W) (ho : PgOk n X Y c S W) {a b : Nat} (ha : a < 10) {r : Int64} (h : LR n skip X Y c S W a b r) : (r = FARL ∧ ∀ l, ¬ pw (fun k => k < n ∧ nI k ≠ skip) X Y a l b) ∨ ∃ C e : Int, Lp (fun k => k < n ∧ nI k ≠ skip) X Y (cwt W c S) (ewt W S) a b C e ∧ 0 ≤ e ∧ e ≤ 9 ∧ -40000000000 ≤ C ∧ C ≤ 40000000000 ∧ r.toInt = 1000 * C - e := by
  rcases h with ⟨e, no⟩ | ⟨ne, hl⟩
  · exact Or.inl ⟨e, no⟩
  · obtain ⟨⟨l0, hl0, -⟩, -⟩ := id hl
    obtain ⟨C, e, h3⟩ := lp_ex (pg_E hp) (pg_e hp) (pg_w hp) (pg_w' hp) (pg_n ho) ha ⟨l0, hl0⟩
    obtain ⟨k1, k2⟩ := h3.rng (pg_E hp) (pg_w hp) (pg_n ho) ha
    exact Or.inr ⟨C, e, h3, h3.1, h3.2.1, k1, k2, hl.uniq h3.2.2.1⟩
theorem far_n : (1000000000000000000 : Int64) ≤ FARL := by decide
theorem far_y {r : Int64} {C e : Int} (h : r.toInt = 1000 * C - e) (h0 : 0 ≤ e) (c2 : C ≤ 40000000000) : ¬ (1000000000000000000 : Int64) ≤ r := by
  rw [Int64.le_iff_toInt_le, t18]; omega
theorem s_fix8 (hp : Pw n X Y S m L W) (ho : PgOk n X Y c S W) {a b : Nat} (ha : a < 10) (hb : b < 10) {D : Nat → Int64} (hD : ∀ a b, a < 10 → b < 10 → LR n (-4) X Y c S W a b (D (10 * a + b))) {post : Int32 → Prop}
    (hy : Fx (fun k => k < n ∧ nI k ≠ (-4 : Int32)) X Y (cwt W c S) (ewt W S) a b → post 1) (hn : ¬ Fx (fun k => k < n ∧ nI k ≠ (-4 : Int32)) X Y (cwt W c S) (ewt W S) a b → post 0) : P_X8_isFixed post D (nI a) (nI b) := by
  unfold P_X8_isFixed
  rw [ixp (a := a) (b := b) (by omega), ixp (a := b) (b := a) (by omega), nI_c (show 10 * a + b ≤ 2147483647 by omega), nI_c (show 10 * b + a ≤ 2147483647 by omega)]
  refine ⟨vin (by omega) (by omega), vin (by omega) (by omega), ?_⟩
  rcases lrs hp ho hb (hD b a hb ha) with ⟨e, no⟩ | ⟨C, e, hl, q1, q2, q3, q4, q5⟩
  · rw [e]
    exact br_t far_n (hn (fun ⟨C, _, z⟩ => lp_no no z))
  · refine br_f (far_y q5 q1 q4) ?_
    rcases lrs hp ho ha (hD a b ha hb) with ⟨e', no⟩ | ⟨C', e', hl', p1, p2, p3, p4, p5⟩
    · rw [e']
      exact br_t far_n (hn (fun ⟨C, z, _⟩ => lp_no no z))
    · have hs : (D (10 * b + a) + D (10 * a + b)).toInt = (D (10 * b + a)).toInt + (D (10 * a + b)).toInt := l_add (by omega) (by omega)
      refine br_f (far_y p5 p1 p4) ⟨fun h => hn (fun ⟨C2, z1, z2⟩ => h (eq64 ?_)), fun h => hy ?_⟩
      · obtain ⟨k1, k2⟩ := hl.uniq z2
        obtain ⟨k3, k4⟩ := hl'.uniq z1
        rw [hs, z64]
        omega
      · rw [← Int64.toInt_inj, hs, z64] at h
        have e1 : e = 0 := by omega
        have e2 : e' = 0 := by omega
        have e3 : C = -C' := by omega
        subst e1; subst e2; subst e3
        exact ⟨C', hl', hl⟩
theorem k_fixed (hp : Pw n X Y S m L W) (ho : PgOk n X Y c S W) (hs : StP n X Y c S m L W size marked wh up lo lim str mk) (hr : RfP 0 n X Y c S m L W st) (f D : Nat → Int64) (x1 x2 : Int32) {Q : Int32 → (Nat → Int64) → Int32 → (Nat → Int64) → Prop} (hQ : ∀ r f' D', Q r f' r D') :
    P_X7_fixed (fun r f' => P_X8_fixed (fun r2 D' => Q r f' r2 D') st D x1 x2) f size wh lo lim str up x1 x2 := by
  unfold P_X7_fixed
  rcases cnt_cases x1 10 with ⟨a, ha, rfl⟩ | hx
  · refine th7_y ha (br_f o_ne ?_)
    rcases cnt_cases x2 10 with ⟨b, hb, rfl⟩ | hy
    · refine th7_y hb ⟨fun _ => s_btw hp ho hs ha hb (fun f1 h1 => s_btw hp ho hs hb ha (fun f2 h2 => ?_)), fun h => absurd h o_ne⟩
      refine s_sum7 hp ho ha hb (h1 b hb) (h2 a ha) (fun hF => br_f o_ne ?_) (fun hF => br_t rfl ?_)
      · unfold P_X8_fixed
        exact th8_y ha (br_f o_ne (th8_y hb ⟨fun _ => s_rck hp ho hr (fun D' hD => s_fix8 hp ho ha hb hD (fun _ => br_f o_ne (hQ _ _ _)) (fun h => absurd hF h)), fun h => absurd h o_ne⟩))
      · unfold P_X8_fixed
        exact th8_y ha (br_f o_ne (th8_y hb ⟨fun _ => s_rck hp ho hr (fun D' hD => s_fix8 hp ho ha hb hD (fun h => absurd h hF) (fun _ => br_t rfl (hQ _ _ _))), fun h => absurd h o_ne⟩))
    · refine th7_n hy ⟨fun h => absurd rfl h, fun _ => ?_⟩
      unfold P_X8_fixed
      exact th8_y ha (br_f o_ne (th8_n hy ⟨fun h => absurd rfl h, fun _ => hQ _ _ _⟩))
  · refine th7_n hx (br_t rfl ?_)
    unfold P_X8_fixed
    exact th8_n hx (br_t rfl (hQ _ _ _))
theorem k_room (hp : Pw n X Y S m L W) (ho : PgOk n X Y c S W) (hs : StP n X Y c S m L W size marked wh up lo lim str mk) (hr : RfP 0 n X Y c S m L W st) (f D : Nat → Int64) (x1 x2 x3 : Int32) {Q : Int64 → (Nat → Int64) → Int64 → (Nat → Int64) → Prop} (hQ : ∀ r f' D', Q r f' r D') :
    P_X7_room (fun r f' => P_X8_room (fun r2 D' => Q r f' r2 D') st D x1 x2 x3) f size wh lo lim str up x1 x2 x3 := by
  unfold P_X7_room
  refine pair7 (fun hP => br_f o_ne (bit7 (fun hb => ⟨fun _ => ?_, fun h => absurd h o_ne⟩) (fun hb => ⟨fun h => absurd rfl h, fun _ => ?_⟩))) (fun hP => br_t rfl ?_)
  · obtain ⟨a, b, ha, hb', hab, rfl, rfl⟩ := id hP
    refine s_btw hp ho hs ha hb' (fun f' hf => ?_)
    have ask : ∀ (r : Int64), (∀ D' : Nat → Int64, LR n (-4) X Y c S W a b (D' (10 * a + b)) → ((D' (10 * a + b) < (1000000000000000000 : Int64) → ((¬ x3 = 0 → P_X8_edgesOf (fun (r4 : Int64) => ((r4 ≤ (0 : Int64) → Q r f' (0 : Int64) D') ∧ (¬ r4 ≤ (0 : Int64) → Q r f' (1 : Int64) D'))) (D' (10 * a + b))) ∧ (x3 = 0 → P_X8_limitOf (fun (r5 : Int64) => Q r f' (-r5) D') (D' (10 * a + b))))) ∧ (¬ D' (10 * a + b) < (1000000000000000000 : Int64) → Q r f' (1000000000000 : Int64) D'))) → P_X8_room (fun r2 D' => Q r f' r2 D') st D (nI a) (nI b) x3 := fun r hh => by
      unfold P_X8_room
      refine pair8 (fun _ => br_f o_ne (bit8 (fun _ => ⟨fun _ => s_rck hp ho hr (fun D' hD => ?_), fun h => absurd h o_ne⟩) (fun h => absurd hb h))) (fun h => absurd hP h)
      rw [ixp (by omega), nI_c (show 10 * a + b ≤ 2147483647 by omega)]
      exact ⟨vin (by omega) (by omega), hh D' (hD a b ha hb')⟩
    rcases lcs hp ho ha (hf b hb') with ⟨e, no⟩ | ⟨C, e, hl, q1, q2, q3, q4, ne, q5⟩
    · refine ⟨fun h => absurd e h, fun _ => ask _ (fun D' hD' => ?_)⟩
      rw [lr_n no hD']
      exact br_f (by decide) (hQ _ _ _)
    · refine ⟨fun _ => ⟨fun hx => s_edgesOf7 q5 q1 (by omega) (by omega) (by omega) (fun r hr => br_c (fun hc => ?_) (fun hc => ?_)), fun hx => s_amountOf q5 q1 (by omega) (by omega) (by omega) (fun r hr => ?_)⟩, fun h => absurd h ne⟩
      · refine ask _ (fun D' hD' => ?_)
        obtain ⟨p1, p2⟩ := lr_y hl hD'
        refine br_t (by rw [Int64.lt_iff_toInt_lt, t18]; omega) ⟨fun _ => s_edgesOf8 p1 q1 (by omega) (by omega) (by omega) (fun r2 hr2 => ?_), fun h => absurd h hx⟩
        rw [eq64 (hr2.trans hr.symm)]
        exact br_t hc (hQ _ _ _)
      · refine ask _ (fun D' hD' => ?_)
        obtain ⟨p1, p2⟩ := lr_y hl hD'
        refine br_t (by rw [Int64.lt_iff_toInt_lt, t18]; omega) ⟨fun _ => s_edgesOf8 p1 q1 (by omega) (by omega) (by omega) (fun r2 hr2 => ?_), fun h => absurd h hx⟩
        rw [eq64 (hr2.trans hr.symm)]
        exact br_f hc (hQ _ _ _)
      · refine ask _ (fun D' hD' => ?_)
        obtain ⟨p1, p2⟩ := lr_y hl hD'
        refine br_t (by rw [Int64.lt_iff_toInt_lt, t18]; omega) ⟨fun h => absurd hx h, fun _ => s_limitOf p1 q1 (by omega) (by omega) (by omega) (fun r2 hr2 => ?_)⟩
        rw [eq64 (hr2.trans hr.symm)]
        exact hQ _ _ _
  · unfold P_X8_room
    exact pair8 (fun _ => br_f o_ne (bit8 (fun h => absurd h hb) (fun _ => ⟨fun h => absurd rfl h, fun _ => hQ _ _ _⟩))) (fun h => absurd hP h)
  · unfold P_X8_room
    exact pair8 (fun h => absurd h hP) (fun _ => br_t rfl (hQ _ _ _))
theorem cwt_rng {k : Nat} (hS : S k ≤ 1) : -3000000000 ≤ cwt W c S k ∧ cwt W c S k ≤ 3000000000 := by
  obtain ⟨a, b⟩ := i_rng (c k)
  unfold cwt
  split <;> omega
theorem s_isReal (hp : Pw n X Y S m L W) (hr : RfP 0 n X Y c S m L W st) {post : Int32 → Prop} (h : post (nI (1 - W))) : P_X8_isReal post st := by
  obtain ⟨-, -, h3, -⟩ := hr
  have hW := hp.2.2.1
  unfold P_X8_isReal
  rw [show (105 : Int32).toNatClampNeg = 0 + 105 from rfl, h3]
  refine ⟨vin (n := 105) (by omega) (by omega), fun e => ?_, fun e => ?_⟩
  · have : W = 1 := by
      by_cases z : W = 1
      · exact z
      · have : W = 0 := by omega
        subst this
        exact absurd rfl e
    subst this
    exact h
  · rw [e] at h; exact h
theorem k_may (hp : Pw n X Y S m L W) (ho : PgOk n X Y c S W) (hs : StP n X Y c S m L W size marked wh up lo lim str mk) (hr : RfP 0 n X Y c S m L W st) (f D : Nat → Int64) (x1 x2 x3 x4 : Int32) {Q : Int32 → (Nat → Int64) → Int32 → (Nat → Int64) → Prop} (hQ : ∀ r f' D', Q r f' r D') :
    P_X7_may (fun r f' => P_X8_may (fun r2 D' => Q r f' r2 D') st D x1 x2 x3 x4) size wh f lo lim str up x1 x2 x3 x4 := by
  unfold P_X7_may
  refine pair7 (fun hP => br_f o_ne (bit7 (fun hb => ⟨fun _ => ?_, fun h => absurd h o_ne⟩) (fun hb => ⟨fun h => absurd rfl h, fun _ => ?_⟩))) (fun hP => br_t rfl ?_)
  · obtain ⟨a, b, ha, hb', hab, rfl, rfl⟩ := id hP
    obtain ⟨s, hs1, rfl⟩ : ∃ s : Nat, s ≤ 1 ∧ x4 = nI s := by
      rcases hb with rfl | rfl
      · exact ⟨0, by omega, rfl⟩
      · exact ⟨1, by omega, rfl⟩
    have hW := hp.2.2.1
    rw [hs.2.2.1]
    refine s_weigh (c := fun _ => x3) (S := fun _ => s) (k := 0) hW hs1 (fun w hw => ?_)
    obtain ⟨c1, c2⟩ := cwt_rng (W := W) (c := fun _ => x3) (S := fun _ => s) (k := 0) hs1
    have e1 := ewt_le (W := W) (S := fun _ => s) (k := 0) hs1
    have hs' := hs
    rw [hs.2.2.1] at hs'
    have go : ∀ (r : Int32) (f' : Nat → Int64), (∀ (post : Int32 → (Nat → Int64) → Prop) (w' : Int64), w'.toInt = 1000 * cwt W (fun _ => x3) (fun _ => s) 0 - (ewt W (fun _ => s) 0 : Int) → (∀ D', post r D') → P_X8_isAllowed post st D (nI a) (nI b) (-4) w') → (r = 0 ∨ r = 1) → P_X8_may (fun r2 D' => Q r f' r2 D') st D (nI a) (nI b) x3 (nI s) := fun r f' hh hr01 => by
      unfold P_X8_may
      refine pair8 (fun _ => br_f o_ne (bit8 (fun _ => ⟨fun _ => s_isReal hp hr (s_weighed (c := fun _ => x3) (S := fun _ => s) (k := 0) hW hs1 (fun w' hw' => ?_)), fun h => absurd h o_ne⟩) (fun h => absurd hb h))) (fun h => absurd hP h)
      refine hh _ w' hw' (fun D' => ?_)
      rcases hr01 with rfl | rfl
      · exact br_t rfl (hQ _ _ _)
      · exact br_f o_ne (hQ _ _ _)
    refine s_fits hp ho hs' ha hb' (skip := -1) (C' := cwt W (fun _ => x3) (fun _ => s) 0) (e' := (ewt W (fun _ => s) 0 : Int)) hw (by omega) (by omega) (by omega) (by omega) (fun hB f' => br_f o_ne ?_) (fun hB f' => br_t rfl ?_)
    · rw [noskip hp.1 (Or.inl rfl)] at hB
      refine go 1 f' (fun post w' hw' h => s_allowed hp ho hr ha hb' (C' := cwt W (fun _ => x3) (fun _ => s) 0) (e' := (ewt W (fun _ => s) 0 : Int)) hw' (by omega) (by omega) (by omega) (by omega) (fun _ D' => h D') (fun hB2 => ?_)) (Or.inr rfl)
      rw [noskip hp.1 (Or.inr rfl)] at hB2
      exact absurd hB2 hB
    · rw [noskip hp.1 (Or.inl rfl)] at hB
      refine go 0 f' (fun post w' hw' h => s_allowed hp ho hr ha hb' (C' := cwt W (fun _ => x3) (fun _ => s) 0) (e' := (ewt W (fun _ => s) 0 : Int)) hw' (by omega) (by omega) (by omega) (by omega) (fun hB2 => ?_) (fun _ D' => h D')) (Or.inl rfl)
      rw [noskip hp.1 (Or.inr rfl)] at hB2
      exact absurd hB hB2
  · unfold P_X8_may
    exact pair8 (fun _ => br_f o_ne (bit8 (fun h => absurd h hb) (fun _ => ⟨fun h => absurd rfl h, fun _ => hQ _ _ _⟩))) (fun h => absurd hP h)
  · unfold P_X8_may
    exact pair8 (fun h => absurd h hP) (fun _ => br_t rfl (hQ _ _ _))
end A2
