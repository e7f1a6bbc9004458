/-! the calls that ask for least weights -/
def Two (E : Nat → Prop) (X Y : Nat → Nat) (cw : Nat → Int) (ew : Nat → Nat) (a b : Nat) (r1 r2 : Int64) : Prop :=
  (r1 = NOROW ∧ r2 = FARL ∧ ∀ l, ¬ pw E X Y a l b) ∨ (∃ C e : Int, Lp E X Y cw ew a b C e ∧ 0 ≤ e ∧ e ≤ 9 ∧ -40000000000 ≤ C ∧ C ≤ 40000000000 ∧ r1 ≠ NOROW ∧ r1.toInt = 1024 * C - e ∧ r2.toInt = 1000 * C - e)
section AK
variable {E : Nat → Prop} {X Y : Nat → Nat} {cw : Nat → Int} {ew : Nat → Nat}
theorem Lp.rng (hE : ∀ k, E k → X k < 10 ∧ Y k < 10) (hw : ∀ k, E k → -4398046511104 ≤ wsc 1000 cw ew k ∧ wsc 1000 cw ew k ≤ 4398046511104) (hN : NoNeg E X Y (wsc 1000 cw ew)) {a b : Nat} (ha : a < 10) {C e : Int} (h : Lp E X Y cw ew a b C e) : -40000000000 ≤ C ∧ C ≤ 40000000000 := by
  obtain ⟨h0, h1, h2, -⟩ := h
  obtain ⟨l, q1, q2, q3⟩ := lst_short (fun k h => (hE k h).1) hN ha h2
  have := sw_bound hw q2
  omega
theorem lp_ex (hE : ∀ k, E k → X k < 10 ∧ Y k < 10) (he : ∀ k, E k → ew k ≤ 1) (hw : ∀ k, E k → -4398046511104 ≤ wsc 1000 cw ew k ∧ wsc 1000 cw ew k ≤ 4398046511104) (hw' : ∀ k, E k → -4398046511104 ≤ wsc 1024 cw ew k ∧ wsc 1024 cw ew k ≤ 4398046511104) (hN : NoNeg E X Y (wsc 1000 cw ew)) {a b : Nat} (ha : a < 10) (h : ∃ l, pw E X Y a l b) : ∃ C e, Lp E X Y cw ew a b C e := by
  have hX := fun k h => (hE k h).1
  obtain ⟨d1, h1⟩ := lst_ex hX hw hN ha h
  obtain ⟨d2, h2⟩ := lst_ex hX hw' (nn_ab hX he hN) ha h
  obtain ⟨C, e, h3, -⟩ := lp_of hX he hN ha h1 h2
  exact ⟨C, e, h3⟩
theorem Lp.uniq {a b : Nat} {C e C' e' : Int} (h : Lp E X Y cw ew a b C e) (h' : Lp E X Y cw ew a b C' e') : C = C' ∧ e = e' := by
  obtain ⟨a1, a2, a3, a4⟩ := h
  obtain ⟨b1, b2, b3, b4⟩ := h'
  have := a3.uniq b3
  omega
theorem two_of (hE : ∀ k, E k → X k < 10 ∧ Y k < 10) (he : ∀ k, E k → ew k ≤ 1) (hw : ∀ k, E k → -4398046511104 ≤ wsc 1000 cw ew k ∧ wsc 1000 cw ew k ≤ 4398046511104) (hw' : ∀ k, E k → -4398046511104 ≤ wsc 1024 cw ew k ∧ wsc 1024 cw ew k ≤ 4398046511104) (hN : NoNeg E X Y (wsc 1000 cw ew)) {a b : Nat} (ha : a < 10) {r1 r2 : Int64}
    (h1 : (r1 = NOROW ∧ ∀ l, ¬ pw E X Y a l b) ∨ (r1 ≠ NOROW ∧ Lst E X Y (wsc 1024 cw ew) a b r1.toInt)) (h2 : (r2 = FARL ∧ ∀ l, ¬ pw E X Y a l b) ∨ (r2.toInt < 1000000000000000000 ∧ Lst E X Y (wsc 1000 cw ew) a b r2.toInt)) : Two E X Y cw ew a b r1 r2 := by
  rcases h1 with ⟨e1, no⟩ | ⟨n1, l1⟩
  · rcases h2 with ⟨e2, -⟩ | ⟨-, l2⟩
    · exact Or.inl ⟨e1, e2, no⟩
    · obtain ⟨⟨l, hl, -⟩, -⟩ := l2
      exact absurd hl (no l)
  · obtain ⟨⟨l, hl, -⟩, -⟩ := id l1
    rcases h2 with ⟨-, no⟩ | ⟨-, l2⟩
    · exact absurd hl (no l)
    · obtain ⟨C, e, h3, h4, h5⟩ := lp_of (fun k h => (hE k h).1) he hN ha l2 l1
      obtain ⟨c1, c2⟩ := h3.rng hE hw hN ha
      exact Or.inr ⟨C, e, h3, h3.1, h3.2.1, c1, c2, n1, h5, h4⟩
/-- a row that speaks against a bound of weight C', e' -/
def Bad (E : Nat → Prop) (X Y : Nat → Nat) (cw : Nat → Int) (ew : Nat → Nat) (a b : Nat) (C' e' : Int) : Prop := ∃ C e : Int, Lp E X Y cw ew a b C e ∧ ng (C + C') (e + e')
end AK
theorem eq64 {a b : Int64} (h : a.toInt = b.toInt) : a = b := Int64.toInt_inj.mp h
section AS
variable {n m W : Nat} {X Y S L : Nat → Nat} {c : Nat → Int32} {size marked wh : Int32} {up lo lim str mk : Nat → Int32} {st : Nat → Int32} {skip : Int32}
theorem pg_E (hp : Pw n X Y S m L W) : ∀ k, (k < n ∧ nI k ≠ skip) → X k < 10 ∧ Y k < 10 := fun k h => ⟨(hp.2.2.2.1 k h.1).1, (hp.2.2.2.1 k h.1).2.1⟩
theorem pg_e (hp : Pw n X Y S m L W) : ∀ k, (k < n ∧ nI k ≠ skip) → ewt W S k ≤ 1 := fun k h => ewt_le (hp.2.2.2.1 k h.1).2.2.2
theorem pg_w (hp : Pw n X Y S m L W) : ∀ k, (k < n ∧ nI k ≠ skip) → -4398046511104 ≤ wsc 1000 (cwt W c S) (ewt W S) k ∧ wsc 1000 (cwt W c S) (ewt W S) k ≤ 4398046511104 := fun k h => wsc_rng 1000 (Or.inl rfl) (hp.2.2.2.1 k h.1).2.2.2
theorem pg_w' (hp : Pw n X Y S m L W) : ∀ k, (k < n ∧ nI k ≠ skip) → -4398046511104 ≤ wsc 1024 (cwt W c S) (ewt W S) k ∧ wsc 1024 (cwt W c S) (ewt W S) k ≤ 4398046511104 := fun k h => wsc_rng 1024 (Or.inr rfl) (hp.2.2.2.1 k h.1).2.2.2
theorem pg_n (ho : PgOk n X Y c S W) : NoNeg (fun k => k < n ∧ nI k ≠ skip) X Y (wsc 1000 (cwt W c S) (ewt W S)) := NoNeg.sub ho (fun k h => h.1)
def LC (n : Nat) (skip : Int32) (X Y : Nat → Nat) (c : Nat → Int32) (S : Nat → Nat) (W a b : Nat) (r : Int64) : Prop := (r = NOROW ∧ ∀ l, ¬ pw (fun k => k < n ∧ nI k ≠ skip) X Y a l b) ∨ (r ≠ NOROW ∧ Lst (fun k => k < n ∧ nI k ≠ skip) X Y (wsc 1024 (cwt W c S) (ewt W S)) a b r.toInt)
def LR (n : Nat) (skip : Int32) (X Y : Nat → Nat) (c : Nat → Int32) (S : Nat → Nat) (W a b : Nat) (r : Int64) : Prop := (r = FARL ∧ ∀ l, ¬ pw (fun k => k < n ∧ nI k ≠ skip) X Y a l b) ∨ (r.toInt < 1000000000000000000 ∧ Lst (fun k => k < n ∧ nI k ≠ skip) X Y (wsc 1000 (cwt W c S) (ewt W S)) a b r.toInt)
theorem s_btw (hp : Pw n X Y S m L W) (ho : PgOk n X Y c S W) (hs : StP n X Y c S m L W size marked wh up lo lim str mk) {a b : Nat} (ha : a < 10) (hb : b < 10) {f : Nat → Int64} {post : Int64 → (Nat → Int64) → Prop}
    (h : ∀ f' : Nat → Int64, (∀ v, v < 10 → LC n skip X Y c S W a v (f' v)) → post (f' b) f') : P_X2_between post f size wh lo lim str up (nI a) (nI b) skip :=
  s_between (stg hp hs hp.2.2.1 hs.2.2.1) (nn_ab (fun k h => (pg_E hp k h).1) (pg_e hp) (pg_n ho)) ha hb h
theorem s_rck (hp : Pw n X Y S m L W) (ho : PgOk n X Y c S W) (hr : RfP 0 n X Y c S m L W st) {D0 : Nat → Int64} {post : (Nat → Int64) → Prop}
    (h : ∀ D : Nat → Int64, (∀ a b, a < 10 → b < 10 → LR n skip X Y c S W a b (D (10 * a + b))) → post D) : P_X8_reckons post st D0 0 skip :=
  s_reckons (o := 0) (rfg (by omega) hp hr) (potOk0 (pg_E hp) (pg_w hp) (pg_n ho)) (fun D hD => h D (fun _ _ ha hb => fw_lst (pg_E hp) (pg_w hp) hD (pg_n ho) ha hb))
theorem two (hp : Pw n X Y S m L W) (ho : PgOk n X Y c S W) {a b : Nat} (ha : a < 10) {r1 r2 : Int64} (h1 : LC n skip X Y c S W a b r1) (h2 : LR n skip X Y c S W a b r2) : Two (fun k => k < n ∧ nI k ≠ skip) X Y (cwt W c S) (ewt W S) a b r1 r2 :=
  two_of (pg_E hp) (pg_e hp) (pg_w hp) (pg_w' hp) (pg_n ho) ha h1 h2
theorem LC0 (hn : n ≤ 24) {a b : Nat} {r : Int64} (h : LC n (-1) X Y c S W a b r) : LC n (-4) X Y c S W a b r := by
  unfold LC at h ⊢
  rw [noskip hn (Or.inl rfl)] at h
  rw [noskip hn (Or.inr rfl)]
  exact h
theorem s_fits (hp : Pw n X Y S m L W) (ho : PgOk n X Y c S W) (hs : StP n X Y c S m L W size marked wh up lo lim str mk) {a b : Nat} (ha : a < 10) (hb : b < 10) {f : Nat → Int64} {w : Int64} {C' e' : Int} (hw : w.toInt = 1024 * C' - e') (h0 : 0 ≤ e') (h1 : e' ≤ 1) (c1 : -3000000000 ≤ C') (c2 : C' ≤ 3000000000) {post : Int32 → (Nat → Int64) → Prop}
    (hy : ¬ Bad (fun k => k < n ∧ nI k ≠ skip) X Y (cwt W c S) (ewt W S) a b C' e' → ∀ f', post 1 f') (hn : Bad (fun k => k < n ∧ nI k ≠ skip) X Y (cwt W c S) (ewt W S) a b C' e' → ∀ f', post 0 f') : P_X7_fits post f size wh lo lim str up (nI a) (nI b) skip w := by
  unfold P_X7_fits
  refine s_btw hp ho hs ha hb (fun f' hf => ?_)
  rcases hf b hb with ⟨e, no⟩ | ⟨ne, hl⟩
  · refine br_t e (hy ?_ f')
    rintro ⟨C, e, ⟨-, -, ⟨⟨l, hl, -⟩, -⟩, -⟩, -⟩
    exact no l hl
  · obtain ⟨⟨l0, hl0, -⟩, -⟩ := id hl
    obtain ⟨C, e, h3⟩ := lp_ex (pg_E hp) (pg_e hp) (pg_w hp) (pg_w' hp) (pg_n ho) ha ⟨l0, hl0⟩
    obtain ⟨k1, k2⟩ := h3.rng (pg_E hp) (pg_w hp) (pg_n ho) ha
    have hv := hl.uniq h3.2.2.2
    have he0 := h3.1
    have he1 := h3.2.1
    have hsum : (f' b + w).toInt = 1024 * (C + C') - (e + e') := by rw [l_add (by omega) (by omega)]; omega
    refine br_f ne (br_c (fun hc => hn ⟨C, e, h3, ?_⟩ f') (fun hc => hy ?_ f'))
    · rw [Int64.lt_iff_toInt_lt, hsum, z64] at hc
      unfold ng
      omega
    · rw [Int64.lt_iff_toInt_lt, hsum, z64] at hc
      rintro ⟨C2, e2, h5, h6⟩
      obtain ⟨rfl, rfl⟩ := h3.uniq h5
      unfold ng at h6
      omega
theorem ixp {a b : Nat} (h : 10 * a + b ≤ 2147483647) : (10 : Int32) * nI a + nI b = nI (10 * a + b) := by rw [show (10 : Int32) = nI 10 from rfl, pk_mul, nI_add]
theorem s_allowed (hp : Pw n X Y S m L W) (ho : PgOk n X Y c S W) (hr : RfP 0 n X Y c S m L W st) {a b : Nat} (ha : a < 10) (hb : b < 10) {D0 : Nat → Int64} {w : Int64} {C' e' : Int} (hw : w.toInt = 1000 * C' - e') (h0 : 0 ≤ e') (h1 : e' ≤ 1) (c1 : -3000000000 ≤ C') (c2 : C' ≤ 3000000000) {post : Int32 → (Nat → Int64) → Prop}
    (hy : ¬ Bad (fun k => k < n ∧ nI k ≠ skip) X Y (cwt W c S) (ewt W S) a b C' e' → ∀ f', post 1 f') (hn : Bad (fun k => k < n ∧ nI k ≠ skip) X Y (cwt W c S) (ewt W S) a b C' e' → ∀ f', post 0 f') : P_X8_isAllowed post st D0 (nI a) (nI b) skip w := by
  unfold P_X8_isAllowed
  refine s_rck hp ho hr (fun D hD => ?_)
  rw [ixp (by omega), nI_c (show 10 * a + b ≤ 2147483647 by omega)]
  refine ⟨vin (by omega) (by omega), ?_⟩
  rcases hD a b ha hb with ⟨e, no⟩ | ⟨ne, hl⟩
  · rw [e]
    refine br_t (by decide) (hy ?_ D)
    rintro ⟨C, e, ⟨-, -, ⟨⟨l, hl, -⟩, -⟩, -⟩, -⟩
    exact no l hl
  · obtain ⟨⟨l0, hl0, -⟩, -⟩ := id hl
    obtain ⟨C, e, h3⟩ := lp_ex (pg_E hp) (pg_e hp) (pg_w hp) (pg_w' hp) (pg_n ho) ha ⟨l0, hl0⟩
    obtain ⟨k1, k2⟩ := h3.rng (pg_E hp) (pg_w hp) (pg_n ho) ha
    have hv := hl.uniq h3.2.2.1
    have he0 := h3.1
    have he1 := h3.2.1
    have hsum : (D (10 * a + b) + w).toInt = 1000 * (C + C') - (e + e') := by rw [l_add (by omega) (by omega)]; omega
    refine br_f (far_le (fun z => by rw [z, far_t] at ne; omega) ne) ⟨vin (by omega) (by omega), br_c (fun hc => hn ⟨C, e, h3, ?_⟩ D) (fun hc => hy ?_ D)⟩
    · rw [Int64.lt_iff_toInt_lt, hsum, z64] at hc
      unfold ng
      omega
    · rw [Int64.lt_iff_toInt_lt, hsum, z64] at hc
      rintro ⟨C2, e2, h5, h6⟩
      obtain ⟨rfl, rfl⟩ := h3.uniq h5
      unfold ng at h6
      omega
theorem lcs (hp : Pw n X Y S m L W) (ho : PgOk n X Y c S W) {a b : Nat} (ha : a < 10) {r : Int64} (h : LC n (-1) X Y c S W a b r) : (r = NOROW ∧ ∀ l, ¬ pw (fun k => k < n ∧ nI k ≠ (-4 : Int32)) X Y a l b) ∨ ∃ C e : Int, Lp (fun k => k < n ∧ nI k ≠ (-4 : Int32)) X Y (cwt W c S) (ewt W S) a b C e ∧ 0 ≤ e ∧ e ≤ 9 ∧ -40000000000 ≤ C ∧ C ≤ 40000000000 ∧ r ≠ NOROW ∧ r.toInt = 1024 * C - e := by
  rcases LC0 hp.1 h with ⟨e, no⟩ | ⟨ne, hl⟩
  · exact Or.inl ⟨e, no⟩
  · obtain ⟨⟨l0, hl0, -⟩, -⟩ := id hl
    obtain ⟨C, e, h3⟩ := lp_ex (pg_E hp) (pg_e hp) (pg_w hp) (pg_w' hp) (pg_n ho) ha ⟨l0, hl0⟩
    obtain ⟨k1, k2⟩ := h3.rng (pg_E hp) (pg_w hp) (pg_n ho) ha
    exact Or.inr ⟨C, e, h3, h3.1, h3.2.1, k1, k2, ne, hl.uniq h3.2.2.2⟩
theorem lr_y {a b : Nat} {r : Int64} {C e : Int} (h : Lp (fun k => k < n ∧ nI k ≠ skip) X Y (cwt W c S) (ewt W S) a b C e) (hr : LR n skip X Y c S W a b r) : r.toInt = 1000 * C - e ∧ r.toInt < 1000000000000000000 := by
  rcases hr with ⟨-, no⟩ | ⟨hlt, hl⟩
  · obtain ⟨-, -, ⟨⟨l, hl, -⟩, -⟩, -⟩ := h
    exact absurd hl (no l)
  · exact ⟨hl.uniq h.2.2.1, hlt⟩
theorem lr_n {a b : Nat} {r : Int64} (no : ∀ l, ¬ pw (fun k => k < n ∧ nI k ≠ skip) X Y a l b) (hr : LR n skip X Y c S W a b r) : r = FARL := by
  rcases hr with ⟨e, -⟩ | ⟨-, ⟨⟨l, hl, -⟩, -⟩⟩
  · exact e
  · exact absurd hl (no l)
theorem t18 : (1000000000000000000 : Int64).toInt = 1000000000000000000 := by decide
theorem told_n {x : Int32} {post : Int64 → Prop} (h : post 1000000000000) : P_X8_told post x FARL := by
  unfold P_X8_told
  exact br_f (by decide) h
theorem told_y {x : Int32} {y : Int64} {C e : Int} (hy : y.toInt = 1000 * C - e) (h0 : 0 ≤ e) (h1 : e ≤ 9) (c1 : -40000000000 ≤ C) (c2 : C ≤ 40000000000) {post : Int64 → Prop} (h : ∀ r : Int64, r.toInt = (if x = 0 then C else e) → post r) : P_X8_told post x y := by
  unfold P_X8_told
  refine br_t (by rw [Int64.lt_iff_toInt_lt, t18]; omega) ⟨fun hx => s_edgesOf8 hy h0 (by omega) (by omega) (by omega) (fun r hr => h r (by rw [if_neg hx]; exact hr)), fun hx => s_limitOf hy h0 (by omega) (by omega) (by omega) (fun r hr => h r (by rw [if_pos hx]; exact hr))⟩
theorem told7 {x : Int32} {y : Int64} {C e : Int} (hy : y.toInt = 1024 * C - e) (h0 : 0 ≤ e) (h1 : e ≤ 9) (c1 : -40000000000 ≤ C) (c2 : C ≤ 40000000000) {post : Int64 → Prop} (h : ∀ r : Int64, r.toInt = (if x = 0 then C else e) → post r) : (¬ x = 0 → P_X7_edgesOf post y) ∧ (x = 0 → P_X7_amountOf post y) :=
  ⟨fun hx => s_edgesOf7 hy h0 (by omega) (by omega) (by omega) (fun r hr => h r (by rw [if_neg hx]; exact hr)), fun hx => s_amountOf hy h0 (by omega) (by omega) (by omega) (fun r hr => h r (by rw [if_pos hx]; exact hr))⟩
theorem k_implied (hp : Pw n X Y S m L W) (ho : PgOk n X Y c S W) (hs : StP n X Y c S m L W size marked wh up lo lim str mk) (hr : RfP 0 n X Y c S m L W st) (f D : Nat → Int64) (x1 x2 x3 : Int32) {Q : Int64 → (Nat → Int64) → Int64 → (Nat → Int64) → Prop} (hQ : ∀ r f' D', Q r f' r D') :
    P_X7_implied (fun r f' => P_X8_implied (fun r2 D' => Q r f' r2 D') st D x1 x2 x3) f size wh lo lim str up x1 x2 x3 := by
  unfold P_X7_implied P_X8_implied
  rcases cnt_cases x1 10 with ⟨a, ha, rfl⟩ | hx
  · refine th7_y ha (br_f o_ne ?_)
    rcases cnt_cases x2 10 with ⟨b, hb, rfl⟩ | hy
    · refine th7_y hb (br_f o_ne (bit7 (fun hbit => ⟨fun _ => ?_, fun h => absurd h o_ne⟩) (fun hbit => ⟨fun h => absurd rfl h, fun _ => ?_⟩)))
      · refine s_btw hp ho hs hb ha (fun f' hf => ?_)
        have ask : ∀ (r : Int64), (∀ D' : Nat → Int64, LR n (-4) X Y c S W b a (D' (10 * b + a)) → P_X8_told (fun r2 => Q r f' r2 D') x3 (D' (10 * b + a))) → P_X8_implied (fun r2 D' => Q r f' r2 D') st D (nI a) (nI b) x3 := fun r hh => by
          unfold P_X8_implied
          refine th8_y ha (br_f o_ne (th8_y hb (br_f o_ne (bit8 (fun _ => ⟨fun _ => s_rck hp ho hr (fun D' hD => ?_), fun h => absurd h o_ne⟩) (fun h => absurd hbit h)))))
          rw [ixp (by omega), nI_c (show 10 * b + a ≤ 2147483647 by omega)]
          exact ⟨vin (by omega) (by omega), hh D' (hD b a hb ha)⟩
        rcases lcs hp ho hb (hf a ha) with ⟨e, no⟩ | ⟨C, e, hl, q1, q2, q3, q4, ne, q5⟩
        · exact ⟨fun h => absurd e h, fun _ => ask _ (fun D' hD' => by rw [lr_n no hD']; exact told_n (hQ _ _ _))⟩
        · refine ⟨fun _ => told7 q5 q1 q2 q3 q4 (fun r hr => ask r (fun D' hD' => told_y (lr_y hl hD').1 q1 q2 q3 q4 (fun r2 hr2 => ?_))), fun h => absurd h ne⟩
          rw [eq64 (hr2.trans hr.symm)]
          exact hQ _ _ _
      · exact th8_y ha (br_f o_ne (th8_y hb (br_f o_ne (bit8 (fun h => absurd h hbit) (fun _ => ⟨fun h => absurd rfl h, fun _ => hQ _ _ _⟩)))))
    · exact th7_n hy (br_t rfl (th8_y ha (br_f o_ne (th8_n hy (br_t rfl (hQ _ _ _))))))
  · exact th7_n hx (br_t rfl (th8_n hx (br_t rfl (hQ _ _ _))))
end AS
