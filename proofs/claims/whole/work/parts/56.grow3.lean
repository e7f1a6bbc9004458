/-! grow: the reference, both -/
section GY
variable {n m W : Nat} {X Y S L : Nat → Nat} {c : Nat → Int32} {size marked wh : Int32} {up lo lim str mk : Nat → Int32} {st : Nat → Int32}
theorem s_gstep8 (hp : Pw n X Y S m L W) (ho : PgOk n X Y c S W) (hr : RfP 0 n X Y c S m L W st) {fb g : Nat} (hf : fb < 32768) (hg : g < 32768) {D : Nat → Int64} {q sd z : Int32} {K : (Nat → Int32) → (Nat → Int64) → Int32 → Int32 → Int32 → Prop}
    (hn : ¬ gfit W n X Y c S fb g → ∀ D', K st D' sd q (z + 1))
    (hy : gfit W n X Y c S fb g → ∀ st' D', RfP 0 (n + 1) (gu X n (fb % 10)) (gu Y n (fb / 16 % 10)) (gu c n (gcn g)) (gu S n (gs fb)) m L W st' → (∀ j, 107 ≤ j → st' j = st j) → K st' D' sd (q + 1) (z + 1)) : B_X8_grow_99 K st D (nI (gs fb)) sd q z (nI g) (nI (fb % 10)) (nI (fb / 16 % 10)) := by
  have hW := hp.2.2.1
  have hs1 := gs_le fb
  have hn24 := hp.1
  unfold B_X8_grow_99 B_X8_grow_167
  refine br_c (fun e => hn (fun z => z.1 ((nI_eq (by omega) (by omega)).mp e)) D) (fun e => s_many (o := 0) hr (br_c (fun h24 => hn (fun z => nI_ge (a := n) (b := 24) z.2.1 (by omega) h24) D) (fun h24 => ?_)))
  have hlt : n < 24 := by
    by_cases hh : n < 24
    · exact hh
    · exact absurd (show nI 24 ≤ nI n from nI_le (by omega) (by omega)) h24
  have hne : fb % 10 ≠ fb / 16 % 10 := fun z => e (by rw [z])
  rw [gcl hg]
  refine s_isReal hp hr (s_weighed (c := fun _ => gcn g) (S := fun _ => gs fb) (k := 0) hW hs1 (fun w hw => ?_))
  obtain ⟨c1, c2⟩ := cn_rng (W := W) (x := gcn g) hs1
  obtain ⟨e0, e1⟩ := enw_rng (W := W) hs1
  have hw : w.toInt = 1000 * cn W (gcn g) (gs fb) - enw W (gs fb) := hw
  exact s_allowed hp ho hr (by omega) (by omega) (skip := -4) hw e0 e1 c1 c2 (fun hB D' => ⟨fun h => absurd h o_ne, fun _ => s_puts (o := 0) (by omega) hr hlt hp.2.1 (fun st' hr' hfr => hy ⟨hne, hlt, hB⟩ st' D' hr' (fun j hj => hfr j (Or.inr (by omega))))⟩) (fun hB D' => ⟨fun _ => hn (fun z => z.2.2 hB) D', fun h => absurd rfl h⟩)
theorem gr_in {N : Nat} (hN1 : 1 ≤ N) (hN : N ≤ 20) {post : Int32 → Prop} (h : post 1) : P_X8_in post (nI N).toInt64 (1 : Int64) (20 : Int64) := by
  refine s_in (fun _ _ => h) (fun g => ?_)
  rw [i2l, nI_t (by omega), show (1 : Int64).toInt = 1 from by decide, show (20 : Int64).toInt = 20 from by decide] at g
  omega
set_option maxHeartbeats 2000000 in
theorem s_grow8 (hp : Pw n X Y S m L W) (ho : PgOk n X Y c S W) (hr : RfP 0 n X Y c S m L W st) {N : Nat} (hN1 : 1 ≤ N) (hN : N ≤ 20) (x : Int32) {D : Nat → Int64} {post : Int32 → (Nat → Int32) → (Nat → Int64) → Prop}
    (h : ∀ n' X' Y' c' S' q st' D', (∀ Z, GR W Z N x n X Y c S 0 → Z n' X' Y' c' S' q) → RfP 0 n' X' Y' c' S' m L W st' → (∀ j, 107 ≤ j → st' j = st j) → post (nI q) st' D') : P_X8_grow post st D x (nI N) := by
  unfold P_X8_grow
  refine gr_in hN1 hN ⟨fun _ => ?_, fun h => absurd h o_ne⟩
  refine ml5 (F := LB_X8_grow_22 post (nI N)) (I := fun s _ sd q z => ∃ (i qn n' : Nat) (X' Y' : Nat → Nat) (c' : Nat → Int32) (S' : Nat → Nat), i ≤ N ∧ qn ≤ i ∧ z = nI i ∧ q = nI qn ∧ (∀ Z, GR W Z N x n X Y c S 0 → GR W Z (N - i) sd n' X' Y' c' S' qn) ∧ Pw n' X' Y' S' m L W ∧ PgOk n' X' Y' c' S' W ∧ RfP 0 n' X' Y' c' S' m L W s ∧ ∀ j, 107 ≤ j → s j = st j) (μ := fun _ _ _ _ z => N - z.toNatClampNeg) ?_ st D x 0 0 ⟨0, 0, n, X, Y, c, S, by omega, by omega, rfl, rfl, fun Z hZ => hZ, hp, ho, hr, fun _ _ => rfl⟩
  rintro s D' sd q z ⟨i, qn, n', X', Y', c', S', hi, hqi, rfl, rfl, hZ, hp', ho', hr', hfr⟩ K hK
  unfold LB_X8_grow_22
  by_cases hiN : i = N
  · subst hiN
    refine br_t (nI_le (Nat.le_refl _) (by omega)) (h n' X' Y' c' S' qn s D' (fun Z hg => ?_) hr' hfr)
    have := hZ Z hg
    rw [Nat.sub_self] at this
    exact this
  · obtain ⟨t, ht⟩ : ∃ t, N - i = t + 1 := ⟨N - i - 1, by omega⟩
    have ht2 : N - (i + 1) = t := by omega
    rw [ht] at hZ
    have hmu : N - (nI i + 1).toNatClampNeg < N - (nI i).toNatClampNeg := by rw [nI_1, nI_c (by omega), nI_c (by omega)]; omega
    have b1 := (sbv_e (sn sd)).2
    have b2 := (sbv_e (sn (sn sd))).2
    refine br_f (nI_ge (by omega) (by omega)) ?_
    have f1 : sd * (1103515245 : Int32) + (12345 : Int32) = sn sd := rfl
    rw [f1]
    have f2 : sn sd * (1103515245 : Int32) + (12345 : Int32) = sn (sn sd) := rfl
    rw [f2, (sbv_e (sn sd)).1, (sbv_e (sn (sn sd))).1]
    generalize hfb : sbv (sn sd) = fb at b1
    generalize hg : sbv (sn (sn sd)) = g at b2
    rw [ga b1, gb b1, gd b1]
    have stp : B_X8_grow_99 K s D' (nI (gs fb)) (sn (sn sd)) (nI qn) (nI i) (nI g) (nI (fb % 10)) (nI (fb / 16 % 10)) := by
      refine s_gstep8 hp' ho' hr' b1 b2 (fun hno D2 => hK _ _ _ _ _ ⟨i + 1, qn, n', X', Y', c', S', by omega, by omega, nI_1 i, rfl, fun Z hg2 => ?_, hp', ho', hr', hfr⟩ hmu) (fun hfit st2 D2 hr2 hfr2 => hK _ _ _ _ _ ⟨i + 1, qn + 1, n' + 1, _, _, _, _, by omega, by omega, nI_1 i, nI_1 qn, fun Z hg2 => ?_, pw_app1 hp' hfit.2.1 (by omega) (by omega) hfit.1 (gs_le fb), pg_app1 hp' ho' (by omega) (gs_le fb) hfit.2.2, hr2, fun j hj => (hfr2 j hj).trans (hfr j hj)⟩ hmu)
      · have := hZ Z hg2
        rw [ht2]
        subst hfb; subst hg
        exact this.2 hno
      · have := hZ Z hg2
        rw [ht2]
        subst hfb; subst hg
        exact this.1 hfit
    refine ⟨fun h0 => ?_, fun h0 => ?_⟩
    · have : ¬ fb / 256 % 4 = 0 := fun e => h0 (by rw [e]; rfl)
      rw [gs_n this] at stp
      exact stp
    · have : fb / 256 % 4 = 0 := (nI_eq (b := 0) (by omega) (by omega)).mp h0
      rw [gs_y this] at stp
      exact stp
theorem k_grow (hP : RPg 0 size marked wh up lo lim str mk st) (f D : Nat → Int64) (x1 x2 : Int32) {Q : Int32 → Int32 → (Nat → Int64) → (Nat → Int32) → (Nat → Int32) → (Nat → Int32) → (Nat → Int32) → Int32 → (Nat → Int32) → (Nat → Int64) → Prop}
    (hQ : ∀ r size' f' lo' lim' str' up' st' D', RPg 0 size' marked wh up' lo' lim' str' mk st' → (∀ j, 107 ≤ j → st' j = st j) → Q r size' f' lo' lim' str' up' r st' D') :
    P_X7_grow (fun r size' f' lo' lim' str' up' => P_X8_grow (fun r2 st' D' => Q r size' f' lo' lim' str' up' r2 st' D') st D x1 x2) size wh f lo lim str up x1 x2 := by
  obtain ⟨n, X, Y, c, S, m, L, W, hp, ho, hs, hr⟩ := id hP
  have o20 : (20 : Int32).toInt = 20 := by decide
  by_cases hx : 1 ≤ x2.toInt ∧ x2.toInt ≤ 20
  · obtain ⟨N, hN, rfl⟩ := cnt (x := x2) (n := 21) (by omega) (by omega)
    rw [nI_t (by omega)] at hx
    refine s_grow7 hp ho hs (by omega) (by omega) x1 (fun n' X' Y' c' S' q f' size' lo' lim' str' up' hg hp' ho' hs' => s_grow8 hp ho hr (by omega) (by omega) x1 (fun n2 X2 Y2 c2 S2 q2 st' D' hg2 hr2 hfr => ?_))
    obtain ⟨n3, X3, Y3, c3, S3, q3, hex⟩ := GR_ex W N x1 n X Y c S 0
    obtain ⟨rfl, rfl, rfl, rfl, rfl, rfl⟩ := hg _ hex
    obtain ⟨rfl, rfl, rfl, rfl, rfl, rfl⟩ := hg2 _ hex
    exact hQ _ _ _ _ _ _ _ _ _ ⟨_, _, _, _, _, m, L, W, hp', ho', hs', hr2⟩ hfr
  · have bad : P_X8_grow (fun r2 st' D' => Q (-1) size f lo lim str up r2 st' D') st D x1 x2 := by
      unfold P_X8_grow
      refine s_in (fun a b => ?_) (fun _ => ⟨fun h => absurd rfl h, fun _ => hQ _ _ _ _ _ _ _ _ _ hP (fun _ _ => rfl)⟩)
      rw [i2l, show (1 : Int64).toInt = 1 from by decide] at a
      rw [i2l, show (20 : Int64).toInt = 20 from by decide] at b
      omega
    unfold P_X7_grow
    refine br_c (fun _ => bad) (fun g => ⟨fun g2 => ?_, fun _ => bad⟩)
    rw [Int32.lt_iff_toInt_lt, o32] at g
    rw [Int32.le_iff_toInt_le, o20] at g2
    omega
end GY
