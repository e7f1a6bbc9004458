/-! text: the reference's lines, its loop -/
section TL
variable {b : Nat → Nat} {q : Nat} {tb : Nat → Int32} {T : FT → ZT → Prop} {ends letters : Nat → Int32}
theorem ts8 (hT : TB q tb b) {k a e : Nat} (hI : TI b q k a e) {ba vl told : Int32} {st : Nat → Int32} {post : Int32 → Int32 → Int32 → Int32 → Int32 → Int32 → Int32 → (Nat → Int32) → Prop} {R : FT → ZT → Nat → Nat → Nat → Prop} (hg : ∀ F Z, T F Z → ST b q F (R F Z) k a e) (hF : ∀ c pl sp hh tk' vl', hh ≤ q → Flt q T c pl → post (nI c) (nI pl) sp (nI hh) tk' vl' told st) (hK : ∀ k' a' e' vl', TI b q k' a' e' → a < a' → (∀ F Z, T F Z → R F Z k' a' e') → post 0 ba (nI e') (nI a') (nI (rk k')) vl' told st) : B_X8_readLine_61 post (nI q) (0 : Int32) ba (nI e) (nI a) (nI (rk k)) vl told tb st := by
  obtain ⟨g1, g2, g3⟩ := hI.e_le
  have hq := hT.1
  unfold B_X8_readLine_61
  refine ⟨fun z => absurd rfl z, fun _ => ?_⟩
  by_cases h4 : k = 4
  · have hlt := hI.lt (by omega)
    exact br_t ((rk_3 g3).mpr h4) (nxg8 hT g2 (fun F Z t => (hg F Z t).1 h4) (fun c pl sp hh tk' vl' h1 hf => hF c pl sp hh tk' vl' h1 hf) (fun k' a' e' vl' hI' hle _ hR => hK k' a' e' vl' hI' (by omega) hR))
  · exact br_f (fun z => h4 ((rk_3 g3).mp z)) (fails_y (nx8_b (by decide) (hF 2 a _ a _ _ hI.1 ⟨by omega, by omega, hI.1, fun F Z t => (hg F Z t).2 h4⟩)))
theorem ts8_b {br ba sp he tk vl told tpd : Int32} {st : Nat → Int32} (hb : ¬ br = 0) (hb2 : ¬ br ≤ 0) {post : Int32 → Int32 → Int32 → Int32 → Int32 → Int32 → Int32 → (Nat → Int32) → Prop} (h : post br ba sp he tk vl told st) : B_X8_readLine_61 post tpd br ba sp he tk vl told tb st := by
  unfold B_X8_readLine_61
  exact ⟨fun _ => nx8_b hb2 h, fun z => absurd z hb⟩
set_option maxHeartbeats 2000000 in
theorem rl8 (hT : TB q tb b) (hN : NT ends letters) {n W : Nat} {X Y S : Nat → Nat} {c : Nat → Int32} {st : Nat → Int32} (hD : PgD n X Y c S W) (hr : RfP 321 n X Y c S 0 (fun _ => 0) W st) {k a e : Nat} (hI : TI b q k a e) (hk : k ≠ 0) {ba vl told : Int32} (htold : told = nI (1 - W)) {post : Int32 → Int32 → Int32 → Int32 → Int32 → Int32 → Int32 → (Nat → Int32) → Prop} {R : FT → ZT → LT} (hg : ∀ F Z, T F Z → LN b q F (R F Z) k a e n X Y c S W)
    (hF : ∀ c pl sp hh tk' vl' told' st', hh ≤ q → Flt q T c pl → (∀ j, (j < 321 ∨ 428 ≤ j) → st' j = st j) → post (nI c) (nI pl) sp (nI hh) tk' vl' told' st')
    (hK : ∀ k' a' e' vl' told' st' n' X' Y' c' S' W', TI b q k' a' e' → a < a' → PgD n' X' Y' c' S' W' → told' = nI (1 - W') → RfP 321 n' X' Y' c' S' 0 (fun _ => 0) W' st' → (∀ j, (j < 321 ∨ 428 ≤ j) → st' j = st j) → (∀ F Z, T F Z → R F Z k' a' e' n' X' Y' c' S' W') → post 0 ba (nI e') (nI a') (nI (rk k')) vl' told' st') :
    P_X8_readLine post (nI q) (0 : Int32) ba (nI e) (nI a) (nI (rk k)) vl told ends tb letters st := by
  have hq := hT.1
  have haq := hI.1
  obtain ⟨g1, g2, g3⟩ := hI.e_le
  obtain ⟨hlt1, hlt2⟩ := hI.lt hk
  have hW := hD.1.2.2.1
  unfold P_X8_readLine
  refine nh8 hT hN hI (fun i' hi' hk1 hNM => ?_) (fun hk1 hNM => ?_) (fun hk1 => ?_)
  · have hLI : ∀ F Z, T F Z → LI b q F (R F Z) a e n X Y c S W i' := fun F Z h => hNM _ ((hg F Z h).1 hk1)
    refine ⟨fun _ => ?_, fun z => absurd z (nI_m4 (by omega))⟩
    by_cases h0 : i' = 0
    · subst h0
      refine ⟨fun z => absurd rfl z, fun _ => ?_⟩
      have v6 : vp_in (426 : Int32) 535 := vin (n := 426) (by omega) (by omega)
      have fr : ∀ j, (j < 321 ∨ 428 ≤ j) → upd st (426 : Int32).toNatClampNeg (1 : Int32) j = st j := fun j hj => by
        rw [show (426 : Int32).toNatClampNeg = 426 from rfl, pk_un (by omega)]
      unfold B_X8_readLine_35
      by_cases hW0 : W = 0
      · refine ⟨fun z => ?_, fun _ => fails_y ⟨v6, nx8_b (by decide) (ts8_b (by decide) (by decide) (hF 4 a _ a _ _ _ _ haq ⟨by omega, by omega, haq, fun F Z h => ((((hLI F Z h).2 (by omega)).1 rfl).1 hW0)⟩ fr))⟩⟩
        rw [htold, hW0] at z
        exact absurd z (by decide)
      · have hW1 : W = 1 := by omega
        subst hW1
        refine ⟨fun _ => ⟨v6, ?_⟩, fun z => absurd htold z⟩
        refine nxg8 hT g2 (R := fun F Z k1 a1 e1 => ST b q F (fun k2 a2 e2 => R F Z k2 a2 e2 n X Y c S 0) k1 a1 e1) (fun F Z h => ((((hLI F Z h).2 (by omega)).1 rfl).2 hW0)) (fun c' pl sp hh tk' vl' h1 hf => ts8_b hf.ne hf.pos (hF c' pl _ hh _ _ _ _ h1 hf fr)) (fun k1 a1 e1 vl1 hI1 hle1 _ hR1 => ?_)
        obtain ⟨⟨p1, p2, p3, p4, p5, p6⟩, hc⟩ := hD
        obtain ⟨r1, r2, r3, r4, r5⟩ := hr
        refine ts8 hT hI1 (R := fun F Z k2 a2 e2 => R F Z k2 a2 e2 n X Y c S 0) hR1 (fun c' pl sp hh tk' vl' h1 hf => hF c' pl _ hh _ _ _ _ h1 hf fr) (fun k2 a2 e2 vl2 hI2 hlt2 hR2 => hK k2 a2 e2 vl2 _ _ n X Y c S 0 hI2 (by omega) ⟨⟨p1, p2, by omega, p4, p5, p6⟩, hc⟩ rfl ⟨?_, ?_, ?_, fun j hj => ?_, fun j hj => absurd hj (by omega)⟩ fr hR2)
        · rw [show (426 : Int32).toNatClampNeg = 426 from rfl, pk_un (by omega)]; exact r1
        · rw [show (426 : Int32).toNatClampNeg = 426 from rfl, pk_un (by omega)]; exact r2
        · exact pk_us
        · rw [show (426 : Int32).toNatClampNeg = 426 from rfl, pk_un (by omega), pk_un (by omega), pk_un (by omega), pk_un (by omega)]; exact r4 j hj
    · refine ⟨fun _ => ?_, fun z => absurd ((nI_eq (b := 0) (by omega) (by omega)).mp z) h0⟩
      refine rb8 hT hD.1.1 (by omega) hr hI hk (by omega) (by omega) (R := fun F Z x y v k4 a4 e4 => ST b q F (fun k5 a5 e5 => R F Z k5 a5 e5 (n + nd i') (pX i' x y n X) (pX i' y x n Y) (pc i' v n c) (pS i' n S) W) k4 a4 e4) (fun F Z h => ((hLI F Z h).2 (by omega)).2 h0) (fun c' pl sp hh tk' vl' h1 hf => ts8_b hf.ne hf.pos (hF c' pl _ hh _ _ _ _ h1 hf (fun _ _ => rfl))) (fun x y v k4 a4 e4 vl4 st' hn hx hy hxy v1 v2 hI4 hlt4 hR4 hr4 hfr4 => ?_)
      exact ts8 hT hI4 (R := fun F Z k5 a5 e5 => R F Z k5 a5 e5 (n + nd i') (pX i' x y n X) (pX i' y x n Y) (pc i' v n c) (pS i' n S) W) hR4 (fun c' pl sp hh tk' vl' h1 hf => hF c' pl _ hh _ _ _ _ h1 hf hfr4) (fun k5 a5 e5 vl5 hI5 hlt5 hR5 => hK k5 a5 e5 vl5 _ _ _ _ _ _ _ W hI5 (by omega) (pgd_pb hD (by omega) (by omega) hn hx hy hxy v1 v2) htold hr4 hfr4 hR5)
  · have hLI : ∀ F Z, T F Z → LI b q F (R F Z) a e n X Y c S W 6 := fun F Z h => hNM _ ((hg F Z h).1 hk1)
    exact ⟨fun z => absurd rfl z, fun _ => fails_y (ts8_b (by decide) (by decide) (hF 2 a _ a _ _ _ _ haq ⟨by omega, by omega, haq, fun F Z h => (hLI F Z h).1 rfl⟩ (fun _ _ => rfl)))⟩
  · exact ⟨fun z => absurd rfl z, fun _ => fails_y (ts8_b (by decide) (by decide) (hF 2 a _ a _ _ _ _ haq ⟨by omega, by omega, haq, fun F Z h => (hg F Z h).2 hk1⟩ (fun _ _ => rfl)))⟩
set_option maxHeartbeats 2000000 in
theorem s_text8 (hT : TB q tb b) (hN : NT ends letters) {st kp : Nat → Int32} {D : Nat → Int64} {ba0 he tk vl cm : Int32} {post : Int32 → Int32 → Int32 → Int32 → Int32 → Int32 → Int32 → Int32 → Int32 → Int32 → Int32 → (Nat → Int32) → (Nat → Int64) → (Nat → Int32) → Prop}
    (hF : ∀ cc pl sp hh tk vl told st' x1, Flt q (TXs b q) cc pl → (∀ j, (j < 321 ∨ 428 ≤ j) → st' j = st j) → B_X8_text_70 post (nI cc) (nI pl) sp hh tk vl told cm st' D kp x1)
    (hZ : ∀ i n X Y c S W sp tk vl told st', (∀ F Z, TXs b q F Z → Z n X Y c S W i) → PgD n X Y c S W → RfP 321 n X Y c S 0 (fun _ => 0) W st' → (∀ j, (j < 321 ∨ 428 ≤ j) → st' j = st j) → B_X8_text_70 post (0 : Int32) ba0 sp (nI q) tk vl told cm st' D kp (nI i)) :
    P_X8_text post (nI q) ba0 he tk vl cm tb st ends letters D kp := by
  have hq := hT.1
  have loop := ml9 (F := LB_X8_text_46 post (nI q) cm tb ends letters D kp) (I := fun br ba sp hh tk vl told st' z => (∃ cc pl : Nat, br = nI cc ∧ ba = nI pl ∧ Flt q (TXs b q) cc pl ∧ ∀ j, (j < 321 ∨ 428 ≤ j) → st' j = st j) ∨ (br = 0 ∧ ba = ba0 ∧ ∃ (i t k a e n : Nat) (X Y : Nat → Nat) (c : Nat → Int32) (S : Nat → Nat) (W : Nat), z = nI i ∧ sp = nI e ∧ hh = nI a ∧ tk = nI (rk k) ∧ told = nI (1 - W) ∧ TI b q k a e ∧ i ≤ a ∧ t + i = 330 ∧ PgD n X Y c S W ∧ RfP 321 n X Y c S 0 (fun _ => 0) W st' ∧ (∀ j, (j < 321 ∨ 428 ≤ j) → st' j = st j) ∧ ∀ F Z, TXs b q F Z → TX b q F Z t i k a e n X Y c S W)) (μ := fun _ _ _ _ _ _ _ _ z => 400 - z.toNatClampNeg) (by
    rintro br ba sp hh tk vl told st' z hcase K hK
    unfold LB_X8_text_46
    rcases hcase with ⟨cc, pl, rfl, rfl, hf, hfr⟩ | ⟨rfl, rfl, i, t, k, a, e, n, X, Y, c, S, W, rfl, rfl, rfl, rfl, htold, hI, hia, ht, hD, hr, hfr, hg⟩
    · exact ⟨fun _ => hF _ _ _ _ _ _ _ _ _ hf hfr, fun z => absurd z hf.ne⟩
    · have haq := hI.1
      obtain ⟨g1, g2, g3⟩ := hI.e_le
      obtain ⟨t', rfl⟩ : ∃ t', t = t' + 1 := ⟨t - 1, by omega⟩
      have hmu : 400 - (nI i + 1).toNatClampNeg < 400 - (nI i).toNatClampNeg := by rw [nI_1, nI_c (by omega), nI_c (by omega)]; omega
      refine ⟨fun z => absurd rfl z, fun _ => ?_⟩
      by_cases hk : k = 0
      · refine br_t ((rk_0 g3).mpr hk) ?_
        rw [hI.fin hk]
        exact hZ i n X Y c S W _ _ _ _ _ (fun F Z h => (hg F Z h).1 hk) hD hr hfr
      · refine br_f (fun z => hk ((rk_0 g3).mp z)) ?_
        refine rl8 hT hN hD hr hI hk htold (R := fun F Z => TX b q F Z t' (i + 1)) (fun F Z h => (hg F Z h).2 hk) (fun c' pl sp hh tk' vl' told' st2 h1 hf h2 => hK _ _ _ _ _ _ _ _ _ (Or.inl ⟨c', pl, rfl, rfl, hf, fun j hj => (h2 j hj).trans (hfr j hj)⟩) hmu) (fun k' a' e' vl' told' st2 n' X' Y' c' S' W' hI' hlt' hD' htold' hr' hfr' hR' => hK _ _ _ _ _ _ _ _ _ (Or.inr ⟨rfl, rfl, i + 1, t', k', a', e', n', X', Y', c', S', W', nI_1 i, rfl, rfl, rfl, htold', hI', by omega, by omega, hD', hr', fun j hj => (hfr' j hj).trans (hfr j hj), hR'⟩) hmu))
  unfold P_X8_text
  refine ml2 (F := LB_X8_text_19 post (nI q) (0 : Int32) ba0 (0 : Int32) he tk vl (0 : Int32) cm tb ends letters D kp (0 : Int32)) (I := fun s z => ∃ i : Nat, i ≤ 107 ∧ z = nI i ∧ (∀ j, j < i → s (321 + j) = 0) ∧ ∀ x, (x < 321 ∨ 321 + i ≤ x) → s x = st x) (μ := fun _ z => 107 - z.toNatClampNeg) ?_ st 0 ⟨0, by omega, rfl, fun j hj => absurd hj (by omega), fun _ _ => rfl⟩
  rintro s z ⟨i, hi, rfl, h1, h2⟩ K hK
  unfold LB_X8_text_19
  by_cases e : i = 107
  · subst e
    refine br_t (by decide) ?_
    refine nxg8 (p := 0) hT (Nat.zero_le _) (T := TXs b q) (R := fun F Z k a e => TX b q F Z 330 0 k a e 0 (fun _ => 0) (fun _ => 0) (fun _ => 0) (fun _ => 0) 1) (fun F Z h => h) (fun cc pl sp hh tk' vl' _ hf => ?_) (fun k a e vl' hI _ _ hR => ?_)
    · exact loop _ _ _ _ _ _ _ _ _ (Or.inl ⟨cc, pl, rfl, rfl, hf, fun j hj => h2 j (by omega)⟩)
    · refine loop _ _ _ _ _ _ _ _ _ (Or.inr ⟨rfl, rfl, 0, 330, k, a, e, 0, fun _ => 0, fun _ => 0, fun _ => 0, fun _ => 0, 1, rfl, rfl, rfl, rfl, rfl, hI, Nat.zero_le _, rfl, ⟨⟨by omega, by omega, by omega, fun k hk => absurd hk (by omega), fun i j _ hj => absurd hj (by omega), fun j hj => absurd hj (by omega)⟩, fun k hk => absurd hk (by omega)⟩, ⟨h1 104 (by omega), h1 106 (by omega), h1 105 (by omega), fun k hk => absurd hk (by omega), fun j hj => absurd hj (by omega)⟩, fun j hj => h2 j (by omega), hR⟩)
  · refine br_f (nI_ge (a := i) (b := 107) (by omega) (by omega)) ?_
    rw [show (321 : Int32) = nI 321 from rfl, nI_add, nI_c (show 321 + i ≤ 2147483647 by omega)]
    refine ⟨vin (by omega) (by omega), hK _ _ ⟨i + 1, by omega, nI_1 i, fun j hj => ?_, fun x hx => by rw [pk_un (by omega)]; exact h2 x (by omega)⟩ (by rw [nI_1, nI_c (by omega), nI_c (by omega)]; omega)⟩
    by_cases ej : j = i
    · subst ej; exact pk_us
    · rw [pk_un (by omega)]; exact h1 j (by omega)
end TL
