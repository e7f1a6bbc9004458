/-! text: the reference's names, bounds and lines -/
abbrev endS : List Nat := [0, 4, 8, 12, 17, 21, 25]
abbrev letS : List Int32 := [114, 101, 97, 108, 109, 111, 115, 116, 108, 101, 115, 115, 108, 101, 97, 115, 116, 111, 118, 101, 114, 115, 97, 109, 101]
/-- the reference's tables of names -/
def NT (ends letters : Nat → Int32) : Prop := (∀ i, i < 7 → ends i = nI (endS.getD i 0)) ∧ ∀ j, j < 25 → letters j = letS.getD j 0
theorem end_ok : ∀ i, i < 6 → endS.getD (i + 1) 0 = endS.getD i 0 + lenS.getD i 0 ∧ endS.getD i 0 + lenS.getD i 0 ≤ 25 := by decide +kernel
theorem let_ok : ∀ i, i < 6 → ∀ j, j < 5 → j < lenS.getD i 0 → letS.getD (endS.getD i 0 + j) 0 = (bytS.getD i []).getD j 0 := by decide +kernel
section NH
variable {b : Nat → Nat} {q : Nat} {tb : Nat → Int32} {T : FT → ZT → Prop} {ends letters : Nat → Int32}
theorem nm_at {R : Nat → Prop} {n a e : Nat} (hn : n < 6) (h : ∀ i, i < n → ¬ wm b i a e) (hw : wm b n a e) (hR : NM b R a e) : R n := by
  have c : n = 0 ∨ n = 1 ∨ n = 2 ∨ n = 3 ∨ n = 4 ∨ n = 5 := by omega
  rcases c with rfl | rfl | rfl | rfl | rfl | rfl
  · exact hR.1 hw
  · exact (hR.2 (h 0 (by omega))).1 hw
  · exact ((hR.2 (h 0 (by omega))).2 (h 1 (by omega))).1 hw
  · exact (((hR.2 (h 0 (by omega))).2 (h 1 (by omega))).2 (h 2 (by omega))).1 hw
  · exact ((((hR.2 (h 0 (by omega))).2 (h 1 (by omega))).2 (h 2 (by omega))).2 (h 3 (by omega))).1 hw
  · exact (((((hR.2 (h 0 (by omega))).2 (h 1 (by omega))).2 (h 2 (by omega))).2 (h 3 (by omega))).2 (h 4 (by omega))).1 hw
theorem nm_6 {R : Nat → Prop} {a e : Nat} (h : ∀ i, i < 6 → ¬ wm b i a e) (hR : NM b R a e) : R 6 := (((((hR.2 (h 0 (by omega))).2 (h 1 (by omega))).2 (h 2 (by omega))).2 (h 3 (by omega))).2 (h 4 (by omega))).2 (h 5 (by omega))
set_option maxHeartbeats 1000000 in
theorem nh8 (hT : TB q tb b) (hN : NT ends letters) {k a e : Nat} (hI : TI b q k a e) {post : Int32 → Prop} (hK : ∀ i, i < 6 → k = 1 → (∀ R : Nat → Prop, NM b R a e → R i) → post (nI i)) (h6 : k = 1 → (∀ R : Nat → Prop, NM b R a e → R 6) → post (-4)) (h0 : ¬ k = 1 → post (-4)) : P_X8_nameHere post (nI q) (nI e) (nI a) (nI (rk k)) ends tb letters := by
  have hq := hT.1
  obtain ⟨g1, g2, g3⟩ := hI.e_le
  unfold P_X8_nameHere
  refine ml1 (F := LB_X8_nameHere_2 post (nI q) (nI e) (nI a) (nI (rk k)) ends tb letters) (I := fun z => ∃ n : Nat, n ≤ 6 ∧ z = nI n ∧ ∀ i, i < n → ¬ wm b i a e) (μ := fun z => 10 - z.toNatClampNeg) ?_ 0 ⟨0, by omega, rfl, fun i hi => absurd hi (by omega)⟩
  rintro z ⟨n, hn, rfl, hno⟩ K2 hK2
  unfold LB_X8_nameHere_2
  by_cases hn6 : n = 6
  · subst hn6
    refine br_t (by decide) ?_
    by_cases hk : k = 1
    · exact h6 hk (fun R hR => nm_6 hno hR)
    · exact h0 hk
  · refine br_f (nI_ge (a := n) (b := 6) (by omega) (by omega)) ?_
    by_cases hk : k = 1
    · obtain ⟨e1, e2⟩ := end_ok n (by omega)
      have hl := len_ok n (by omega)
      refine ⟨fun z => absurd ((rk_1 g3).mpr hk) z, fun _ => ?_⟩
      rw [nI_1, nI_c (show n + 1 ≤ 2147483647 by omega), nI_c (show n ≤ 2147483647 by omega), hN.1 (n + 1) (by omega), hN.1 n (by omega), pk_sub g1, pk_sub (show endS.getD n 0 ≤ endS.getD (n + 1) 0 by omega), show endS.getD (n + 1) 0 - endS.getD n 0 = lenS.getD n 0 by omega]
      have hmu : 10 - (nI n + 1).toNatClampNeg < 10 - (nI n).toNatClampNeg := by rw [nI_1, nI_c (by omega), nI_c (by omega)]; omega
      have nxt : ¬ wm b n a e → K2 (nI n + 1) := fun hw => hK2 _ ⟨n + 1, by omega, nI_1 n, fun i hi => by
        by_cases ei : i = n
        · subst ei; exact hw
        · exact hno i (by omega)⟩ hmu
      have inner : ∀ s : Int32, ((s = 0 ∧ ¬ wm b n a e) ∨ (s = 1 ∧ e = a + lenS.getD n 0)) → B_X8_nameHere_48 post K2 (nI q) (nI e) (nI a) ends tb letters s (nI n) := fun s hs => by
        unfold B_X8_nameHere_48
        refine ml2 (F := LB_X8_nameHere_51 post K2 (nI q) (nI e) (nI a) ends tb letters (nI n)) (I := fun s z => (s = 0 ∧ ¬ wm b n a e) ∨ (s = 1 ∧ e = a + lenS.getD n 0 ∧ ∃ j : Nat, j ≤ lenS.getD n 0 ∧ z = nI j ∧ ∀ j', j' < j → nI (b (a + j')) = (bytS.getD n []).getD j' 0)) (μ := fun _ z => 20 - z.toNatClampNeg) ?_ s 0 ?_
        · rintro s z hcase K hK'
          unfold LB_X8_nameHere_51 B_X8_nameHere_106 B_X8_nameHere_99
          rcases hcase with ⟨rfl, hw⟩ | ⟨rfl, hle, j, hj, rfl, hall⟩
          · exact br_t rfl (br_t rfl (nxt hw))
          · refine br_f o_ne ?_
            rw [pk_sub g1]
            by_cases hjl : j = lenS.getD n 0
            · exact br_t (nI_le (by omega) (by omega)) (br_f o_ne (hK n (by omega) hk (fun R hR => nm_at (by omega) hno ⟨hle, fun j' hj' => hall j' (by omega)⟩ hR)))
            · have hmu2 : 20 - (nI j + 1).toNatClampNeg < 20 - (nI j).toNatClampNeg := by rw [nI_1, nI_c (by omega), nI_c (by omega)]; omega
              refine br_f (nI_ge (by omega) (by omega)) ?_
              rw [nI_add, nI_c (show n ≤ 2147483647 by omega), hN.1 n (by omega), nI_add, nI_c (show endS.getD n 0 + j ≤ 2147483647 by omega), hN.2 _ (show endS.getD n 0 + j < 25 by omega), let_ok n (by omega) j (by omega) (by omega)]
              refine by8_y hT (by omega) ⟨vin (by omega) (by omega), vin (by omega) (by omega), fun hne => hK' _ _ (Or.inl ⟨rfl, fun w => hne (w.2 j (by omega))⟩) hmu2, fun heq => hK' _ _ (Or.inr ⟨rfl, hle, j + 1, by omega, nI_1 j, fun j' hj' => ?_⟩) hmu2⟩
              by_cases ej : j' = j
              · subst ej; exact heq
              · exact hall j' (by omega)
        · rcases hs with h | ⟨h1, h2⟩
          · exact Or.inl h
          · exact Or.inr ⟨h1, h2, 0, Nat.zero_le _, rfl, fun j' hj' => absurd hj' (by omega)⟩
      refine ⟨vin (by omega) (by omega), vin (by omega) (by omega), fun hne => inner 0 (Or.inl ⟨rfl, fun w => hne ?_⟩), fun heq => inner 1 (Or.inr ⟨rfl, ?_⟩)⟩
      · rw [show e - a = lenS.getD n 0 by have := w.1; omega]
      · have := (nI_eq (by omega) (by omega)).mp heq
        omega
    · exact ⟨fun _ => h0 hk, fun z => absurd ((rk_1 g3).mp z) hk⟩
theorem in35_n {i : Nat} (hi : i < 3) {post : Int32 → Prop} (h : post 0) : P_X8_in post (nI i).toInt64 (3 : Int64) (5 : Int64) := by
  refine s_in (fun a _ => ?_) (fun _ => h)
  rw [i2l, nI_t (by omega), show (3 : Int64).toInt = 3 from by decide] at a
  omega
theorem in35_y {i : Nat} (hi : 3 ≤ i) (hi5 : i ≤ 5) {post : Int32 → Prop} (h : post 1) : P_X8_in post (nI i).toInt64 (3 : Int64) (5 : Int64) := by
  refine s_in (fun _ _ => h) (fun g => ?_)
  rw [i2l, nI_t (by omega), show (3 : Int64).toInt = 3 from by decide, show (5 : Int64).toInt = 5 from by decide] at g
  omega
variable {n m W : Nat} {X Y S L : Nat → Nat} {c : Nat → Int32} {st : Nat → Int32}
theorem pb8 (hr : RfP 321 n X Y c S m L W st) (hm : m ≤ 8) {i x y : Nat} {v : Int32} (hi1 : 1 ≤ i) (hi5 : i ≤ 5) (hn : n + nd i ≤ 24) {ba sp he tk vl : Int32} {post : Int32 → Int32 → Int32 → Int32 → Int32 → Int32 → (Nat → Int32) → Prop} (h : ∀ st', RfP 321 (n + nd i) (pX i x y n X) (pX i y x n Y) (pc i v n c) (pS i n S) m L W st' → (∀ j, (j < 321 ∨ 428 ≤ j) → st' j = st j) → post 0 ba sp he tk vl st') :
    ((nI i = (3 : Int32) → B_X8_readBound_95 post (0 : Int32) ba sp he tk vl st (nI i) (nI x) (nI y) v) ∧ (¬ nI i = (3 : Int32) → ((nI i = (4 : Int32) → B_X8_readBound_95 post (0 : Int32) ba sp he tk vl st (nI i) (nI x) (nI y) v) ∧ (¬ nI i = (4 : Int32) → ((¬ nI i = (2 : Int32) → B_X8_readBound_92 post (0 : Int32) ba sp he tk vl st (321 : Int32) (nI x) (nI y) v (0 : Int32) (nI i) (nI x) (nI y) v) ∧ (nI i = (2 : Int32) → B_X8_readBound_92 post (0 : Int32) ba sp he tk vl st (321 : Int32) (nI x) (nI y) v (1 : Int32) (nI i) (nI x) (nI y) v)))))) := by
  have e : i = 1 ∨ i = 2 ∨ i = 3 ∨ i = 4 ∨ i = 5 := by omega
  unfold B_X8_readBound_92 B_X8_readBound_95
  rcases e with rfl | rfl | rfl | rfl | rfl
  · have hn : n + 1 ≤ 24 := hn
    exact br_f (by decide) (br_f (by decide) ⟨fun _ => s_puts (o := 321) (s := 0) (by omega) hr (by omega) hm (fun st' h1 h2 => ⟨fun z => absurd rfl z, fun _ => in35_n (by omega) (br_t rfl (h st' h1 h2))⟩), fun z => absurd z (by decide)⟩)
  · have hn : n + 1 ≤ 24 := hn
    exact br_f (by decide) (br_f (by decide) ⟨fun z => absurd rfl z, fun _ => s_puts (o := 321) (s := 1) (by omega) hr (by omega) hm (fun st' h1 h2 => ⟨fun z => absurd rfl z, fun _ => in35_n (by omega) (br_t rfl (h st' h1 h2))⟩)⟩)
  · have hn : n + 1 ≤ 24 := hn
    exact br_t rfl ⟨fun z => absurd rfl z, fun _ => in35_y (by omega) (by omega) (br_f o_ne ⟨fun _ => s_puts (o := 321) (s := 0) (by omega) hr (by omega) hm (fun st' h1 h2 => h st' h1 h2), fun z => absurd z (by decide)⟩)⟩
  · have hn : n + 1 ≤ 24 := hn
    exact br_f (by decide) (br_t rfl ⟨fun z => absurd rfl z, fun _ => in35_y (by omega) (by omega) (br_f o_ne ⟨fun z => absurd rfl z, fun _ => s_puts (o := 321) (s := 1) (by omega) hr (by omega) hm (fun st' h1 h2 => h st' h1 h2)⟩)⟩)
  · have hn : n + 2 ≤ 24 := hn
    exact br_f (by decide) (br_f (by decide) ⟨fun _ => s_puts (o := 321) (s := 0) (by omega) hr (by omega) hm (fun st' h1 h2 => ⟨fun z => absurd rfl z, fun _ => in35_y (by omega) (by omega) (br_f o_ne ⟨fun _ => s_puts (o := 321) (s := 0) (by omega) h1 (by omega) hm (fun st2 h3 h4 => h st2 h3 (fun j hj => (h4 j hj).trans (h2 j hj))), fun z => absurd z (by decide)⟩)⟩), fun z => absurd z (by decide)⟩)
set_option maxHeartbeats 1000000 in
theorem rb8 (hT : TB q tb b) (hn24 : n ≤ 24) (hm : m ≤ 8) (hr : RfP 321 n X Y c S m L W st) {k a e i : Nat} (hI : TI b q k a e) (hk0 : k ≠ 0) (hi1 : 1 ≤ i) (hi5 : i ≤ 5) {ba vl : Int32} {post : Int32 → Int32 → Int32 → Int32 → Int32 → Int32 → (Nat → Int32) → Prop} {R : FT → ZT → Nat → Nat → Int32 → Nat → Nat → Nat → Prop} (hg : ∀ F Z, T F Z → RBG b q F (R F Z) i a e n)
    (hF : ∀ c pl sp hh tk' vl', hh ≤ q → Flt q T c pl → post (nI c) (nI pl) sp (nI hh) tk' vl' st)
    (hK : ∀ x y v k' a' e' vl' st', n + nd i ≤ 24 → x < 10 → y < 10 → x ≠ y → -9999 ≤ v.toInt → v.toInt ≤ 9999 → TI b q k' a' e' → a < a' → (∀ F Z, T F Z → R F Z x y v k' a' e') → RfP 321 (n + nd i) (pX i x y n X) (pX i y x n Y) (pc i v n c) (pS i n S) m L W st' → (∀ j, (j < 321 ∨ 428 ≤ j) → st' j = st j) → post 0 ba (nI e') (nI a') (nI (rk k')) vl' st') :
    P_X8_readBound post (nI q) (0 : Int32) ba (nI e) (nI a) (nI (rk k)) vl st tb (nI i) := by
  obtain ⟨g1, g2, g3⟩ := hI.e_le
  have hlt := hI.lt hk0
  have hq := hT.1
  have hnd : nd i ≤ 2 := by unfold nd; split <;> omega
  have go : ∀ {k0 : Int32}, k0 = nI (nd i) → B_X8_readBound_10 post (nI q) (0 : Int32) ba (nI e) (nI a) (nI (rk k)) vl st tb k0 (nI i) := fun {k0} hk0 => by
    unfold B_X8_readBound_10
    rw [hk0, show (425 : Int32).toNatClampNeg = 321 + 104 from rfl, hr.1, nI_add]
    refine ⟨vin (n := 425) (by omega) (by omega), ?_⟩
    by_cases hn : n + nd i ≤ 24
    · refine br_t (show nI (n + nd i) ≤ nI 24 from nI_le hn (by omega)) ?_
      have fin : ∀ (c' pl hh : Nat) (sp tk' vl' r2 r3 r4 : Int32), hh ≤ q → Flt q T c' pl → ((¬ nI c' = 0 → B_X8_readBound_95 post (nI c') (nI pl) sp (nI hh) tk' vl' st (nI i) r2 r3 r4) ∧ (nI c' = 0 → ((nI i = (3 : Int32) → B_X8_readBound_95 post (nI c') (nI pl) sp (nI hh) tk' vl' st (nI i) r2 r3 r4) ∧ (¬ nI i = (3 : Int32) → ((nI i = (4 : Int32) → B_X8_readBound_95 post (nI c') (nI pl) sp (nI hh) tk' vl' st (nI i) r2 r3 r4) ∧ (¬ nI i = (4 : Int32) → ((¬ nI i = (2 : Int32) → B_X8_readBound_92 post (nI c') (nI pl) sp (nI hh) tk' vl' st (321 : Int32) r2 r3 r4 (0 : Int32) (nI i) r2 r3 r4) ∧ (nI i = (2 : Int32) → B_X8_readBound_92 post (nI c') (nI pl) sp (nI hh) tk' vl' st (321 : Int32) r2 r3 r4 (1 : Int32) (nI i) r2 r3 r4)))))))) := fun c' pl hh sp tk' vl' r2 r3 r4 h1 hf => by
        refine ⟨fun _ => ?_, fun z => absurd z hf.ne⟩
        unfold B_X8_readBound_95
        exact ⟨fun _ => hF c' pl _ hh _ _ h1 hf, fun z => absurd z hf.ne⟩
      refine nxg8 hT g2 (fun F Z t => (hg F Z t).1 hn) (fun c' pl sp hh tk' vl' h1 hf => ?_) (fun k1 a1 e1 vl1 hI1 hle1 _ hR1 => ?_)
      · exact th8_b hT h1 hf.ne hf.pos (fun _ => th8_b hT h1 hf.ne hf.pos (fun _ => nm8_b hf.ne hf.pos (fun _ => fin c' pl hh _ _ _ _ _ _ h1 hf)))
      · refine tk8 hT hI1 (ah := 10) x_none hR1 (fun r c' pl sp hh tk' vl' h1 hf => th8_b hT h1 hf.ne hf.pos (fun _ => nm8_b hf.ne hf.pos (fun _ => fin c' pl hh _ _ _ _ _ _ h1 hf))) (fun x k2 a2 e2 vl2 hx hxn hI2 hle2 _ hR2 => ?_)
        refine tk8 hT hI2 (ah := x) (x_some hx) hR2 (fun r c' pl sp hh tk' vl' h1 hf => nm8_b hf.ne hf.pos (fun _ => fin c' pl hh _ _ _ _ _ _ h1 hf)) (fun y k3 a3 e3 vl3 hy hyx hI3 hle3 hv3 hR3 => ?_)
        have j1 := hI1.e_le
        have j2 := hI2.e_le
        have j3 := hI3.e_le
        refine am8 hT hI3 hv3 hR3 (fun r c' pl sp hh tk' vl' h1 hf => fin c' pl hh _ _ _ _ _ _ h1 hf) (fun v k4 a4 e4 vl4 v1 v2 hI4 hle4 hR4 => ⟨fun z => absurd rfl z, fun _ => ?_⟩)
        exact pb8 hr hm hi1 hi5 hn (fun st' h1 h2 => hK x y v k4 a4 e4 vl4 st' hn hx hy (fun z => hyx z.symm) v1 v2 hI4 (by omega) hR4 h1 h2)
    · refine br_f (nI_ge (a := 24) (b := n + nd i) (by omega) (by omega)) ?_
      exact fails_y (hF 5 a _ a _ _ hI.1 ⟨by omega, by omega, by omega, fun F Z t => (hg F Z t).2 hn⟩)
  unfold P_X8_readBound
  by_cases h5 : i = 5
  · exact ⟨fun z => absurd (by rw [h5]; rfl) z, fun _ => go (by rw [h5]; rfl)⟩
  · have e1 : nd i = 1 := if_neg h5
    exact ⟨fun _ => go (by rw [e1]; rfl), fun z => absurd ((nI_eq (b := 5) (by omega) (by omega)).mp z) h5⟩
end NH
