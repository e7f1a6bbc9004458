/-! text: the class's lines -/
section R2
variable {b : Nat → Nat} {q p : Nat} {tb : Nat → Int32} {T : FT → ZT → Prop}
theorem byt_ok : ∀ i, i < 6 → ∀ j, j < 5 → (((((bytS.getD i []).getD j 0) &&& 255).toUInt32 % 65536).toInt32) = (bytS.getD i []).getD j 0 := by decide +kernel
theorem len_ok : ∀ i, i < 6 → lenS.getD i 0 ≤ 5 := by decide +kernel
theorem tis1 (hT : TB q tb b) {i a e : Nat} (hi : i < 6) (hae : a ≤ e) (he : e ≤ q) {post : Int32 → Prop} (h1 : wm b i a e → post 1) (h0 : ¬ wm b i a e → post 0) : P_X1_tokenIs post i (nI a) (nI e) (nI q) tb := by
  have hq := hT.1
  have hl := len_ok i hi
  unfold P_X1_tokenIs
  rw [pk_sub hae]
  by_cases hle : e = a + lenS.getD i 0
  · refine br_t (by rw [show e - a = lenS.getD i 0 by omega]) ?_
    refine ml1 (F := LB_X1_tokenIs_20 post i (nI a) (nI q) tb) (I := fun z => ∃ j : Nat, j ≤ lenS.getD i 0 ∧ z = nI j ∧ ∀ j', j' < j → nI (b (a + j')) = (bytS.getD i []).getD j' 0) (μ := fun z => 10 - z.toNatClampNeg) ?_ 0 ⟨0, Nat.zero_le _, rfl, fun j' hj' => absurd hj' (by omega)⟩
    rintro z ⟨j, hj, rfl, hall⟩ K hK
    unfold LB_X1_tokenIs_20
    by_cases hjl : j = lenS.getD i 0
    · refine br_t (nI_le (by omega) (by omega)) (h1 ⟨hle, fun j' hj' => hall j' (by omega)⟩)
    · refine br_f (nI_ge (by omega) (by omega)) ?_
      rw [nI_add, nI_c (show j ≤ 2147483647 by omega), byt_ok i hi j (by omega)]
      refine by1_y hT (by omega) ⟨vin (by omega) (by omega), br_c (fun heq => hK _ ⟨j + 1, by omega, nI_1 j, fun j' hj' => ?_⟩ (by rw [nI_1, nI_c (by omega), nI_c (by omega)]; omega)) (fun hne => h0 (fun w => hne (w.2 j (by omega))))⟩
      by_cases ej : j' = j
      · subst ej; exact heq
      · exact hall j' (by omega)
  · exact br_f (fun z => hle (by have := (nI_eq (by omega) (by omega)).mp z; omega)) (h0 (fun w => hle w.1))
theorem lot1 (hT : TB q tb b) {k a e : Nat} (hI : TI b q k a e) {post : Int32 → Prop} (hK : ∀ i, i < 6 → k = 1 → ((∀ R : Nat → Prop, NM b R a e → R i)) → post (nI i)) (h6 : k = 1 → (∀ R : Nat → Prop, NM b R a e → R 6) → post (-1)) (h0 : ¬ k = 1 → post (-1)) : P_X1_lineOfToken post (nI k) (nI a) (nI e) (nI q) tb := by
  obtain ⟨g1, g2, g3⟩ := hI.e_le
  unfold P_X1_lineOfToken
  by_cases hk : k = 1
  · refine br_t (by rw [hk]; rfl) ?_
    refine tis1 hT (by omega) g1 g2 (fun w0 => br_f o_ne (hK 0 (by omega) hk (fun R h => h.1 w0))) (fun w0 => br_t rfl ?_)
    refine tis1 hT (by omega) g1 g2 (fun w1 => br_f o_ne (hK 1 (by omega) hk (fun R h => (h.2 w0).1 w1))) (fun w1 => br_t rfl ?_)
    refine tis1 hT (by omega) g1 g2 (fun w2 => br_f o_ne (hK 2 (by omega) hk (fun R h => ((h.2 w0).2 w1).1 w2))) (fun w2 => br_t rfl ?_)
    refine tis1 hT (by omega) g1 g2 (fun w3 => br_f o_ne (hK 3 (by omega) hk (fun R h => (((h.2 w0).2 w1).2 w2).1 w3))) (fun w3 => br_t rfl ?_)
    refine tis1 hT (by omega) g1 g2 (fun w4 => br_f o_ne (hK 4 (by omega) hk (fun R h => ((((h.2 w0).2 w1).2 w2).2 w3).1 w4))) (fun w4 => br_t rfl ?_)
    exact tis1 hT (by omega) g1 g2 (fun w5 => br_f o_ne (hK 5 (by omega) hk (fun R h => (((((h.2 w0).2 w1).2 w2).2 w3).2 w4).1 w5))) (fun w5 => br_t rfl (h6 hk (fun R h => (((((h.2 w0).2 w1).2 w2).2 w3).2 w4).2 w5)))
  · exact br_f (fun z => hk ((nI_eq (b := 1) (by omega) (by omega)).mp z)) (h0 hk)
theorem ts1 (hT : TB q tb b) {k a e : Nat} (hI : TI b q k a e) {wa li : Int32} {post : Int32 → Int32 → Int32 → Int32 → Int32 → Int32 → Prop} {R : FT → ZT → Nat → Nat → Nat → Prop} (hg : ∀ F Z, T F Z → ST b q F (R F Z) k a e) (hF : ∀ c pl l kd at' bh, Flt q T c pl → post (nI c) (nI pl) l kd at' bh) (hK : ∀ k' a' e', TI b q k' a' e' → a < a' → (∀ F Z, T F Z → R F Z k' a' e') → post 0 wa (li + 1) (nI k') (nI a') (nI e')) : P_X1_takeStop post (0 : Int32) wa li (nI k) (nI a) (nI e) (nI q) tb := by
  obtain ⟨g1, g2, g3⟩ := hI.e_le
  have hq := hT.1
  unfold P_X1_takeStop B_X1_takeStop_15
  refine ⟨fun z => absurd rfl z, fun _ => ?_⟩
  by_cases h4 : k = 4
  · have hlt := hI.lt (by omega)
    exact br_t (by rw [h4]; rfl) (nxg1 hT g2 (fun F Z t => (hg F Z t).1 h4) (fun c pl kd at' bh hf => hF c pl _ kd at' bh hf) (fun k' a' e' hI' hle hR => hK k' a' e' hI' (by omega) hR))
  · exact br_f (fun z => h4 ((nI_eq (b := 4) (by omega) (by omega)).mp z)) (fail_y (hF 2 a _ _ _ _ ⟨by omega, by omega, by omega, fun F Z t => (hg F Z t).2 h4⟩))
theorem ts1_b {w wa li kd at' bh tsz : Int32} (hw : ¬ w = 0) {post : Int32 → Int32 → Int32 → Int32 → Int32 → Int32 → Prop} (h : post w wa li kd at' bh) : P_X1_takeStop post w wa li kd at' bh tsz tb := by
  unfold P_X1_takeStop B_X1_takeStop_15
  exact ⟨fun _ => fail_n hw h, fun z => absurd z hw⟩
theorem x_none : ∀ v : Nat, v < 10 → (nI v = (-4 : Int32) ↔ v = 10) := fun v hv => ⟨fun z => absurd z (nI_m4 (by omega)), fun z => absurd z (by omega)⟩
theorem x_some {x : Nat} (hx : x < 10) : ∀ v : Nat, v < 10 → (nI v = nI x ↔ v = x) := fun v hv => nI_eq (by omega) (by omega)
variable {n m W : Nat} {X Y S L : Nat → Nat} {c : Nat → Int32} {size marked wh : Int32} {up lo lim str mk : Nat → Int32}
theorem rb1 (hT : TB q tb b) (hn24 : n ≤ 24) (hs : StP n X Y c S m L W size marked wh up lo lim str mk) {k a e i : Nat} (hI : TI b q k a e) (hk0 : k ≠ 0) (hi1 : 1 ≤ i) (hi5 : i ≤ 5) {wa : Int32} {post : Int32 → Int32 → Int32 → Int32 → Int32 → Int32 → (Nat → Int32) → (Nat → Int32) → (Nat → Int32) → (Nat → Int32) → Prop} {R : FT → ZT → Nat → Nat → Int32 → Nat → Nat → Nat → Prop} (hg : ∀ F Z, T F Z → RBG b q F (R F Z) i a e n)
    (hF : ∀ c pl kd at' bh, Flt q T c pl → post (nI c) (nI pl) kd at' bh size up lo lim str)
    (hK : ∀ x y v k' a' e' size' up' lo' lim' str', n + nd i ≤ 24 → x < 10 → y < 10 → x ≠ y → -9999 ≤ v.toInt → v.toInt ≤ 9999 → TI b q k' a' e' → a < a' → (∀ F Z, T F Z → R F Z x y v k' a' e') → StP (n + nd i) (pX i x y n X) (pX i y x n Y) (pc i v n c) (pS i n S) m L W size' marked wh up' lo' lim' str' mk → post 0 wa (nI k') (nI a') (nI e') size' up' lo' lim' str') :
    P_X1_readBound post (0 : Int32) wa (nI k) (nI a) (nI e) size (nI q) tb up lo lim str (nI i) := by
  obtain ⟨g1, g2, g3⟩ := hI.e_le
  have hlt := hI.lt hk0
  have hq := hT.1
  have hnd : nd i ≤ 2 := by unfold nd; split <;> omega
  have go : ∀ {k0 : Int32}, k0 = nI (nd i) → B_X1_readBound_10 post (0 : Int32) wa (nI k) (nI a) (nI e) size (nI q) tb up lo lim str k0 (nI i) := fun {k0} hk0 => by
    unfold B_X1_readBound_10
    rw [hk0, hs.1, nI_add]
    by_cases hn : n + nd i ≤ 24
    · refine br_t (show nI (n + nd i) ≤ nI 24 from nI_le hn (by omega)) ?_
      rw [← hs.1]
      refine nxg1 hT g2 (fun F Z t => (hg F Z t).1 hn) (fun c' pl kd at' bh hf => ?_) (fun k1 a1 e1 hI1 hle1 hR1 => ?_)
      · exact tk1_b hf.ne (fun _ => tk1_b hf.ne (fun _ => am1_b hf.ne (fun _ => ⟨fun _ => hF c' pl _ _ _ hf, fun z => absurd z hf.ne⟩)))
      · refine tk1 hT hI1 (ah := 10) x_none hR1 (fun r c' pl kd at' bh hf => tk1_b hf.ne (fun _ => am1_b hf.ne (fun _ => ⟨fun _ => hF c' pl _ _ _ hf, fun z => absurd z hf.ne⟩))) (fun x k2 a2 e2 hx hxn hI2 hle2 hR2 => ?_)
        refine tk1 hT hI2 (ah := x) (x_some hx) hR2 (fun r c' pl kd at' bh hf => am1_b hf.ne (fun _ => ⟨fun _ => hF c' pl _ _ _ hf, fun z => absurd z hf.ne⟩)) (fun y k3 a3 e3 hy hyx hI3 hle3 hR3 => ?_)
        have j1 := hI1.e_le
        have j2 := hI2.e_le
        have j3 := hI3.e_le
        refine am1 hT hI3 hR3 (fun r c' pl kd at' bh hf => ⟨fun _ => hF c' pl _ _ _ hf, fun z => absurd z hf.ne⟩) (fun v k4 a4 e4 v1 v2 hI4 hle4 hR4 => ⟨fun z => absurd rfl z, fun _ => ?_⟩)
        exact pb1 hs hi1 hi5 hn (fun size' up' lo' lim' str' hs' => hK x y v k4 a4 e4 size' up' lo' lim' str' hn hx hy (fun z => hyx z.symm) v1 v2 hI4 (by omega) hR4 hs')
    · refine br_f (nI_ge (a := 24) (b := n + nd i) (by omega) (by omega)) ?_
      rw [← hs.1]
      exact fail_y (hF 5 a _ _ _ ⟨by omega, by omega, by omega, fun F Z t => (hg F Z t).2 hn⟩)
  unfold P_X1_readBound
  by_cases h5 : i = 5
  · exact ⟨fun z => absurd (by rw [h5]; rfl) z, fun _ => go (by rw [h5]; rfl)⟩
  · have e1 : nd i = 1 := if_neg h5
    exact ⟨fun _ => go (by rw [e1]; rfl), fun z => absurd ((nI_eq (b := 5) (by omega) (by omega)).mp z) h5⟩
end R2
