/-! text: the class's reader -/
theorem TI.name {b : Nat → Nat} {q k a e : Nat} (h : TI b q k a e) (hk : k = 1) : a < q ∧ 97 ≤ b a ∧ b a ≤ 122 := by
  obtain ⟨h1, h2, h3, h4⟩ := h
  have h5 : nkA b q a = 1 := h2.symm.trans hk
  unfold nkA at h5
  by_cases z : q ≤ a
  · rw [if_pos z] at h5; omega
  · rw [if_neg z] at h5
    by_cases z2 : 97 ≤ b a ∧ b a ≤ 122
    · exact ⟨by omega, z2.1, z2.2⟩
    · rw [if_neg z2] at h5
      exfalso
      revert h5
      repeat' split
      all_goals omega
/-- a draft -/
def PgD (n : Nat) (X Y : Nat → Nat) (c : Nat → Int32) (S : Nat → Nat) (W : Nat) : Prop := Pw n X Y S 0 (fun _ => 0) W ∧ ∀ k, k < n → -9999 ≤ (c k).toInt ∧ (c k).toInt ≤ 9999
theorem fail_y {post : Int32 → Int32 → Prop} {wa x1 x2 : Int32} (h : post x1 x2) : P_X1_fail post (0 : Int32) wa x1 x2 := by
  unfold P_X1_fail
  exact ⟨fun z => absurd rfl z, fun _ => h⟩
theorem fail_n {post : Int32 → Int32 → Prop} {w wa x1 x2 : Int32} (hw : ¬ w = 0) (h : post w wa) : P_X1_fail post w wa x1 x2 := by
  unfold P_X1_fail
  exact ⟨fun _ => h, fun z => absurd z hw⟩
theorem neg_v {m : Nat} (hm : m ≤ 9999) : -9999 ≤ (-(nI m)).toInt ∧ (-(nI m)).toInt ≤ 9999 := by
  have e : (nI m).toInt = (m : Int) := nI_t (by omega)
  have : (-(nI m)).toInt = -(m : Int) := by
    rw [Int32.toInt_neg, e]
    exact Int.bmod_eq_of_le (by omega) (by omega)
  omega
theorem neg_c {v : Int32} (h1 : -9999 ≤ v.toInt) (h2 : v.toInt ≤ 9999) : -9999 ≤ (-v).toInt ∧ (-v).toInt ≤ 9999 := by
  have : (-v).toInt = -v.toInt := by
    rw [Int32.toInt_neg]
    exact Int.bmod_eq_of_le (by omega) (by omega)
  omega
section R1
variable {b : Nat → Nat} {q p : Nat} {tb : Nat → Int32} {T : FT → ZT → Prop}
theorem Flt.ne {c p : Nat} (h : Flt q T c p) : ¬ nI c = 0 := nI_ne0 h.1 (by have := h.2.1; omega)
theorem nxg1 (hT : TB q tb b) (hp : p ≤ q) {wa : Int32} {post : Int32 → Int32 → Int32 → Int32 → Int32 → Prop} {R : FT → ZT → Nat → Nat → Nat → Prop} (hg : ∀ F Z, T F Z → NX b q F (R F Z) p) (hF : ∀ c pl kd at' bh, Flt q T c pl → post (nI c) (nI pl) kd at' bh) (hK : ∀ k a e, TI b q k a e → p ≤ a → (∀ F Z, T F Z → R F Z k a e) → post 0 wa (nI k) (nI a) (nI e)) : P_X1_next post (0 : Int32) wa (nI p) (nI q) tb := by
  have h1 := na_rng (b := b) hp
  exact nx1 hT hp (fun h => hF 1 _ _ _ _ ⟨by omega, by omega, h1.2, fun F Z t => (hg F Z t).1 h⟩) (fun h => hK _ _ _ ⟨h1.2, rfl, rfl, h⟩ h1.1 (fun F Z t => (hg F Z t).2 h))
theorem by1_any (hT : TB q tb b) {j : Nat} (hj : j ≤ 1000) {post : Int32 → Prop} (h : ∀ r, post r) : P_X1_byteAt post (nI q) tb (nI j) := by
  by_cases z : j < q
  · exact by1_y hT z (h _)
  · exact by1_n hT (by omega) hj (h _)
theorem tot1 (hT : TB q tb b) {k a e : Nat} (hI : TI b q k a e) {post : Int32 → Prop} (h1 : (k = 1 ∧ e = a + 1 ∧ 97 ≤ b a ∧ b a ≤ 106) → post (nI (b a - 97))) (h0 : ¬ (k = 1 ∧ e = a + 1 ∧ 97 ≤ b a ∧ b a ≤ 106) → post (-4)) : P_X1_thingOfToken post (nI k) (nI a) (nI e) (nI q) tb := by
  have hq := hT.1
  obtain ⟨g1, g2, g3⟩ := hI.e_le
  unfold P_X1_thingOfToken B_X1_thingOfToken_25 B_X1_thingOfToken_26
  rw [pk_sub g1]
  by_cases hk : k = 1
  · obtain ⟨n1, n2, n3⟩ := hI.name hk
    refine ⟨fun z => absurd (by rw [hk]; rfl) z, fun _ => ?_⟩
    by_cases he : e = a + 1
    · refine ⟨fun z => absurd (by rw [show e - a = 1 by omega]; rfl) z, fun _ => by1_y hT n1 (br_f o_ne ?_)⟩
      rw [show (97 : Int32) = nI 97 from rfl, pk_sub n2]
      by_cases h10 : b a ≤ 106
      · exact th7_y (by omega) (br_f o_ne (h1 ⟨hk, he, n2, h10⟩))
      · exact th7_n (Or.inr (by rw [nI_t (by omega)]; omega)) (br_t rfl (h0 (by omega)))
    · exact ⟨fun _ => by1_any hT (by omega) (fun r => br_t rfl (h0 (by omega))), fun z => absurd ((nI_eq (b := 1) (by omega) (by omega)).mp z) (by omega)⟩
  · exact ⟨fun _ => by1_any hT (by omega) (fun r => br_t rfl (h0 (by omega))), fun z => absurd ((nI_eq (b := 1) (by omega) (by omega)).mp z) hk⟩
theorem tk1 (hT : TB q tb b) {k a e ah : Nat} (hI : TI b q k a e) {x1 : Int32} (hx : ∀ v, v < 10 → (nI v = x1 ↔ v = ah)) {wa : Int32} {post : Int32 → Int32 → Int32 → Int32 → Int32 → Int32 → Prop} {R : FT → ZT → Nat → Nat → Nat → Nat → Prop} (hg : ∀ F Z, T F Z → TH b q F (R F Z) ah k a e) (hF : ∀ r c pl kd at' bh, Flt q T c pl → post r (nI c) (nI pl) kd at' bh)
    (hK : ∀ x k' a' e', x < 10 → x ≠ ah → TI b q k' a' e' → e ≤ a' → (∀ F Z, T F Z → R F Z x k' a' e') → post (nI x) 0 wa (nI k') (nI a') (nI e')) : P_X1_takeThing post (0 : Int32) wa (nI k) (nI a) (nI e) (nI q) tb x1 := by
  obtain ⟨g1, g2, g3⟩ := hI.e_le
  have hq := hT.1
  unfold P_X1_takeThing
  refine br_t rfl (tot1 hT hI (fun hy => ⟨fun _ => ⟨fun hne => ?_, fun heq => ?_⟩, fun z => absurd z (nI_m4 (by omega))⟩) (fun hn => ⟨fun z => absurd rfl z, fun _ => fail_y (hF _ 2 a _ _ _ ⟨by omega, by omega, by omega, fun F Z t => (hg F Z t).2 hn⟩)⟩))
  · have hna : ¬ b a - 97 = ah := fun z => hne ((hx _ (by omega)).mpr z)
    exact nxg1 hT g2 (fun F Z t => ((hg F Z t).1 hy).2 hna) (fun c pl kd at' bh hf => hF _ c pl kd at' bh hf) (fun k' a' e' hI' hle hR => hK _ k' a' e' (by omega) hna hI' hle hR)
  · have hna : b a - 97 = ah := (hx _ (by omega)).mp heq
    exact fail_y (hF _ 4 a _ _ _ ⟨by omega, by omega, by omega, fun F Z t => ((hg F Z t).1 hy).1 hna⟩)
theorem tk1_b {w wa kd at' bh tsz x1 : Int32} (hw : ¬ w = 0) {post : Int32 → Int32 → Int32 → Int32 → Int32 → Int32 → Prop} (h : ∀ r, post r w wa kd at' bh) : P_X1_takeThing post w wa kd at' bh tsz tb x1 := by
  unfold P_X1_takeThing
  exact br_f hw (h _)
theorem fgs1 (hT : TB q tb b) {a e : Nat} (hae : a ≤ e) (he : e ≤ q) (hf : ∀ j, a ≤ j → j < e → 48 ≤ b j ∧ b j ≤ 57) {post : Int32 → Prop} (h : post (nI (fg b a (e - a)))) : P_X1_figuresOfToken post (nI a) (nI e) (nI q) tb := by
  have hq := hT.1
  unfold P_X1_figuresOfToken
  refine ml2 (F := LB_X1_figuresOfToken_7 post (nI e) (nI q) tb) (I := fun v z => ∃ l : Nat, a + l ≤ e ∧ z = nI (a + l) ∧ v = nI (fg b a l)) (μ := fun _ z => 400 - z.toNatClampNeg) ?_ 0 (nI a) ⟨0, by omega, rfl, rfl⟩
  rintro v z ⟨l, hl, rfl, rfl⟩ K hK
  unfold LB_X1_figuresOfToken_7
  by_cases hle : a + l = e
  · refine br_t (nI_le (by omega) (by omega)) ?_
    rw [show e - a = l by omega] at h
    exact h
  · obtain ⟨f1, f2⟩ := hf (a + l) (by omega) (by omega)
    refine br_f (nI_ge (by omega) (by omega)) (by1_y hT (by omega) (hK _ _ ⟨l + 1, by omega, nI_1 _, ?_⟩ (by rw [nI_1, nI_c (by omega), nI_c (by omega)]; omega)))
    show _ = nI (10 * fg b a l + (b (a + l) - 48))
    rw [show (10 : Int32) = nI 10 from rfl, show (48 : Int32) = nI 48 from rfl, pk_mul, pk_sub f1, nI_add]
theorem am1 (hT : TB q tb b) {k a e : Nat} (hI : TI b q k a e) {wa : Int32} {post : Int32 → Int32 → Int32 → Int32 → Int32 → Int32 → Prop} {R : FT → ZT → Int32 → Nat → Nat → Nat → Prop} (hg : ∀ F Z, T F Z → AM b q F (R F Z) k a e) (hF : ∀ r c pl kd at' bh, Flt q T c pl → post r (nI c) (nI pl) kd at' bh)
    (hK : ∀ v k' a' e', -9999 ≤ v.toInt → v.toInt ≤ 9999 → TI b q k' a' e' → e ≤ a' → (∀ F Z, T F Z → R F Z v k' a' e') → post v 0 wa (nI k') (nI a') (nI e')) : P_X1_takeAmount post (0 : Int32) wa (nI k) (nI a) (nI e) (nI q) tb := by
  obtain ⟨g1, g2, g3⟩ := hI.e_le
  have hq := hT.1
  have hb : ∀ j, j < q → b j < 128 := fun j hj => (hT.2 j hj).2
  unfold P_X1_takeAmount B_X1_takeAmount_19 B_X1_takeAmount_20
  refine ⟨fun z => absurd rfl z, fun _ => ?_⟩
  by_cases h3 : k = 3
  · refine ⟨fun z => absurd (by rw [h3]; rfl) z, fun _ => br_f o_ne (nxg1 hT g2 (fun F Z t => (hg F Z t).1 h3) (fun c pl kd at' bh hf => ?_) (fun k' a' e' hI' hle hR => ?_))⟩
    · unfold B_X1_takeAmount_29 B_X1_takeAmount_44
      exact ⟨fun _ => fail_n hf.ne (hF _ c pl _ _ _ hf), fun z => absurd z hf.ne⟩
    · obtain ⟨i1, i2, i3⟩ := hI'.e_le
      unfold B_X1_takeAmount_29 B_X1_takeAmount_44
      refine ⟨fun z => absurd rfl z, fun _ => ?_⟩
      by_cases h2 : k' = 2
      · obtain ⟨m1, m2, m3, m4⟩ := hI'.num h2 hb
        refine br_t (by rw [h2]; rfl) (fgs1 hT i1 i2 m4 (nxg1 hT i2 (fun F Z t => (hR F Z t).1 h2) (fun c pl kd at' bh hf => br_f o_ne (hF _ c pl kd at' bh hf)) (fun k2 a2 e2 hI2 hle2 hR2 => br_f o_ne (hK _ k2 a2 e2 (neg_v m3).1 (neg_v m3).2 hI2 (by omega) hR2))))
      · exact br_f (fun z => h2 ((nI_eq (b := 2) (by omega) (by omega)).mp z)) (fail_y (hF _ 2 a' _ _ _ ⟨by omega, by omega, by omega, fun F Z t => (hR F Z t).2 h2⟩))
  · refine ⟨fun _ => br_t rfl ?_, fun z => absurd ((nI_eq (b := 3) (by omega) (by omega)).mp z) h3⟩
    unfold B_X1_takeAmount_29 B_X1_takeAmount_44
    refine ⟨fun z => absurd rfl z, fun _ => ?_⟩
    by_cases h2 : k = 2
    · obtain ⟨m1, m2, m3, m4⟩ := hI.num h2 hb
      refine br_t (by rw [h2]; rfl) (fgs1 hT g1 g2 m4 (nxg1 hT g2 (fun F Z t => ((hg F Z t).2 h3).1 h2) (fun c pl kd at' bh hf => br_t rfl (hF _ c pl kd at' bh hf)) (fun k2 a2 e2 hI2 hle2 hR2 => br_t rfl (hK _ k2 a2 e2 (by rw [nI_t (by omega)]; omega) (by rw [nI_t (by omega)]; omega) hI2 (by omega) hR2))))
    · exact br_f (fun z => h2 ((nI_eq (b := 2) (by omega) (by omega)).mp z)) (fail_y (hF _ 2 a _ _ _ ⟨by omega, by omega, by omega, fun F Z t => ((hg F Z t).2 h3).2 h2⟩))
theorem am1_b {w wa kd at' bh tsz : Int32} (hw : ¬ w = 0) {post : Int32 → Int32 → Int32 → Int32 → Int32 → Int32 → Prop} (h : ∀ r, post r w wa kd at' bh) : P_X1_takeAmount post w wa kd at' bh tsz tb := by
  unfold P_X1_takeAmount B_X1_takeAmount_19 B_X1_takeAmount_20 B_X1_takeAmount_29 B_X1_takeAmount_44
  exact ⟨fun _ => br_t rfl ⟨fun _ => fail_n hw (h _), fun z => absurd z hw⟩, fun z => absurd z hw⟩
end R1
section PB
variable {n m W : Nat} {X Y S L : Nat → Nat} {c : Nat → Int32} {size marked wh : Int32} {up lo lim str mk : Nat → Int32}
theorem pb1 (hs : StP n X Y c S m L W size marked wh up lo lim str mk) {i x y : Nat} {v : Int32} (hi1 : 1 ≤ i) (hi5 : i ≤ 5) (hn : n + nd i ≤ 24) {post : Int32 → (Nat → Int32) → (Nat → Int32) → (Nat → Int32) → (Nat → Int32) → Prop} (h : ∀ size' up' lo' lim' str', StP (n + nd i) (pX i x y n X) (pX i y x n Y) (pc i v n c) (pS i n S) m L W size' marked wh up' lo' lim' str' mk → post size' up' lo' lim' str') : P_X1_putBounds post size up lo lim str (nI i) (nI x) (nI y) v := by
  have e : i = 1 ∨ i = 2 ∨ i = 3 ∨ i = 4 ∨ i = 5 := by omega
  unfold P_X1_putBounds B_X1_putBounds_15 B_X1_putBounds_33 B_X1_putBounds_36 B_X1_putBounds_51
  rcases e with rfl | rfl | rfl | rfl | rfl
  · have hn : n + 1 ≤ 24 := hn
    exact br_t rfl ⟨fun _ => s_append hs.1 (by omega) (br_f (by decide) (br_f (by decide) ⟨fun _ => h _ _ _ _ _ (st_app1 hs), fun z => absurd z (by decide)⟩)), fun z => absurd z (by decide)⟩
  · have hn : n + 1 ≤ 24 := hn
    exact br_f (by decide) (br_t rfl ⟨fun z => absurd rfl z, fun _ => s_append hs.1 (by omega) (br_f (by decide) (br_f (by decide) ⟨fun _ => h _ _ _ _ _ (st_app1 hs), fun z => absurd z (by decide)⟩))⟩)
  · have hn : n + 1 ≤ 24 := hn
    exact br_f (by decide) (br_f (by decide) ⟨fun _ => br_t rfl ⟨fun _ => s_append hs.1 (by omega) (h _ _ _ _ _ (st_app1 hs)), fun z => absurd z (by decide)⟩, fun z => absurd z (by decide)⟩)
  · have hn : n + 1 ≤ 24 := hn
    exact br_f (by decide) (br_f (by decide) ⟨fun _ => br_f (by decide) (br_t rfl ⟨fun z => absurd rfl z, fun _ => s_append hs.1 (by omega) (h _ _ _ _ _ (st_app1 hs))⟩), fun z => absurd z (by decide)⟩)
  · have hn : n + 2 ≤ 24 := hn
    exact br_f (by decide) (br_f (by decide) ⟨fun z => absurd rfl z, fun _ => ⟨fun _ => s_append hs.1 (by omega) (br_f (by decide) (br_f (by decide) ⟨fun z => absurd rfl z, fun _ => ⟨fun _ => s_append rfl (by omega) (h _ _ _ _ _ (st_app1 (st_app1 hs))), fun z => absurd z (by decide)⟩⟩)), fun z => absurd z (by decide)⟩⟩)
theorem pgd_pb (h : PgD n X Y c S W) {i x y : Nat} {v : Int32} (hi1 : 1 ≤ i) (hi5 : i ≤ 5) (hn : n + nd i ≤ 24) (hx : x < 10) (hy : y < 10) (hxy : x ≠ y) (hv1 : -9999 ≤ v.toInt) (hv2 : v.toInt ≤ 9999) : PgD (n + nd i) (pX i x y n X) (pX i y x n Y) (pc i v n c) (pS i n S) W := by
  obtain ⟨hp, hc⟩ := h
  have one : ∀ {n : Nat} {c : Nat → Int32} {u : Int32}, (∀ k, k < n → -9999 ≤ (c k).toInt ∧ (c k).toInt ≤ 9999) → -9999 ≤ u.toInt ∧ u.toInt ≤ 9999 → ∀ k, k < n + 1 → -9999 ≤ (gu c n u k).toInt ∧ (gu c n u k).toInt ≤ 9999 := fun {n c u} hc hu k hk => by
    by_cases e : k = n
    · subst e; rw [gu_s]; exact hu
    · rw [gu_n e]; exact hc k (by omega)
  have e : i = 1 ∨ i = 2 ∨ i = 3 ∨ i = 4 ∨ i = 5 := by omega
  rcases e with rfl | rfl | rfl | rfl | rfl
  · have hn : n + 1 ≤ 24 := hn
    exact ⟨pw_app1 hp (by omega) hx hy hxy (by decide), one hc ⟨hv1, hv2⟩⟩
  · have hn : n + 1 ≤ 24 := hn
    exact ⟨pw_app1 hp (by omega) hx hy hxy (by decide), one hc ⟨hv1, hv2⟩⟩
  · have hn : n + 1 ≤ 24 := hn
    exact ⟨pw_app1 hp (by omega) hy hx (fun z => hxy z.symm) (by decide), one hc (neg_c hv1 hv2)⟩
  · have hn : n + 1 ≤ 24 := hn
    exact ⟨pw_app1 hp (by omega) hy hx (fun z => hxy z.symm) (by decide), one hc (neg_c hv1 hv2)⟩
  · have hn : n + 2 ≤ 24 := hn
    exact ⟨pw_app1 (pw_app1 hp (by omega) hx hy hxy (by omega)) (by omega) hy hx (fun z => hxy z.symm) (by omega), one (one hc ⟨hv1, hv2⟩) (neg_c hv1 hv2)⟩
end PB
