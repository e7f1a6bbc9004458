/-! text: the reference's parts -/
section R8
variable {b : Nat → Nat} {q p : Nat} {tb : Nat → Int32} {T : FT → ZT → Prop}
theorem Flt.pos {c p : Nat} (h : Flt q T c p) : ¬ nI c ≤ 0 := nI_nle h.1 (by have := h.2.1; omega)
theorem rk_1 {k : Nat} (h : k ≤ 4) : nI (rk k) = (1 : Int32) ↔ k = 1 := by
  unfold rk
  rw [show (1 : Int32) = nI 1 from rfl, nI_eq (by split <;> (try split) <;> omega) (by omega)]
  split <;> (try split) <;> omega
theorem rk_2 {k : Nat} (h : k ≤ 4) : nI (rk k) = (2 : Int32) ↔ k = 2 := by
  unfold rk
  rw [show (2 : Int32) = nI 2 from rfl, nI_eq (by split <;> (try split) <;> omega) (by omega)]
  split <;> (try split) <;> omega
theorem rk_3 {k : Nat} (h : k ≤ 4) : nI (rk k) = (3 : Int32) ↔ k = 4 := by
  unfold rk
  rw [show (3 : Int32) = nI 3 from rfl, nI_eq (by split <;> (try split) <;> omega) (by omega)]
  split <;> (try split) <;> omega
theorem rk_4 {k : Nat} (h : k ≤ 4) : nI (rk k) = (4 : Int32) ↔ k = 3 := by
  unfold rk
  rw [show (4 : Int32) = nI 4 from rfl, nI_eq (by split <;> (try split) <;> omega) (by omega)]
  split <;> (try split) <;> omega
theorem rk_0 {k : Nat} (h : k ≤ 4) : nI (rk k) = (0 : Int32) ↔ k = 0 := by
  unfold rk
  rw [show (0 : Int32) = nI 0 from rfl, nI_eq (by split <;> (try split) <;> omega) (by omega)]
  split <;> (try split) <;> omega
theorem fails_y {post : Int32 → Int32 → Prop} {ba he x1 : Int32} (h : post x1 he) : P_X8_fails post (0 : Int32) ba he x1 := by
  unfold P_X8_fails
  exact ⟨fun z => absurd rfl z, fun _ => h⟩
theorem fails_n {post : Int32 → Int32 → Prop} {br ba he x1 : Int32} (hb : ¬ br = 0) (h : post br ba) : P_X8_fails post br ba he x1 := by
  unfold P_X8_fails
  exact ⟨fun _ => h, fun z => absurd z hb⟩
theorem nxg8 (hT : TB q tb b) (hp : p ≤ q) {ba he tk vl : Int32} {post : Int32 → Int32 → Int32 → Int32 → Int32 → Int32 → Prop} {R : FT → ZT → Nat → Nat → Nat → Prop} (hg : ∀ F Z, T F Z → NX b q F (R F Z) p) (hF : ∀ c pl sp hh tk' vl', hh ≤ q → Flt q T c pl → post (nI c) (nI pl) sp (nI hh) tk' vl') (hK : ∀ k a e vl', TI b q k a e → p ≤ a → (k = 2 → vl' = nI (fg b a (e - a))) → (∀ F Z, T F Z → R F Z k a e) → post 0 ba (nI e) (nI a) (nI (rk k)) vl') : P_X8_readsOn post (nI q) (0 : Int32) ba (nI p) he tk vl tb := by
  have h1 := na_rng (b := b) hp
  exact nx8 hT hp (fun h sp tk' vl' => hF 1 _ _ _ _ _ h1.2 ⟨by omega, by omega, h1.2, fun F Z t => (hg F Z t).1 h⟩) (fun h vl' hv => hK _ _ _ _ ⟨h1.2, rfl, rfl, h⟩ h1.1 hv (fun F Z t => (hg F Z t).2 h))
theorem by8_any (hT : TB q tb b) {j : Nat} (hj : j ≤ 1000) {post : Int32 → Prop} (h : ∀ r, post r) : P_X8_byteAt post (nI q) tb (nI j) := by
  by_cases z : j < q
  · exact by8_y hT z (h _)
  · exact by8_n hT (by omega) hj (h _)
theorem th8_b (hT : TB q tb b) {br ba sp tk vl x1 : Int32} {hh : Nat} (hh1 : hh ≤ q) (hb : ¬ br = 0) (hb2 : ¬ br ≤ 0) {post : Int32 → Int32 → Int32 → Int32 → Int32 → Int32 → Int32 → Prop} (h : ∀ r, post r br ba sp (nI hh) tk vl) : P_X8_thingRead post (nI q) br ba sp (nI hh) tk vl tb x1 := by
  have hq := hT.1
  have go : ∀ k0 : Int32, B_X8_thingRead_47 post (nI q) br ba sp (nI hh) tk vl tb k0 x1 := fun k0 => by
    unfold B_X8_thingRead_47 B_X8_thingRead_64 B_X8_thingRead_86 B_X8_thingRead_104
    exact ⟨fun _ => ⟨fun _ => ⟨fun _ => nx8_b hb2 (h _), fun z => absurd z hb⟩, fun z => absurd z hb⟩, fun z => absurd z hb⟩
  unfold P_X8_thingRead B_X8_thingRead_46
  exact ⟨fun _ => go 0, fun _ => ⟨fun _ => go 0, fun _ => by8_any hT (by omega) (fun r => s_in (fun _ _ => br_f o_ne (go 1)) (fun _ => br_t rfl (go 0)))⟩⟩
theorem t106 : (106 : Int64).toInt = ((106 : Nat) : Int) := by decide
theorem tk8 (hT : TB q tb b) {k a e ah : Nat} (hI : TI b q k a e) {x1 : Int32} (hx : ∀ v, v < 10 → (nI v = x1 ↔ v = ah)) {ba vl : Int32} {post : Int32 → Int32 → Int32 → Int32 → Int32 → Int32 → Int32 → Prop} {R : FT → ZT → Nat → Nat → Nat → Nat → Prop} (hg : ∀ F Z, T F Z → TH b q F (R F Z) ah k a e) (hF : ∀ r c pl sp hh tk' vl', hh ≤ q → Flt q T c pl → post r (nI c) (nI pl) sp (nI hh) tk' vl')
    (hK : ∀ x k' a' e' vl', x < 10 → x ≠ ah → TI b q k' a' e' → e ≤ a' → (k' = 2 → vl' = nI (fg b a' (e' - a'))) → (∀ F Z, T F Z → R F Z x k' a' e') → post (nI x) 0 ba (nI e') (nI a') (nI (rk k')) vl') : P_X8_thingRead post (nI q) (0 : Int32) ba (nI e) (nI a) (nI (rk k)) vl tb x1 := by
  have hq := hT.1
  have haq := hI.1
  obtain ⟨g1, g2, g3⟩ := hI.e_le
  have no : ¬ (k = 1 ∧ e = a + 1 ∧ 97 ≤ b a ∧ b a ≤ 106) → B_X8_thingRead_47 post (nI q) (0 : Int32) ba (nI e) (nI a) (nI (rk k)) vl tb (0 : Int32) x1 := fun hn => by
    have hf : Flt q T 2 a := ⟨by omega, by omega, haq, fun F Z t => (hg F Z t).2 hn⟩
    unfold B_X8_thingRead_47 B_X8_thingRead_64 B_X8_thingRead_86 B_X8_thingRead_104
    exact ⟨fun z => absurd rfl z, fun _ => ⟨fun z => absurd rfl z, fun _ => fails_y ⟨fun _ => ⟨fun _ => nx8_b (by decide) (hF _ 2 a _ a _ _ haq hf), fun z => absurd z (by decide)⟩, fun z => absurd z (by decide)⟩⟩⟩
  unfold P_X8_thingRead B_X8_thingRead_46
  rw [pk_sub g1]
  by_cases hk : k = 1
  · obtain ⟨n1, n2, n3⟩ := hI.name hk
    refine ⟨fun z => absurd ((rk_1 g3).mpr hk) z, fun _ => ?_⟩
    by_cases he : e = a + 1
    · refine ⟨fun z => absurd (by rw [show e - a = 1 by omega]; rfl) z, fun _ => by8_y hT n1 (in8 (by omega) t97 t106 (fun hy => br_f o_ne ?_) (fun hn => br_t rfl (no (by omega))))⟩
      have hy' : k = 1 ∧ e = a + 1 ∧ 97 ≤ b a ∧ b a ≤ 106 := ⟨hk, he, hy.1, hy.2⟩
      unfold B_X8_thingRead_47 B_X8_thingRead_64
      refine ⟨fun z => absurd rfl z, fun _ => ⟨fun _ => ⟨fun z => absurd rfl z, fun _ => by8_y hT n1 ?_⟩, fun z => absurd z o_ne⟩⟩
      rw [show (97 : Int32) = nI 97 from rfl, pk_sub n2]
      unfold B_X8_thingRead_86 B_X8_thingRead_104
      refine ⟨fun z => absurd rfl z, fun _ => ⟨fun hne => ?_, fun heq => ?_⟩⟩
      · have hna : ¬ b a - 97 = ah := fun z => hne ((hx _ (by omega)).mpr z)
        exact nxg8 hT g2 (fun F Z t => ((hg F Z t).1 hy').2 hna) (fun c pl sp hh tk' vl' h1 hf => hF _ c pl sp hh tk' vl' h1 hf) (fun k' a' e' vl' hI' hle hv hR => hK _ k' a' e' vl' (by omega) hna hI' hle hv hR)
      · have hna : b a - 97 = ah := (hx _ (by omega)).mp heq
        have hf : Flt q T 4 a := ⟨by omega, by omega, haq, fun F Z t => ((hg F Z t).1 hy').1 hna⟩
        exact fails_y (nx8_b (by decide) (hF _ 4 a _ a _ _ haq hf))
    · exact ⟨fun _ => no (by omega), fun z => absurd ((nI_eq (b := 1) (by omega) (by omega)).mp z) (by omega)⟩
  · exact ⟨fun _ => no (by omega), fun z => absurd ((rk_1 g3).mp z) hk⟩
theorem nm8_b {br ba sp he tk vl tpd : Int32} (hb : ¬ br = 0) (hb2 : ¬ br ≤ 0) {post : Int32 → Int32 → Int32 → Int32 → Int32 → Int32 → Int32 → Prop} (h : ∀ r, post r br ba sp he tk vl) : P_X8_numberRead post tpd br ba sp he tk vl tb := by
  unfold P_X8_numberRead B_X8_numberRead_19 B_X8_numberRead_20 B_X8_numberRead_29 B_X8_numberRead_49 B_X8_numberRead_64
  exact ⟨fun _ => br_t rfl ⟨fun _ => ⟨fun _ => nx8_b hb2 (br_t rfl (h _)), fun z => absurd z hb⟩, fun z => absurd z hb⟩, fun z => absurd z hb⟩
theorem am8 (hT : TB q tb b) {k a e : Nat} (hI : TI b q k a e) {ba vl : Int32} (hvl : k = 2 → vl = nI (fg b a (e - a))) {post : Int32 → Int32 → Int32 → Int32 → Int32 → Int32 → Int32 → Prop} {R : FT → ZT → Int32 → Nat → Nat → Nat → Prop} (hg : ∀ F Z, T F Z → AM b q F (R F Z) k a e) (hF : ∀ r c pl sp hh tk' vl', hh ≤ q → Flt q T c pl → post r (nI c) (nI pl) sp (nI hh) tk' vl')
    (hK : ∀ v k' a' e' vl', -9999 ≤ v.toInt → v.toInt ≤ 9999 → TI b q k' a' e' → e ≤ a' → (∀ F Z, T F Z → R F Z v k' a' e') → post v 0 ba (nI e') (nI a') (nI (rk k')) vl') : P_X8_numberRead post (nI q) (0 : Int32) ba (nI e) (nI a) (nI (rk k)) vl tb := by
  have hq := hT.1
  have haq := hI.1
  have hbb : ∀ j, j < q → b j < 128 := fun j hj => (hT.2 j hj).2
  obtain ⟨g1, g2, g3⟩ := hI.e_le
  unfold P_X8_numberRead B_X8_numberRead_19 B_X8_numberRead_20
  refine ⟨fun z => absurd rfl z, fun _ => ?_⟩
  by_cases h3 : k = 3
  · refine ⟨fun z => absurd ((rk_4 g3).mpr h3) z, fun _ => br_f o_ne (nxg8 hT g2 (fun F Z t => (hg F Z t).1 h3) (fun c pl sp hh tk' vl' h1 hf => ?_) (fun k' a' e' vl' hI' hle hv hR => ?_))⟩
    · unfold B_X8_numberRead_29 B_X8_numberRead_49 B_X8_numberRead_64
      exact ⟨fun _ => ⟨fun _ => nx8_b hf.pos (br_f o_ne (hF _ c pl _ hh _ _ h1 hf)), fun z => absurd z hf.ne⟩, fun z => absurd z hf.ne⟩
    · obtain ⟨i1, i2, i3⟩ := hI'.e_le
      unfold B_X8_numberRead_29 B_X8_numberRead_49 B_X8_numberRead_64
      refine ⟨fun z => absurd rfl z, fun _ => ?_⟩
      by_cases h2 : k' = 2
      · obtain ⟨m1, m2, m3, m4⟩ := hI'.num h2 hbb
        rw [hv h2]
        refine br_t ((rk_2 i3).mpr h2) ⟨fun z => absurd rfl z, fun _ => nxg8 hT i2 (fun F Z t => (hR F Z t).1 h2) (fun c pl sp hh tk' vl2 h1 hf => br_f o_ne (hF _ c pl sp hh tk' vl2 h1 hf)) (fun k2 a2 e2 vl2 hI2 hle2 _ hR2 => br_f o_ne (hK _ k2 a2 e2 vl2 (neg_v m3).1 (neg_v m3).2 hI2 (by omega) hR2))⟩
      · have hf : Flt q T 2 a' := ⟨by omega, by omega, hI'.1, fun F Z t => (hR F Z t).2 h2⟩
        exact br_f (fun z => h2 ((rk_2 i3).mp z)) (fails_y ⟨fun _ => nx8_b (by decide) (br_f o_ne (hF _ 2 a' _ a' _ _ hI'.1 hf)), fun z => absurd z (by decide)⟩)
  · refine ⟨fun _ => br_t rfl ?_, fun z => absurd ((rk_4 g3).mp z) h3⟩
    unfold B_X8_numberRead_29 B_X8_numberRead_49 B_X8_numberRead_64
    refine ⟨fun z => absurd rfl z, fun _ => ?_⟩
    by_cases h2 : k = 2
    · obtain ⟨m1, m2, m3, m4⟩ := hI.num h2 hbb
      rw [hvl h2]
      refine br_t ((rk_2 g3).mpr h2) ⟨fun z => absurd rfl z, fun _ => nxg8 hT g2 (fun F Z t => ((hg F Z t).2 h3).1 h2) (fun c pl sp hh tk' vl2 h1 hf => br_t rfl (hF _ c pl sp hh tk' vl2 h1 hf)) (fun k2 a2 e2 vl2 hI2 hle2 _ hR2 => br_t rfl (hK _ k2 a2 e2 vl2 (by rw [nI_t (by omega)]; omega) (by rw [nI_t (by omega)]; omega) hI2 (by omega) hR2))⟩
    · have hf : Flt q T 2 a := ⟨by omega, by omega, haq, fun F Z t => ((hg F Z t).2 h3).2 h2⟩
      exact br_f (fun z => h2 ((rk_2 g3).mp z)) (fails_y ⟨fun _ => nx8_b (by decide) (br_t rfl (hF _ 2 a _ a _ _ haq hf)), fun z => absurd z (by decide)⟩)
end R8
