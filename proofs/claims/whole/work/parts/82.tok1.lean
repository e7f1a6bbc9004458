/-! text: the class's next token -/
section N1
variable {b : Nat → Nat} {q p : Nat} {tb : Nat → Int32}
theorem s_letters (hT : TB q tb b) {a : Nat} (ha : a ≤ q) {post : Int32 → Prop} (h : post (nI (adv (ltr b) q (q - a) a))) : P_X1_passLetters post (nI a) (nI q) tb := by
  have hq := hT.1
  unfold P_X1_passLetters
  refine ml1 (F := LB_X1_passLetters_0 post (nI q) tb) (I := fun z => ∃ e : Nat, a ≤ e ∧ e ≤ q ∧ z = nI e ∧ ∀ j, a ≤ j → j < e → ltr b j = true) (μ := fun z => 400 - z.toNatClampNeg) ?_ (nI a) ⟨a, Nat.le_refl _, ha, rfl, fun j x y => absurd x (by omega)⟩
  rintro z ⟨e, h1, h2, rfl, h3⟩ K hK
  unfold LB_X1_passLetters_0
  by_cases he : e = q
  · refine br_t (nI_le (by omega) (by omega)) ?_
    rw [← adv_uniq h2 (Or.inl he) (q - a) a (by omega) h1 h3]
    exact h
  · refine br_f (nI_ge (by omega) (by omega)) (by1_y hT (by omega) (lt1 (by have := (hT.2 e (by omega)).2; omega) (fun hl => br_f o_ne (hK _ ⟨e + 1, by omega, by omega, nI_1 e, fun j x y => ?_⟩ (by rw [nI_1, nI_c (by omega), nI_c (by omega)]; omega))) (fun hl => br_t rfl ?_)))
    · by_cases ej : j = e
      · subst ej; exact decide_eq_true hl
      · exact h3 j x (by omega)
    · rw [← adv_uniq h2 (Or.inr (decide_eq_false hl)) (q - a) a (by omega) h1 h3]
      exact h
theorem s_figures (hT : TB q tb b) {a : Nat} (ha : a ≤ q) {post : Int32 → Prop} (h : post (nI (adv (fgr b) q (q - a) a))) : P_X1_passFigures post (nI a) (nI q) tb := by
  have hq := hT.1
  unfold P_X1_passFigures
  refine ml1 (F := LB_X1_passFigures_0 post (nI q) tb) (I := fun z => ∃ e : Nat, a ≤ e ∧ e ≤ q ∧ z = nI e ∧ ∀ j, a ≤ j → j < e → fgr b j = true) (μ := fun z => 400 - z.toNatClampNeg) ?_ (nI a) ⟨a, Nat.le_refl _, ha, rfl, fun j x y => absurd x (by omega)⟩
  rintro z ⟨e, h1, h2, rfl, h3⟩ K hK
  unfold LB_X1_passFigures_0
  by_cases he : e = q
  · refine br_t (nI_le (by omega) (by omega)) ?_
    rw [← adv_uniq h2 (Or.inl he) (q - a) a (by omega) h1 h3]
    exact h
  · refine br_f (nI_ge (by omega) (by omega)) (by1_y hT (by omega) (fi1 (by have := (hT.2 e (by omega)).2; omega) (fun hl => br_f o_ne (hK _ ⟨e + 1, by omega, by omega, nI_1 e, fun j x y => ?_⟩ (by rw [nI_1, nI_c (by omega), nI_c (by omega)]; omega))) (fun hl => br_t rfl ?_)))
    · by_cases ej : j = e
      · subst ej; exact decide_eq_true hl
      · exact h3 j x (by omega)
    · rw [← adv_uniq h2 (Or.inr (decide_eq_false hl)) (q - a) a (by omega) h1 h3]
      exact h
theorem nx1 (hT : TB q tb b) (hp : p ≤ q) {wa : Int32} {post : Int32 → Int32 → Int32 → Int32 → Int32 → Prop} (h5 : nk b q p = 5 → post 1 (nI (na b q p)) 5 (nI (na b q p)) (nI (nend b q p))) (hk : ¬ nk b q p = 5 → post 0 wa (nI (nk b q p)) (nI (na b q p)) (nI (nend b q p))) : P_X1_next post (0 : Int32) wa (nI p) (nI q) tb := by
  have hq := hT.1
  have hna := na_rng (b := b) hp
  -- at the token
  have tok : B_X1_next_48 post (0 : Int32) wa (nI (na b q p)) (nI q) tb := by
    unfold nk at h5 hk
    unfold nend at h5 hk
    obtain ⟨-, ha2⟩ := hna
    generalize na b q p = a at h5 hk ha2 ⊢
    unfold B_X1_next_48
    by_cases hqa : q ≤ a
    · have e1 : nkA b q a = 0 := if_pos hqa
      have e2 : neA b q a = a := if_pos hqa
      rw [e1, e2] at hk
      refine by1_n hT hqa (by omega) (br_f (nI_nlt hqa (by omega)) ?_)
      unfold B_X1_next_177
      exact ⟨fun _ => hk (by omega), fun z => absurd z (by decide)⟩
    · have hb := (hT.2 a (by omega)).2
      have e1 : nkA b q a = if 97 ≤ b a ∧ b a ≤ 122 then 1 else if 48 ≤ b a ∧ b a ≤ 57 then (if adv (fgr b) q (q - a) a ≤ a + 4 then 2 else 5) else if b a = 45 then 3 else if b a = 59 then 4 else 5 := if_neg hqa
      have e2 : neA b q a = if 97 ≤ b a ∧ b a ≤ 122 then adv (ltr b) q (q - a) a else if 48 ≤ b a ∧ b a ≤ 57 then adv (fgr b) q (q - a) a else a + 1 := if_neg hqa
      rw [e1, e2] at h5 hk
      refine by1_y hT (by omega) (br_t (nI_lt (by omega) (by omega)) (lt1 (by omega) (fun hl => br_f o_ne ?_) (fun hl => br_t rfl ?_)))
      · rw [if_pos hl, if_pos hl] at hk
        refine s_letters hT ha2 ?_
        unfold B_X1_next_177
        exact ⟨fun _ => hk (by omega), fun z => absurd z (by decide)⟩
      · rw [if_neg hl, if_neg hl] at h5 hk
        refine fi1 (by omega) (fun hf => br_f o_ne ?_) (fun hf => br_t rfl ?_)
        · rw [if_pos hf, if_pos hf] at h5 hk
          obtain ⟨r1, r2, -⟩ := adv_spec (g := fgr b) (q := q) (q - a) a ha2
          refine s_figures hT ha2 ?_
          generalize adv (fgr b) q (q - a) a = e at r1 r2 h5 hk ⊢
          rw [pk_sub r1]
          unfold B_X1_next_136 B_X1_next_177
          by_cases h4 : e ≤ a + 4
          · rw [if_pos h4] at hk
            exact br_t (show nI (e - a) ≤ nI 4 from nI_le (by omega) (by omega)) ⟨fun _ => hk (by omega), fun z => absurd z (by decide)⟩
          · rw [if_neg h4] at h5
            refine br_f (nI_ge (a := 4) (b := e - a) (by omega) (by omega)) ⟨fun z => absurd rfl z, fun _ => ?_⟩
            unfold P_X1_fail
            exact ⟨fun z => absurd rfl z, fun _ => h5 rfl⟩
        · rw [if_neg hf, if_neg hf] at h5 hk
          unfold B_X1_next_174 B_X1_next_177
          rw [nI_1]
          by_cases h45 : b a = 45
          · rw [if_pos h45] at hk
            exact ⟨fun z => absurd (by rw [h45]; rfl) z, fun _ => ⟨fun _ => hk (by omega), fun z => absurd z (by decide)⟩⟩
          · rw [if_neg h45] at h5 hk
            refine ⟨fun _ => ?_, fun z => absurd ((nI_eq (b := 45) (by omega) (by omega)).mp z) h45⟩
            by_cases h59 : b a = 59
            · rw [if_pos h59] at hk
              exact ⟨fun z => absurd (by rw [h59]; rfl) z, fun _ => ⟨fun _ => hk (by omega), fun z => absurd z (by decide)⟩⟩
            · rw [if_neg h59] at h5
              refine ⟨fun _ => ⟨fun z => absurd rfl z, fun _ => ?_⟩, fun z => absurd ((nI_eq (b := 59) (by omega) (by omega)).mp z) h59⟩
              unfold P_X1_fail
              exact ⟨fun z => absurd rfl z, fun _ => h5 rfl⟩
  unfold P_X1_next
  refine ml1 (F := LB_X1_next_8 post (0 : Int32) wa (nI q) tb) (I := fun z => ∃ e : Nat, p ≤ e ∧ e ≤ q ∧ z = nI e ∧ ∀ j, p ≤ j → j < e → bla b j = true) (μ := fun z => 400 - z.toNatClampNeg) ?_ (nI p) ⟨p, Nat.le_refl _, hp, rfl, fun j x y => absurd x (by omega)⟩
  rintro z ⟨e, h1, h2, rfl, h3⟩ K hK
  unfold LB_X1_next_8
  by_cases he : e = q
  · refine br_t (nI_le (by omega) (by omega)) ?_
    rw [← adv_uniq h2 (Or.inl he) (q - p) p (by omega) h1 h3]
    exact tok
  · have hb := (hT.2 e (by omega)).2
    refine br_f (nI_ge (by omega) (by omega)) (by1_y hT (by omega) ⟨fun hl => ?_, fun hl => hK _ ⟨e + 1, by omega, by omega, nI_1 e, fun j x y => ?_⟩ (by rw [nI_1, nI_c (by omega), nI_c (by omega)]; omega)⟩)
    · have : ¬ b e = 32 := fun z => hl (by rw [z]; rfl)
      rw [← adv_uniq h2 (Or.inr (decide_eq_false this)) (q - p) p (by omega) h1 h3]
      exact tok
    · by_cases ej : j = e
      · subst ej; exact decide_eq_true ((nI_eq (b := 32) (by omega) (by omega)).mp hl)
      · exact h3 j x (by omega)
end N1
