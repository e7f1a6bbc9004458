/-! text: the reference's next token -/
section N8
variable {b : Nat → Nat} {q p : Nat} {tb : Nat → Int32}
def rk (k : Nat) : Nat := if k = 3 then 4 else if k = 4 then 3 else k
theorem t97 : (97 : Int64).toInt = ((97 : Nat) : Int) := by decide
theorem t122 : (122 : Int64).toInt = ((122 : Nat) : Int) := by decide
theorem t48 : (48 : Int64).toInt = ((48 : Nat) : Int) := by decide
theorem t57 : (57 : Int64).toInt = ((57 : Nat) : Int) := by decide
theorem m4_32 : ¬ (-4 : Int32) = 32 := by decide
theorem nI_nm4 {k : Nat} (h : k < 1000) : ¬ nI k = (-4 : Int32) := nI_m4 h
set_option maxHeartbeats 1000000 in
theorem nx8 (hT : TB q tb b) (hp : p ≤ q) {ba he tk vl : Int32} {post : Int32 → Int32 → Int32 → Int32 → Int32 → Int32 → Prop} (h5 : nk b q p = 5 → ∀ sp tk' vl', post 1 (nI (na b q p)) sp (nI (na b q p)) tk' vl') (hk : ¬ nk b q p = 5 → ∀ vl', (nk b q p = 2 → vl' = nI (fg b (na b q p) (nend b q p - na b q p))) → post 0 ba (nI (nend b q p)) (nI (na b q p)) (nI (rk (nk b q p))) vl') : P_X8_readsOn post (nI q) (0 : Int32) ba (nI p) he tk vl tb := by
  have hq := hT.1
  have hna := na_rng (b := b) hp
  -- at the token
  have tok : P_X8_byteAt (fun (r2 : Int32) => ((¬ r2 = (-4 : Int32) → P_X8_in (fun (r3 : Int32) => ((r3 = 0 → P_X8_in (fun (r4 : Int32) => ((r4 = 0 → ((¬ r2 = (45 : Int32) → B_X8_readsOn_255 post (0 : Int32) ba (nI (na b q p)) (nI (na b q p)) (0 : Int32) (3 : Int32) r2) ∧ (r2 = (45 : Int32) → B_X8_readsOn_255 post (0 : Int32) ba (nI (na b q p)) (nI (na b q p)) (0 : Int32) (4 : Int32) r2))) ∧ (¬ r4 = 0 → ∃ n : Nat, L_X8_readsOn_140 post (nI q) (0 : Int32) ba (nI (na b q p)) tb n (nI (na b q p)) (0 : Int32)))) r2.toInt64 (48 : Int64) (57 : Int64)) ∧ (¬ r3 = 0 → ∃ n : Nat, L_X8_readsOn_84 post (nI q) (0 : Int32) ba (nI (na b q p)) (0 : Int32) tb n (nI (na b q p))))) r2.toInt64 (97 : Int64) (122 : Int64)) ∧ (r2 = (-4 : Int32) → post (0 : Int32) ba (nI (na b q p)) (nI (na b q p)) (0 : Int32) (0 : Int32)))) (nI q) tb (nI (na b q p)) := by
    unfold nk at h5 hk
    unfold nend at hk
    obtain ⟨-, ha2⟩ := hna
    generalize na b q p = a at h5 hk ha2 ⊢
    by_cases hqa : q ≤ a
    · have e1 : nkA b q a = 0 := if_pos hqa
      have e2 : neA b q a = a := if_pos hqa
      rw [e1, e2] at hk
      exact by8_n hT hqa (by omega) ⟨fun z => absurd rfl z, fun _ => hk (by omega) 0 (fun z => absurd z (by omega))⟩
    · have hb := (hT.2 a (by omega)).2
      have e1 : nkA b q a = if 97 ≤ b a ∧ b a ≤ 122 then 1 else if 48 ≤ b a ∧ b a ≤ 57 then (if adv (fgr b) q (q - a) a ≤ a + 4 then 2 else 5) else if b a = 45 then 3 else if b a = 59 then 4 else 5 := if_neg hqa
      have e2 : neA b q a = if 97 ≤ b a ∧ b a ≤ 122 then adv (ltr b) q (q - a) a else if 48 ≤ b a ∧ b a ≤ 57 then adv (fgr b) q (q - a) a else a + 1 := if_neg hqa
      rw [e1] at h5
      rw [e1, e2] at hk
      refine by8_y hT (by omega) ⟨fun _ => in8 (by omega) t97 t122 (fun hl => br_f o_ne ?_) (fun hl => br_t rfl ?_), fun z => absurd z (nI_nm4 (by omega))⟩
      · rw [if_pos hl, if_pos hl] at hk
        refine ml1 (F := LB_X8_readsOn_84 post (nI q) (0 : Int32) ba (nI a) (0 : Int32) tb) (I := fun z => ∃ e : Nat, a ≤ e ∧ e ≤ q ∧ z = nI e ∧ ∀ j, a ≤ j → j < e → ltr b j = true) (μ := fun z => 400 - z.toNatClampNeg) ?_ (nI a) ⟨a, Nat.le_refl _, ha2, rfl, fun j x y => absurd x (by omega)⟩
        rintro z ⟨e, h1, h2, rfl, h3⟩ K hK
        have fin : (e = q ∨ ltr b e = false) → post (0 : Int32) ba (nI e) (nI a) (1 : Int32) (0 : Int32) := fun hz => by
          have := adv_uniq h2 hz (q - a) a (by omega) h1 h3
          rw [this] at hk
          exact hk (by omega) 0 (fun z => absurd z (by omega))
        unfold LB_X8_readsOn_84
        by_cases heq : e = q
        · exact by8_n hT (by omega) (by omega) (in8_m4 t97 (br_t rfl (fin (Or.inl heq))))
        · refine by8_y hT (by omega) (in8 (by have := (hT.2 e (by omega)).2; omega) t97 t122 (fun hl => br_f o_ne (hK _ ⟨e + 1, by omega, by omega, nI_1 e, fun j x y => ?_⟩ (by rw [nI_1, nI_c (by omega), nI_c (by omega)]; omega))) (fun hl => br_t rfl (fin (Or.inr (decide_eq_false hl)))))
          by_cases ej : j = e
          · subst ej; exact decide_eq_true hl
          · exact h3 j x (by omega)
      · rw [if_neg hl] at h5
        rw [if_neg hl, if_neg hl] at hk
        refine in8 (by omega) t48 t57 (fun hf => br_f o_ne ?_) (fun hf => br_t rfl ?_)
        · rw [if_pos hf] at h5
          rw [if_pos hf, if_pos hf] at hk
          refine ml2 (F := LB_X8_readsOn_140 post (nI q) (0 : Int32) ba (nI a) tb) (I := fun z vl => ∃ e : Nat, a ≤ e ∧ e ≤ q ∧ z = nI e ∧ (∀ j, a ≤ j → j < e → fgr b j = true) ∧ vl = nI (fg b a (if e - a ≤ 4 then e - a else 4))) (μ := fun z _ => 400 - z.toNatClampNeg) ?_ (nI a) 0 ⟨a, Nat.le_refl _, ha2, rfl, fun j x y => absurd x (by omega), by rw [Nat.sub_self]; rfl⟩
          rintro z vl ⟨e, h1, h2, rfl, h3, rfl⟩ K hK
          unfold LB_X8_readsOn_140 B_X8_readsOn_201
          rw [pk_sub h1]
          have fin : (e = q ∨ fgr b e = false) → ((nI (e - a) ≤ (4 : Int32) → post (0 : Int32) ba (nI e) (nI a) (2 : Int32) (nI (fg b a (if e - a ≤ 4 then e - a else 4)))) ∧ (¬ nI (e - a) ≤ (4 : Int32) → P_X8_fails (fun (t_broken_v8 : Int32) (t_brokenAt_v8 : Int32) => post t_broken_v8 t_brokenAt_v8 (nI e) (nI a) (2 : Int32) (nI (fg b a (if e - a ≤ 4 then e - a else 4)))) (0 : Int32) ba (nI a) (1 : Int32))) := fun hz => by
            have := adv_uniq h2 hz (q - a) a (by omega) h1 h3
            rw [this] at hk h5
            by_cases h4 : e ≤ a + 4
            · rw [if_pos h4] at hk
              rw [if_pos (show e - a ≤ 4 by omega)]
              exact br_t (show nI (e - a) ≤ nI 4 from nI_le (by omega) (by omega)) (hk (by omega) _ (fun _ => rfl))
            · rw [if_neg h4] at h5
              refine br_f (nI_ge (a := 4) (b := e - a) (by omega) (by omega)) ?_
              unfold P_X8_fails
              exact ⟨fun z => absurd rfl z, fun _ => h5 rfl _ _ _⟩
          by_cases heq : e = q
          · exact by8_n hT (by omega) (by omega) (in8_m4 t48 (br_t rfl (fin (Or.inl heq))))
          · have hbe := (hT.2 e (by omega)).2
            have hmu : 400 - (nI e + 1).toNatClampNeg < 400 - (nI e).toNatClampNeg := by rw [nI_1, nI_c (by omega), nI_c (by omega)]; omega
            refine by8_y hT (by omega) (in8 (by omega) t48 t57 (fun hl => br_f o_ne ?_) (fun hl => br_t rfl (fin (Or.inr (decide_eq_false hl)))))
            have h3' : ∀ j, a ≤ j → j < e + 1 → fgr b j = true := fun j x y => by
              by_cases ej : j = e
              · subst ej; exact decide_eq_true hl
              · exact h3 j x (by omega)
            by_cases h4 : 4 ≤ e - a
            · refine br_t (show nI 4 ≤ nI (e - a) from nI_le h4 (by omega)) (hK _ _ ⟨e + 1, by omega, by omega, nI_1 e, h3', ?_⟩ hmu)
              rw [if_neg (show ¬ e + 1 - a ≤ 4 by omega)]
              by_cases h4' : e - a ≤ 4
              · rw [if_pos h4', show e - a = 4 by omega]
              · rw [if_neg h4']
            · refine br_f (nI_ge (a := e - a) (b := 4) (by omega) (by omega)) (by8_y hT (by omega) (hK _ _ ⟨e + 1, by omega, by omega, nI_1 e, h3', ?_⟩ hmu))
              rw [if_pos (show e - a ≤ 4 by omega), if_pos (show e + 1 - a ≤ 4 by omega), show e + 1 - a = (e - a) + 1 by omega]
              show _ = nI (10 * fg b a (e - a) + (b (a + (e - a)) - 48))
              rw [show a + (e - a) = e by omega, show (10 : Int32) = nI 10 from rfl, show (48 : Int32) = nI 48 from rfl, pk_mul, nI_add, pk_sub (by omega)]
              congr 1
              omega
        · rw [if_neg hf] at h5
          rw [if_neg hf, if_neg hf] at hk
          unfold B_X8_readsOn_255
          rw [nI_1]
          by_cases h45 : b a = 45
          · rw [if_pos h45] at hk
            refine ⟨fun z => absurd (by rw [h45]; rfl) z, fun _ => ⟨fun z => absurd ((nI_eq (b := 59) (by omega) (by omega)).mp z) (by omega), fun _ => ⟨fun _ => hk (by omega) 0 (fun z => absurd z (by omega)), fun z => absurd (by rw [h45]; rfl) z⟩⟩⟩
          · rw [if_neg h45] at h5 hk
            refine ⟨fun _ => ?_, fun z => absurd ((nI_eq (b := 45) (by omega) (by omega)).mp z) h45⟩
            by_cases h59 : b a = 59
            · rw [if_pos h59] at hk
              exact ⟨fun _ => hk (by omega) 0 (fun z => absurd z (by omega)), fun z => absurd (by rw [h59]; rfl) z⟩
            · rw [if_neg h59] at h5
              refine ⟨fun z => absurd ((nI_eq (b := 59) (by omega) (by omega)).mp z) h59, fun _ => ⟨fun z => absurd ((nI_eq (b := 45) (by omega) (by omega)).mp z) h45, fun _ => ?_⟩⟩
              unfold P_X8_fails
              exact ⟨fun z => absurd rfl z, fun _ => h5 rfl _ _ _⟩
  unfold P_X8_readsOn
  refine br_t (by decide) ?_
  refine ml1 (F := LB_X8_readsOn_8 post (nI q) (0 : Int32) ba tb) (I := fun z => ∃ e : Nat, p ≤ e ∧ e ≤ q ∧ z = nI e ∧ ∀ j, p ≤ j → j < e → bla b j = true) (μ := fun z => 400 - z.toNatClampNeg) ?_ (nI p) ⟨p, Nat.le_refl _, hp, rfl, fun j x y => absurd x (by omega)⟩
  rintro z ⟨e, h1, h2, rfl, h3⟩ K hK
  unfold LB_X8_readsOn_8
  by_cases he2 : e = q
  · have := adv_uniq h2 (Or.inl he2) (q - p) p (by omega) h1 h3
    have e3 : na b q p = e := this
    rw [e3] at tok
    exact by8_n hT (by omega) (by omega) ⟨fun _ => tok, fun z => absurd z m4_32⟩
  · have hb := (hT.2 e (by omega)).2
    refine by8_y hT (by omega) ⟨fun hl => ?_, fun hl => hK _ ⟨e + 1, by omega, by omega, nI_1 e, fun j x y => ?_⟩ (by rw [nI_1, nI_c (by omega), nI_c (by omega)]; omega)⟩
    · have hz : ¬ b e = 32 := fun z => hl (by rw [z]; rfl)
      have e3 : na b q p = e := adv_uniq h2 (Or.inr (decide_eq_false hz)) (q - p) p (by omega) h1 h3
      rw [e3] at tok
      exact tok
    · by_cases ej : j = e
      · subst ej; exact decide_eq_true ((nI_eq (b := 32) (by omega) (by omega)).mp hl)
      · exact h3 j x (by omega)
theorem nx8_b {br ba sp he tk vl : Int32} (hb : ¬ br ≤ 0) {tpd : Int32} {post : Int32 → Int32 → Int32 → Int32 → Int32 → Int32 → Prop} (h : post br ba sp he tk vl) : P_X8_readsOn post tpd br ba sp he tk vl tb := by
  unfold P_X8_readsOn
  exact br_f hb h
end N8
