/-! the reference's least weights: all pairs through each thing -/
abbrev FARL : Int64 := 1000000000000000000
theorem far_t : FARL.toInt = 1000000000000000000 := by decide
/-- heights that the weights nearly keep -/
def PotOk (E : Nat → Prop) (X Y : Nat → Nat) (w : Nat → Int) : Prop := ∃ (h : Nat → Int) (δ : Int), 0 ≤ δ ∧ δ ≤ 20000000 ∧ (∀ v, v < 10 → -50000000000000 ≤ h v ∧ h v ≤ 50000000000000) ∧ ∀ k, E k → h (X k) - h (Y k) - δ ≤ w k
def Ent (E : Nat → Prop) (X Y : Nat → Nat) (w : Nat → Int) (a b L : Nat) (U : Int) (v : Int64) : Prop := v = FARL ∨ ∃ l, pw E X Y a l b ∧ l.length ≤ L ∧ v.toInt = sw w l ∧ v.toInt ≤ U
section FW
variable {E : Nat → Prop} {X Y : Nat → Nat} {w : Nat → Int}
theorem Ent.weaken {a b L L' : Nat} {U U' : Int} {v : Int64} (h : Ent E X Y w a b L U v) (hL : L ≤ L') (hU : U ≤ U') : Ent E X Y w a b L' U' v := h.imp id (fun ⟨l, a, b, c, d⟩ => ⟨l, a, by omega, c, by omega⟩)
theorem pot_sw {h : Nat → Int} {δ : Int} (hk : ∀ k, E k → h (X k) - h (Y k) - δ ≤ w k) : ∀ (l : List Nat) (a b : Nat), pw E X Y a l b → h b - h a - δ * (l.length : Int) ≤ sw w l := by
  intro l
  induction l with
  | nil => intro a b hp; have hp : a = b := hp; subst hp; simp [sw]
  | cons k l ih =>
    intro a b hp
    have q := ih (X k) b hp.2.2
    have q2 := hk k hp.1
    rw [hp.2.1] at q2
    simp only [sw, List.length_cons, Int.natCast_add, Int.mul_add]
    omega
theorem pot_low (hp : PotOk E X Y w) (hE : ∀ k, E k → X k < 10 ∧ Y k < 10) {a b : Nat} {l : List Nat} (ha : a < 10) (hb : b < 10) (h : pw E X Y a l b) (hl : l.length ≤ 362797056) : -10000000000000000 ≤ sw w l := by
  obtain ⟨g, δ, d0, d1, hg, hk⟩ := hp
  have q := pot_sw hk l a b h
  have q1 := hg a ha
  have q2 := hg b hb
  have q3 : δ * (l.length : Int) ≤ 20000000 * 362797056 := Int.mul_le_mul d1 (by omega) (by omega) (by omega)
  omega
theorem Ent.rng (hp : PotOk E X Y w) (hE : ∀ k, E k → X k < 10 ∧ Y k < 10) {a b L : Nat} {U : Int} {v : Int64} (ha : a < 10) (hb : b < 10) (hL : L ≤ 362797056) (h : Ent E X Y w a b L U v) (hne : ¬ FARL ≤ v) : ∃ l, pw E X Y a l b ∧ l.length ≤ L ∧ v.toInt = sw w l ∧ v.toInt ≤ U ∧ -10000000000000000 ≤ v.toInt := by
  rcases h with e | ⟨l, h1, h2, h3, h4⟩
  · rw [e] at hne; exact absurd (Int64.le_refl _) hne
  · exact ⟨l, h1, h2, h3, h4, by rw [h3]; exact pot_low hp hE ha hb h1 (by omega)⟩
theorem Ent.lt {a b L : Nat} {U : Int} {v : Int64} (hU : U < 1000000000000000000) (h : Ent E X Y w a b L U v) : v = FARL ∨ v.toInt < 1000000000000000000 := by
  rcases h with e | ⟨l, h1, h2, h3, h4⟩
  · exact Or.inl e
  · exact Or.inr (by omega)
/-- in the round of m, with i places done -/
def Lb (m L i a b : Nat) : Nat := if 10 * a + b < i then (if a = m ∧ b = m then 2 * L else if a = m ∨ b = m then 3 * L else 6 * L) else L
def Ub (m : Nat) (U : Int) (i a b : Nat) : Int := if 10 * a + b < i ∧ a ≠ m ∧ b ≠ m then 2 * U else U
def Rnd (E : Nat → Prop) (X Y : Nat → Nat) (w : Nat → Int) (m L : Nat) (U : Int) (D0 : Nat → Int64) (i : Nat) (D : Nat → Int64) : Prop :=
  (∀ a b, a < 10 → b < 10 → Ent E X Y w a b (Lb m L i a b) (Ub m U i a b) (D (10 * a + b))) ∧
  (∀ a b, a < 10 → b < 10 → (D (10 * a + b)).toInt ≤ (D0 (10 * a + b)).toInt) ∧
  (∀ a b, a < 10 → b < 10 → 10 * a + b < i → (D0 (10 * a + m)).toInt < 1000000000000000000 → (D0 (10 * m + b)).toInt < 1000000000000000000 → (D (10 * a + b)).toInt ≤ (D0 (10 * a + m)).toInt + (D0 (10 * m + b)).toInt)
theorem ix1 {i m : Nat} (hi : i < 100) (hm : m < 10) : ((nI i / (10 : Int32)) * (10 : Int32)) + nI m = nI (10 * (i / 10) + m) := by
  rw [show (10 : Int32) = nI 10 from rfl, pk_div (by omega) (by omega) (by omega), pk_mul, nI_add]
  congr 1
  omega
theorem ix2 {i m : Nat} (hi : i < 100) (hm : m < 10) : ((10 : Int32) * nI m) + (nI i - nI i / (10 : Int32) * (10 : Int32)) = nI (10 * m + i % 10) := by
  rw [show (10 : Int32) = nI 10 from rfl, pk_rem (by omega) (by omega) (by omega), pk_mul, nI_add]
set_option maxHeartbeats 4000000 in
theorem s_round (hp : PotOk E X Y w) (hE : ∀ k, E k → X k < 10 ∧ Y k < 10) {m L : Nat} {U : Int} (hm : m < 10) (hL : 6 * L ≤ 362797056) (hU : 0 ≤ U ∧ 2 * U < 1000000000000000000) {D0 : Nat → Int64} (h0 : ∀ a b, a < 10 → b < 10 → Ent E X Y w a b L U (D0 (10 * a + b)))
    {K : (Nat → Int64) → Int32 → Prop} (hK : ∀ D : Nat → Int64, Rnd E X Y w m L U D0 100 D → K D (nI m + 1)) : ∃ n : Nat, L_X8_reckons_136 K (nI m) n D0 0 := by
  refine ml2 (F := LB_X8_reckons_136 K (nI m)) (I := fun D z => ∃ i : Nat, i ≤ 100 ∧ z = nI i ∧ Rnd E X Y w m L U D0 i D) (μ := fun _ z => 100 - z.toNatClampNeg) ?_ D0 0 ⟨0, by omega, rfl, fun a b ha hb => by
      have := h0 a b ha hb
      simpa [Lb, Ub] using this, fun a b _ _ => Int.le_refl _, fun a b _ _ h => absurd h (by omega)⟩
  rintro D z ⟨i, hi, rfl, r1, r2, r3⟩ K2 hK2
  unfold LB_X8_reckons_136 B_X8_reckons_223
  by_cases h100 : i = 100
  · subst h100
    exact br_t (nI_le (Nat.le_refl _) (by omega)) (hK D ⟨r1, r2, r3⟩)
  · have hlt : i < 100 := by omega
    rw [ix1 hlt hm, ix2 hlt hm]
    have hr10 : i / 10 < 10 := by omega
    have hc10 : i % 10 < 10 := by omega
    have hic : 10 * (i / 10) + i % 10 = i := by omega
    generalize hr : i / 10 = r at *
    generalize hc : i % 10 = c at *
    have hmu : 100 - (nI i + 1).toNatClampNeg < 100 - (nI i).toNatClampNeg := by rw [nI_1, nI_c (by omega), nI_c (by omega)]; omega
    rw [nI_c (show 10 * r + m ≤ 2147483647 by omega), nI_c (show 10 * m + c ≤ 2147483647 by omega), nI_c (show i ≤ 2147483647 by omega)]
    have e1 := r1 r m hr10 hm
    have e2 := r1 m c hm hc10
    have e3 := r1 r c hr10 hc10
    have m1 := r2 r m hr10 hm
    have m2 := r2 m c hm hc10
    have u1 : Ub m U i r m = U := by simp [Ub]
    have u2 : Ub m U i m c = U := by simp [Ub]
    have u3 : Ub m U i r c = U := by simp [Ub, hic]
    have l3 : Lb m L i r c = L := by simp [Lb, hic]
    rw [u1] at e1
    rw [u2] at e2
    rw [u3, l3, hic] at e3
    have lb1 : Lb m L i r m ≤ 3 * L := by unfold Lb; split <;> (try split) <;> (try split) <;> omega
    have lb2 : Lb m L i m c ≤ 3 * L := by unfold Lb; split <;> (try split) <;> (try split) <;> omega
    have stay : ((D0 (10 * r + m)).toInt < 1000000000000000000 → (D0 (10 * m + c)).toInt < 1000000000000000000 → (D i).toInt ≤ (D0 (10 * r + m)).toInt + (D0 (10 * m + c)).toInt) → K2 D (nI i + 1) := fun hh => by
      refine hK2 D _ ⟨i + 1, by omega, nI_1 i, fun a b ha hb => (r1 a b ha hb).weaken ?_ ?_, r2, fun a b ha hb h q1 q2 => ?_⟩ hmu
      · unfold Lb; split <;> (try split) <;> (try split) <;> (try split) <;> omega
      · unfold Ub; split <;> (try split) <;> omega
      · by_cases e : 10 * a + b = i
        · have ea : a = r := by omega
          have eb : b = c := by omega
          subst ea; subst eb
          rw [e]
          exact hh q1 q2
        · exact r3 a b ha hb (by omega) q1 q2
    refine br_f (nI_ge (a := i) (b := 100) (by omega) (by omega)) ⟨vin (by omega) (by omega), vin (by omega) (by omega), br_c (fun hf => ?_) (fun hf => br_c (fun hg => ?_) (fun hg => ⟨vin hlt (by omega), ?_⟩))⟩
    · refine stay (fun q1 _ => ?_)
      rw [Int64.le_iff_toInt_le, far_t] at hf
      omega
    · refine stay (fun _ q2 => ?_)
      rw [Int64.le_iff_toInt_le, far_t] at hg
      omega
    · obtain ⟨l1, a1, a2, a3, a4, a5⟩ := e1.rng hp hE hr10 hm (by omega) hf
      obtain ⟨l2, b1, b2, b3, b4, b5⟩ := e2.rng hp hE hm hc10 (by omega) hg
      have hsum : (D (10 * r + m) + D (10 * m + c)).toInt = (D (10 * r + m)).toInt + (D (10 * m + c)).toInt := l_add (by omega) (by omega)
      refine br_c (fun hle => ?_) (fun hle => ⟨vin hlt (by omega), ?_⟩)
      · rw [Int64.le_iff_toInt_le, hsum] at hle
        exact stay (fun _ _ => by omega)
      · rw [Int64.le_iff_toInt_le, hsum] at hle
        have hpw := pw_app a1 b1
        have hsw : sw w (l1 ++ l2) = (D (10 * r + m)).toInt + (D (10 * m + c)).toInt := by rw [sw_app, a3, b3]
        refine hK2 _ _ ⟨i + 1, by omega, nI_1 i, fun a b ha hb => ?_, fun a b ha hb => ?_, fun a b ha hb h q1 q2 => ?_⟩ hmu
        · by_cases e : 10 * a + b = i
          · have ea : a = r := by omega
            have eb : b = c := by omega
            subst ea; subst eb
            rw [e, pk_uLs]
            right
            refine ⟨l1 ++ l2, hpw, ?_, by rw [hsum, hsw], ?_⟩
            · rw [List.length_append]
              unfold Lb at a2 b2 ⊢
              rw [if_pos (show 10 * a + b < i + 1 by omega)]
              by_cases ea : a = m
              · by_cases eb : b = m
                · subst ea; subst eb
                  rw [if_pos ⟨rfl, rfl⟩]
                  rw [if_neg (by omega)] at a2 b2
                  omega
                · subst ea
                  rw [if_neg (fun z => eb z.2), if_pos (Or.inl rfl)]
                  rw [if_neg (show ¬ 10 * a + b < i by omega)] at b2
                  have : l1.length ≤ 2 * L := by split at a2 <;> (try simp at a2) <;> omega
                  omega
              · by_cases eb : b = m
                · subst eb
                  rw [if_neg (fun z => ea z.1), if_pos (Or.inr rfl)]
                  rw [if_neg (show ¬ 10 * a + b < i by omega)] at a2
                  have : l2.length ≤ 2 * L := by split at b2 <;> (try simp at b2) <;> omega
                  omega
                · rw [if_neg (fun z => ea z.1), if_neg (fun z => z.elim ea eb)]
                  have c1 : l1.length ≤ 3 * L := Nat.le_trans a2 lb1
                  have c2 : l2.length ≤ 3 * L := Nat.le_trans b2 lb2
                  omega
            · rw [hsum]
              unfold Ub
              split
              · omega
              · rename_i hu
                by_cases ea : a = m
                · subst ea
                  rw [show 10 * a + b = i from e] at hle b4 ⊢
                  omega
                · have eb : b = m := by
                    by_cases eb : b = m
                    · exact eb
                    · exact absurd ⟨by omega, ea, eb⟩ hu
                  subst eb
                  rw [show 10 * a + b = i from e] at hle a4 ⊢
                  omega
          · rw [pk_uLn e]
            refine (r1 a b ha hb).weaken ?_ ?_
            · unfold Lb; split <;> (try split) <;> (try split) <;> (try split) <;> omega
            · unfold Ub; split <;> (try split) <;> omega
        · by_cases e : 10 * a + b = i
          · rw [e, pk_uLs, hsum]
            have := r2 a b ha hb
            rw [e] at this
            omega
          · rw [pk_uLn e]; exact r2 a b ha hb
        · by_cases e : 10 * a + b = i
          · have ea : a = r := by omega
            have eb : b = c := by omega
            subst ea; subst eb
            rw [e, pk_uLs, hsum]
            omega
          · rw [pk_uLn e]; exact r3 a b ha hb (by omega) q1 q2
end FW
