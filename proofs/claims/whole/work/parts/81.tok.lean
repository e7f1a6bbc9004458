/-! text: tokens without a side -/
def adv (g : Nat → Bool) (q : Nat) : Nat → Nat → Nat
  | 0, p => p
  | f + 1, p => if p < q ∧ g p = true then adv g q f (p + 1) else p
theorem adv_uniq {g : Nat → Bool} {q e : Nat} (h2 : e ≤ q) (h4 : e = q ∨ g e = false) : ∀ (f p : Nat), q ≤ p + f → p ≤ e → (∀ j, p ≤ j → j < e → g j = true) → adv g q f p = e := by
  intro f
  induction f with
  | zero =>
    intro p h0 h1 _
    show p = e
    omega
  | succ f ih =>
    intro p h0 h1 h3
    show (if p < q ∧ g p = true then adv g q f (p + 1) else p) = e
    by_cases ep : p = e
    · subst ep
      rw [if_neg]
      rintro ⟨a, b⟩
      rcases h4 with h4 | h4
      · omega
      · rw [h4] at b
        cases b
    · rw [if_pos ⟨by omega, h3 p (Nat.le_refl _) (by omega)⟩]
      exact ih (p + 1) (by omega) (by omega) (fun j a b => h3 j (by omega) b)
theorem adv_spec {g : Nat → Bool} {q : Nat} : ∀ (f p : Nat), p ≤ q → p ≤ adv g q f p ∧ adv g q f p ≤ q ∧ (p < q → g p = true → 0 < f → p < adv g q f p) := by
  intro f
  induction f with
  | zero => intro p h; exact ⟨Nat.le_refl _, h, fun _ _ z => absurd z (by omega)⟩
  | succ f ih =>
    intro p h
    have e : adv g q (f + 1) p = if p < q ∧ g p = true then adv g q f (p + 1) else p := rfl
    by_cases hc : p < q ∧ g p = true
    · rw [e, if_pos hc]
      obtain ⟨a, b, -⟩ := ih (p + 1) (by omega)
      exact ⟨by omega, b, fun _ _ _ => by omega⟩
    · rw [e, if_neg hc]
      exact ⟨Nat.le_refl _, h, fun a b _ => absurd ⟨a, b⟩ hc⟩
def bla (b : Nat → Nat) (j : Nat) : Bool := decide (b j = 32)
def ltr (b : Nat → Nat) (j : Nat) : Bool := decide (97 ≤ b j ∧ b j ≤ 122)
def fgr (b : Nat → Nat) (j : Nat) : Bool := decide (48 ≤ b j ∧ b j ≤ 57)
/-- where the token behind p begins; its kind (0 end, 1 name, 2 number, 3 less, 4 stop, 5 none); where it ends -/
def na (b : Nat → Nat) (q p : Nat) : Nat := adv (bla b) q (q - p) p
def nkA (b : Nat → Nat) (q a : Nat) : Nat := if q ≤ a then 0 else if 97 ≤ b a ∧ b a ≤ 122 then 1 else if 48 ≤ b a ∧ b a ≤ 57 then (if adv (fgr b) q (q - a) a ≤ a + 4 then 2 else 5) else if b a = 45 then 3 else if b a = 59 then 4 else 5
def neA (b : Nat → Nat) (q a : Nat) : Nat := if q ≤ a then a else if 97 ≤ b a ∧ b a ≤ 122 then adv (ltr b) q (q - a) a else if 48 ≤ b a ∧ b a ≤ 57 then adv (fgr b) q (q - a) a else a + 1
def nk (b : Nat → Nat) (q p : Nat) : Nat := nkA b q (na b q p)
def nend (b : Nat → Nat) (q p : Nat) : Nat := neA b q (na b q p)
/-- the number of so many figures from a on -/
def fg (b : Nat → Nat) (a : Nat) : Nat → Nat
  | 0 => 0
  | l + 1 => 10 * fg b a l + (b (a + l) - 48)
section TO
variable {b : Nat → Nat} {q p : Nat}
theorem na_rng (hp : p ≤ q) : p ≤ na b q p ∧ na b q p ≤ q := by
  obtain ⟨a, d, -⟩ := adv_spec (g := bla b) (q - p) p hp
  exact ⟨a, d⟩
theorem neA_rng {a : Nat} (ha : a ≤ q) : a ≤ neA b q a ∧ neA b q a ≤ q ∧ (nkA b q a ≠ 0 → a < q ∧ a < neA b q a) := by
  unfold neA nkA
  by_cases h1 : q ≤ a
  · rw [if_pos h1, if_pos h1]
    exact ⟨Nat.le_refl _, ha, fun z => absurd rfl z⟩
  · rw [if_neg h1, if_neg h1]
    by_cases h2 : 97 ≤ b a ∧ b a ≤ 122
    · rw [if_pos h2, if_pos h2]
      obtain ⟨x, y, z⟩ := adv_spec (g := ltr b) (q - a) a ha
      exact ⟨x, y, fun _ => ⟨by omega, z (by omega) (decide_eq_true h2) (by omega)⟩⟩
    · rw [if_neg h2, if_neg h2]
      by_cases h3 : 48 ≤ b a ∧ b a ≤ 57
      · rw [if_pos h3, if_pos h3]
        obtain ⟨x, y, z⟩ := adv_spec (g := fgr b) (q - a) a ha
        exact ⟨x, y, fun _ => ⟨by omega, z (by omega) (decide_eq_true h3) (by omega)⟩⟩
      · rw [if_neg h3, if_neg h3]
        exact ⟨by omega, by omega, fun _ => ⟨by omega, by omega⟩⟩
theorem nend_rng (hp : p ≤ q) : na b q p ≤ nend b q p ∧ nend b q p ≤ q ∧ (nk b q p ≠ 0 → na b q p < q ∧ na b q p < nend b q p) := neA_rng (na_rng hp).2
theorem nkA_le (a : Nat) : nkA b q a ≤ 5 := by
  unfold nkA
  repeat' split
  all_goals omega
theorem nk_num {a : Nat} (h : nkA b q a = 2) : a < q ∧ (48 ≤ b a ∧ b a ≤ 57) ∧ ¬ (97 ≤ b a ∧ b a ≤ 122) ∧ neA b q a = adv (fgr b) q (q - a) a ∧ neA b q a ≤ a + 4 := by
  unfold nkA at h
  unfold neA
  by_cases h1 : q ≤ a
  · rw [if_pos h1] at h; omega
  · rw [if_neg h1] at h ⊢
    by_cases h2 : 97 ≤ b a ∧ b a ≤ 122
    · rw [if_pos h2] at h; omega
    · rw [if_neg h2] at h ⊢
      by_cases h3 : 48 ≤ b a ∧ b a ≤ 57
      · rw [if_pos h3] at h ⊢
        by_cases h4 : adv (fgr b) q (q - a) a ≤ a + 4
        · exact ⟨by omega, h3, h2, rfl, h4⟩
        · rw [if_neg h4] at h; omega
      · rw [if_neg h3] at h
        by_cases h4 : b a = 45
        · rw [if_pos h4] at h; omega
        · rw [if_neg h4] at h
          by_cases h5 : b a = 59
          · rw [if_pos h5] at h; omega
          · rw [if_neg h5] at h; omega
theorem fg_le {a : Nat} : ∀ l, (∀ j, j < l → b (a + j) ≤ 57) → fg b a l + 1 ≤ 10 ^ l := by
  intro l
  induction l with
  | zero => intro _; exact Nat.le_refl _
  | succ l ih =>
    intro h
    have h1 := ih (fun j hj => h j (by omega))
    have h2 := h l (by omega)
    show 10 * fg b a l + (b (a + l) - 48) + 1 ≤ 10 ^ (l + 1)
    rw [Nat.pow_succ]
    omega
end TO
/-- a tape of a side -/
def TB (q : Nat) (tb : Nat → Int32) (b : Nat → Nat) : Prop := q ≤ 320 ∧ ∀ j, j < q → tb j = nI (b j) ∧ b j < 128
section TC
variable {b : Nat → Nat} {q p : Nat} {tb : Nat → Int32} {post : Int32 → Prop}
theorem by1_y (hT : TB q tb b) {j : Nat} (hj : j < q) (h : post (nI (b j))) : P_X1_byteAt post (nI q) tb (nI j) := by
  have := hT.1
  unfold P_X1_byteAt
  refine br_f (Int32.not_lt.mpr (show nI 0 ≤ nI j from nI_le (Nat.zero_le _) (by omega))) (br_f (nI_ge hj (by omega)) ⟨vin (by omega) (by omega), ?_⟩)
  rw [nI_c (by omega), (hT.2 j hj).1]
  exact h
theorem by1_n (hT : TB q tb b) {j : Nat} (hj : q ≤ j) (hj2 : j ≤ 1000) (h : post (-4)) : P_X1_byteAt post (nI q) tb (nI j) := by
  have := hT.1
  unfold P_X1_byteAt
  exact br_f (Int32.not_lt.mpr (show nI 0 ≤ nI j from nI_le (Nat.zero_le _) (by omega))) (br_t (nI_le hj (by omega)) h)
theorem by8_y (hT : TB q tb b) {j : Nat} (hj : j < q) (h : post (nI (b j))) : P_X8_byteAt post (nI q) tb (nI j) := by
  have := hT.1
  unfold P_X8_byteAt
  refine br_f (nI_ge hj (by omega)) ⟨vin (by omega) (by omega), ?_⟩
  rw [nI_c (by omega), (hT.2 j hj).1]
  exact h
theorem by8_n (hT : TB q tb b) {j : Nat} (hj : q ≤ j) (hj2 : j ≤ 1000) (h : post (-4)) : P_X8_byteAt post (nI q) tb (nI j) := by
  have := hT.1
  unfold P_X8_byteAt
  exact br_t (nI_le hj (by omega)) h
theorem lt1 {v : Nat} (hv : v ≤ 1000) (h1 : (97 ≤ v ∧ v ≤ 122) → post 1) (h0 : ¬ (97 ≤ v ∧ v ≤ 122) → post 0) : P_X1_isLetter post (nI v) := by
  unfold P_X1_isLetter
  by_cases a : v < 97
  · exact br_t (show nI v < nI 97 from nI_lt a (by omega)) (h0 (by omega))
  · by_cases d : 122 < v
    · exact br_f (show ¬ nI v < nI 97 from nI_nlt (by omega) (by omega)) (br_t (show nI 122 < nI v from nI_lt d (by omega)) (h0 (by omega)))
    · exact br_f (show ¬ nI v < nI 97 from nI_nlt (by omega) (by omega)) (br_f (show ¬ nI 122 < nI v from nI_nlt (by omega) (by omega)) (h1 (by omega)))
theorem fi1 {v : Nat} (hv : v ≤ 1000) (h1 : (48 ≤ v ∧ v ≤ 57) → post 1) (h0 : ¬ (48 ≤ v ∧ v ≤ 57) → post 0) : P_X1_isFigure post (nI v) := by
  unfold P_X1_isFigure
  by_cases a : v < 48
  · exact br_t (show nI v < nI 48 from nI_lt a (by omega)) (h0 (by omega))
  · by_cases d : 57 < v
    · exact br_f (show ¬ nI v < nI 48 from nI_nlt (by omega) (by omega)) (br_t (show nI 57 < nI v from nI_lt d (by omega)) (h0 (by omega)))
    · exact br_f (show ¬ nI v < nI 48 from nI_nlt (by omega) (by omega)) (br_f (show ¬ nI 57 < nI v from nI_nlt (by omega) (by omega)) (h1 (by omega)))
theorem in8 {v : Nat} (hv : v ≤ 1000) {x y : Int64} {xn yn : Nat} (hx : x.toInt = (xn : Int)) (hy : y.toInt = (yn : Int)) (h1 : (xn ≤ v ∧ v ≤ yn) → post 1) (h0 : ¬ (xn ≤ v ∧ v ≤ yn) → post 0) : P_X8_in post (nI v).toInt64 x y := by
  refine s_in (fun a d => h1 ?_) (fun g => h0 ?_)
  · rw [i2l, nI_t (by omega), hx] at a
    rw [i2l, nI_t (by omega), hy] at d
    omega
  · rw [i2l, nI_t (by omega), hx, hy] at g
    omega
theorem in8_m4 {x y : Int64} {xn : Nat} (hx : x.toInt = (xn : Int)) (h0 : post 0) : P_X8_in post (-4 : Int32).toInt64 x y := by
  refine s_in (fun a d => ?_) (fun _ => h0)
  rw [hx, show (-4 : Int32).toInt64.toInt = -4 from by decide] at a
  omega
end TC
