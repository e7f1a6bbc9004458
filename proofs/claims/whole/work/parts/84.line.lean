/-! text: lines without a side -/
abbrev FT := Nat → Nat → Prop
abbrev ZT := Nat → (Nat → Nat) → (Nat → Nat) → (Nat → Int32) → (Nat → Nat) → Nat → Nat → Prop
def NX (b : Nat → Nat) (q : Nat) (F : FT) (K : Nat → Nat → Nat → Prop) (p : Nat) : Prop := (nk b q p = 5 → F 1 (na b q p)) ∧ (¬ nk b q p = 5 → K (nk b q p) (na b q p) (nend b q p))
def TH (b : Nat → Nat) (q : Nat) (F : FT) (K : Nat → Nat → Nat → Nat → Prop) (ah k a e : Nat) : Prop := ((k = 1 ∧ e = a + 1 ∧ 97 ≤ b a ∧ b a ≤ 106) → ((b a - 97 = ah → F 4 a) ∧ (¬ b a - 97 = ah → NX b q F (K (b a - 97)) e))) ∧ (¬ (k = 1 ∧ e = a + 1 ∧ 97 ≤ b a ∧ b a ≤ 106) → F 2 a)
def AM (b : Nat → Nat) (q : Nat) (F : FT) (K : Int32 → Nat → Nat → Nat → Prop) (k a e : Nat) : Prop :=
  (k = 3 → NX b q F (fun k' a' e' => ((k' = 2 → NX b q F (K (-(nI (fg b a' (e' - a'))))) e') ∧ (¬ k' = 2 → F 2 a'))) e) ∧ (¬ k = 3 → ((k = 2 → NX b q F (K (nI (fg b a (e - a)))) e) ∧ (¬ k = 2 → F 2 a)))
def ST (b : Nat → Nat) (q : Nat) (F : FT) (K : Nat → Nat → Nat → Prop) (k a e : Nat) : Prop := (k = 4 → NX b q F K e) ∧ (¬ k = 4 → F 2 a)
def wm (b : Nat → Nat) (i a e : Nat) : Prop := e = a + lenS.getD i 0 ∧ ∀ j, j < lenS.getD i 0 → nI (b (a + j)) = (bytS.getD i []).getD j 0
def NM (b : Nat → Nat) (K : Nat → Prop) (a e : Nat) : Prop :=
  (wm b 0 a e → K 0) ∧ (¬ wm b 0 a e → ((wm b 1 a e → K 1) ∧ (¬ wm b 1 a e → ((wm b 2 a e → K 2) ∧ (¬ wm b 2 a e → ((wm b 3 a e → K 3) ∧ (¬ wm b 3 a e → ((wm b 4 a e → K 4) ∧ (¬ wm b 4 a e → ((wm b 5 a e → K 5) ∧ (¬ wm b 5 a e → K 6)))))))))))
def nd (i : Nat) : Nat := if i = 5 then 2 else 1
def RBG (b : Nat → Nat) (q : Nat) (F : FT) (K : Nat → Nat → Int32 → Nat → Nat → Nat → Prop) (i a e n : Nat) : Prop :=
  (n + nd i ≤ 24 → NX b q F (fun k1 a1 e1 => TH b q F (fun x k2 a2 e2 => TH b q F (fun y k3 a3 e3 => AM b q F (K x y) k3 a3 e3) x k2 a2 e2) 10 k1 a1 e1) e) ∧ (¬ n + nd i ≤ 24 → F 5 a)
def pX (i x y n : Nat) (X : Nat → Nat) : Nat → Nat := if i = 3 ∨ i = 4 then gu X n y else if i = 5 then gu (gu X n x) (n + 1) y else gu X n x
def pc (i : Nat) (v : Int32) (n : Nat) (c : Nat → Int32) : Nat → Int32 := if i = 3 ∨ i = 4 then gu c n (-v) else if i = 5 then gu (gu c n v) (n + 1) (-v) else gu c n v
def pS (i n : Nat) (S : Nat → Nat) : Nat → Nat := if i = 3 ∨ i = 4 then gu S n (if i = 4 then 1 else 0) else if i = 5 then gu (gu S n 0) (n + 1) 0 else gu S n (if i = 2 then 1 else 0)
abbrev LT := Nat → Nat → Nat → Nat → (Nat → Nat) → (Nat → Nat) → (Nat → Int32) → (Nat → Nat) → Nat → Prop
def LI (b : Nat → Nat) (q : Nat) (F : FT) (K : LT) (a e n : Nat) (X Y : Nat → Nat) (c : Nat → Int32) (S : Nat → Nat) (W i : Nat) : Prop :=
  (i = 6 → F 2 a) ∧ (¬ i = 6 → ((i = 0 → ((W = 0 → F 4 a) ∧ (¬ W = 0 → NX b q F (fun k1 a1 e1 => ST b q F (fun k2 a2 e2 => K k2 a2 e2 n X Y c S 0) k1 a1 e1) e))) ∧ (¬ i = 0 → RBG b q F (fun x y v k4 a4 e4 => ST b q F (fun k5 a5 e5 => K k5 a5 e5 (n + nd i) (pX i x y n X) (pX i y x n Y) (pc i v n c) (pS i n S) W) k4 a4 e4) i a e n)))
def LN (b : Nat → Nat) (q : Nat) (F : FT) (K : LT) (k a e n : Nat) (X Y : Nat → Nat) (c : Nat → Int32) (S : Nat → Nat) (W : Nat) : Prop :=
  (k = 1 → NM b (fun i => LI b q F K a e n X Y c S W i) a e) ∧ (¬ k = 1 → F 2 a)
def TX (b : Nat → Nat) (q : Nat) (F : FT) (Z : ZT) : Nat → Nat → LT
  | 0, _ => fun _ _ _ _ _ _ _ _ _ => F 0 0
  | t + 1, l => fun k a e n X Y c S W => (k = 0 → Z n X Y c S W l) ∧ (¬ k = 0 → LN b q F (TX b q F Z t (l + 1)) k a e n X Y c S W)
def TXs (b : Nat → Nat) (q : Nat) (F : FT) (Z : ZT) : Prop := NX b q F (fun k a e => TX b q F Z 330 0 k a e 0 (fun _ => 0) (fun _ => 0) (fun _ => 0) (fun _ => 0) 1) 0
/-- a reading that comes to one end -/
def DT (G : FT → ZT → Prop) : Prop := (∃ c p, ∀ F Z, F c p → G F Z) ∨ (∃ n X Y c S W l, ∀ F Z, Z n X Y c S W l → G F Z)
section DD
variable {b : Nat → Nat} {q : Nat}
theorem dt_F (c p : Nat) : DT (fun F _ => F c p) := Or.inl ⟨c, p, fun _ _ h => h⟩
theorem dt_if {c : Prop} {A B : FT → ZT → Prop} (h1 : c → DT A) (h2 : ¬ c → DT B) : DT (fun F Z => (c → A F Z) ∧ (¬ c → B F Z)) := by
  by_cases h : c
  · rcases h1 h with ⟨x, y, g⟩ | ⟨n, X, Y, cc, S, W, l, g⟩
    · exact Or.inl ⟨x, y, fun F Z z => ⟨fun _ => g F Z z, fun z2 => absurd h z2⟩⟩
    · exact Or.inr ⟨n, X, Y, cc, S, W, l, fun F Z z => ⟨fun _ => g F Z z, fun z2 => absurd h z2⟩⟩
  · rcases h2 h with ⟨x, y, g⟩ | ⟨n, X, Y, cc, S, W, l, g⟩
    · exact Or.inl ⟨x, y, fun F Z z => ⟨fun z2 => absurd z2 h, fun _ => g F Z z⟩⟩
    · exact Or.inr ⟨n, X, Y, cc, S, W, l, fun F Z z => ⟨fun z2 => absurd z2 h, fun _ => g F Z z⟩⟩
theorem dt_nx {R : FT → ZT → Nat → Nat → Nat → Prop} {p : Nat} (h : ∀ k a e, DT (fun F Z => R F Z k a e)) : DT (fun F Z => NX b q F (R F Z) p) := by
  unfold NX
  exact dt_if (fun _ => dt_F 1 _) (fun _ => h _ _ _)
theorem dt_th {R : FT → ZT → Nat → Nat → Nat → Nat → Prop} {ah k a e : Nat} (h : ∀ x k a e, DT (fun F Z => R F Z x k a e)) : DT (fun F Z => TH b q F (R F Z) ah k a e) := by
  unfold TH
  exact dt_if (fun _ => dt_if (fun _ => dt_F 4 _) (fun _ => dt_nx (R := fun F Z => R F Z (b a - 97)) (h _))) (fun _ => dt_F 2 _)
theorem dt_am {R : FT → ZT → Int32 → Nat → Nat → Nat → Prop} {k a e : Nat} (h : ∀ v k a e, DT (fun F Z => R F Z v k a e)) : DT (fun F Z => AM b q F (R F Z) k a e) := by
  unfold AM
  exact dt_if (fun _ => dt_nx (R := fun F Z k' a' e' => ((k' = 2 → NX b q F (R F Z (-(nI (fg b a' (e' - a'))))) e') ∧ (¬ k' = 2 → F 2 a'))) (fun k' a' e' => dt_if (fun _ => dt_nx (R := fun F Z => R F Z (-(nI (fg b a' (e' - a'))))) (h _)) (fun _ => dt_F 2 _))) (fun _ => dt_if (fun _ => dt_nx (R := fun F Z => R F Z (nI (fg b a (e - a)))) (h _)) (fun _ => dt_F 2 _))
theorem dt_st {R : FT → ZT → Nat → Nat → Nat → Prop} {k a e : Nat} (h : ∀ k a e, DT (fun F Z => R F Z k a e)) : DT (fun F Z => ST b q F (R F Z) k a e) := by
  unfold ST
  exact dt_if (fun _ => dt_nx (R := R) h) (fun _ => dt_F 2 _)
theorem dt_nm {R : FT → ZT → Nat → Prop} {a e : Nat} (h : ∀ i, DT (fun F Z => R F Z i)) : DT (fun F Z => NM b (R F Z) a e) := by
  unfold NM
  exact dt_if (fun _ => h 0) (fun _ => dt_if (fun _ => h 1) (fun _ => dt_if (fun _ => h 2) (fun _ => dt_if (fun _ => h 3) (fun _ => dt_if (fun _ => h 4) (fun _ => dt_if (fun _ => h 5) (fun _ => h 6))))))
theorem dt_rb {R : FT → ZT → Nat → Nat → Int32 → Nat → Nat → Nat → Prop} {i a e n : Nat} (h : ∀ x y v k a e, DT (fun F Z => R F Z x y v k a e)) : DT (fun F Z => RBG b q F (R F Z) i a e n) := by
  unfold RBG
  exact dt_if (fun _ => dt_nx (R := fun F Z k1 a1 e1 => TH b q F (fun x k2 a2 e2 => TH b q F (fun y k3 a3 e3 => AM b q F (R F Z x y) k3 a3 e3) x k2 a2 e2) 10 k1 a1 e1) (fun k1 a1 e1 => dt_th (R := fun F Z x k2 a2 e2 => TH b q F (fun y k3 a3 e3 => AM b q F (R F Z x y) k3 a3 e3) x k2 a2 e2) (fun x k2 a2 e2 => dt_th (R := fun F Z y k3 a3 e3 => AM b q F (R F Z x y) k3 a3 e3) (fun y k3 a3 e3 => dt_am (R := fun F Z => R F Z x y) (h x y))))) (fun _ => dt_F 5 _)
theorem dt_ln {R : FT → ZT → LT} {k a e n : Nat} {X Y : Nat → Nat} {c : Nat → Int32} {S : Nat → Nat} {W : Nat} (h : ∀ k a e n X Y c S W, DT (fun F Z => R F Z k a e n X Y c S W)) : DT (fun F Z => LN b q F (R F Z) k a e n X Y c S W) := by
  unfold LN
  refine dt_if (fun _ => dt_nm (R := fun F Z i => LI b q F (R F Z) a e n X Y c S W i) (fun i => ?_)) (fun _ => dt_F 2 _)
  unfold LI
  exact dt_if (fun _ => dt_F 2 _) (fun _ => dt_if (fun _ => dt_if (fun _ => dt_F 4 _) (fun _ => dt_nx (R := fun F Z k1 a1 e1 => ST b q F (fun k2 a2 e2 => R F Z k2 a2 e2 n X Y c S 0) k1 a1 e1) (fun k1 a1 e1 => dt_st (R := fun F Z k2 a2 e2 => R F Z k2 a2 e2 n X Y c S 0) (fun k2 a2 e2 => h _ _ _ _ _ _ _ _ _)))) (fun _ => dt_rb (R := fun F Z x y v k4 a4 e4 => ST b q F (fun k5 a5 e5 => R F Z k5 a5 e5 (n + nd i) (pX i x y n X) (pX i y x n Y) (pc i v n c) (pS i n S) W) k4 a4 e4) (fun x y v k4 a4 e4 => dt_st (R := fun F Z k5 a5 e5 => R F Z k5 a5 e5 (n + nd i) (pX i x y n X) (pX i y x n Y) (pc i v n c) (pS i n S) W) (fun k5 a5 e5 => h _ _ _ _ _ _ _ _ _))))
theorem dt_tx : ∀ (t l k a e n : Nat) (X Y : Nat → Nat) (c : Nat → Int32) (S : Nat → Nat) (W : Nat), DT (fun F Z => TX b q F Z t l k a e n X Y c S W) := by
  intro t
  induction t with
  | zero => intro l k a e n X Y c S W; exact dt_F 0 0
  | succ t ih =>
    intro l k a e n X Y c S W
    exact dt_if (A := fun F Z => Z n X Y c S W l) (B := fun F Z => LN b q F (TX b q F Z t (l + 1)) k a e n X Y c S W) (fun _ => Or.inr ⟨n, X, Y, c, S, W, l, fun _ _ h => h⟩) (fun _ => dt_ln (R := fun F Z => TX b q F Z t (l + 1)) (fun k a e n X Y c S W => ih (l + 1) k a e n X Y c S W))
theorem dt_txs : DT (fun F Z => TXs b q F Z) := dt_nx (R := fun F Z k a e => TX b q F Z 330 0 k a e 0 (fun _ => 0) (fun _ => 0) (fun _ => 0) (fun _ => 0) 1) (fun k a e => dt_tx 330 0 k a e 0 _ _ _ _ 1)
end DD
/-- where a token stands; a fault that the reading comes to -/
def TI (b : Nat → Nat) (q k a e : Nat) : Prop := a ≤ q ∧ k = nkA b q a ∧ e = neA b q a ∧ k ≠ 5
def Flt (q : Nat) (T : FT → ZT → Prop) (c p : Nat) : Prop := 0 < c ∧ c ≤ 6 ∧ p ≤ q ∧ ∀ F Z, T F Z → F c p
section TI'
variable {b : Nat → Nat} {q k a e : Nat}
theorem TI.e_le (h : TI b q k a e) : a ≤ e ∧ e ≤ q ∧ k ≤ 4 := by
  obtain ⟨h1, h2, h3, h4⟩ := h
  have := neA_rng (b := b) h1
  have := nkA_le (b := b) (q := q) a
  exact ⟨by omega, by omega, by omega⟩
theorem TI.lt (h : TI b q k a e) (hk : k ≠ 0) : a < q ∧ a < e := by
  obtain ⟨h1, h2, h3, h4⟩ := h
  have := (neA_rng (b := b) h1).2.2 (by omega)
  exact ⟨by omega, by omega⟩
theorem TI.fin (h : TI b q k a e) (hk : k = 0) : a = q := by
  obtain ⟨h1, h2, h3, h4⟩ := h
  by_cases z : q ≤ a
  · omega
  · exfalso
    have : nkA b q a ≠ 0 := by
      unfold nkA
      rw [if_neg z]
      repeat' split
      all_goals omega
    omega
theorem TI.num (h : TI b q k a e) (hk : k = 2) (hb : ∀ j, j < q → b j < 128) : e ≤ a + 4 ∧ e = adv (fgr b) q (q - a) a ∧ fg b a (e - a) ≤ 9999 ∧ ∀ j, a ≤ j → j < e → 48 ≤ b j ∧ b j ≤ 57 := by
  obtain ⟨h1, h2, h3, h4⟩ := h
  obtain ⟨q1, q2, q3, q4, q5⟩ := nk_num (h2.symm.trans hk)
  have all : ∀ (f p : Nat), ∀ j, p ≤ j → j < adv (fgr b) q f p → 48 ≤ b j ∧ b j ≤ 57 := by
    intro f
    induction f with
    | zero => intro p j x y; exact absurd y (Nat.not_lt.mpr x)
    | succ f ih =>
      intro p j x y
      have ev : adv (fgr b) q (f + 1) p = if p < q ∧ fgr b p = true then adv (fgr b) q f (p + 1) else p := rfl
      by_cases hc : p < q ∧ fgr b p = true
      · rw [ev, if_pos hc] at y
        by_cases ej : j = p
        · subst ej; exact of_decide_eq_true hc.2
        · exact ih (p + 1) j (by omega) y
      · rw [ev, if_neg hc] at y
        omega
  rw [h3, q4]
  have ha := all (q - a) a
  rw [q4] at q5
  have r := adv_spec (g := fgr b) (q := q) (q - a) a (by omega)
  generalize adv (fgr b) q (q - a) a = e' at *
  refine ⟨q5, rfl, ?_, fun j x y => ha j x y⟩
  have h9 := fg_le (b := b) (a := a) (e' - a) (fun j hj => (ha (a + j) (by omega) (by omega)).2)
  have h10 : 10 ^ (e' - a) ≤ 10 ^ 4 := Nat.pow_le_pow_right (by omega) (by omega)
  have h11 : 10 ^ 4 = 10000 := rfl
  omega
end TI'
