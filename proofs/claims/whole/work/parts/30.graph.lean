/-! rows of bounds as lists of edges: sums, circles, short ones; two scales of one weight -/
def pw (E : Nat → Prop) (x y : Nat → Nat) : Nat → List Nat → Nat → Prop
  | a, [], b => a = b
  | a, k :: l, b => E k ∧ y k = a ∧ pw E x y (x k) l b
def sw (w : Nat → Int) : List Nat → Int
  | [] => 0
  | k :: l => w k + sw w l
def en (x : Nat → Nat) : Nat → List Nat → Nat
  | a, [] => a
  | _, k :: l => en x (x k) l
def NoNeg (E : Nat → Prop) (x y : Nat → Nat) (w : Nat → Int) : Prop := ∀ (a : Nat) (l : List Nat), pw E x y a l a → 0 ≤ sw w l
section GR
variable {E : Nat → Prop} {x y : Nat → Nat} {w : Nat → Int}
theorem sw_app (w : Nat → Int) (l1 l2 : List Nat) : sw w (l1 ++ l2) = sw w l1 + sw w l2 := by
  induction l1 with
  | nil => simp [sw]
  | cons k l ih => simp only [List.cons_append, sw, ih]; omega
theorem pw_app {b c : Nat} {l2 : List Nat} : ∀ {l1 : List Nat} {a : Nat}, pw E x y a l1 b → pw E x y b l2 c → pw E x y a (l1 ++ l2) c := by
  intro l1
  induction l1 with
  | nil => intro a h1 h2; have h1 : a = b := h1; subst h1; exact h2
  | cons k l ih => intro a h1 h2; exact ⟨h1.1, h1.2.1, ih h1.2.2 h2⟩
theorem pw_split {c : Nat} {l2 : List Nat} : ∀ {l1 : List Nat} {a : Nat}, pw E x y a (l1 ++ l2) c → ∃ b, pw E x y a l1 b ∧ pw E x y b l2 c := by
  intro l1
  induction l1 with
  | nil => intro a h; exact ⟨a, rfl, h⟩
  | cons k l ih =>
    intro a h
    obtain ⟨b, h1, h2⟩ := ih h.2.2
    exact ⟨b, ⟨h.1, h.2.1, h1⟩, h2⟩
theorem pw_en {b : Nat} : ∀ {l : List Nat} {a : Nat}, pw E x y a l b → b = en x a l := by
  intro l
  induction l with
  | nil => intro a h; exact Eq.symm h
  | cons k l ih => intro a h; exact ih h.2.2
theorem pw_mem {b k : Nat} : ∀ {l : List Nat} {a : Nat}, pw E x y a l b → k ∈ l → E k := by
  intro l
  induction l with
  | nil => intro a _ h; cases h
  | cons j l ih =>
    intro a h hk
    rcases List.mem_cons.mp hk with rfl | hk
    · exact h.1
    · exact ih h.2.2 hk
theorem pw_mono {E' : Nat → Prop} (hE : ∀ k, E k → E' k) {b : Nat} : ∀ {l : List Nat} {a : Nat}, pw E x y a l b → pw E' x y a l b := by
  intro l
  induction l with
  | nil => intro a h; exact h
  | cons k l ih => intro a h; exact ⟨hE k h.1, h.2.1, ih h.2.2⟩
theorem pw_snoc {a b k : Nat} {l : List Nat} (h : pw E x y a l b) (hk : E k) (hy : y k = b) : pw E x y a (l ++ [k]) (x k) := pw_app h ⟨hk, hy, rfl⟩
theorem sw_snoc (w : Nat → Int) (l : List Nat) (k : Nat) : sw w (l ++ [k]) = sw w l + w k := by rw [sw_app]; simp [sw]
theorem en_snoc (x : Nat → Nat) (k : Nat) : ∀ (l : List Nat) (a : Nat), en x a (l ++ [k]) = x k := by
  intro l
  induction l with
  | nil => intro a; rfl
  | cons j l ih => intro a; exact ih (x j)
theorem NoNeg.mono {E' : Nat → Prop} (hE : ∀ k, E' k → E k) (h : NoNeg E x y w) : NoNeg E' x y w := fun a l hl => h a l (pw_mono hE hl)
theorem nd_len : ∀ (n : Nat) (l : List Nat), l.Nodup → (∀ v ∈ l, v < n) → l.length ≤ n := by
  intro n
  induction n with
  | zero =>
    intro l _ h
    cases l with
    | nil => simp
    | cons a l => exact absurd (h a List.mem_cons_self) (by omega)
  | succ n ih =>
    intro l hd h
    by_cases hm : n ∈ l
    · have h1 := ih (l.erase n) (hd.erase n) (fun v hv => by
        have h2 := (hd.mem_erase_iff).mp hv
        have := h v h2.2
        have := h2.1
        omega)
      rw [List.length_erase_of_mem hm] at h1
      omega
    · have := ih l hd (fun v hv => by
        have h1 := h v hv
        have h2 : v ≠ n := fun e => hm (e ▸ hv)
        omega)
      omega
/-- a thing met twice: a circle in the row -/
theorem dup_cut (x : Nat → Nat) : ∀ (l : List Nat) (a : Nat), ¬ (a :: l.map x).Nodup → ∃ l1 l2 l3 : List Nat, l = l1 ++ (l2 ++ l3) ∧ l2 ≠ [] ∧ en x a (l1 ++ l2) = en x a l1 := by
  intro l
  induction l with
  | nil => intro a h; exact absurd (by simp) h
  | cons k l ih =>
    intro a h
    by_cases ha : a ∈ (k :: l).map x
    · obtain ⟨j, hj, ej⟩ := List.mem_map.mp ha
      obtain ⟨s, t, e⟩ := List.append_of_mem hj
      refine ⟨[], s ++ [j], t, by rw [e]; simp, by simp, ?_⟩
      show en x a (s ++ [j]) = a
      rw [en_snoc, ej]
    · have h2 : ¬ (x k :: l.map x).Nodup := fun z => h (List.nodup_cons.mpr ⟨ha, z⟩)
      obtain ⟨l1, l2, l3, e, hn, he⟩ := ih (x k) h2
      exact ⟨k :: l1, l2, l3, by rw [e]; rfl, hn, he⟩
theorem not_nodup_of_long (hv : ∀ k, E k → x k < 10) {a b : Nat} {l : List Nat} (ha : a < 10) (h : pw E x y a l b) (hl : 10 ≤ l.length) : ¬ (a :: l.map x).Nodup := fun hd => by
  have := nd_len 10 (a :: l.map x) hd (fun v hm => by
    rcases List.mem_cons.mp hm with rfl | hm
    · exact ha
    · obtain ⟨k, hk, rfl⟩ := List.mem_map.mp hm
      exact hv k (pw_mem h hk))
  simp at this
  omega
/-- where no circle is below nothing, each row has one of at most 9 that is no more -/
theorem shorten (hv : ∀ k, E k → x k < 10) (hN : NoNeg E x y w) : ∀ (n : Nat) (l : List Nat) (a b : Nat), l.length ≤ n → a < 10 → pw E x y a l b → ∃ l' : List Nat, l'.length ≤ 9 ∧ pw E x y a l' b ∧ sw w l' ≤ sw w l := by
  intro n
  induction n with
  | zero => intro l a b hl ha h; exact ⟨l, by omega, h, Int.le_refl _⟩
  | succ n ih =>
    intro l a b hl ha h
    by_cases h9 : l.length ≤ 9
    · exact ⟨l, h9, h, Int.le_refl _⟩
    · obtain ⟨l1, l2, l3, e, hne, he⟩ := dup_cut x l a (not_nodup_of_long hv ha h (by omega))
      rw [e] at h
      obtain ⟨c, h1, h23⟩ := pw_split h
      obtain ⟨d, h2, h3⟩ := pw_split h23
      have ec := pw_en h1
      have ed := pw_en (pw_app h1 h2)
      rw [he, ← ec] at ed
      subst ed
      have h0 := hN d l2 h2
      have hl2 : 0 < l2.length := List.length_pos_iff.mpr hne
      have hlen : l.length = l1.length + (l2.length + l3.length) := by rw [e]; simp
      obtain ⟨l', q1, q2, q3⟩ := ih (l1 ++ l3) a b (by simp; omega) ha (pw_app h1 h3)
      refine ⟨l', q1, q2, ?_⟩
      rw [e, sw_app, sw_app]
      rw [sw_app] at q3
      omega
/-- circles of at most 10 tell of all -/
theorem noNeg_of_short (hv : ∀ k, E k → x k < 10) (hS : ∀ (a : Nat) (l : List Nat), l.length ≤ 10 → pw E x y a l a → 0 ≤ sw w l) : NoNeg E x y w := by
  have key : ∀ (n : Nat) (l : List Nat) (a : Nat), l.length ≤ n → pw E x y a l a → 0 ≤ sw w l := by
    intro n
    induction n with
    | zero => intro l a hl h; exact hS a l (by omega) h
    | succ n ih =>
      intro l a hl h
      by_cases h10 : l.length ≤ 10
      · exact hS a l h10 h
      · cases l with
        | nil => simp at h10
        | cons k l =>
          simp only [List.length_cons] at hl h10
          obtain ⟨hk, hy, hr⟩ := h
          obtain ⟨l1, l2, l3, e, hne, he⟩ := dup_cut x l (x k) (not_nodup_of_long hv (hv k hk) hr (by omega))
          rw [e] at hr
          obtain ⟨c, h1, h23⟩ := pw_split hr
          obtain ⟨d, h2, h3⟩ := pw_split h23
          have ec := pw_en h1
          have ed := pw_en (pw_app h1 h2)
          rw [he, ← ec] at ed
          subst ed
          have hl2 : 0 < l2.length := List.length_pos_iff.mpr hne
          have hlen : l.length = l1.length + (l2.length + l3.length) := by rw [e]; simp
          have q1 := ih l2 d (by omega) h2
          have q2 := ih (k :: (l1 ++ l3)) a (by simp; omega) ⟨hk, hy, pw_app h1 h3⟩
          rw [e]
          simp only [sw, sw_app] at q2 ⊢
          omega
  exact fun a l h => key l.length l a (Nat.le_refl _) h
/-- a weight in a scale: so many times C, less the edges -/
def wsc (K : Int) (cw : Nat → Int) (ew : Nat → Nat) : Nat → Int := fun k => K * cw k - (ew k : Int)
theorem sw_wsc (K : Int) (cw : Nat → Int) (ew : Nat → Nat) (l : List Nat) : sw (wsc K cw ew) l = K * sw cw l - sw (fun k => (ew k : Int)) l := by
  induction l with
  | nil => simp [sw]
  | cons k l ih => simp only [sw, ih, wsc, Int.mul_add]; omega
theorem se_le {ew : Nat → Nat} {l : List Nat} {a b : Nat} (he : ∀ k, E k → ew k ≤ 1) (h : pw E x y a l b) : 0 ≤ sw (fun k => (ew k : Int)) l ∧ sw (fun k => (ew k : Int)) l ≤ l.length := by
  induction l generalizing a with
  | nil => simp [sw]
  | cons k l ih =>
    obtain ⟨h1, h2⟩ := ih h.2.2
    have := he k h.1
    simp only [sw, List.length_cons]
    omega
theorem nn_ab {cw : Nat → Int} {ew : Nat → Nat} (hv : ∀ k, E k → x k < 10) (he : ∀ k, E k → ew k ≤ 1) (h : NoNeg E x y (wsc 1000 cw ew)) : NoNeg E x y (wsc 1024 cw ew) := by
  refine noNeg_of_short hv (fun a l hl hp => ?_)
  have h1 := h a l hp
  obtain ⟨h2, h3⟩ := se_le he hp
  rw [sw_wsc] at h1 ⊢
  omega
theorem nn_ba {cw : Nat → Int} {ew : Nat → Nat} (hv : ∀ k, E k → x k < 10) (he : ∀ k, E k → ew k ≤ 1) (h : NoNeg E x y (wsc 1024 cw ew)) : NoNeg E x y (wsc 1000 cw ew) := by
  refine noNeg_of_short hv (fun a l hl hp => ?_)
  have h1 := h a l hp
  obtain ⟨h2, h3⟩ := se_le he hp
  rw [sw_wsc] at h1 ⊢
  omega
/-- the least of all rows -/
def Lst (E : Nat → Prop) (x y : Nat → Nat) (w : Nat → Int) (a b : Nat) (d : Int) : Prop := (∃ l, pw E x y a l b ∧ sw w l = d) ∧ ∀ l, pw E x y a l b → d ≤ sw w l
/-- the least pair: C, edges -/
def Lp (E : Nat → Prop) (x y : Nat → Nat) (cw : Nat → Int) (ew : Nat → Nat) (a b : Nat) (C e : Int) : Prop :=
  0 ≤ e ∧ e ≤ 9 ∧ Lst E x y (wsc 1000 cw ew) a b (1000 * C - e) ∧ Lst E x y (wsc 1024 cw ew) a b (1024 * C - e)
theorem lst_short {a b : Nat} {d : Int} (hv : ∀ k, E k → x k < 10) (hN : NoNeg E x y w) (ha : a < 10) (h : Lst E x y w a b d) : ∃ l : List Nat, l.length ≤ 9 ∧ pw E x y a l b ∧ sw w l = d := by
  obtain ⟨⟨l, h1, h2⟩, h3⟩ := h
  obtain ⟨l', q1, q2, q3⟩ := shorten hv hN l.length l a b (Nat.le_refl _) ha h1
  have := h3 l' q2
  exact ⟨l', q1, q2, by omega⟩
theorem lp_of {cw : Nat → Int} {ew : Nat → Nat} {a b : Nat} {d1 d2 : Int} (hv : ∀ k, E k → x k < 10) (he : ∀ k, E k → ew k ≤ 1) (hN : NoNeg E x y (wsc 1000 cw ew)) (ha : a < 10)
    (h1 : Lst E x y (wsc 1000 cw ew) a b d1) (h2 : Lst E x y (wsc 1024 cw ew) a b d2) : ∃ C e : Int, Lp E x y cw ew a b C e ∧ d1 = 1000 * C - e ∧ d2 = 1024 * C - e := by
  obtain ⟨l1, a1, a2, a3⟩ := lst_short hv hN ha h1
  obtain ⟨l2, b1, b2, b3⟩ := lst_short hv (nn_ab hv he hN) ha h2
  have c1 := h1.2 l2 b2
  have c2 := h2.2 l1 a2
  obtain ⟨p1, p2⟩ := se_le he a2
  obtain ⟨q1, q2⟩ := se_le he b2
  rw [sw_wsc] at a3 b3 c1 c2
  have eC : sw cw l1 = sw cw l2 := by omega
  have eE : sw (fun k => (ew k : Int)) l1 = sw (fun k => (ew k : Int)) l2 := by omega
  refine ⟨sw cw l1, sw (fun k => (ew k : Int)) l1, ⟨p1, by omega, ?_, ?_⟩, by omega, by omega⟩
  · rw [a3]; exact h1
  · have e2 : 1024 * sw cw l1 - sw (fun k => (ew k : Int)) l1 = d2 := by omega
    rw [e2]; exact h2
end GR
