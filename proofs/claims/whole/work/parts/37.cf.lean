/-! the first row of fewest bounds that comes below nothing: said without a scale; tables in a scale tell it -/
def ng (C e : Int) : Prop := C < 0 ∨ (C = 0 ∧ 0 < e)
def can (E : Nat → Prop) (X Y : Nat → Nat) (cw : Nat → Int) (ew : Nat → Nat) (y0 r v : Nat) (C e : Int) : Prop := ∃ l : List Nat, l.length = r ∧ pw E X Y v l y0 ∧ ng (C + sw cw l) (e + sw (fun k => (ew k : Int)) l)
def cank (E : Nat → Prop) (X Y : Nat → Nat) (cw : Nat → Int) (ew : Nat → Nat) (y0 r v : Nat) (C e : Int) (k : Nat) : Prop := E k ∧ Y k = v ∧ can E X Y cw ew y0 r (X k) (C + cw k) (e + (ew k : Int))
def Tr (E : Nat → Prop) (X Y : Nat → Nat) (cw : Nat → Int) (ew : Nat → Nat) (y0 : Nat) : Nat → Nat → Int → Int → List Nat → Prop
  | 0, _, _, _, l => l = []
  | r + 1, v, C, e, l => ∃ (k : Nat) (l' : List Nat), l = k :: l' ∧ cank E X Y cw ew y0 r v C e k ∧ (∀ j, j < k → ¬ cank E X Y cw ew y0 r v C e j) ∧ Tr E X Y cw ew y0 r (X k) (C + cw k) (e + (ew k : Int)) l'
def Cf (E : Nat → Prop) (X Y : Nat → Nat) (cw : Nat → Int) (ew : Nat → Nat) (x0 y0 : Nat) (C e : Int) (l : List Nat) : Prop :=
  ∃ r : Nat, 1 ≤ r ∧ r ≤ 9 ∧ can E X Y cw ew y0 r x0 C e ∧ (∀ q, 1 ≤ q → q < r → ¬ can E X Y cw ew y0 q x0 C e) ∧ Tr E X Y cw ew y0 r x0 C e l
section CF
variable {E : Nat → Prop} {X Y : Nat → Nat} {cw : Nat → Int} {ew : Nat → Nat} {y0 : Nat}
theorem Tr.len : ∀ {r v : Nat} {C e : Int} {l : List Nat}, Tr E X Y cw ew y0 r v C e l → l.length = r := by
  intro r
  induction r with
  | zero => intro v C e l h; have h : l = [] := h; rw [h]; rfl
  | succ r ih =>
    intro v C e l h
    obtain ⟨k, l', e1, -, -, h2⟩ := h
    rw [e1, List.length_cons, ih h2]
theorem Tr.uniq : ∀ {r v : Nat} {C e : Int} {l l' : List Nat}, Tr E X Y cw ew y0 r v C e l → Tr E X Y cw ew y0 r v C e l' → l = l' := by
  intro r
  induction r with
  | zero => intro v C e l l' h h'; have h : l = [] := h; have h' : l' = [] := h'; rw [h, h']
  | succ r ih =>
    intro v C e l l' h h'
    obtain ⟨k, t, e1, c1, m1, h1⟩ := h
    obtain ⟨k', t', e2, c2, m2, h2⟩ := h'
    have ek : k = k' := by
      rcases Nat.lt_trichotomy k k' with q | q | q
      · exact absurd c1 (m2 k q)
      · exact q
      · exact absurd c2 (m1 k' q)
    subst ek
    rw [e1, e2, ih h1 h2]
theorem Cf.uniq {x0 : Nat} {C e : Int} {l l' : List Nat} (h : Cf E X Y cw ew x0 y0 C e l) (h' : Cf E X Y cw ew x0 y0 C e l') : l = l' := by
  obtain ⟨r, a1, a2, a3, a4, a5⟩ := h
  obtain ⟨q, b1, b2, b3, b4, b5⟩ := h'
  have er : r = q := by
    rcases Nat.lt_trichotomy r q with z | z | z
    · exact absurd a3 (b4 r a1 z)
    · exact z
    · exact absurd b3 (a4 q b1 z)
  subst er
  exact a5.uniq b5
theorem can_step {r v : Nat} {C e : Int} (h : can E X Y cw ew y0 (r + 1) v C e) : ∃ k, cank E X Y cw ew y0 r v C e k := by
  obtain ⟨l, hl, hp, hn⟩ := h
  cases l with
  | nil => simp at hl
  | cons k l =>
    simp only [List.length_cons] at hl
    refine ⟨k, hp.1, hp.2.1, l, by omega, hp.2.2, ?_⟩
    simp only [sw] at hn
    unfold ng at hn ⊢
    omega
theorem first_of {P : Nat → Prop} : ∀ (n : Nat), (∃ k, k < n ∧ P k) → ∃ k, k < n ∧ P k ∧ ∀ j, j < k → ¬ P j := by
  intro n
  induction n with
  | zero => rintro ⟨k, h, -⟩; omega
  | succ n ih =>
    rintro ⟨k, hk, hp⟩
    by_cases h : ∃ k, k < n ∧ P k
    · obtain ⟨j, h1, h2, h3⟩ := ih h
      exact ⟨j, by omega, h2, h3⟩
    · have ek : k = n := by
        by_cases e : k = n
        · exact e
        · exact absurd ⟨k, by omega, hp⟩ h
      subst ek
      exact ⟨k, by omega, hp, fun j hj hq => h ⟨j, hj, hq⟩⟩
/-- a row of the table, scale 1024: the least of rows of just r bounds from each thing to the goal -/
def TB1024 (E : Nat → Prop) (X Y : Nat → Nat) (cw : Nat → Int) (ew : Nat → Nat) (y0 r : Nat) (f : Nat → Int64) : Prop := ∀ v, v < 10 → (f v = NOROW ∧ ∀ l : List Nat, l.length = r → ¬ pw E X Y v l y0) ∨ (f v ≠ NOROW ∧ (∃ l : List Nat, l.length = r ∧ pw E X Y v l y0 ∧ (f v).toInt = sw (wsc 1024 cw ew) l) ∧ ∀ l : List Nat, l.length = r → pw E X Y v l y0 → (f v).toInt ≤ sw (wsc 1024 cw ew) l)
theorem TB1024.rng {r : Nat} {f : Nat → Int64} (hw : ∀ k, E k → -4398046511104 ≤ wsc 1024 cw ew k ∧ wsc 1024 cw ew k ≤ 4398046511104) (h : TB1024 E X Y cw ew y0 r f) (hr : r ≤ 10) {v : Nat} (hv : v < 10) (hne : f v ≠ NOROW) : -43980465111040 ≤ (f v).toInt ∧ (f v).toInt ≤ 43980465111040 := by
  rcases h v hv with ⟨e, -⟩ | ⟨-, ⟨l, h1, h2, h3⟩, -⟩
  · exact absurd e hne
  · have := sw_bound hw h2
    rw [h3]
    omega
theorem TB1024.can {r : Nat} {f : Nat → Int64} (he : ∀ k, E k → ew k ≤ 1) (h : TB1024 E X Y cw ew y0 r f) (hr : r ≤ 10) {v : Nat} (hv : v < 10) {C e : Int} (h0 : 0 ≤ e) (h1 : e ≤ 20) : (f v ≠ NOROW ∧ 1024 * C - e + (f v).toInt < 0) ↔ can E X Y cw ew y0 r v C e := by
  rcases h v hv with ⟨en, hno⟩ | ⟨hne, ⟨l, l1, l2, l3⟩, hall⟩
  · exact ⟨fun z => absurd en z.1, fun ⟨l, q1, q2, _⟩ => absurd q2 (hno l q1)⟩
  · constructor
    · rintro ⟨-, hs⟩
      refine ⟨l, l1, l2, ?_⟩
      obtain ⟨b1, b2⟩ := se_le he l2
      rw [l3, sw_wsc] at hs
      unfold ng
      omega
    · rintro ⟨l', q1, q2, q3⟩
      refine ⟨hne, ?_⟩
      have q4 := hall l' q1 q2
      obtain ⟨b1, b2⟩ := se_le he q2
      rw [sw_wsc] at q4
      unfold ng at q3
      omega
theorem TB1024.step {n r : Nat} {f g : Nat → Int64} (hE : ∀ k, E k → k < n ∧ X k < 10 ∧ Y k < 10) (h : TB1024 E X Y cw ew y0 r f)
    (hg : ∀ v, v < 10 → (g v = NOROW ∧ ∀ k, E k → Y k = v → f (X k) = NOROW) ∨ (g v ≠ NOROW ∧ (∃ k, E k ∧ Y k = v ∧ f (X k) ≠ NOROW ∧ (g v).toInt = wsc 1024 cw ew k + (f (X k)).toInt) ∧ ∀ k, E k → Y k = v → f (X k) ≠ NOROW → (g v).toInt ≤ wsc 1024 cw ew k + (f (X k)).toInt)) : TB1024 E X Y cw ew y0 (r + 1) g := by
  have fin : ∀ k, E k → ∀ l : List Nat, l.length = r → pw E X Y (X k) l y0 → f (X k) ≠ NOROW ∧ (f (X k)).toInt ≤ sw (wsc 1024 cw ew) l := fun k hk l hl hp => by
    rcases h (X k) (hE k hk).2.1 with ⟨-, hno⟩ | ⟨hne, -, hall⟩
    · exact absurd hp (hno l hl)
    · exact ⟨hne, hall l hl hp⟩
  intro v hv
  rcases hg v hv with ⟨e, hno⟩ | ⟨hne, ⟨k, a1, a2, a3, a4⟩, hall⟩
  · left
    refine ⟨e, fun l hl hp => ?_⟩
    cases l with
    | nil => simp at hl
    | cons k l =>
      simp only [List.length_cons] at hl
      exact (fin k hp.1 l (by omega) hp.2.2).1 (hno k hp.1 hp.2.1)
  · right
    refine ⟨hne, ?_, fun l hl hp => ?_⟩
    · rcases h (X k) (hE k a1).2.1 with ⟨z, -⟩ | ⟨-, ⟨l, b1, b2, b3⟩, -⟩
      · exact absurd z a3
      · exact ⟨k :: l, by simp [b1], ⟨a1, a2, b2⟩, by simp only [sw]; omega⟩
    · cases l with
      | nil => simp at hl
      | cons k l =>
        simp only [List.length_cons] at hl
        obtain ⟨c1, c2⟩ := fin k hp.1 l (by omega) hp.2.2
        have := hall k hp.1 hp.2.1 c1
        simp only [sw]
        omega
/-- a row of the table, scale 1000: the least of rows of just r bounds from each thing to the goal -/
def TB1000 (E : Nat → Prop) (X Y : Nat → Nat) (cw : Nat → Int) (ew : Nat → Nat) (y0 r : Nat) (f : Nat → Int64) : Prop := ∀ v, v < 10 → (f v = FARL ∧ ∀ l : List Nat, l.length = r → ¬ pw E X Y v l y0) ∨ (f v ≠ FARL ∧ (∃ l : List Nat, l.length = r ∧ pw E X Y v l y0 ∧ (f v).toInt = sw (wsc 1000 cw ew) l) ∧ ∀ l : List Nat, l.length = r → pw E X Y v l y0 → (f v).toInt ≤ sw (wsc 1000 cw ew) l)
theorem TB1000.rng {r : Nat} {f : Nat → Int64} (hw : ∀ k, E k → -4398046511104 ≤ wsc 1000 cw ew k ∧ wsc 1000 cw ew k ≤ 4398046511104) (h : TB1000 E X Y cw ew y0 r f) (hr : r ≤ 10) {v : Nat} (hv : v < 10) (hne : f v ≠ FARL) : -43980465111040 ≤ (f v).toInt ∧ (f v).toInt ≤ 43980465111040 := by
  rcases h v hv with ⟨e, -⟩ | ⟨-, ⟨l, h1, h2, h3⟩, -⟩
  · exact absurd e hne
  · have := sw_bound hw h2
    rw [h3]
    omega
theorem TB1000.can {r : Nat} {f : Nat → Int64} (he : ∀ k, E k → ew k ≤ 1) (h : TB1000 E X Y cw ew y0 r f) (hr : r ≤ 10) {v : Nat} (hv : v < 10) {C e : Int} (h0 : 0 ≤ e) (h1 : e ≤ 20) : (f v ≠ FARL ∧ 1000 * C - e + (f v).toInt < 0) ↔ can E X Y cw ew y0 r v C e := by
  rcases h v hv with ⟨en, hno⟩ | ⟨hne, ⟨l, l1, l2, l3⟩, hall⟩
  · exact ⟨fun z => absurd en z.1, fun ⟨l, q1, q2, _⟩ => absurd q2 (hno l q1)⟩
  · constructor
    · rintro ⟨-, hs⟩
      refine ⟨l, l1, l2, ?_⟩
      obtain ⟨b1, b2⟩ := se_le he l2
      rw [l3, sw_wsc] at hs
      unfold ng
      omega
    · rintro ⟨l', q1, q2, q3⟩
      refine ⟨hne, ?_⟩
      have q4 := hall l' q1 q2
      obtain ⟨b1, b2⟩ := se_le he q2
      rw [sw_wsc] at q4
      unfold ng at q3
      omega
theorem TB1000.step {n r : Nat} {f g : Nat → Int64} (hE : ∀ k, E k → k < n ∧ X k < 10 ∧ Y k < 10) (h : TB1000 E X Y cw ew y0 r f)
    (hg : ∀ v, v < 10 → (g v = FARL ∧ ∀ k, E k → Y k = v → f (X k) = FARL) ∨ (g v ≠ FARL ∧ (∃ k, E k ∧ Y k = v ∧ f (X k) ≠ FARL ∧ (g v).toInt = wsc 1000 cw ew k + (f (X k)).toInt) ∧ ∀ k, E k → Y k = v → f (X k) ≠ FARL → (g v).toInt ≤ wsc 1000 cw ew k + (f (X k)).toInt)) : TB1000 E X Y cw ew y0 (r + 1) g := by
  have fin : ∀ k, E k → ∀ l : List Nat, l.length = r → pw E X Y (X k) l y0 → f (X k) ≠ FARL ∧ (f (X k)).toInt ≤ sw (wsc 1000 cw ew) l := fun k hk l hl hp => by
    rcases h (X k) (hE k hk).2.1 with ⟨-, hno⟩ | ⟨hne, -, hall⟩
    · exact absurd hp (hno l hl)
    · exact ⟨hne, hall l hl hp⟩
  intro v hv
  rcases hg v hv with ⟨e, hno⟩ | ⟨hne, ⟨k, a1, a2, a3, a4⟩, hall⟩
  · left
    refine ⟨e, fun l hl hp => ?_⟩
    cases l with
    | nil => simp at hl
    | cons k l =>
      simp only [List.length_cons] at hl
      exact (fin k hp.1 l (by omega) hp.2.2).1 (hno k hp.1 hp.2.1)
  · right
    refine ⟨hne, ?_, fun l hl hp => ?_⟩
    · rcases h (X k) (hE k a1).2.1 with ⟨z, -⟩ | ⟨-, ⟨l, b1, b2, b3⟩, -⟩
      · exact absurd z a3
      · exact ⟨k :: l, by simp [b1], ⟨a1, a2, b2⟩, by simp only [sw]; omega⟩
    · cases l with
      | nil => simp at hl
      | cons k l =>
        simp only [List.length_cons] at hl
        obtain ⟨c1, c2⟩ := fin k hp.1 l (by omega) hp.2.2
        have := hall k hp.1 hp.2.1 c1
        simp only [sw]
        omega
theorem can_of_neg {x0 : Nat} {C e : Int} (hE : ∀ k, E k → X k < 10 ∧ Y k < 10) (he : ∀ k, E k → ew k ≤ 1) (hN : NoNeg E X Y (wsc 1000 cw ew)) (hx : x0 < 10) (hne : x0 ≠ y0) (h0 : 0 ≤ e) (h1 : e ≤ 20) (h : ∃ l, pw E X Y x0 l y0 ∧ 1000 * C - e + sw (wsc 1000 cw ew) l < 0) : ∃ r, 1 ≤ r ∧ r ≤ 9 ∧ can E X Y cw ew y0 r x0 C e := by
  obtain ⟨l, hl, hs⟩ := h
  obtain ⟨l', q1, q2, q3⟩ := shorten (fun k h => (hE k h).1) hN l.length l x0 y0 (Nat.le_refl _) hx hl
  refine ⟨l'.length, ?_, q1, l', rfl, q2, ?_⟩
  · cases l' with
    | nil => exact absurd q2 hne
    | cons k l' => simp
  · obtain ⟨b1, b2⟩ := se_le he q2
    have q4 : 1000 * C - e + sw (wsc 1000 cw ew) l' < 0 := by omega
    rw [sw_wsc] at q4
    unfold ng
    omega
end CF
