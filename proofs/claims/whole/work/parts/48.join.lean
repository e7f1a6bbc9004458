/-! a bound comes: the graph, the pages, both sides -/
section AN
variable {E E' : Nat → Prop} {X Y X' Y' : Nat → Nat} {w w' : Nat → Int} {x y : Nat} {wn : Int}
theorem add_walk (hE : ∀ k, E' k → (E k ∧ X' k = X k ∧ Y' k = Y k ∧ w' k = w k) ∨ (X' k = x ∧ Y' k = y ∧ w' k = wn)) (hx : ∀ l, pw E X Y x l y → 0 ≤ sw w l + wn) : ∀ (l : List Nat) (a b : Nat), pw E' X' Y' a l b → (∃ l', pw E X Y a l' b ∧ sw w l' ≤ sw w' l) ∨ ∃ l1 l2, pw E X Y a l1 y ∧ pw E X Y x l2 b ∧ sw w l1 + wn + sw w l2 ≤ sw w' l := by
  intro l
  induction l with
  | nil => intro a b h; exact Or.inl ⟨[], h, Int.le_refl _⟩
  | cons k l ih =>
    intro a b h
    obtain ⟨h1, h2, h3⟩ := h
    rcases hE k h1 with ⟨e0, e1, e2, e3⟩ | ⟨e1, e2, e3⟩
    · rw [e1] at h3
      rcases ih _ _ h3 with ⟨l', q1, q2⟩ | ⟨l1, l2, q1, q2, q3⟩
      · exact Or.inl ⟨k :: l', ⟨e0, by omega, q1⟩, by simp only [sw]; omega⟩
      · exact Or.inr ⟨k :: l1, l2, ⟨e0, by omega, q1⟩, q2, by simp only [sw]; omega⟩
    · rw [e1] at h3
      have ea : a = y := by omega
      subst ea
      rcases ih _ _ h3 with ⟨l', q1, q2⟩ | ⟨l1, l2, q1, q2, q3⟩
      · exact Or.inr ⟨[], l', rfl, q1, by simp only [sw]; omega⟩
      · have := hx l1 q1
        exact Or.inr ⟨[], l2, rfl, q2, by simp only [sw]; omega⟩
theorem add_nn (hN : NoNeg E X Y w) (hE : ∀ k, E' k → (E k ∧ X' k = X k ∧ Y' k = Y k ∧ w' k = w k) ∨ (X' k = x ∧ Y' k = y ∧ w' k = wn)) (hx : ∀ l, pw E X Y x l y → 0 ≤ sw w l + wn) : NoNeg E' X' Y' w' := fun a l hl => by
  rcases add_walk hE hx l a a hl with ⟨l', q1, q2⟩ | ⟨l1, l2, q1, q2, q3⟩
  · have := hN a l' q1
    omega
  · have := hx (l2 ++ l1) (pw_app q2 q1)
    rw [sw_app] at this
    omega
/-- the same bounds under other numbers -/
theorem map_nn (φ : Nat → Nat) (hN : NoNeg E X Y w) (hE : ∀ k, E' k → E (φ k) ∧ X' k = X (φ k) ∧ Y' k = Y (φ k) ∧ w' k = w (φ k)) : NoNeg E' X' Y' w' := fun a l hl => by
  have gen : ∀ (l : List Nat) (a b : Nat), pw E' X' Y' a l b → pw E X Y a (l.map φ) b ∧ sw w (l.map φ) = sw w' l := by
    intro l
    induction l with
    | nil => intro a b h; exact ⟨h, rfl⟩
    | cons k l ih =>
      intro a b h
      obtain ⟨h1, h2, h3⟩ := h
      obtain ⟨e0, e1, e2, e3⟩ := hE k h1
      rw [e1] at h3
      obtain ⟨q1, q2⟩ := ih _ _ h3
      exact ⟨⟨e0, by omega, q1⟩, by simp only [List.map_cons, sw]; omega⟩
  obtain ⟨q1, q2⟩ := gen l a a hl
  have := hN a _ q1
  omega
/-- numbers moved at things -/
theorem pot_nn (g : Nat → Int) (hN : NoNeg E X Y w) (hE : ∀ k, E k → w' k = w k + g (X k) - g (Y k)) : NoNeg E X Y w' := fun a l hl => by
  have gen : ∀ (l : List Nat) (a b : Nat), pw E X Y a l b → sw w' l = sw w l + g b - g a := by
    intro l
    induction l with
    | nil => intro a b h; have h : a = b := h; subst h; simp only [sw]; omega
    | cons k l ih =>
      intro a b h
      obtain ⟨h1, h2, h3⟩ := h
      have := ih _ _ h3
      have := hE k h1
      subst h2
      simp only [sw]
      omega
  have := hN a l hl
  have := gen l a a hl
  omega
end AN
def gu {α : Type} (f : Nat → α) (n : Nat) (v : α) : Nat → α := fun k => if k = n then v else f k
theorem gu_s {α : Type} {f : Nat → α} {n : Nat} {v : α} : gu f n v n = v := if_pos rfl
theorem gu_n {α : Type} {f : Nat → α} {n k : Nat} {v : α} (h : k ≠ n) : gu f n v k = f k := if_neg h
section JN
variable {n m W : Nat} {X Y S L : Nat → Nat} {c : Nat → Int32} {size marked wh : Int32} {up lo lim str mk : Nat → Int32} {st : Nat → Int32} {skip : Int32}
/-- the weight of a bound that is to come -/
def cn (W : Nat) (x : Int32) (s : Nat) : Int := cwt W (fun _ => x) (fun _ => s) 0
def enw (W s : Nat) : Int := (ewt W (fun _ => s) 0 : Int)
theorem cn_rng {x : Int32} {s : Nat} (hs : s ≤ 1) : -3000000000 ≤ cn W x s ∧ cn W x s ≤ 3000000000 := cwt_rng (W := W) (c := fun _ => x) (S := fun _ => s) (k := 0) hs
theorem enw_rng {s : Nat} (hs : s ≤ 1) : 0 ≤ enw W s ∧ enw W s ≤ 1 := by
  have := ewt_le (W := W) (S := fun _ => s) (k := 0) hs
  unfold enw
  omega
theorem bad_no (hp : Pw n X Y S m L W) (ho : PgOk n X Y c S W) {a b : Nat} (ha : a < 10) {C' e' : Int} (h0 : 0 ≤ e') (h1 : e' ≤ 1) (hB : ¬ Bad (fun k => k < n ∧ nI k ≠ skip) X Y (cwt W c S) (ewt W S) a b C' e') : ∀ l, pw (fun k => k < n ∧ nI k ≠ skip) X Y a l b → 0 ≤ sw (wsc 1000 (cwt W c S) (ewt W S)) l + (1000 * C' - e') := fun l hl => by
  obtain ⟨C, e, h3⟩ := lp_ex (pg_E hp) (pg_e hp) (pg_w hp) (pg_w' hp) (pg_n ho) ha ⟨l, hl⟩
  have h4 := h3.2.2.1.2 l hl
  have h5 : ¬ ng (C + C') (e + e') := fun h => hB ⟨C, e, h3, h⟩
  have h6 := h3.1
  have h7 := h3.2.1
  unfold ng at h5
  omega
theorem bad_can (hp : Pw n X Y S m L W) (ho : PgOk n X Y c S W) {a b : Nat} (ha : a < 10) (hab : a ≠ b) {C' e' : Int} (h0 : 0 ≤ e') (h1 : e' ≤ 1) (hB : Bad (fun k => k < n ∧ nI k ≠ skip) X Y (cwt W c S) (ewt W S) a b C' e') : ∃ r, 1 ≤ r ∧ r ≤ 9 ∧ can (fun k => k < n ∧ nI k ≠ skip) X Y (cwt W c S) (ewt W S) b r a C' e' := by
  obtain ⟨C, e, h3, h4⟩ := hB
  obtain ⟨a1, a2, ⟨⟨l, hl, hs⟩, -⟩, -⟩ := h3
  refine can_of_neg (pg_E hp) (pg_e hp) (pg_n ho) ha hab (by omega) (by omega) ⟨l, hl, ?_⟩
  rw [hs]
  unfold ng at h4
  omega
theorem pw_app1 (hp : Pw n X Y S m L W) (hn : n < 24) {a b s : Nat} (ha : a < 10) (hb : b < 10) (hab : a ≠ b) (hs : s ≤ 1) : Pw (n + 1) (gu X n a) (gu Y n b) (gu S n s) m L W := by
  obtain ⟨p1, p2, p3, p4, p5, p6⟩ := hp
  refine ⟨by omega, p2, p3, fun k hk => ?_, p5, fun j hj => by have := p6 j hj; omega⟩
  by_cases e : k = n
  · subst e; rw [gu_s, gu_s, gu_s]; exact ⟨ha, hb, hab, hs⟩
  · rw [gu_n e, gu_n e, gu_n e]; exact p4 k (by omega)
theorem pg_app1 (hp : Pw n X Y S m L W) (ho : PgOk n X Y c S W) {a b s : Nat} {x : Int32} (ha : a < 10) (hs : s ≤ 1) (hB : ¬ Bad (fun k => k < n ∧ nI k ≠ (-4 : Int32)) X Y (cwt W c S) (ewt W S) a b (cn W x s) (enw W s)) : PgOk (n + 1) (gu X n a) (gu Y n b) (gu c n x) (gu S n s) W := by
  obtain ⟨e0, e1⟩ := enw_rng (W := W) hs
  refine add_nn (x := a) (y := b) (wn := 1000 * cn W x s - enw W s) (pg_n (skip := -4) ho) (fun k hk => ?_) (bad_no hp ho ha e0 e1 hB)
  by_cases e : k = n
  · right
    subst e
    rw [gu_s, gu_s]
    refine ⟨rfl, rfl, ?_⟩
    unfold wsc cn enw cwt ewt
    rw [gu_s, gu_s]
  · left
    have hk' : k < n := by omega
    rw [gu_n e, gu_n e]
    refine ⟨⟨hk', ?_⟩, rfl, rfl, ?_⟩
    · have := noskip (n := n) hp.1 (s := -4) (Or.inr rfl)
      exact ((congrFun this k).mpr hk').2
    · unfold wsc cwt ewt
      rw [gu_n e, gu_n e]
theorem st_app1 (hs : StP n X Y c S m L W size marked wh up lo lim str mk) {a b s : Nat} {x : Int32} : StP (n + 1) (gu X n a) (gu Y n b) (gu c n x) (gu S n s) m L W (nI (n + 1)) marked wh (upd up n (nI a)) (upd lo n (nI b)) (upd lim n x) (upd str n (nI s)) mk := by
  obtain ⟨s1, s2, s3, s4, s5⟩ := hs
  refine ⟨rfl, s2, s3, fun k hk => ?_, s5⟩
  by_cases e : k = n
  · subst e; rw [gu_s, gu_s, gu_s, gu_s, pk_us, pk_us, pk_us, pk_us]; exact ⟨rfl, rfl, rfl, rfl⟩
  · rw [gu_n e, gu_n e, gu_n e, gu_n e, pk_un e, pk_un e, pk_un e, pk_un e]; exact s4 k (by omega)
theorem s_append {post : Int32 → (Nat → Int32) → (Nat → Int32) → (Nat → Int32) → (Nat → Int32) → Prop} (hs : size = nI n) (hn : n < 24) {x1 x2 x3 x4 : Int32} (h : post (nI (n + 1)) (upd up n x1) (upd lo n x2) (upd lim n x3) (upd str n x4)) : P_X5_append post size up lo lim str x1 x2 x3 x4 := by
  subst hs
  unfold P_X5_append
  have v : vp_in (nI n) 24 := vin hn (by omega)
  refine br_f (nI_ge (a := n) (b := 24) hn (by omega)) ⟨v, v, v, v, ?_⟩
  rw [nI_1, nI_c (by omega)]
  exact h
theorem s_puts {o : Nat} (ho : o + 107 ≤ 535) (hr : RfP o n X Y c S m L W st) (hn : n < 24) (hm : m ≤ 8) {a b s : Nat} {x : Int32} {post : (Nat → Int32) → Prop} (h : ∀ st', RfP o (n + 1) (gu X n a) (gu Y n b) (gu c n x) (gu S n s) m L W st' → (∀ j, (j < o ∨ o + 107 ≤ j) → st' j = st j) → post st') : P_X8_puts post st (nI o) (nI a) (nI b) x (nI s) := by
  obtain ⟨r1, r2, r3, r4, r5⟩ := hr
  unfold P_X8_puts
  rw [show nI o + (104 : Int32) = nI (o + 104) from nI_add (a := o) (b := 104), nI_c (show o + 104 ≤ 2147483647 by omega), r1, nI_add, ix3 (c := 24) (by omega) (24 : Int32) rfl, ix3 (c := 48) (by omega) (48 : Int32) rfl, ix3 (c := 72) (by omega) (72 : Int32) rfl]
  rw [nI_c (show o + n ≤ 2147483647 by omega), nI_c (show o + 24 + n ≤ 2147483647 by omega), nI_c (show o + 48 + n ≤ 2147483647 by omega), nI_c (show o + 72 + n ≤ 2147483647 by omega)]
  rw [pk_un (show o + 104 ≠ o + 72 + n by omega), pk_un (show o + 104 ≠ o + 48 + n by omega), pk_un (show o + 104 ≠ o + 24 + n by omega), pk_un (show o + 104 ≠ o + n by omega), r1, nI_1]
  refine ⟨vin (by omega) (by omega), vin (by omega) (by omega), vin (by omega) (by omega), vin (by omega) (by omega), vin (by omega) (by omega), vin (by omega) (by omega), vin (by omega) (by omega), h _ ⟨?_, ?_, ?_, fun k hk => ?_, fun j hj => ?_⟩ (fun j hj => ?_)⟩
  · rw [pk_us]
  · rw [pk_un (by omega), pk_un (by omega), pk_un (by omega), pk_un (by omega), pk_un (by omega)]; exact r2
  · rw [pk_un (by omega), pk_un (by omega), pk_un (by omega), pk_un (by omega), pk_un (by omega)]; exact r3
  · by_cases e : k = n
    · subst e
      rw [gu_s, gu_s, gu_s, gu_s]
      refine ⟨?_, ?_, ?_, ?_⟩
      · rw [pk_un (by omega), pk_un (by omega), pk_un (by omega), pk_un (by omega), pk_us]
      · rw [pk_un (by omega), pk_un (by omega), pk_un (by omega), pk_us]
      · rw [pk_un (by omega), pk_un (by omega), pk_us]
      · rw [pk_un (by omega), pk_us]
    · rw [gu_n e, gu_n e, gu_n e, gu_n e]
      obtain ⟨q1, q2, q3, q4⟩ := r4 k (by omega)
      refine ⟨?_, ?_, ?_, ?_⟩
      · rw [pk_un (by omega), pk_un (by omega), pk_un (by omega), pk_un (by omega), pk_un (by omega)]; exact q1
      · rw [pk_un (by omega), pk_un (by omega), pk_un (by omega), pk_un (by omega), pk_un (by omega)]; exact q2
      · rw [pk_un (by omega), pk_un (by omega), pk_un (by omega), pk_un (by omega), pk_un (by omega)]; exact q3
      · rw [pk_un (by omega), pk_un (by omega), pk_un (by omega), pk_un (by omega), pk_un (by omega)]; exact q4
  · rw [pk_un (by omega), pk_un (by omega), pk_un (by omega), pk_un (by omega), pk_un (by omega)]; exact r5 j hj
  · rw [pk_un (by omega), pk_un (by omega), pk_un (by omega), pk_un (by omega), pk_un (by omega)]
theorem bit_nat {x : Int32} (h : x = 0 ∨ x = 1) : ∃ s : Nat, s ≤ 1 ∧ x = nI s := by
  rcases h with rfl | rfl
  · exact ⟨0, by omega, rfl⟩
  · exact ⟨1, by omega, rfl⟩
/-- what a joining comes to, without a side -/
def JBad (x1 x2 x4 : Int32) : Prop := ¬ (Pair x1 x2 ∧ (x4 = 0 ∨ x4 = 1))
theorem s_join (hp : Pw n X Y S m L W) (ho : PgOk n X Y c S W) (hs : StP n X Y c S m L W size marked wh up lo lim str mk) {f : Nat → Int64} {cs : Int32} {row : Nat → Int32} {M : Nat → Nat → Int64} {x1 x2 x3 x4 : Int32}
    {post : Int32 → Int32 → (Nat → Int64) → (Nat → Int32) → (Nat → Int32) → (Nat → Int32) → (Nat → Int32) → Int32 → (Nat → Int32) → (Nat → Nat → Int64) → Prop}
    (h1 : JBad x1 x2 x4 → post (-1) size f lo lim str up cs row M) (h2 : ¬ JBad x1 x2 x4 → n = 24 → post (-3) size f lo lim str up cs row M)
    (h3 : ∀ a b s l f' row' M', n < 24 → a < 10 → b < 10 → a ≠ b → s ≤ 1 → x1 = nI a → x2 = nI b → x4 = nI s → Bad (fun k => k < n ∧ nI k ≠ (-4 : Int32)) X Y (cwt W c S) (ewt W S) a b (cn W x3 s) (enw W s) → Cf (fun k => k < n ∧ nI k ≠ (-4 : Int32)) X Y (cwt W c S) (ewt W S) a b (cn W x3 s) (enw W s) l → (∀ j, j < l.length → row' j = nI (l.getD j 0)) → post (-2) size f' lo lim str up (nI l.length) row' M')
    (h4 : ∀ a b s f', n < 24 → a < 10 → b < 10 → a ≠ b → s ≤ 1 → x1 = nI a → x2 = nI b → x4 = nI s → ¬ Bad (fun k => k < n ∧ nI k ≠ (-4 : Int32)) X Y (cwt W c S) (ewt W S) a b (cn W x3 s) (enw W s) → post (nI (n + 1)) (nI (n + 1)) f' (upd lo n (nI b)) (upd lim n x3) (upd str n (nI s)) (upd up n (nI a)) cs row M) :
    P_X7_join post size wh f lo lim str up cs row M x1 x2 x3 x4 := by
  have hn24 := hp.1
  have hW := hp.2.2.1
  have eE : (fun k => k < n ∧ nI k ≠ (-1 : Int32)) = (fun k => k < n ∧ nI k ≠ (-4 : Int32)) := (noskip hn24 (Or.inl rfl)).trans (noskip hn24 (Or.inr rfl)).symm
  unfold P_X7_join
  refine pair7 (fun hP => br_f o_ne (bit7 (fun hb => ⟨fun _ => ?_, fun h => absurd h o_ne⟩) (fun hb => ⟨fun h => absurd rfl h, fun _ => h1 (fun z => hb z.2)⟩))) (fun hP => br_t rfl (h1 (fun z => hP z.1)))
  have hnb : ¬ JBad x1 x2 x4 := fun z => z ⟨hP, hb⟩
  obtain ⟨a, b, ha, hb', hab, rfl, rfl⟩ := id hP
  obtain ⟨s, hs1, rfl⟩ := bit_nat hb
  by_cases h24 : n = 24
  · refine br_f ?_ (h2 hnb h24)
    rw [hs.1, h24]
    decide
  · have hlt : size < (24 : Int32) := by rw [hs.1]; exact Int32.not_le.mp (nI_ge (a := n) (b := 24) (by omega) (by omega))
    have hw0 := hs.2.2.1
    refine br_t hlt ?_
    rw [hw0]
    refine s_weigh (c := fun _ => x3) (S := fun _ => s) (k := 0) hW hs1 (fun w hw => ?_)
    obtain ⟨c1, c2⟩ := cn_rng (W := W) (x := x3) hs1
    obtain ⟨e0, e1⟩ := enw_rng (W := W) hs1
    have hw : w.toInt = 1024 * cn W x3 s - enw W s := hw
    rw [← hw0]
    refine s_fits hp ho hs ha hb' (skip := -1) hw e0 e1 c1 c2 (fun hB f' => ⟨fun _ => s_append hs.1 (by omega) ?_, fun h => absurd h o_ne⟩) (fun hB f' => ⟨fun h => absurd rfl h, fun _ => ?_⟩)
    · rw [eE] at hB
      exact h4 a b s f' (by omega) ha hb' hab hs1 rfl rfl rfl hB
    · refine s_find (stg hp hs hW hw0) (fun k hk => ewt_le (hp.2.2.2.1 k hk).2.2.2) ha hb' hw (by omega) (by omega) e0 e1 (fun l row' M' hc hrow => ?_) (fun M' hno => ?_)
      · rw [eE] at hB hc
        exact h3 a b s l f' row' M' (by omega) ha hb' hab hs1 rfl rfl rfl hB hc hrow
      · obtain ⟨r, q1, q2, q3⟩ := bad_can hp ho ha hab e0 e1 hB
        exact absurd q3 (hno r q1 q2)
theorem s_many {o : Nat} (hr : RfP 0 n X Y c S m L W st) {post : Int32 → Prop} (h : post (nI n)) : P_X8_many post st := by
  unfold P_X8_many
  rw [show (104 : Int32).toNatClampNeg = 0 + 104 from rfl, hr.1]
  exact ⟨vin (n := 104) (by omega) (by omega), h⟩
theorem s_adds (hp : Pw n X Y S m L W) (ho : PgOk n X Y c S W) (hr : RfP 0 n X Y c S m L W st) {cm : Int32} {D B : Nat → Int64} {cf : Nat → Int32} {x1 x2 x3 x4 : Int32}
    {post : Int32 → Int32 → (Nat → Int32) → (Nat → Int64) → (Nat → Int64) → (Nat → Int32) → Prop}
    (h1 : JBad x1 x2 x4 → post (-1) cm st D B cf) (h2 : ¬ JBad x1 x2 x4 → n = 24 → post (-3) cm st D B cf)
    (h3 : ∀ a b s l D' B' cf', n < 24 → a < 10 → b < 10 → a ≠ b → s ≤ 1 → x1 = nI a → x2 = nI b → x4 = nI s → Bad (fun k => k < n ∧ nI k ≠ (-4 : Int32)) X Y (cwt W c S) (ewt W S) a b (cn W x3 s) (enw W s) → Cf (fun k => k < n ∧ nI k ≠ (-4 : Int32)) X Y (cwt W c S) (ewt W S) a b (cn W x3 s) (enw W s) l → (∀ j, j < l.length → cf' j = nI (l.getD j 0)) → post (-2) (nI l.length) st D' B' cf')
    (h4 : ∀ a b s D' st', n < 24 → a < 10 → b < 10 → a ≠ b → s ≤ 1 → x1 = nI a → x2 = nI b → x4 = nI s → ¬ Bad (fun k => k < n ∧ nI k ≠ (-4 : Int32)) X Y (cwt W c S) (ewt W S) a b (cn W x3 s) (enw W s) → RfP 0 (n + 1) (gu X n a) (gu Y n b) (gu c n x3) (gu S n s) m L W st' → (∀ j, 107 ≤ j → st' j = st j) → post (nI (n + 1)) cm st' D' B cf) :
    P_X8_adds post cm st D B cf x1 x2 x3 x4 := by
  have hn24 := hp.1
  have hW := hp.2.2.1
  unfold P_X8_adds
  refine pair8 (fun hP => br_f o_ne (bit8 (fun hb => ⟨fun _ => s_many (o := 0) hr ?_, fun h => absurd h o_ne⟩) (fun hb => ⟨fun h => absurd rfl h, fun _ => h1 (fun z => hb z.2)⟩))) (fun hP => br_t rfl (h1 (fun z => hP z.1)))
  have hnb : ¬ JBad x1 x2 x4 := fun z => z ⟨hP, hb⟩
  obtain ⟨a, b, ha, hb', hab, rfl, rfl⟩ := id hP
  obtain ⟨s, hs1, rfl⟩ := bit_nat hb
  refine ⟨fun hne => ?_, fun he => h2 hnb ((nI_eq (b := 24) (by omega) (by omega)).mp he)⟩
  have hlt : n < 24 := by
    have : n ≠ 24 := fun e => hne (by rw [e]; rfl)
    omega
  refine s_isReal hp hr (s_weighed (c := fun _ => x3) (S := fun _ => s) (k := 0) hW hs1 (fun w hw => ?_))
  obtain ⟨c1, c2⟩ := cn_rng (W := W) (x := x3) hs1
  obtain ⟨e0, e1⟩ := enw_rng (W := W) hs1
  have hw : w.toInt = 1000 * cn W x3 s - enw W s := hw
  refine s_allowed hp ho hr ha hb' (skip := -4) hw e0 e1 c1 c2 (fun hB D' => ⟨fun _ => s_puts (o := 0) (by omega) hr hlt hp.2.1 (fun st' hr' hfr => s_many (o := 0) hr' (h4 a b s D' st' hlt ha hb' hab hs1 rfl rfl rfl hB hr' (fun j hj => hfr j (Or.inr (by omega))))), fun h => absurd h o_ne⟩) (fun hB D' => ⟨fun h => absurd rfl h, fun _ => ?_⟩)
  exact s_conflictsWith (rfg (by omega) hp hr) (fun k hk => ewt_le (hp.2.2.2.1 k hk).2.2.2) ha hb' hw (by omega) (by omega) e0 e1 (bad_can hp ho ha hab e0 e1 hB) (fun l cf' B' hc hrow => h3 a b s l D' B' cf' hlt ha hb' hab hs1 rfl rfl rfl hB hc hrow)
end JN
