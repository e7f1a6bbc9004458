/-! read: what a run of joinings comes to -/
def rq (x : Int32) : Nat := x.toNatClampNeg
def rfit (W n : Nat) (X Y : Nat → Nat) (c : Nat → Int32) (S : Nat → Nat) (x1 x2 x3 x4 : Int32) : Prop :=
  ¬ JBad x1 x2 x4 ∧ n < 24 ∧ ¬ Bad (fun k => k < n ∧ nI k ≠ (-4 : Int32)) X Y (cwt W c S) (ewt W S) (rq x1) (rq x2) (cn W x3 (rq x4)) (enw W (rq x4))
/-- what a refused joining does to the conflict -/
def RB (W n : Nat) (X Y : Nat → Nat) (c : Nat → Int32) (S : Nat → Nat) (x1 x2 x3 x4 : Int32) (cs : Int32) (row : Nat → Int32) (cs' : Int32) (row' : Nat → Int32) : Prop :=
  ((JBad x1 x2 x4 ∨ n = 24) ∧ cs' = cs ∧ row' = row) ∨ (¬ JBad x1 x2 x4 ∧ n < 24 ∧ ∃ l, Cf (fun k => k < n ∧ nI k ≠ (-4 : Int32)) X Y (cwt W c S) (ewt W S) (rq x1) (rq x2) (cn W x3 (rq x4)) (enw W (rq x4)) l ∧ cs' = nI l.length ∧ ∀ j, j < l.length → row' j = nI (l.getD j 0))
theorem RB.conf {W n : Nat} {X Y : Nat → Nat} {c : Nat → Int32} {S : Nat → Nat} {x1 x2 x3 x4 cs cs' cm cm' : Int32} {row row' cf cf' : Nat → Int32} (hC : RConf cs row cm cf) (h1 : RB W n X Y c S x1 x2 x3 x4 cs row cs' row') (h2 : RB W n X Y c S x1 x2 x3 x4 cm cf cm' cf') : RConf cs' row' cm' cf' := by
  rcases h1 with ⟨a, rfl, rfl⟩ | ⟨a, b, l, q1, rfl, q3⟩
  · rcases h2 with ⟨-, rfl, rfl⟩ | ⟨a', b', -⟩
    · exact hC
    · rcases a with a | a
      · exact absurd a a'
      · omega
  · rcases h2 with ⟨a', -, -⟩ | ⟨-, -, l', p1, rfl, p3⟩
    · rcases a' with a' | a'
      · exact absurd a' a
      · omega
    · exact cf_conf q1 p1 q3 p3
theorem jb_no {a b s : Nat} (h1 : a < 10) (h2 : b < 10) (h3 : a ≠ b) (h4 : s ≤ 1) : ¬ JBad (nI a) (nI b) (nI s) := fun z => z ⟨⟨a, b, h1, h2, h3, rfl, rfl⟩, by rcases Nat.le_one_iff_eq_zero_or_eq_one.mp h4 with rfl | rfl; exact Or.inl rfl; exact Or.inr rfl⟩
section JS
variable {n m W : Nat} {X Y S L : Nat → Nat} {c : Nat → Int32} {size marked wh : Int32} {up lo lim str mk : Nat → Int32} {st : Nat → Int32}
theorem j7 (hp : Pw n X Y S m L W) (ho : PgOk n X Y c S W) (hs : StP n X Y c S m L W size marked wh up lo lim str mk) {f : Nat → Int64} {cs : Int32} {row : Nat → Int32} {M : Nat → Nat → Int64} {x1 x2 x3 x4 : Int32}
    {post : Int32 → Int32 → (Nat → Int64) → (Nat → Int32) → (Nat → Int32) → (Nat → Int32) → (Nat → Int32) → Int32 → (Nat → Int32) → (Nat → Nat → Int64) → Prop}
    (hn : ¬ rfit W n X Y c S x1 x2 x3 x4 → ∀ r f' cs' row' M', ¬ (0 : Int32) ≤ r → RB W n X Y c S x1 x2 x3 x4 cs row cs' row' → post r size f' lo lim str up cs' row' M')
    (hy : rfit W n X Y c S x1 x2 x3 x4 → ∀ f' lo' lim' str' up', Pw (n + 1) (gu X n (rq x1)) (gu Y n (rq x2)) (gu S n (rq x4)) m L W → PgOk (n + 1) (gu X n (rq x1)) (gu Y n (rq x2)) (gu c n x3) (gu S n (rq x4)) W → StP (n + 1) (gu X n (rq x1)) (gu Y n (rq x2)) (gu c n x3) (gu S n (rq x4)) m L W (nI (n + 1)) marked wh up' lo' lim' str' mk → (∀ k, k < n → up' k = up k ∧ lo' k = lo k ∧ lim' k = lim k ∧ str' k = str k) → post (nI (n + 1)) (nI (n + 1)) f' lo' lim' str' up' cs row M) :
    P_X7_join post size wh f lo lim str up cs row M x1 x2 x3 x4 := by
  refine s_join hp ho hs (fun hb => hn (fun z => z.1 hb) _ _ _ _ _ (by decide) (Or.inl ⟨Or.inl hb, rfl, rfl⟩)) (fun hb h24 => hn (fun z => by have := z.2.1; omega) _ _ _ _ _ (by decide) (Or.inl ⟨Or.inr h24, rfl, rfl⟩)) (fun a b s l f' row' M' q1 q2 q3 q4 q5 q6 q7 q8 q9 q10 q11 => ?_) (fun a b s f' q1 q2 q3 q4 q5 q6 q7 q8 q9 => ?_)
  · subst q6; subst q7; subst q8
    have ea : rq (nI a) = a := nI_c (by omega)
    have eb : rq (nI b) = b := nI_c (by omega)
    have es : rq (nI s) = s := nI_c (by omega)
    refine hn (fun z => z.2.2 ?_) _ _ _ _ _ (by decide) (Or.inr ⟨jb_no q2 q3 q4 q5, q1, l, ?_, rfl, q11⟩)
    · rw [ea, eb, es]; exact q9
    · rw [ea, eb, es]; exact q10
  · subst q6; subst q7; subst q8
    have ea : rq (nI a) = a := nI_c (by omega)
    have eb : rq (nI b) = b := nI_c (by omega)
    have es : rq (nI s) = s := nI_c (by omega)
    refine hy ⟨jb_no q2 q3 q4 q5, q1, ?_⟩ f' _ _ _ _ ?_ ?_ ?_ (fun k hk => ⟨pk_un (by omega), pk_un (by omega), pk_un (by omega), pk_un (by omega)⟩)
    · rw [ea, eb, es]; exact q9
    · rw [ea, eb, es]; exact pw_app1 hp q1 q2 q3 q4 q5
    · rw [ea, eb, es]; exact pg_app1 hp ho q2 q5 q9
    · rw [ea, eb, es]; exact st_app1 hs
theorem a8 (hp : Pw n X Y S m L W) (ho : PgOk n X Y c S W) (hr : RfP 0 n X Y c S m L W st) {cm : Int32} {D B : Nat → Int64} {cf : Nat → Int32} {x1 x2 x3 x4 : Int32}
    {post : Int32 → Int32 → (Nat → Int32) → (Nat → Int64) → (Nat → Int64) → (Nat → Int32) → Prop}
    (hn : ¬ rfit W n X Y c S x1 x2 x3 x4 → ∀ r D' B' cm' cf', ¬ (0 : Int32) ≤ r → RB W n X Y c S x1 x2 x3 x4 cm cf cm' cf' → post r cm' st D' B' cf')
    (hy : rfit W n X Y c S x1 x2 x3 x4 → ∀ D' st', Pw (n + 1) (gu X n (rq x1)) (gu Y n (rq x2)) (gu S n (rq x4)) m L W → PgOk (n + 1) (gu X n (rq x1)) (gu Y n (rq x2)) (gu c n x3) (gu S n (rq x4)) W → RfP 0 (n + 1) (gu X n (rq x1)) (gu Y n (rq x2)) (gu c n x3) (gu S n (rq x4)) m L W st' → (∀ j, 107 ≤ j → st' j = st j) → post (nI (n + 1)) cm st' D' B cf) :
    P_X8_adds post cm st D B cf x1 x2 x3 x4 := by
  refine s_adds hp ho hr (fun hb => hn (fun z => z.1 hb) _ _ _ _ _ (by decide) (Or.inl ⟨Or.inl hb, rfl, rfl⟩)) (fun hb h24 => hn (fun z => by have := z.2.1; omega) _ _ _ _ _ (by decide) (Or.inl ⟨Or.inr h24, rfl, rfl⟩)) (fun a b s l D' B' cf' q1 q2 q3 q4 q5 q6 q7 q8 q9 q10 q11 => ?_) (fun a b s D' st' q1 q2 q3 q4 q5 q6 q7 q8 q9 q10 q11 => ?_)
  · subst q6; subst q7; subst q8
    have ea : rq (nI a) = a := nI_c (by omega)
    have eb : rq (nI b) = b := nI_c (by omega)
    have es : rq (nI s) = s := nI_c (by omega)
    refine hn (fun z => z.2.2 ?_) _ _ _ _ _ (by decide) (Or.inr ⟨jb_no q2 q3 q4 q5, q1, l, ?_, rfl, q11⟩)
    · rw [ea, eb, es]; exact q9
    · rw [ea, eb, es]; exact q10
  · subst q6; subst q7; subst q8
    have ea : rq (nI a) = a := nI_c (by omega)
    have eb : rq (nI b) = b := nI_c (by omega)
    have es : rq (nI s) = s := nI_c (by omega)
    refine hy ⟨jb_no q2 q3 q4 q5, q1, ?_⟩ D' st' ?_ ?_ ?_ q11
    · rw [ea, eb, es]; exact q9
    · rw [ea, eb, es]; exact pw_app1 hp q1 q2 q3 q4 q5
    · rw [ea, eb, es]; exact pg_app1 hp ho q2 q5 q9
    · rw [ea, eb, es]; exact q10
end JS
def RR (W : Nat) (v : Nat → Nat → Int32) (Z : Nat → (Nat → Nat) → (Nat → Nat) → (Nat → Int32) → (Nat → Nat) → Prop) (Zb : Nat → Nat → (Nat → Nat) → (Nat → Nat) → (Nat → Int32) → (Nat → Nat) → Prop) : Nat → Nat → Nat → (Nat → Nat) → (Nat → Nat) → (Nat → Int32) → (Nat → Nat) → Prop
  | 0, _, n, X, Y, c, S => Z n X Y c S
  | t + 1, i, n, X, Y, c, S =>
    (rfit W n X Y c S (v i 0) (v i 1) (v i 2) (v i 3) → RR W v Z Zb t (i + 1) (n + 1) (gu X n (rq (v i 0))) (gu Y n (rq (v i 1))) (gu c n (v i 2)) (gu S n (rq (v i 3)))) ∧
    (¬ rfit W n X Y c S (v i 0) (v i 1) (v i 2) (v i 3) → Zb i n X Y c S)
theorem RR_ex (W : Nat) (v : Nat → Nat → Int32) : ∀ (t i n : Nat) (X Y : Nat → Nat) (c : Nat → Int32) (S : Nat → Nat),
    (∃ n' X' Y' c' S', RR W v (fun a b d e f => a = n' ∧ b = X' ∧ d = Y' ∧ e = c' ∧ f = S') (fun _ _ _ _ _ _ => False) t i n X Y c S) ∨ (∃ i' n' X' Y' c' S', RR W v (fun _ _ _ _ _ => False) (fun z a b d e f => z = i' ∧ a = n' ∧ b = X' ∧ d = Y' ∧ e = c' ∧ f = S') t i n X Y c S) := by
  intro t
  induction t with
  | zero => intro i n X Y c S; exact Or.inl ⟨n, X, Y, c, S, rfl, rfl, rfl, rfl, rfl⟩
  | succ t ih =>
    intro i n X Y c S
    by_cases h : rfit W n X Y c S (v i 0) (v i 1) (v i 2) (v i 3)
    · rcases ih (i + 1) (n + 1) (gu X n (rq (v i 0))) (gu Y n (rq (v i 1))) (gu c n (v i 2)) (gu S n (rq (v i 3))) with ⟨n', X', Y', c', S', hh⟩ | ⟨i', n', X', Y', c', S', hh⟩
      · exact Or.inl ⟨n', X', Y', c', S', fun _ => hh, fun z => absurd h z⟩
      · exact Or.inr ⟨i', n', X', Y', c', S', fun _ => hh, fun z => absurd h z⟩
    · exact Or.inr ⟨i, n, X, Y, c, S, fun z => absurd z h, fun _ => ⟨rfl, rfl, rfl, rfl, rfl, rfl⟩⟩
