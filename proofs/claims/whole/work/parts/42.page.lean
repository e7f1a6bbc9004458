/-! pages: what both sides keep, and that the least rows are there -/
theorem int_min {P : Int → Prop} {b : Int} (hb : ∀ z, P z → b ≤ z) : ∀ (n : Nat) (z : Int), P z → z - b ≤ (n : Int) → ∃ m, P m ∧ ∀ z, P z → m ≤ z := by
  intro n
  induction n with
  | zero =>
    intro z hz hn
    refine ⟨z, hz, fun y hy => ?_⟩
    have := hb y hy
    omega
  | succ n ih =>
    intro z hz hn
    by_cases h : ∃ y, P y ∧ y < z
    · obtain ⟨y, h1, h2⟩ := h
      exact ih y h1 (by omega)
    · refine ⟨z, hz, fun y hy => ?_⟩
      by_cases h2 : y < z
      · exact absurd ⟨y, hy, h2⟩ h
      · omega
section PG
variable {E : Nat → Prop} {X Y : Nat → Nat} {w : Nat → Int} {cw : Nat → Int} {ew : Nat → Nat}
theorem low_of (hX : ∀ k, E k → X k < 10) (hw : ∀ k, E k → -4398046511104 ≤ w k ∧ w k ≤ 4398046511104) (hN : NoNeg E X Y w) {a b : Nat} (ha : a < 10) {l : List Nat} (hl : pw E X Y a l b) : -39582418599936 ≤ sw w l := by
  obtain ⟨l', q1, q2, q3⟩ := shorten hX hN l.length l a b (Nat.le_refl _) ha hl
  have := (sw_bound hw q2).1
  omega
theorem lst_ex (hX : ∀ k, E k → X k < 10) (hw : ∀ k, E k → -4398046511104 ≤ w k ∧ w k ≤ 4398046511104) (hN : NoNeg E X Y w) {a b : Nat} (ha : a < 10) (h : ∃ l, pw E X Y a l b) : ∃ d, Lst E X Y w a b d := by
  obtain ⟨l, hl⟩ := h
  obtain ⟨m, ⟨l1, h1, h2⟩, h3⟩ := int_min (P := fun z => ∃ l, pw E X Y a l b ∧ sw w l = z) (b := -39582418599936) (fun z ⟨l, h1, h2⟩ => by rw [← h2]; exact low_of hX hw hN ha h1) (sw w l + 39582418599936).toNat (sw w l) ⟨l, hl, rfl⟩ (by omega)
  exact ⟨m, ⟨l1, h1, h2⟩, fun l hl => h3 _ ⟨l, hl, rfl⟩⟩
theorem Lst.uniq {a b : Nat} {d d' : Int} (h : Lst E X Y w a b d) (h' : Lst E X Y w a b d') : d = d' := by
  obtain ⟨⟨l, a1, a2⟩, a3⟩ := h
  obtain ⟨⟨l', b1, b2⟩, b3⟩ := h'
  have := a3 l' b1
  have := b3 l a1
  omega
theorem potOk (hE : ∀ k, E k → X k < 10 ∧ Y k < 10) (hw : ∀ k, E k → -4398046511104 ≤ w k ∧ w k ≤ 4398046511104) (hN : NoNeg E X Y w) : ∃ h : Nat → Int, (∀ v, v < 10 → -50000000000000 ≤ h v ∧ h v ≤ 50000000000000) ∧ ∀ k, E k → h (X k) - h (Y k) ≤ w k := by
  have hX := fun k h => (hE k h).1
  have key : ∀ v, v < 10 → ∃ m : Int, (∃ u l, u < 10 ∧ pw E X Y u l v ∧ sw w l = m) ∧ ∀ u l, u < 10 → pw E X Y u l v → m ≤ sw w l := fun v hv => by
    obtain ⟨m, h1, h2⟩ := int_min (P := fun z => ∃ u l, u < 10 ∧ pw E X Y u l v ∧ sw w l = z) (b := -39582418599936) (fun z ⟨u, l, h0, h1, h2⟩ => by rw [← h2]; exact low_of hX hw hN h0 h1) 39582418599936 0 ⟨v, [], hv, rfl, rfl⟩ (by omega)
    exact ⟨m, h1, fun u l a b => h2 _ ⟨u, l, a, b, rfl⟩⟩
  refine ⟨fun v => if h : v < 10 then Classical.choose (key v h) else 0, fun v hv => ?_, fun k hk => ?_⟩
  · dsimp only
    rw [dif_pos hv]
    obtain ⟨⟨u, l, h0, h1, h2⟩, h3⟩ := Classical.choose_spec (key v hv)
    have a := low_of hX hw hN h0 h1
    have b := h3 v [] hv rfl
    simp only [sw] at b
    omega
  · dsimp only
    obtain ⟨x, y⟩ := hE k hk
    rw [dif_pos x, dif_pos y]
    obtain ⟨⟨u, l, h0, h1, h2⟩, -⟩ := Classical.choose_spec (key (Y k) y)
    obtain ⟨-, h3⟩ := Classical.choose_spec (key (X k) x)
    have h4 := h3 u (l ++ [k]) h0 (pw_app h1 ⟨hk, rfl, rfl⟩)
    rw [sw_app] at h4
    simp only [sw] at h4
    omega
theorem potOk0 (hE : ∀ k, E k → X k < 10 ∧ Y k < 10) (hw : ∀ k, E k → -4398046511104 ≤ w k ∧ w k ≤ 4398046511104) (hN : NoNeg E X Y w) : PotOk E X Y w := by
  obtain ⟨h, h1, h2⟩ := potOk hE hw hN
  exact ⟨h, 0, by omega, by omega, h1, fun k hk => by have := h2 k hk; omega⟩
theorem NoNeg.sub {E' : Nat → Prop} (hN : NoNeg E X Y w) (h : ∀ k, E' k → E k) : NoNeg E' X Y w := fun a l hl => by
  refine hN a l ?_
  have gen : ∀ (l : List Nat) (a b : Nat), pw E' X Y a l b → pw E X Y a l b := by
    intro l
    induction l with
    | nil => intro a b h; exact h
    | cons k l ih => intro a b h; exact ⟨by exact ‹∀ k, E' k → E k› k h.1, h.2.1, ih _ _ h.2.2⟩
  exact gen l a a hl
end PG
/-- the weight of a bound, as a pair: C and edges -/
def cwt (W : Nat) (c : Nat → Int32) (S : Nat → Nat) (k : Nat) : Int := if W = 1 then (c k).toInt - (S k : Int) else (c k).toInt
def ewt (W : Nat) (S : Nat → Nat) (k : Nat) : Nat := if W = 1 then 0 else S k
/-- what a page may hold -/
def Pw (n : Nat) (X Y S : Nat → Nat) (m : Nat) (L : Nat → Nat) (W : Nat) : Prop :=
  n ≤ 24 ∧ m ≤ 8 ∧ W ≤ 1 ∧ (∀ k, k < n → X k < 10 ∧ Y k < 10 ∧ X k ≠ Y k ∧ S k ≤ 1) ∧ (∀ i j, i ≤ j → j < m → L i ≤ L j) ∧ ∀ j, j < m → L j ≤ n
def PgOk (n : Nat) (X Y : Nat → Nat) (c : Nat → Int32) (S : Nat → Nat) (W : Nat) : Prop := NoNeg (fun k => k < n) X Y (wsc 1000 (cwt W c S) (ewt W S))
def StP (n : Nat) (X Y : Nat → Nat) (c : Nat → Int32) (S : Nat → Nat) (m : Nat) (L : Nat → Nat) (W : Nat) (size marked wh : Int32) (up lo lim str mk : Nat → Int32) : Prop :=
  size = nI n ∧ marked = nI m ∧ wh = nI W ∧ (∀ k, k < n → up k = nI (X k) ∧ lo k = nI (Y k) ∧ lim k = c k ∧ str k = nI (S k)) ∧ ∀ j, j < m → mk j = nI (L j)
def RfP (o n : Nat) (X Y : Nat → Nat) (c : Nat → Int32) (S : Nat → Nat) (m : Nat) (L : Nat → Nat) (W : Nat) (st : Nat → Int32) : Prop :=
  st (o + 104) = nI n ∧ st (o + 106) = nI m ∧ st (o + 105) = nI (1 - W) ∧ (∀ k, k < n → st (o + k) = nI (X k) ∧ st (o + 24 + k) = nI (Y k) ∧ st (o + 48 + k) = c k ∧ st (o + 72 + k) = nI (S k)) ∧ ∀ j, j < m → st (o + 96 + j) = nI (L j)
theorem RfP.congr {o n : Nat} {X Y : Nat → Nat} {c : Nat → Int32} {S : Nat → Nat} {m : Nat} {L : Nat → Nat} {W : Nat} {st st' : Nat → Int32} (hn : n ≤ 24) (hm : m ≤ 8) (h : RfP o n X Y c S m L W st) (e : ∀ j, o ≤ j → j < o + 107 → st' j = st j) : RfP o n X Y c S m L W st' := by
  obtain ⟨a, b, d, f, g⟩ := h
  refine ⟨by rw [e _ (by omega) (by omega)]; exact a, by rw [e _ (by omega) (by omega)]; exact b, by rw [e _ (by omega) (by omega)]; exact d, fun k hk => ?_, fun j hj => ?_⟩
  · rw [e _ (by omega) (by omega), e _ (by omega) (by omega), e _ (by omega) (by omega), e _ (by omega) (by omega)]
    exact f k hk
  · rw [e _ (by omega) (by omega)]
    exact g j hj
theorem c_1024 : (1024 : Int64).toInt = 1024 := by decide
theorem c_1000 : (1000 : Int64).toInt = 1000 := by decide
section PW
variable {n m W : Nat} {X Y S L : Nat → Nat} {c : Nat → Int32}
theorem wsc_rng {W : Nat} (K : Int) (hK : K = 1000 ∨ K = 1024) {k : Nat} (hS : S k ≤ 1) : -4398046511104 ≤ wsc K (cwt W c S) (ewt W S) k ∧ wsc K (cwt W c S) (ewt W S) k ≤ 4398046511104 := by
  obtain ⟨a, b⟩ := i_rng (c k)
  unfold wsc cwt ewt
  rcases hK with rfl | rfl <;> split <;> omega
theorem s_weigh {W : Nat} (hW : W ≤ 1) {k : Nat} (hS : S k ≤ 1) {post : Int64 → Prop} (h : ∀ r : Int64, r.toInt = wsc 1024 (cwt W c S) (ewt W S) k → post r) : P_X7_weigh post (c k) (nI (S k)) (nI W) := by
  obtain ⟨a, b⟩ := i_rng (c k)
  have hs : (nI (S k)).toInt64.toInt = (S k : Int) := by rw [i2l, nI_t (by omega)]
  have hc : (c k).toInt64.toInt = (c k).toInt := i2l _
  unfold P_X7_weigh
  by_cases e : W = 1
  · subst e
    refine ⟨fun h => absurd rfl h, fun _ => h _ ?_⟩
    have e1 : ((c k).toInt64 - (nI (S k)).toInt64).toInt = (c k).toInt - (S k : Int) := by rw [l_sub (by rw [hs, hc]; omega) (by rw [hs, hc]; omega), hs, hc]
    rw [l_mul (by rw [e1, c_1024]; omega) (by rw [e1, c_1024]; omega), e1, c_1024]
    unfold wsc cwt ewt
    rw [if_pos rfl, if_pos rfl]
    omega
  · have e0 : W = 0 := by omega
    subst e0
    refine ⟨fun _ => h _ ?_, fun h => absurd h (by decide)⟩
    have e1 : ((c k).toInt64 * (1024 : Int64)).toInt = (c k).toInt * 1024 := by rw [l_mul (by rw [hc, c_1024]; omega) (by rw [hc, c_1024]; omega), hc, c_1024]
    rw [l_sub (by rw [e1, hs]; omega) (by rw [e1, hs]; omega), e1, hs]
    unfold wsc cwt ewt
    rw [if_neg e, if_neg e]
    omega
theorem s_weighed {W : Nat} (hW : W ≤ 1) {k : Nat} (hS : S k ≤ 1) {post : Int64 → Prop} (h : ∀ r : Int64, r.toInt = wsc 1000 (cwt W c S) (ewt W S) k → post r) : P_X8_weighed post (nI (1 - W)) (c k) (nI (S k)) := by
  obtain ⟨a, b⟩ := i_rng (c k)
  have hs : (nI (S k)).toInt64.toInt = (S k : Int) := by rw [i2l, nI_t (by omega)]
  have hc : (c k).toInt64.toInt = (c k).toInt := i2l _
  unfold P_X8_weighed
  by_cases e : W = 1
  · subst e
    refine ⟨fun _ => h _ ?_, fun h => absurd rfl h⟩
    have e1 : ((c k).toInt64 - (nI (S k)).toInt64).toInt = (c k).toInt - (S k : Int) := by rw [l_sub (by rw [hs, hc]; omega) (by rw [hs, hc]; omega), hs, hc]
    rw [l_mul (by rw [e1, c_1000]; omega) (by rw [e1, c_1000]; omega), e1, c_1000]
    unfold wsc cwt ewt
    rw [if_pos rfl, if_pos rfl]
    omega
  · have e0 : W = 0 := by omega
    subst e0
    refine ⟨fun h => absurd h (by decide), fun _ => h _ ?_⟩
    have e1 : ((1000 : Int64) * (c k).toInt64).toInt = 1000 * (c k).toInt := by rw [l_mul (by rw [hc, c_1000]; omega) (by rw [hc, c_1000]; omega), hc, c_1000]
    rw [l_sub (by rw [e1, hs]; omega) (by rw [e1, hs]; omega), e1, hs]
    unfold wsc cwt ewt
    rw [if_neg e, if_neg e]
    all_goals omega
theorem stg {size marked wh wh' : Int32} {up lo lim str mk : Nat → Int32} {V : Nat} (hp : Pw n X Y S m L W) (h : StP n X Y c S m L W size marked wh up lo lim str mk) (hV : V ≤ 1) (hv : wh' = nI V) : StG n X Y (wsc 1024 (cwt V c S) (ewt V S)) wh' size lo lim str up := by
  obtain ⟨h1, h2, h3, h4, h5⟩ := h
  obtain ⟨p1, p2, p3, p4, -⟩ := hp
  refine ⟨h1, p1, fun k hk => ?_⟩
  obtain ⟨a1, a2, a3, a4⟩ := h4 k hk
  obtain ⟨b1, b2, b3, b4⟩ := p4 k hk
  refine ⟨a2, a1, b1, b2, wsc_rng 1024 (Or.inr rfl) b4, fun post hpost => ?_⟩
  rw [a3, a4, hv]
  exact s_weigh hV b4 hpost
theorem rfg {o : Nat} {st : Nat → Int32} (ho : o + 107 ≤ 535) (hp : Pw n X Y S m L W) (h : RfP o n X Y c S m L W st) : RfG o n X Y (wsc 1000 (cwt W c S) (ewt W S)) st := by
  obtain ⟨h1, h2, h3, h4, h5⟩ := h
  obtain ⟨p1, p2, p3, p4, -⟩ := hp
  refine ⟨ho, h1, p1, fun k hk => ?_⟩
  obtain ⟨a1, a2, a3, a4⟩ := h4 k hk
  obtain ⟨b1, b2, b3, b4⟩ := p4 k hk
  refine ⟨a2, a1, b1, b2, wsc_rng 1000 (Or.inl rfl) b4, fun post hpost => ?_⟩
  unfold P_X8_weightOf B_X8_weightOf_18
  rw [show (105 : Int32) = nI 105 from rfl, nI_add, nI_c (show o + 105 ≤ 2147483647 by omega), h3, ix3 (c := 48) (by omega) (48 : Int32) rfl, ix3 (c := 72) (by omega) (72 : Int32) rfl, nI_c (show o + 48 + k ≤ 2147483647 by omega), nI_c (show o + 72 + k ≤ 2147483647 by omega), a3, a4]
  have v1 : vp_in (nI (o + 48 + k)) 535 := vin (by omega) (by omega)
  have v2 : vp_in (nI (o + 72 + k)) 535 := vin (by omega) (by omega)
  have key := s_weighed (c := c) (S := S) p3 b4 hpost
  refine ⟨vin (by omega) (by omega), fun e => ⟨v1, v2, ?_⟩, fun e => ⟨v1, v2, ?_⟩⟩
  · have e0 : W = 1 := by
      by_cases z : W = 1
      · exact z
      · have : W = 0 := by omega
        subst this
        exact absurd rfl e
    subst e0
    exact key
  · have e0 : W = 0 := by
      by_cases z : W = 0
      · exact z
      · have : W = 1 := by omega
        subst this
        exact absurd e (by decide)
    subst e0
    exact key
theorem ewt_le {k : Nat} (hS : S k ≤ 1) : ewt W S k ≤ 1 := by unfold ewt; split <;> omega
theorem noskip {n : Nat} (hn : n ≤ 24) {s : Int32} (hs : s = -1 ∨ s = -4) : (fun k => k < n ∧ nI k ≠ s) = (fun k => k < n) := funext fun k => propext ⟨fun h => h.1, fun h => ⟨h, fun e => by
  have h1 : (nI k).toInt = s.toInt := by rw [e]
  rw [nI_t (by omega)] at h1
  rcases hs with rfl | rfl
  · have : (-1 : Int32).toInt = -1 := by decide
    omega
  · have : (-4 : Int32).toInt = -4 := by decide
    omega⟩⟩
end PW
