/-! grow -/
def sn (x : Int32) : Int32 := (x * (1103515245 : Int32)) + (12345 : Int32)
def sbv (x : Int32) : Nat := ((x >>> ((16 : Int32) &&& 31)) &&& (32767 : Int32)).toNatClampNeg
theorem sbv_e (x : Int32) : (x >>> ((16 : Int32) &&& 31)) &&& (32767 : Int32) = nI (sbv x) ∧ sbv x < 32768 := by
  obtain ⟨f, hf, e⟩ := sb_rng x
  have e2 : sbv x = f := by unfold sbv; rw [e, nI_c (by omega)]
  rw [e2]
  exact ⟨e, hf⟩
def gs (f : Nat) : Nat := if f / 256 % 4 = 0 then 1 else 0
def gcn (g : Nat) : Int32 := nI (g % 41) - 12
theorem gs_le (f : Nat) : gs f ≤ 1 := by unfold gs; split <;> omega
def gfit (W n : Nat) (X Y : Nat → Nat) (c : Nat → Int32) (S : Nat → Nat) (f g : Nat) : Prop :=
  f % 10 ≠ f / 16 % 10 ∧ n < 24 ∧ ¬ Bad (fun k => k < n ∧ nI k ≠ (-4 : Int32)) X Y (cwt W c S) (ewt W S) (f % 10) (f / 16 % 10) (cn W (gcn g) (gs f)) (enw W (gs f))
def GR (W : Nat) (Z : Nat → (Nat → Nat) → (Nat → Nat) → (Nat → Int32) → (Nat → Nat) → Nat → Prop) : Nat → Int32 → Nat → (Nat → Nat) → (Nat → Nat) → (Nat → Int32) → (Nat → Nat) → Nat → Prop
  | 0, _, n, X, Y, c, S, q => Z n X Y c S q
  | t + 1, x, n, X, Y, c, S, q =>
    (gfit W n X Y c S (sbv (sn x)) (sbv (sn (sn x))) → GR W Z t (sn (sn x)) (n + 1) (gu X n (sbv (sn x) % 10)) (gu Y n (sbv (sn x) / 16 % 10)) (gu c n (gcn (sbv (sn (sn x))))) (gu S n (gs (sbv (sn x)))) (q + 1)) ∧
    (¬ gfit W n X Y c S (sbv (sn x)) (sbv (sn (sn x))) → GR W Z t (sn (sn x)) n X Y c S q)
theorem GR_ex (W : Nat) : ∀ (t : Nat) (x : Int32) (n : Nat) (X Y : Nat → Nat) (c : Nat → Int32) (S : Nat → Nat) (q : Nat), ∃ n' X' Y' c' S' q', GR W (fun a b d e f g => a = n' ∧ b = X' ∧ d = Y' ∧ e = c' ∧ f = S' ∧ g = q') t x n X Y c S q := by
  intro t
  induction t with
  | zero => intro x n X Y c S q; exact ⟨n, X, Y, c, S, q, rfl, rfl, rfl, rfl, rfl, rfl⟩
  | succ t ih =>
    intro x n X Y c S q
    by_cases h : gfit W n X Y c S (sbv (sn x)) (sbv (sn (sn x)))
    · obtain ⟨n', X', Y', c', S', q', hh⟩ := ih (sn (sn x)) (n + 1) (gu X n (sbv (sn x) % 10)) (gu Y n (sbv (sn x) / 16 % 10)) (gu c n (gcn (sbv (sn (sn x))))) (gu S n (gs (sbv (sn x)))) (q + 1)
      exact ⟨n', X', Y', c', S', q', fun _ => hh, fun z => absurd h z⟩
    · obtain ⟨n', X', Y', c', S', q', hh⟩ := ih (sn (sn x)) n X Y c S q
      exact ⟨n', X', Y', c', S', q', fun z => absurd z h, fun _ => hh⟩
section GW
variable {n m W : Nat} {X Y S L : Nat → Nat} {c : Nat → Int32} {size marked wh : Int32} {up lo lim str mk : Nat → Int32} {st : Nat → Int32}
theorem s_next {post : Int32 → Prop} {x : Int32} (h : post (sn x)) : P_X7_nextSeed post x := h
theorem s_bits {post : Int32 → Prop} {x : Int32} (h : post (nI (sbv x))) : P_X7_seedBits post x := by
  unfold P_X7_seedBits
  rw [sb_eq, (sbv_e x).1]
  exact h
theorem gcl {g : Nat} (h : g < 32768) : (nI g - nI g / (41 : Int32) * (41 : Int32)) - (12 : Int32) = gcn g := by
  unfold gcn
  rw [show (41 : Int32) = nI 41 from rfl, pk_rem (by omega) (by omega) (by omega)]
theorem ga {f : Nat} (h : f < 32768) : nI f - nI f / (10 : Int32) * (10 : Int32) = nI (f % 10) := by
  rw [show (10 : Int32) = nI 10 from rfl, pk_rem (by omega) (by omega) (by omega)]
theorem gb {f : Nat} (h : f < 32768) : (nI f / (16 : Int32)) - (nI f / (16 : Int32)) / (10 : Int32) * (10 : Int32) = nI (f / 16 % 10) := by
  rw [show (10 : Int32) = nI 10 from rfl, show (16 : Int32) = nI 16 from rfl, pk_div (by omega) (by omega) (by omega), pk_rem (by omega) (by omega) (by omega)]
theorem gd {f : Nat} (h : f < 32768) : (nI f / (256 : Int32)) - (nI f / (256 : Int32)) / (4 : Int32) * (4 : Int32) = nI (f / 256 % 4) := by
  rw [show (4 : Int32) = nI 4 from rfl, show (256 : Int32) = nI 256 from rfl, pk_div (by omega) (by omega) (by omega), pk_rem (by omega) (by omega) (by omega)]
theorem s_gstep7 (hp : Pw n X Y S m L W) (ho : PgOk n X Y c S W) (hs : StP n X Y c S m L W size marked wh up lo lim str mk) {fb g : Nat} (hf : fb < 32768) (hg : g < 32768) {f : Nat → Int64} {q sd z : Int32} {K : Int32 → (Nat → Int64) → (Nat → Int32) → (Nat → Int32) → (Nat → Int32) → (Nat → Int32) → Int32 → Int32 → Int32 → Prop}
    (hn : ¬ gfit W n X Y c S fb g → ∀ f', K size f' lo lim str up q sd (z + 1))
    (hy : gfit W n X Y c S fb g → ∀ f', K (nI (n + 1)) f' (upd lo n (nI (fb / 16 % 10))) (upd lim n (gcn g)) (upd str n (nI (gs fb))) (upd up n (nI (fb % 10))) (q + 1) sd (z + 1)) : B_X7_grow_88 K size wh f lo lim str up (nI (gs fb)) q sd z (nI g) (nI (fb % 10)) (nI (fb / 16 % 10)) := by
  have hW := hp.2.2.1
  have hw0 := hs.2.2.1
  have hs1 := gs_le fb
  unfold B_X7_grow_88 B_X7_grow_163
  refine br_c (fun e => hn (fun z => z.1 ((nI_eq (by omega) (by omega)).mp e)) f) (fun e => br_c (fun h24 => hn (fun z => ?_) f) (fun h24 => ?_))
  · have := z.2.1
    rw [hs.1] at h24
    exact nI_ge (a := n) (b := 24) this (by omega) h24
  · have hlt : n < 24 := by
      by_cases hh : n < 24
      · exact hh
      · refine absurd ?_ h24
        rw [hs.1]
        exact (show nI 24 ≤ nI n from nI_le (by omega) (by have := hp.1; omega))
    have hne : fb % 10 ≠ fb / 16 % 10 := fun z => e (by rw [z])
    rw [gcl hg, hw0]
    refine s_weigh (c := fun _ => gcn g) (S := fun _ => gs fb) (k := 0) hW hs1 (fun w hw => ?_)
    obtain ⟨c1, c2⟩ := cn_rng (W := W) (x := gcn g) hs1
    obtain ⟨e0, e1⟩ := enw_rng (W := W) hs1
    have hw : w.toInt = 1024 * cn W (gcn g) (gs fb) - enw W (gs fb) := hw
    have eE : (fun k => k < n ∧ nI k ≠ (-1 : Int32)) = (fun k => k < n ∧ nI k ≠ (-4 : Int32)) := (noskip hp.1 (Or.inl rfl)).trans (noskip hp.1 (Or.inr rfl)).symm
    rw [← hw0]
    refine s_fits hp ho hs (by omega) (by omega) (skip := -1) hw e0 e1 c1 c2 (fun hB f' => ⟨fun h => absurd h o_ne, fun _ => s_append hs.1 hlt ?_⟩) (fun hB f' => ⟨fun _ => hn (fun z => ?_) f', fun h => absurd rfl h⟩)
    · rw [eE] at hB
      exact hy ⟨hne, hlt, hB⟩ f'
    · rw [eE] at hB
      exact z.2.2 hB
end GW
