/-! ways: counting -/
def sm : Nat → (Nat → Nat) → Nat
  | 0, _ => 0
  | n + 1, g => sm n g + g n
theorem sm_zero {g : Nat → Nat} : ∀ n, (∀ v, v < n → g v = 0) → sm n g = 0 := by
  intro n
  induction n with
  | zero => intro _; rfl
  | succ n ih =>
    intro h
    show sm n g + g n = 0
    rw [ih (fun v hv => h v (by omega)), h n (by omega)]
theorem sm_add {f g : Nat → Nat} : ∀ n, sm n (fun v => f v + g v) = sm n f + sm n g := by
  intro n
  induction n with
  | zero => rfl
  | succ n ih =>
    show sm n (fun v => f v + g v) + (f n + g n) = sm n f + f n + (sm n g + g n)
    rw [ih]
    omega
theorem sm_congr {f g : Nat → Nat} : ∀ n, (∀ v, v < n → f v = g v) → sm n f = sm n g := by
  intro n
  induction n with
  | zero => intro _; rfl
  | succ n ih =>
    intro h
    show sm n f + f n = sm n g + g n
    rw [ih (fun v hv => h v (by omega)), h n (by omega)]
theorem sm_split (a : Nat) (g : Nat → Nat) : ∀ b, sm (a + b) g = sm a g + sm b (fun v => g (a + v)) := by
  intro b
  induction b with
  | zero => rfl
  | succ b ih =>
    show sm (a + b) g + g (a + b) = sm a g + (sm b (fun v => g (a + v)) + g (a + b))
    rw [ih]
    omega
theorem sm_up {g : Nat → Nat} {a b : Nat} (hab : a ≤ b) (h : ∀ v, a ≤ v → v < b → g v = 0) : sm b g = sm a g := by
  obtain ⟨d, rfl⟩ : ∃ d, b = a + d := ⟨b - a, by omega⟩
  rw [sm_split, sm_zero d (fun v hv => h _ (by omega) (by omega))]
  omega
theorem sm_mul (M : Nat) (g : Nat → Nat) : ∀ K, sm (M * K) g = sm M (fun d => sm K (fun r => g (d + M * r))) := by
  intro K
  induction K with
  | zero =>
    rw [Nat.mul_zero]
    exact (sm_zero M (fun v _ => rfl)).symm
  | succ K ih =>
    rw [Nat.mul_succ, sm_split, ih]
    have e : (fun d => sm (K + 1) (fun r => g (d + M * r))) = (fun d => sm K (fun r => g (d + M * r)) + g (d + M * K)) := rfl
    rw [e, sm_add]
    congr 1
    exact sm_congr M (fun v _ => by rw [Nat.add_comm])
theorem sm_rng {g : Nat → Nat} {M : Nat} {a b : Int} (ha : 0 ≤ a) (hb : b < (M : Int)) (h1 : ∀ v, v < M → a ≤ (v : Int) → (v : Int) ≤ b → g v = 1) (h0 : ∀ v, v < M → ¬ (a ≤ (v : Int) ∧ (v : Int) ≤ b) → g v = 0) : ((sm M g : Nat) : Int) = if b - a + 1 < 0 then 0 else b - a + 1 := by
  have key : ∀ q, q ≤ M → ((q : Int) ≤ a → sm q g = 0) ∧ (b < a → sm q g = 0) ∧ (a ≤ (q : Int) → (q : Int) ≤ b + 1 → ((sm q g : Nat) : Int) = (q : Int) - a) ∧ (a ≤ b → b + 1 ≤ (q : Int) → ((sm q g : Nat) : Int) = b - a + 1) := by
    intro q
    induction q with
    | zero =>
      intro _
      have e : sm 0 g = 0 := rfl
      rw [e]
      exact ⟨fun _ => rfl, fun _ => rfl, fun _ _ => by omega, fun _ _ => by omega⟩
    | succ q ih =>
      intro hq
      have e : sm (q + 1) g = sm q g + g q := rfl
      obtain ⟨i1, i2, i3, i4⟩ := ih (by omega)
      by_cases hin : a ≤ (q : Int) ∧ (q : Int) ≤ b
      · have e1 := h1 q (by omega) hin.1 hin.2
        rw [e, e1]
        have i3 := i3 hin.1 (by omega)
        exact ⟨fun _ => by omega, fun _ => by omega, fun _ _ => by omega, fun _ _ => by omega⟩
      · have e0 := h0 q (by omega) hin
        rw [e, e0, Nat.add_zero]
        refine ⟨fun z => i1 (by omega), i2, fun z1 z2 => ?_, fun z1 z2 => ?_⟩
        · have := i1 (by omega)
          omega
        · exact i4 z1 (by omega)
  obtain ⟨k1, k2, k3, k4⟩ := key M (Nat.le_refl _)
  by_cases hba : b < a
  · rw [k2 hba]
    by_cases hz : b - a + 1 < 0
    · rw [if_pos hz]; rfl
    · rw [if_neg hz]
      omega
  · rw [if_neg (show ¬ b - a + 1 < 0 by omega)]
    exact k4 (by omega) (by omega)
def Cn (M : Nat) (P : (Nat → Nat) → Nat) : Nat → Nat → (Nat → Nat) → Nat
  | 0, _, w => P w
  | t + 1, i, w => sm M (fun v => Cn M P t (i + 1) (gu w i v))
def exd (M : Nat) (w : Nat → Nat) (i code : Nat) : Nat → Nat := fun v => if i ≤ v then code / M ^ (v - i) % M else w v
theorem exd_step {M : Nat} {w : Nat → Nat} {i d r : Nat} (hd : d < M) : exd M w i (d + M * r) = exd M (gu w i d) (i + 1) r := funext fun v => by
  unfold exd gu
  by_cases h : i + 1 ≤ v
  · rw [if_pos (show i ≤ v by omega), if_pos h]
    obtain ⟨k, hk⟩ : ∃ k, v - i = k + 1 := ⟨v - i - 1, by omega⟩
    have hk2 : v - (i + 1) = k := by omega
    rw [hk, hk2, Nat.pow_succ, Nat.mul_comm (M ^ k) M, ← Nat.div_div_eq_div_mul, Nat.add_mul_div_left _ _ (show 0 < M by omega), Nat.div_eq_of_lt hd, Nat.zero_add]
  · rw [if_neg h]
    by_cases e : v = i
    · subst e
      rw [if_pos (Nat.le_refl _), if_pos rfl, Nat.sub_self, Nat.pow_zero, Nat.div_one, Nat.add_mul_mod_self_left, Nat.mod_eq_of_lt hd]
    · rw [if_neg (show ¬ i ≤ v by omega), if_neg e]
theorem cn_codes {M N : Nat} {P : (Nat → Nat) → Nat} (hP : ∀ w w' : Nat → Nat, (∀ v, v < N → w v = w' v) → P w = P w') : ∀ (t i : Nat) (w : Nat → Nat), t + i = N → sm (M ^ t) (fun code => P (exd M w i code)) = Cn M P t i w := by
  intro t
  induction t with
  | zero =>
    intro i w h
    rw [Nat.pow_zero]
    show 0 + P (exd M w i 0) = P w
    rw [Nat.zero_add]
    exact hP _ _ (fun v hv => by unfold exd; rw [if_neg (by omega)])
  | succ t ih =>
    intro i w h
    rw [Nat.pow_succ, Nat.mul_comm, sm_mul]
    show _ = sm M (fun v => Cn M P t (i + 1) (gu w i v))
    refine sm_congr M (fun d hd => ?_)
    rw [← ih (i + 1) (gu w i d) (by omega)]
    refine sm_congr _ (fun r _ => ?_)
    rw [exd_step hd]
noncomputable def ind (p : Prop) : Nat := @ite Nat p (Classical.propDecidable p) 1 0
theorem ind_t {p : Prop} (h : p) : ind p = 1 := @if_pos p (Classical.propDecidable p) h Nat 1 0
theorem ind_f {p : Prop} (h : ¬ p) : ind p = 0 := @if_neg p (Classical.propDecidable p) h Nat 1 0
def PO (n : Nat) (X Y : Nat → Nat) (c : Nat → Int32) (S : Nat → Nat) (i : Nat) (w : Nat → Nat) : Prop := ∀ k, k < n → X k < i → Y k < i → ((w (X k) : Nat) : Int) - (w (Y k) : Nat) ≤ (c k).toInt - (S k : Int)
section CN
variable {n : Nat} {X Y S : Nat → Nat} {c : Nat → Int32}
theorem po_ext {N : Nat} {w w' : Nat → Nat} (h : ∀ v, v < N → w v = w' v) : ind (PO n X Y c S N w) = ind (PO n X Y c S N w') := by
  have e : PO n X Y c S N w ↔ PO n X Y c S N w' := ⟨fun z k a b d => by rw [← h _ b, ← h _ d]; exact z k a b d, fun z k a b d => by rw [h _ b, h _ d]; exact z k a b d⟩
  rw [propext e]
theorem po_lo {i : Nat} {w : Nat → Nat} {v : Nat} (h : PO n X Y c S (i + 1) (gu w i v)) : PO n X Y c S i w := fun k a b d => by
  have := h k a (by omega) (by omega)
  rw [gu_n (by omega), gu_n (by omega)] at this
  exact this
theorem cn_zero {M N : Nat} : ∀ (t i : Nat) (w : Nat → Nat), t + i = N → ¬ PO n X Y c S i w → Cn M (fun w => ind (PO n X Y c S N w)) t i w = 0 := by
  intro t
  induction t with
  | zero =>
    intro i w h hn
    have e : i = N := by omega
    subst e
    exact ind_f hn
  | succ t ih =>
    intro i w h hn
    exact sm_zero M (fun v _ => ih (i + 1) (gu w i v) (by omega) (fun z => hn (po_lo z)))
end CN
