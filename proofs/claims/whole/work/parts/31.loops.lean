/-! loops: a predicate with fuel holds where an invariant does and a measure falls -/
theorem ml1 {A1 : Type} (F : (A1 → Prop) → A1 → Prop) (I : A1 → Prop) (μ : A1 → Nat)
    (hs : ∀ (a1 : A1), I a1 → ∀ K : A1 → Prop, (∀ (b1 : A1), I b1 → μ b1 < μ a1 → K b1) → F K a1) :
    ∀ (a1 : A1), I a1 → ∃ m : Nat, Nat.rec (motive := fun _ => A1 → Prop) (fun _ => False) (fun _ K => F K) m a1 := by
  have key : ∀ (m : Nat) (a1 : A1), μ a1 < m → I a1 → Nat.rec (motive := fun _ => A1 → Prop) (fun _ => False) (fun _ K => F K) m a1 := by
    intro m
    induction m with
    | zero => intro a1 h; omega
    | succ m ih => intro a1 h hI; exact hs a1 hI _ (fun b1 hb hm => ih b1 (by omega) hb)
  intro a1 hI
  exact ⟨μ a1 + 1, key (μ a1 + 1) a1 (Nat.lt_succ_self _) hI⟩
theorem ml2 {A1 A2 : Type} (F : (A1 → A2 → Prop) → A1 → A2 → Prop) (I : A1 → A2 → Prop) (μ : A1 → A2 → Nat)
    (hs : ∀ (a1 : A1) (a2 : A2), I a1 a2 → ∀ K : A1 → A2 → Prop, (∀ (b1 : A1) (b2 : A2), I b1 b2 → μ b1 b2 < μ a1 a2 → K b1 b2) → F K a1 a2) :
    ∀ (a1 : A1) (a2 : A2), I a1 a2 → ∃ m : Nat, Nat.rec (motive := fun _ => A1 → A2 → Prop) (fun _ _ => False) (fun _ K => F K) m a1 a2 := by
  have key : ∀ (m : Nat) (a1 : A1) (a2 : A2), μ a1 a2 < m → I a1 a2 → Nat.rec (motive := fun _ => A1 → A2 → Prop) (fun _ _ => False) (fun _ K => F K) m a1 a2 := by
    intro m
    induction m with
    | zero => intro a1 a2 h; omega
    | succ m ih => intro a1 a2 h hI; exact hs a1 a2 hI _ (fun b1 b2 hb hm => ih b1 b2 (by omega) hb)
  intro a1 a2 hI
  exact ⟨μ a1 a2 + 1, key (μ a1 a2 + 1) a1 a2 (Nat.lt_succ_self _) hI⟩
theorem ml3 {A1 A2 A3 : Type} (F : (A1 → A2 → A3 → Prop) → A1 → A2 → A3 → Prop) (I : A1 → A2 → A3 → Prop) (μ : A1 → A2 → A3 → Nat)
    (hs : ∀ (a1 : A1) (a2 : A2) (a3 : A3), I a1 a2 a3 → ∀ K : A1 → A2 → A3 → Prop, (∀ (b1 : A1) (b2 : A2) (b3 : A3), I b1 b2 b3 → μ b1 b2 b3 < μ a1 a2 a3 → K b1 b2 b3) → F K a1 a2 a3) :
    ∀ (a1 : A1) (a2 : A2) (a3 : A3), I a1 a2 a3 → ∃ m : Nat, Nat.rec (motive := fun _ => A1 → A2 → A3 → Prop) (fun _ _ _ => False) (fun _ K => F K) m a1 a2 a3 := by
  have key : ∀ (m : Nat) (a1 : A1) (a2 : A2) (a3 : A3), μ a1 a2 a3 < m → I a1 a2 a3 → Nat.rec (motive := fun _ => A1 → A2 → A3 → Prop) (fun _ _ _ => False) (fun _ K => F K) m a1 a2 a3 := by
    intro m
    induction m with
    | zero => intro a1 a2 a3 h; omega
    | succ m ih => intro a1 a2 a3 h hI; exact hs a1 a2 a3 hI _ (fun b1 b2 b3 hb hm => ih b1 b2 b3 (by omega) hb)
  intro a1 a2 a3 hI
  exact ⟨μ a1 a2 a3 + 1, key (μ a1 a2 a3 + 1) a1 a2 a3 (Nat.lt_succ_self _) hI⟩
theorem ml4 {A1 A2 A3 A4 : Type} (F : (A1 → A2 → A3 → A4 → Prop) → A1 → A2 → A3 → A4 → Prop) (I : A1 → A2 → A3 → A4 → Prop) (μ : A1 → A2 → A3 → A4 → Nat)
    (hs : ∀ (a1 : A1) (a2 : A2) (a3 : A3) (a4 : A4), I a1 a2 a3 a4 → ∀ K : A1 → A2 → A3 → A4 → Prop, (∀ (b1 : A1) (b2 : A2) (b3 : A3) (b4 : A4), I b1 b2 b3 b4 → μ b1 b2 b3 b4 < μ a1 a2 a3 a4 → K b1 b2 b3 b4) → F K a1 a2 a3 a4) :
    ∀ (a1 : A1) (a2 : A2) (a3 : A3) (a4 : A4), I a1 a2 a3 a4 → ∃ m : Nat, Nat.rec (motive := fun _ => A1 → A2 → A3 → A4 → Prop) (fun _ _ _ _ => False) (fun _ K => F K) m a1 a2 a3 a4 := by
  have key : ∀ (m : Nat) (a1 : A1) (a2 : A2) (a3 : A3) (a4 : A4), μ a1 a2 a3 a4 < m → I a1 a2 a3 a4 → Nat.rec (motive := fun _ => A1 → A2 → A3 → A4 → Prop) (fun _ _ _ _ => False) (fun _ K => F K) m a1 a2 a3 a4 := by
    intro m
    induction m with
    | zero => intro a1 a2 a3 a4 h; omega
    | succ m ih => intro a1 a2 a3 a4 h hI; exact hs a1 a2 a3 a4 hI _ (fun b1 b2 b3 b4 hb hm => ih b1 b2 b3 b4 (by omega) hb)
  intro a1 a2 a3 a4 hI
  exact ⟨μ a1 a2 a3 a4 + 1, key (μ a1 a2 a3 a4 + 1) a1 a2 a3 a4 (Nat.lt_succ_self _) hI⟩
theorem ml5 {A1 A2 A3 A4 A5 : Type} (F : (A1 → A2 → A3 → A4 → A5 → Prop) → A1 → A2 → A3 → A4 → A5 → Prop) (I : A1 → A2 → A3 → A4 → A5 → Prop) (μ : A1 → A2 → A3 → A4 → A5 → Nat)
    (hs : ∀ (a1 : A1) (a2 : A2) (a3 : A3) (a4 : A4) (a5 : A5), I a1 a2 a3 a4 a5 → ∀ K : A1 → A2 → A3 → A4 → A5 → Prop, (∀ (b1 : A1) (b2 : A2) (b3 : A3) (b4 : A4) (b5 : A5), I b1 b2 b3 b4 b5 → μ b1 b2 b3 b4 b5 < μ a1 a2 a3 a4 a5 → K b1 b2 b3 b4 b5) → F K a1 a2 a3 a4 a5) :
    ∀ (a1 : A1) (a2 : A2) (a3 : A3) (a4 : A4) (a5 : A5), I a1 a2 a3 a4 a5 → ∃ m : Nat, Nat.rec (motive := fun _ => A1 → A2 → A3 → A4 → A5 → Prop) (fun _ _ _ _ _ => False) (fun _ K => F K) m a1 a2 a3 a4 a5 := by
  have key : ∀ (m : Nat) (a1 : A1) (a2 : A2) (a3 : A3) (a4 : A4) (a5 : A5), μ a1 a2 a3 a4 a5 < m → I a1 a2 a3 a4 a5 → Nat.rec (motive := fun _ => A1 → A2 → A3 → A4 → A5 → Prop) (fun _ _ _ _ _ => False) (fun _ K => F K) m a1 a2 a3 a4 a5 := by
    intro m
    induction m with
    | zero => intro a1 a2 a3 a4 a5 h; omega
    | succ m ih => intro a1 a2 a3 a4 a5 h hI; exact hs a1 a2 a3 a4 a5 hI _ (fun b1 b2 b3 b4 b5 hb hm => ih b1 b2 b3 b4 b5 (by omega) hb)
  intro a1 a2 a3 a4 a5 hI
  exact ⟨μ a1 a2 a3 a4 a5 + 1, key (μ a1 a2 a3 a4 a5 + 1) a1 a2 a3 a4 a5 (Nat.lt_succ_self _) hI⟩
theorem ml6 {A1 A2 A3 A4 A5 A6 : Type} (F : (A1 → A2 → A3 → A4 → A5 → A6 → Prop) → A1 → A2 → A3 → A4 → A5 → A6 → Prop) (I : A1 → A2 → A3 → A4 → A5 → A6 → Prop) (μ : A1 → A2 → A3 → A4 → A5 → A6 → Nat)
    (hs : ∀ (a1 : A1) (a2 : A2) (a3 : A3) (a4 : A4) (a5 : A5) (a6 : A6), I a1 a2 a3 a4 a5 a6 → ∀ K : A1 → A2 → A3 → A4 → A5 → A6 → Prop, (∀ (b1 : A1) (b2 : A2) (b3 : A3) (b4 : A4) (b5 : A5) (b6 : A6), I b1 b2 b3 b4 b5 b6 → μ b1 b2 b3 b4 b5 b6 < μ a1 a2 a3 a4 a5 a6 → K b1 b2 b3 b4 b5 b6) → F K a1 a2 a3 a4 a5 a6) :
    ∀ (a1 : A1) (a2 : A2) (a3 : A3) (a4 : A4) (a5 : A5) (a6 : A6), I a1 a2 a3 a4 a5 a6 → ∃ m : Nat, Nat.rec (motive := fun _ => A1 → A2 → A3 → A4 → A5 → A6 → Prop) (fun _ _ _ _ _ _ => False) (fun _ K => F K) m a1 a2 a3 a4 a5 a6 := by
  have key : ∀ (m : Nat) (a1 : A1) (a2 : A2) (a3 : A3) (a4 : A4) (a5 : A5) (a6 : A6), μ a1 a2 a3 a4 a5 a6 < m → I a1 a2 a3 a4 a5 a6 → Nat.rec (motive := fun _ => A1 → A2 → A3 → A4 → A5 → A6 → Prop) (fun _ _ _ _ _ _ => False) (fun _ K => F K) m a1 a2 a3 a4 a5 a6 := by
    intro m
    induction m with
    | zero => intro a1 a2 a3 a4 a5 a6 h; omega
    | succ m ih => intro a1 a2 a3 a4 a5 a6 h hI; exact hs a1 a2 a3 a4 a5 a6 hI _ (fun b1 b2 b3 b4 b5 b6 hb hm => ih b1 b2 b3 b4 b5 b6 (by omega) hb)
  intro a1 a2 a3 a4 a5 a6 hI
  exact ⟨μ a1 a2 a3 a4 a5 a6 + 1, key (μ a1 a2 a3 a4 a5 a6 + 1) a1 a2 a3 a4 a5 a6 (Nat.lt_succ_self _) hI⟩
theorem ml7 {A1 A2 A3 A4 A5 A6 A7 : Type} (F : (A1 → A2 → A3 → A4 → A5 → A6 → A7 → Prop) → A1 → A2 → A3 → A4 → A5 → A6 → A7 → Prop) (I : A1 → A2 → A3 → A4 → A5 → A6 → A7 → Prop) (μ : A1 → A2 → A3 → A4 → A5 → A6 → A7 → Nat)
    (hs : ∀ (a1 : A1) (a2 : A2) (a3 : A3) (a4 : A4) (a5 : A5) (a6 : A6) (a7 : A7), I a1 a2 a3 a4 a5 a6 a7 → ∀ K : A1 → A2 → A3 → A4 → A5 → A6 → A7 → Prop, (∀ (b1 : A1) (b2 : A2) (b3 : A3) (b4 : A4) (b5 : A5) (b6 : A6) (b7 : A7), I b1 b2 b3 b4 b5 b6 b7 → μ b1 b2 b3 b4 b5 b6 b7 < μ a1 a2 a3 a4 a5 a6 a7 → K b1 b2 b3 b4 b5 b6 b7) → F K a1 a2 a3 a4 a5 a6 a7) :
    ∀ (a1 : A1) (a2 : A2) (a3 : A3) (a4 : A4) (a5 : A5) (a6 : A6) (a7 : A7), I a1 a2 a3 a4 a5 a6 a7 → ∃ m : Nat, Nat.rec (motive := fun _ => A1 → A2 → A3 → A4 → A5 → A6 → A7 → Prop) (fun _ _ _ _ _ _ _ => False) (fun _ K => F K) m a1 a2 a3 a4 a5 a6 a7 := by
  have key : ∀ (m : Nat) (a1 : A1) (a2 : A2) (a3 : A3) (a4 : A4) (a5 : A5) (a6 : A6) (a7 : A7), μ a1 a2 a3 a4 a5 a6 a7 < m → I a1 a2 a3 a4 a5 a6 a7 → Nat.rec (motive := fun _ => A1 → A2 → A3 → A4 → A5 → A6 → A7 → Prop) (fun _ _ _ _ _ _ _ => False) (fun _ K => F K) m a1 a2 a3 a4 a5 a6 a7 := by
    intro m
    induction m with
    | zero => intro a1 a2 a3 a4 a5 a6 a7 h; omega
    | succ m ih => intro a1 a2 a3 a4 a5 a6 a7 h hI; exact hs a1 a2 a3 a4 a5 a6 a7 hI _ (fun b1 b2 b3 b4 b5 b6 b7 hb hm => ih b1 b2 b3 b4 b5 b6 b7 (by omega) hb)
  intro a1 a2 a3 a4 a5 a6 a7 hI
  exact ⟨μ a1 a2 a3 a4 a5 a6 a7 + 1, key (μ a1 a2 a3 a4 a5 a6 a7 + 1) a1 a2 a3 a4 a5 a6 a7 (Nat.lt_succ_self _) hI⟩
theorem ml8 {A1 A2 A3 A4 A5 A6 A7 A8 : Type} (F : (A1 → A2 → A3 → A4 → A5 → A6 → A7 → A8 → Prop) → A1 → A2 → A3 → A4 → A5 → A6 → A7 → A8 → Prop) (I : A1 → A2 → A3 → A4 → A5 → A6 → A7 → A8 → Prop) (μ : A1 → A2 → A3 → A4 → A5 → A6 → A7 → A8 → Nat)
    (hs : ∀ (a1 : A1) (a2 : A2) (a3 : A3) (a4 : A4) (a5 : A5) (a6 : A6) (a7 : A7) (a8 : A8), I a1 a2 a3 a4 a5 a6 a7 a8 → ∀ K : A1 → A2 → A3 → A4 → A5 → A6 → A7 → A8 → Prop, (∀ (b1 : A1) (b2 : A2) (b3 : A3) (b4 : A4) (b5 : A5) (b6 : A6) (b7 : A7) (b8 : A8), I b1 b2 b3 b4 b5 b6 b7 b8 → μ b1 b2 b3 b4 b5 b6 b7 b8 < μ a1 a2 a3 a4 a5 a6 a7 a8 → K b1 b2 b3 b4 b5 b6 b7 b8) → F K a1 a2 a3 a4 a5 a6 a7 a8) :
    ∀ (a1 : A1) (a2 : A2) (a3 : A3) (a4 : A4) (a5 : A5) (a6 : A6) (a7 : A7) (a8 : A8), I a1 a2 a3 a4 a5 a6 a7 a8 → ∃ m : Nat, Nat.rec (motive := fun _ => A1 → A2 → A3 → A4 → A5 → A6 → A7 → A8 → Prop) (fun _ _ _ _ _ _ _ _ => False) (fun _ K => F K) m a1 a2 a3 a4 a5 a6 a7 a8 := by
  have key : ∀ (m : Nat) (a1 : A1) (a2 : A2) (a3 : A3) (a4 : A4) (a5 : A5) (a6 : A6) (a7 : A7) (a8 : A8), μ a1 a2 a3 a4 a5 a6 a7 a8 < m → I a1 a2 a3 a4 a5 a6 a7 a8 → Nat.rec (motive := fun _ => A1 → A2 → A3 → A4 → A5 → A6 → A7 → A8 → Prop) (fun _ _ _ _ _ _ _ _ => False) (fun _ K => F K) m a1 a2 a3 a4 a5 a6 a7 a8 := by
    intro m
    induction m with
    | zero => intro a1 a2 a3 a4 a5 a6 a7 a8 h; omega
    | succ m ih => intro a1 a2 a3 a4 a5 a6 a7 a8 h hI; exact hs a1 a2 a3 a4 a5 a6 a7 a8 hI _ (fun b1 b2 b3 b4 b5 b6 b7 b8 hb hm => ih b1 b2 b3 b4 b5 b6 b7 b8 (by omega) hb)
  intro a1 a2 a3 a4 a5 a6 a7 a8 hI
  exact ⟨μ a1 a2 a3 a4 a5 a6 a7 a8 + 1, key (μ a1 a2 a3 a4 a5 a6 a7 a8 + 1) a1 a2 a3 a4 a5 a6 a7 a8 (Nat.lt_succ_self _) hI⟩
theorem ml9 {A1 A2 A3 A4 A5 A6 A7 A8 A9 : Type} (F : (A1 → A2 → A3 → A4 → A5 → A6 → A7 → A8 → A9 → Prop) → A1 → A2 → A3 → A4 → A5 → A6 → A7 → A8 → A9 → Prop) (I : A1 → A2 → A3 → A4 → A5 → A6 → A7 → A8 → A9 → Prop) (μ : A1 → A2 → A3 → A4 → A5 → A6 → A7 → A8 → A9 → Nat)
    (hs : ∀ (a1 : A1) (a2 : A2) (a3 : A3) (a4 : A4) (a5 : A5) (a6 : A6) (a7 : A7) (a8 : A8) (a9 : A9), I a1 a2 a3 a4 a5 a6 a7 a8 a9 → ∀ K : A1 → A2 → A3 → A4 → A5 → A6 → A7 → A8 → A9 → Prop, (∀ (b1 : A1) (b2 : A2) (b3 : A3) (b4 : A4) (b5 : A5) (b6 : A6) (b7 : A7) (b8 : A8) (b9 : A9), I b1 b2 b3 b4 b5 b6 b7 b8 b9 → μ b1 b2 b3 b4 b5 b6 b7 b8 b9 < μ a1 a2 a3 a4 a5 a6 a7 a8 a9 → K b1 b2 b3 b4 b5 b6 b7 b8 b9) → F K a1 a2 a3 a4 a5 a6 a7 a8 a9) :
    ∀ (a1 : A1) (a2 : A2) (a3 : A3) (a4 : A4) (a5 : A5) (a6 : A6) (a7 : A7) (a8 : A8) (a9 : A9), I a1 a2 a3 a4 a5 a6 a7 a8 a9 → ∃ m : Nat, Nat.rec (motive := fun _ => A1 → A2 → A3 → A4 → A5 → A6 → A7 → A8 → A9 → Prop) (fun _ _ _ _ _ _ _ _ _ => False) (fun _ K => F K) m a1 a2 a3 a4 a5 a6 a7 a8 a9 := by
  have key : ∀ (m : Nat) (a1 : A1) (a2 : A2) (a3 : A3) (a4 : A4) (a5 : A5) (a6 : A6) (a7 : A7) (a8 : A8) (a9 : A9), μ a1 a2 a3 a4 a5 a6 a7 a8 a9 < m → I a1 a2 a3 a4 a5 a6 a7 a8 a9 → Nat.rec (motive := fun _ => A1 → A2 → A3 → A4 → A5 → A6 → A7 → A8 → A9 → Prop) (fun _ _ _ _ _ _ _ _ _ => False) (fun _ K => F K) m a1 a2 a3 a4 a5 a6 a7 a8 a9 := by
    intro m
    induction m with
    | zero => intro a1 a2 a3 a4 a5 a6 a7 a8 a9 h; omega
    | succ m ih => intro a1 a2 a3 a4 a5 a6 a7 a8 a9 h hI; exact hs a1 a2 a3 a4 a5 a6 a7 a8 a9 hI _ (fun b1 b2 b3 b4 b5 b6 b7 b8 b9 hb hm => ih b1 b2 b3 b4 b5 b6 b7 b8 b9 (by omega) hb)
  intro a1 a2 a3 a4 a5 a6 a7 a8 a9 hI
  exact ⟨μ a1 a2 a3 a4 a5 a6 a7 a8 a9 + 1, key (μ a1 a2 a3 a4 a5 a6 a7 a8 a9 + 1) a1 a2 a3 a4 a5 a6 a7 a8 a9 (Nat.lt_succ_self _) hI⟩
theorem ml10 {A1 A2 A3 A4 A5 A6 A7 A8 A9 A10 : Type} (F : (A1 → A2 → A3 → A4 → A5 → A6 → A7 → A8 → A9 → A10 → Prop) → A1 → A2 → A3 → A4 → A5 → A6 → A7 → A8 → A9 → A10 → Prop) (I : A1 → A2 → A3 → A4 → A5 → A6 → A7 → A8 → A9 → A10 → Prop) (μ : A1 → A2 → A3 → A4 → A5 → A6 → A7 → A8 → A9 → A10 → Nat)
    (hs : ∀ (a1 : A1) (a2 : A2) (a3 : A3) (a4 : A4) (a5 : A5) (a6 : A6) (a7 : A7) (a8 : A8) (a9 : A9) (a10 : A10), I a1 a2 a3 a4 a5 a6 a7 a8 a9 a10 → ∀ K : A1 → A2 → A3 → A4 → A5 → A6 → A7 → A8 → A9 → A10 → Prop, (∀ (b1 : A1) (b2 : A2) (b3 : A3) (b4 : A4) (b5 : A5) (b6 : A6) (b7 : A7) (b8 : A8) (b9 : A9) (b10 : A10), I b1 b2 b3 b4 b5 b6 b7 b8 b9 b10 → μ b1 b2 b3 b4 b5 b6 b7 b8 b9 b10 < μ a1 a2 a3 a4 a5 a6 a7 a8 a9 a10 → K b1 b2 b3 b4 b5 b6 b7 b8 b9 b10) → F K a1 a2 a3 a4 a5 a6 a7 a8 a9 a10) :
    ∀ (a1 : A1) (a2 : A2) (a3 : A3) (a4 : A4) (a5 : A5) (a6 : A6) (a7 : A7) (a8 : A8) (a9 : A9) (a10 : A10), I a1 a2 a3 a4 a5 a6 a7 a8 a9 a10 → ∃ m : Nat, Nat.rec (motive := fun _ => A1 → A2 → A3 → A4 → A5 → A6 → A7 → A8 → A9 → A10 → Prop) (fun _ _ _ _ _ _ _ _ _ _ => False) (fun _ K => F K) m a1 a2 a3 a4 a5 a6 a7 a8 a9 a10 := by
  have key : ∀ (m : Nat) (a1 : A1) (a2 : A2) (a3 : A3) (a4 : A4) (a5 : A5) (a6 : A6) (a7 : A7) (a8 : A8) (a9 : A9) (a10 : A10), μ a1 a2 a3 a4 a5 a6 a7 a8 a9 a10 < m → I a1 a2 a3 a4 a5 a6 a7 a8 a9 a10 → Nat.rec (motive := fun _ => A1 → A2 → A3 → A4 → A5 → A6 → A7 → A8 → A9 → A10 → Prop) (fun _ _ _ _ _ _ _ _ _ _ => False) (fun _ K => F K) m a1 a2 a3 a4 a5 a6 a7 a8 a9 a10 := by
    intro m
    induction m with
    | zero => intro a1 a2 a3 a4 a5 a6 a7 a8 a9 a10 h; omega
    | succ m ih => intro a1 a2 a3 a4 a5 a6 a7 a8 a9 a10 h hI; exact hs a1 a2 a3 a4 a5 a6 a7 a8 a9 a10 hI _ (fun b1 b2 b3 b4 b5 b6 b7 b8 b9 b10 hb hm => ih b1 b2 b3 b4 b5 b6 b7 b8 b9 b10 (by omega) hb)
  intro a1 a2 a3 a4 a5 a6 a7 a8 a9 a10 hI
  exact ⟨μ a1 a2 a3 a4 a5 a6 a7 a8 a9 a10 + 1, key (μ a1 a2 a3 a4 a5 a6 a7 a8 a9 a10 + 1) a1 a2 a3 a4 a5 a6 a7 a8 a9 a10 (Nat.lt_succ_self _) hI⟩
theorem ml11 {A1 A2 A3 A4 A5 A6 A7 A8 A9 A10 A11 : Type} (F : (A1 → A2 → A3 → A4 → A5 → A6 → A7 → A8 → A9 → A10 → A11 → Prop) → A1 → A2 → A3 → A4 → A5 → A6 → A7 → A8 → A9 → A10 → A11 → Prop) (I : A1 → A2 → A3 → A4 → A5 → A6 → A7 → A8 → A9 → A10 → A11 → Prop) (μ : A1 → A2 → A3 → A4 → A5 → A6 → A7 → A8 → A9 → A10 → A11 → Nat)
    (hs : ∀ (a1 : A1) (a2 : A2) (a3 : A3) (a4 : A4) (a5 : A5) (a6 : A6) (a7 : A7) (a8 : A8) (a9 : A9) (a10 : A10) (a11 : A11), I a1 a2 a3 a4 a5 a6 a7 a8 a9 a10 a11 → ∀ K : A1 → A2 → A3 → A4 → A5 → A6 → A7 → A8 → A9 → A10 → A11 → Prop, (∀ (b1 : A1) (b2 : A2) (b3 : A3) (b4 : A4) (b5 : A5) (b6 : A6) (b7 : A7) (b8 : A8) (b9 : A9) (b10 : A10) (b11 : A11), I b1 b2 b3 b4 b5 b6 b7 b8 b9 b10 b11 → μ b1 b2 b3 b4 b5 b6 b7 b8 b9 b10 b11 < μ a1 a2 a3 a4 a5 a6 a7 a8 a9 a10 a11 → K b1 b2 b3 b4 b5 b6 b7 b8 b9 b10 b11) → F K a1 a2 a3 a4 a5 a6 a7 a8 a9 a10 a11) :
    ∀ (a1 : A1) (a2 : A2) (a3 : A3) (a4 : A4) (a5 : A5) (a6 : A6) (a7 : A7) (a8 : A8) (a9 : A9) (a10 : A10) (a11 : A11), I a1 a2 a3 a4 a5 a6 a7 a8 a9 a10 a11 → ∃ m : Nat, Nat.rec (motive := fun _ => A1 → A2 → A3 → A4 → A5 → A6 → A7 → A8 → A9 → A10 → A11 → Prop) (fun _ _ _ _ _ _ _ _ _ _ _ => False) (fun _ K => F K) m a1 a2 a3 a4 a5 a6 a7 a8 a9 a10 a11 := by
  have key : ∀ (m : Nat) (a1 : A1) (a2 : A2) (a3 : A3) (a4 : A4) (a5 : A5) (a6 : A6) (a7 : A7) (a8 : A8) (a9 : A9) (a10 : A10) (a11 : A11), μ a1 a2 a3 a4 a5 a6 a7 a8 a9 a10 a11 < m → I a1 a2 a3 a4 a5 a6 a7 a8 a9 a10 a11 → Nat.rec (motive := fun _ => A1 → A2 → A3 → A4 → A5 → A6 → A7 → A8 → A9 → A10 → A11 → Prop) (fun _ _ _ _ _ _ _ _ _ _ _ => False) (fun _ K => F K) m a1 a2 a3 a4 a5 a6 a7 a8 a9 a10 a11 := by
    intro m
    induction m with
    | zero => intro a1 a2 a3 a4 a5 a6 a7 a8 a9 a10 a11 h; omega
    | succ m ih => intro a1 a2 a3 a4 a5 a6 a7 a8 a9 a10 a11 h hI; exact hs a1 a2 a3 a4 a5 a6 a7 a8 a9 a10 a11 hI _ (fun b1 b2 b3 b4 b5 b6 b7 b8 b9 b10 b11 hb hm => ih b1 b2 b3 b4 b5 b6 b7 b8 b9 b10 b11 (by omega) hb)
  intro a1 a2 a3 a4 a5 a6 a7 a8 a9 a10 a11 hI
  exact ⟨μ a1 a2 a3 a4 a5 a6 a7 a8 a9 a10 a11 + 1, key (μ a1 a2 a3 a4 a5 a6 a7 a8 a9 a10 a11 + 1) a1 a2 a3 a4 a5 a6 a7 a8 a9 a10 a11 (Nat.lt_succ_self _) hI⟩
theorem ml12 {A1 A2 A3 A4 A5 A6 A7 A8 A9 A10 A11 A12 : Type} (F : (A1 → A2 → A3 → A4 → A5 → A6 → A7 → A8 → A9 → A10 → A11 → A12 → Prop) → A1 → A2 → A3 → A4 → A5 → A6 → A7 → A8 → A9 → A10 → A11 → A12 → Prop) (I : A1 → A2 → A3 → A4 → A5 → A6 → A7 → A8 → A9 → A10 → A11 → A12 → Prop) (μ : A1 → A2 → A3 → A4 → A5 → A6 → A7 → A8 → A9 → A10 → A11 → A12 → Nat)
    (hs : ∀ (a1 : A1) (a2 : A2) (a3 : A3) (a4 : A4) (a5 : A5) (a6 : A6) (a7 : A7) (a8 : A8) (a9 : A9) (a10 : A10) (a11 : A11) (a12 : A12), I a1 a2 a3 a4 a5 a6 a7 a8 a9 a10 a11 a12 → ∀ K : A1 → A2 → A3 → A4 → A5 → A6 → A7 → A8 → A9 → A10 → A11 → A12 → Prop, (∀ (b1 : A1) (b2 : A2) (b3 : A3) (b4 : A4) (b5 : A5) (b6 : A6) (b7 : A7) (b8 : A8) (b9 : A9) (b10 : A10) (b11 : A11) (b12 : A12), I b1 b2 b3 b4 b5 b6 b7 b8 b9 b10 b11 b12 → μ b1 b2 b3 b4 b5 b6 b7 b8 b9 b10 b11 b12 < μ a1 a2 a3 a4 a5 a6 a7 a8 a9 a10 a11 a12 → K b1 b2 b3 b4 b5 b6 b7 b8 b9 b10 b11 b12) → F K a1 a2 a3 a4 a5 a6 a7 a8 a9 a10 a11 a12) :
    ∀ (a1 : A1) (a2 : A2) (a3 : A3) (a4 : A4) (a5 : A5) (a6 : A6) (a7 : A7) (a8 : A8) (a9 : A9) (a10 : A10) (a11 : A11) (a12 : A12), I a1 a2 a3 a4 a5 a6 a7 a8 a9 a10 a11 a12 → ∃ m : Nat, Nat.rec (motive := fun _ => A1 → A2 → A3 → A4 → A5 → A6 → A7 → A8 → A9 → A10 → A11 → A12 → Prop) (fun _ _ _ _ _ _ _ _ _ _ _ _ => False) (fun _ K => F K) m a1 a2 a3 a4 a5 a6 a7 a8 a9 a10 a11 a12 := by
  have key : ∀ (m : Nat) (a1 : A1) (a2 : A2) (a3 : A3) (a4 : A4) (a5 : A5) (a6 : A6) (a7 : A7) (a8 : A8) (a9 : A9) (a10 : A10) (a11 : A11) (a12 : A12), μ a1 a2 a3 a4 a5 a6 a7 a8 a9 a10 a11 a12 < m → I a1 a2 a3 a4 a5 a6 a7 a8 a9 a10 a11 a12 → Nat.rec (motive := fun _ => A1 → A2 → A3 → A4 → A5 → A6 → A7 → A8 → A9 → A10 → A11 → A12 → Prop) (fun _ _ _ _ _ _ _ _ _ _ _ _ => False) (fun _ K => F K) m a1 a2 a3 a4 a5 a6 a7 a8 a9 a10 a11 a12 := by
    intro m
    induction m with
    | zero => intro a1 a2 a3 a4 a5 a6 a7 a8 a9 a10 a11 a12 h; omega
    | succ m ih => intro a1 a2 a3 a4 a5 a6 a7 a8 a9 a10 a11 a12 h hI; exact hs a1 a2 a3 a4 a5 a6 a7 a8 a9 a10 a11 a12 hI _ (fun b1 b2 b3 b4 b5 b6 b7 b8 b9 b10 b11 b12 hb hm => ih b1 b2 b3 b4 b5 b6 b7 b8 b9 b10 b11 b12 (by omega) hb)
  intro a1 a2 a3 a4 a5 a6 a7 a8 a9 a10 a11 a12 hI
  exact ⟨μ a1 a2 a3 a4 a5 a6 a7 a8 a9 a10 a11 a12 + 1, key (μ a1 a2 a3 a4 a5 a6 a7 a8 a9 a10 a11 a12 + 1) a1 a2 a3 a4 a5 a6 a7 a8 a9 a10 a11 a12 (Nat.lt_succ_self _) hI⟩
theorem ml13 {A1 A2 A3 A4 A5 A6 A7 A8 A9 A10 A11 A12 A13 : Type} (F : (A1 → A2 → A3 → A4 → A5 → A6 → A7 → A8 → A9 → A10 → A11 → A12 → A13 → Prop) → A1 → A2 → A3 → A4 → A5 → A6 → A7 → A8 → A9 → A10 → A11 → A12 → A13 → Prop) (I : A1 → A2 → A3 → A4 → A5 → A6 → A7 → A8 → A9 → A10 → A11 → A12 → A13 → Prop) (μ : A1 → A2 → A3 → A4 → A5 → A6 → A7 → A8 → A9 → A10 → A11 → A12 → A13 → Nat)
    (hs : ∀ (a1 : A1) (a2 : A2) (a3 : A3) (a4 : A4) (a5 : A5) (a6 : A6) (a7 : A7) (a8 : A8) (a9 : A9) (a10 : A10) (a11 : A11) (a12 : A12) (a13 : A13), I a1 a2 a3 a4 a5 a6 a7 a8 a9 a10 a11 a12 a13 → ∀ K : A1 → A2 → A3 → A4 → A5 → A6 → A7 → A8 → A9 → A10 → A11 → A12 → A13 → Prop, (∀ (b1 : A1) (b2 : A2) (b3 : A3) (b4 : A4) (b5 : A5) (b6 : A6) (b7 : A7) (b8 : A8) (b9 : A9) (b10 : A10) (b11 : A11) (b12 : A12) (b13 : A13), I b1 b2 b3 b4 b5 b6 b7 b8 b9 b10 b11 b12 b13 → μ b1 b2 b3 b4 b5 b6 b7 b8 b9 b10 b11 b12 b13 < μ a1 a2 a3 a4 a5 a6 a7 a8 a9 a10 a11 a12 a13 → K b1 b2 b3 b4 b5 b6 b7 b8 b9 b10 b11 b12 b13) → F K a1 a2 a3 a4 a5 a6 a7 a8 a9 a10 a11 a12 a13) :
    ∀ (a1 : A1) (a2 : A2) (a3 : A3) (a4 : A4) (a5 : A5) (a6 : A6) (a7 : A7) (a8 : A8) (a9 : A9) (a10 : A10) (a11 : A11) (a12 : A12) (a13 : A13), I a1 a2 a3 a4 a5 a6 a7 a8 a9 a10 a11 a12 a13 → ∃ m : Nat, Nat.rec (motive := fun _ => A1 → A2 → A3 → A4 → A5 → A6 → A7 → A8 → A9 → A10 → A11 → A12 → A13 → Prop) (fun _ _ _ _ _ _ _ _ _ _ _ _ _ => False) (fun _ K => F K) m a1 a2 a3 a4 a5 a6 a7 a8 a9 a10 a11 a12 a13 := by
  have key : ∀ (m : Nat) (a1 : A1) (a2 : A2) (a3 : A3) (a4 : A4) (a5 : A5) (a6 : A6) (a7 : A7) (a8 : A8) (a9 : A9) (a10 : A10) (a11 : A11) (a12 : A12) (a13 : A13), μ a1 a2 a3 a4 a5 a6 a7 a8 a9 a10 a11 a12 a13 < m → I a1 a2 a3 a4 a5 a6 a7 a8 a9 a10 a11 a12 a13 → Nat.rec (motive := fun _ => A1 → A2 → A3 → A4 → A5 → A6 → A7 → A8 → A9 → A10 → A11 → A12 → A13 → Prop) (fun _ _ _ _ _ _ _ _ _ _ _ _ _ => False) (fun _ K => F K) m a1 a2 a3 a4 a5 a6 a7 a8 a9 a10 a11 a12 a13 := by
    intro m
    induction m with
    | zero => intro a1 a2 a3 a4 a5 a6 a7 a8 a9 a10 a11 a12 a13 h; omega
    | succ m ih => intro a1 a2 a3 a4 a5 a6 a7 a8 a9 a10 a11 a12 a13 h hI; exact hs a1 a2 a3 a4 a5 a6 a7 a8 a9 a10 a11 a12 a13 hI _ (fun b1 b2 b3 b4 b5 b6 b7 b8 b9 b10 b11 b12 b13 hb hm => ih b1 b2 b3 b4 b5 b6 b7 b8 b9 b10 b11 b12 b13 (by omega) hb)
  intro a1 a2 a3 a4 a5 a6 a7 a8 a9 a10 a11 a12 a13 hI
  exact ⟨μ a1 a2 a3 a4 a5 a6 a7 a8 a9 a10 a11 a12 a13 + 1, key (μ a1 a2 a3 a4 a5 a6 a7 a8 a9 a10 a11 a12 a13 + 1) a1 a2 a3 a4 a5 a6 a7 a8 a9 a10 a11 a12 a13 (Nat.lt_succ_self _) hI⟩
theorem ml14 {A1 A2 A3 A4 A5 A6 A7 A8 A9 A10 A11 A12 A13 A14 : Type} (F : (A1 → A2 → A3 → A4 → A5 → A6 → A7 → A8 → A9 → A10 → A11 → A12 → A13 → A14 → Prop) → A1 → A2 → A3 → A4 → A5 → A6 → A7 → A8 → A9 → A10 → A11 → A12 → A13 → A14 → Prop) (I : A1 → A2 → A3 → A4 → A5 → A6 → A7 → A8 → A9 → A10 → A11 → A12 → A13 → A14 → Prop) (μ : A1 → A2 → A3 → A4 → A5 → A6 → A7 → A8 → A9 → A10 → A11 → A12 → A13 → A14 → Nat)
    (hs : ∀ (a1 : A1) (a2 : A2) (a3 : A3) (a4 : A4) (a5 : A5) (a6 : A6) (a7 : A7) (a8 : A8) (a9 : A9) (a10 : A10) (a11 : A11) (a12 : A12) (a13 : A13) (a14 : A14), I a1 a2 a3 a4 a5 a6 a7 a8 a9 a10 a11 a12 a13 a14 → ∀ K : A1 → A2 → A3 → A4 → A5 → A6 → A7 → A8 → A9 → A10 → A11 → A12 → A13 → A14 → Prop, (∀ (b1 : A1) (b2 : A2) (b3 : A3) (b4 : A4) (b5 : A5) (b6 : A6) (b7 : A7) (b8 : A8) (b9 : A9) (b10 : A10) (b11 : A11) (b12 : A12) (b13 : A13) (b14 : A14), I b1 b2 b3 b4 b5 b6 b7 b8 b9 b10 b11 b12 b13 b14 → μ b1 b2 b3 b4 b5 b6 b7 b8 b9 b10 b11 b12 b13 b14 < μ a1 a2 a3 a4 a5 a6 a7 a8 a9 a10 a11 a12 a13 a14 → K b1 b2 b3 b4 b5 b6 b7 b8 b9 b10 b11 b12 b13 b14) → F K a1 a2 a3 a4 a5 a6 a7 a8 a9 a10 a11 a12 a13 a14) :
    ∀ (a1 : A1) (a2 : A2) (a3 : A3) (a4 : A4) (a5 : A5) (a6 : A6) (a7 : A7) (a8 : A8) (a9 : A9) (a10 : A10) (a11 : A11) (a12 : A12) (a13 : A13) (a14 : A14), I a1 a2 a3 a4 a5 a6 a7 a8 a9 a10 a11 a12 a13 a14 → ∃ m : Nat, Nat.rec (motive := fun _ => A1 → A2 → A3 → A4 → A5 → A6 → A7 → A8 → A9 → A10 → A11 → A12 → A13 → A14 → Prop) (fun _ _ _ _ _ _ _ _ _ _ _ _ _ _ => False) (fun _ K => F K) m a1 a2 a3 a4 a5 a6 a7 a8 a9 a10 a11 a12 a13 a14 := by
  have key : ∀ (m : Nat) (a1 : A1) (a2 : A2) (a3 : A3) (a4 : A4) (a5 : A5) (a6 : A6) (a7 : A7) (a8 : A8) (a9 : A9) (a10 : A10) (a11 : A11) (a12 : A12) (a13 : A13) (a14 : A14), μ a1 a2 a3 a4 a5 a6 a7 a8 a9 a10 a11 a12 a13 a14 < m → I a1 a2 a3 a4 a5 a6 a7 a8 a9 a10 a11 a12 a13 a14 → Nat.rec (motive := fun _ => A1 → A2 → A3 → A4 → A5 → A6 → A7 → A8 → A9 → A10 → A11 → A12 → A13 → A14 → Prop) (fun _ _ _ _ _ _ _ _ _ _ _ _ _ _ => False) (fun _ K => F K) m a1 a2 a3 a4 a5 a6 a7 a8 a9 a10 a11 a12 a13 a14 := by
    intro m
    induction m with
    | zero => intro a1 a2 a3 a4 a5 a6 a7 a8 a9 a10 a11 a12 a13 a14 h; omega
    | succ m ih => intro a1 a2 a3 a4 a5 a6 a7 a8 a9 a10 a11 a12 a13 a14 h hI; exact hs a1 a2 a3 a4 a5 a6 a7 a8 a9 a10 a11 a12 a13 a14 hI _ (fun b1 b2 b3 b4 b5 b6 b7 b8 b9 b10 b11 b12 b13 b14 hb hm => ih b1 b2 b3 b4 b5 b6 b7 b8 b9 b10 b11 b12 b13 b14 (by omega) hb)
  intro a1 a2 a3 a4 a5 a6 a7 a8 a9 a10 a11 a12 a13 a14 hI
  exact ⟨μ a1 a2 a3 a4 a5 a6 a7 a8 a9 a10 a11 a12 a13 a14 + 1, key (μ a1 a2 a3 a4 a5 a6 a7 a8 a9 a10 a11 a12 a13 a14 + 1) a1 a2 a3 a4 a5 a6 a7 a8 a9 a10 a11 a12 a13 a14 (Nat.lt_succ_self _) hI⟩
