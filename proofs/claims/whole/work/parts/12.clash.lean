theorem qX0_lengthen : yX0_lengthen.cls = RX0 ∧ yX0_lengthen.cls ≠ "java/lang/invoke/MethodHandle" ∧ yX0_lengthen.cls ≠ "java/lang/invoke/VarHandle" ∧ (parseMethodDescriptor yX0_lengthen.desc).map (fun d => d.parameters.length) = some 3 := by decide +kernel
def B_X0_lengthen_96 (K_29 : (Nat → Nat → Int64) → Int32 → Prop) (t_least : Nat → Nat → Int64) (x6 : Int32) : Prop :=
  K_29 t_least (x6 + (1 : Int32))
def LB_X0_lengthen_29 (post : (Nat → Nat → Int64) → Prop) (s_size : Int32) (s_wholeness : Int32) (s_upper : Nat → Int32) (s_lower : Nat → Int32) (s_limits : Nat → Int32) (s_stricts : Nat → Int32) (x2 : Int32) (x3 : Int32) (K_29 : (Nat → Nat → Int64) → Int32 → Prop) (t_least : Nat → Nat → Int64) (x6 : Int32) : Prop :=
  ((s_size ≤ x6 → post t_least) ∧ (¬ s_size ≤ x6 → (vp_in x6 24 ∧ (vp_in (s_upper x6.toNatClampNeg) 10 ∧ ((x6 = x3 → B_X0_lengthen_96 K_29 t_least x6) ∧ (¬ x6 = x3 → ((t_least (x2 - (1 : Int32)).toNatClampNeg (s_upper x6.toNatClampNeg).toNatClampNeg = (4611686018427387904 : Int64) → B_X0_lengthen_96 K_29 t_least x6) ∧ (¬ t_least (x2 - (1 : Int32)).toNatClampNeg (s_upper x6.toNatClampNeg).toNatClampNeg = (4611686018427387904 : Int64) → (vp_in x6 24 ∧ (vp_in (s_lower x6.toNatClampNeg) 10 ∧ P_X5_weightOf (fun (r4 : Int64) => (vp_in (s_lower x6.toNatClampNeg) 10 ∧ B_X0_lengthen_96 K_29 (va_up t_least x2.toNatClampNeg (vp_updL (t_least x2.toNatClampNeg) (s_lower x6.toNatClampNeg).toNatClampNeg (if r4 + (t_least (x2 - (1 : Int32)).toNatClampNeg (s_upper x6.toNatClampNeg).toNatClampNeg) < t_least x2.toNatClampNeg (s_lower x6.toNatClampNeg).toNatClampNeg then r4 + (t_least (x2 - (1 : Int32)).toNatClampNeg (s_upper x6.toNatClampNeg).toNatClampNeg) else t_least x2.toNatClampNeg (s_lower x6.toNatClampNeg).toNatClampNeg))) x6)) s_wholeness s_limits s_stricts x6))))))))))
noncomputable def L_X0_lengthen_29 (post : (Nat → Nat → Int64) → Prop) (s_size : Int32) (s_wholeness : Int32) (s_upper : Nat → Int32) (s_lower : Nat → Int32) (s_limits : Nat → Int32) (s_stricts : Nat → Int32) (x2 : Int32) (x3 : Int32) (n : Nat) : (Nat → Nat → Int64) → Int32 → Prop := Nat.rec (motive := fun _ => (Nat → Nat → Int64) → Int32 → Prop) (fun _ _ => False) (fun _ K => LB_X0_lengthen_29 post s_size s_wholeness s_upper s_lower s_limits s_stricts x2 x3 K) n
def P_X0_lengthen (post : (Nat → Nat → Int64) → Prop) (s_size : Int32) (s_wholeness : Int32) (s_upper : Nat → Int32) (s_lower : Nat → Int32) (s_limits : Nat → Int32) (s_stricts : Nat → Int32) (t_least : Nat → Nat → Int64) (x2 : Int32) (x3 : Int32) : Prop :=
  (vp_in (x2 - (1 : Int32)) 10 ∧ (vp_in x2 10 ∧ P_J7_fill_d0a16 (fun (a_v3 : Nat → Int64) => ∃ n : Nat, L_X0_lengthen_29 post s_size s_wholeness s_upper s_lower s_limits s_stricts x2 x3 n (va_up t_least x2.toNatClampNeg a_v3) (0 : Int32)) 10 (t_least x2.toNatClampNeg) (4611686018427387904 : Int64)))
set_option maxHeartbeats 4000000 in
set_option maxRecDepth 100000 in
theorem c_X0_lengthen (l : Launch) (D : va_G) (cy : Nat → ClassId) (sz : Nat) (A_t A_t_row A_t_least A_s A_s_upper A_s_lower A_s_limits A_s_stricts A_s_marks : Nat) (R_t_least : Nat → Nat) (t_size : Int32) (s_size : Int32) (s_marked : Int32) (s_wholeness : Int32) (s_upper : Nat → Int32) (s_lower : Nat → Int32) (s_limits : Nat → Int32) (s_stricts : Nat → Int32) (t_least : Nat → Nat → Int64) (x2 : Int32) (x3 : Int32) (post : (Nat → Nat → Int64) → Prop) (h : P_X0_lengthen post s_size s_wholeness s_upper s_lower s_limits s_stricts t_least x2 x3) : Met l yX0_lengthen wsX0_lengthen { frames := 2, cells := 0, slots := 0, locals := 60 } (pcW D cy ([(A_t, .inr (0, [.ref A_t_row, .int t_size, .ref A_t_least])), (A_s, .inr (5, [.ref A_s_upper, .ref A_s_lower, .ref A_s_limits, .ref A_s_stricts, .ref A_s_marks, .int s_size, .int s_marked, .int s_wholeness])), (A_s_upper, .inl (cy 1, 24, .inl s_upper)), (A_s_lower, .inl (cy 1, 24, .inl s_lower)), (A_s_limits, .inl (cy 1, 24, .inl s_limits)), (A_s_stricts, .inl (cy 1, 24, .inl s_stricts)), (A_t_least, .inl (cy 4, 10, .inr (.inr (.inr (.inr (gx R_t_least 10))))))] ++ gp R_t_least t_least 10 (cy 2) 10) sz [.ref A_t, .ref A_s, .int x2, .int x3]) (va_Qv (fun (u : (Nat → Nat → Int64)) => post u) (bW D ([(A_t, .inr (0, [.ref A_t_row, .int t_size, .ref A_t_least])), (A_s, .inr (5, [.ref A_s_upper, .ref A_s_lower, .ref A_s_limits, .ref A_s_stricts, .ref A_s_marks, .int s_size, .int s_marked, .int s_wholeness])), (A_s_upper, .inl (cy 1, 24, .inl s_upper)), (A_s_lower, .inl (cy 1, 24, .inl s_lower)), (A_s_limits, .inl (cy 1, 24, .inl s_limits)), (A_s_stricts, .inl (cy 1, 24, .inl s_stricts)), (A_t_least, .inl (cy 4, 10, .inr (.inr (.inr (.inr (gx R_t_least 10))))))] ++ gp R_t_least t_least 10 (cy 2) 10) sz (fun u => ([(A_t, .inr (0, [.ref A_t_row, .int t_size, .ref A_t_least])), (A_s, .inr (5, [.ref A_s_upper, .ref A_s_lower, .ref A_s_limits, .ref A_s_stricts, .ref A_s_marks, .int s_size, .int s_marked, .int s_wholeness])), (A_s_upper, .inl (cy 1, 24, .inl s_upper)), (A_s_lower, .inl (cy 1, 24, .inl s_lower)), (A_s_limits, .inl (cy 1, 24, .inl s_limits)), (A_s_stricts, .inl (cy 1, 24, .inl s_stricts)), (A_t_least, .inl (cy 4, 10, .inr (.inr (.inr (.inr (gx R_t_least 10))))))] ++ gp R_t_least u 10 (cy 2) 10))) (va_A ([(A_t, .inr (0, [.ref A_t_row, .int t_size, .ref A_t_least])), (A_s, .inr (5, [.ref A_s_upper, .ref A_s_lower, .ref A_s_limits, .ref A_s_stricts, .ref A_s_marks, .int s_size, .int s_marked, .int s_wholeness])), (A_s_upper, .inl (cy 1, 24, .inl s_upper)), (A_s_lower, .inl (cy 1, 24, .inl s_lower)), (A_s_limits, .inl (cy 1, 24, .inl s_limits)), (A_s_stricts, .inl (cy 1, 24, .inl s_stricts)), (A_t_least, .inl (cy 4, 10, .inr (.inr (.inr (.inr (gx R_t_least 10))))))] ++ gp R_t_least t_least 10 (cy 2) 10) sz)) 0 0 (va_A ([(A_t, .inr (0, [.ref A_t_row, .int t_size, .ref A_t_least])), (A_s, .inr (5, [.ref A_s_upper, .ref A_s_lower, .ref A_s_limits, .ref A_s_stricts, .ref A_s_marks, .int s_size, .int s_marked, .int s_wholeness])), (A_s_upper, .inl (cy 1, 24, .inl s_upper)), (A_s_lower, .inl (cy 1, 24, .inl s_lower)), (A_s_limits, .inl (cy 1, 24, .inl s_limits)), (A_s_stricts, .inl (cy 1, 24, .inl s_stricts)), (A_t_least, .inl (cy 4, 10, .inr (.inr (.inr (.inr (gx R_t_least 10))))))] ++ gp R_t_least t_least 10 (cy 2) 10) sz) := by
  refine Met.ofW (cc := cX0_lengthen) (maxL := 10) (ret := none) (by decide) rfl ?_
  intro p e s m args below meth c s₁ B hml hv
  obtain ⟨rfl, hsz, hP, hK, hD0⟩ := hv
  have hx := B.exec
  have hb := B.bytes
  have hr := B.returns
  have hts := atoms_spec (ws := wsX0_lengthen) B.pre
  have hown : s.vm.findClass RX0 = some m.cls := findClass_of_methodNamed B.named
  have hlocks := B.notSynchronized
  have CF : CallFix p m c cX0_lengthen 10 s ([.ref A_t, .ref A_s, .int x2, .int x3] : List Value).toArray wsX0_lengthen RX0 := ⟨hx, hb, hml, hown, hts⟩
  have f0 := hts (.fieldLink RX0 17 "GapBounds$Clash" "least" "[[J") (by decide +kernel)
  have f1 := hts (.constantLong RX0 24 (4611686018427387904)) (by decide +kernel)
  have f2 := hts (.fieldLink RX0 40 "GapBounds$Store" "size" "I") (by decide +kernel)
  have f3 := hts (.fieldLink RX0 43 "GapBounds$Store" "upper" "[I") (by decide +kernel)
  have f4 := hts (.fieldLink RX0 46 "GapBounds$Store" "lower" "[I") (by decide +kernel)
  have f5 := hts (.methodLink RX0 53 Lib.MathLoose.min_long.x) (by decide +kernel)
  have f6 := hts (.static Lib.MathLoose.min_long.x) (by decide +kernel)
  have f7 := hts (.initialized "java/lang/Math") (by decide +kernel)
  have f8 := hts (.code Lib.MathLoose.min_long.x Lib.MathLoose.min_long.code 4 (some .long)) (by decide +kernel)
  have iX0 : ∀ w ∈ u_ws RX0 TX0 3, w ∈ wsX0_lengthen := by decide +kernel
  have iX5 : ∀ w ∈ u_ws RX5 TX5 8, w ∈ wsX0_lengthen := by decide +kernel
  subst hsz
  obtain ⟨A, hAe⟩ : ∃ A, A = va_A ([(A_t, .inr (0, [.ref A_t_row, .int t_size, .ref A_t_least])), (A_s, .inr (5, [.ref A_s_upper, .ref A_s_lower, .ref A_s_limits, .ref A_s_stricts, .ref A_s_marks, .int s_size, .int s_marked, .int s_wholeness])), (A_s_upper, .inl (cy 1, 24, .inl s_upper)), (A_s_lower, .inl (cy 1, 24, .inl s_lower)), (A_s_limits, .inl (cy 1, 24, .inl s_limits)), (A_s_stricts, .inl (cy 1, 24, .inl s_stricts)), (A_t_least, .inl (cy 4, 10, .inr (.inr (.inr (.inr (gx R_t_least 10))))))] ++ gp R_t_least t_least 10 (cy 2) 10) s.heap.size := ⟨_, rfl⟩
  have hD : va_D A ([(A_t, .inr (0, [.ref A_t_row, .int t_size, .ref A_t_least])), (A_s, .inr (5, [.ref A_s_upper, .ref A_s_lower, .ref A_s_limits, .ref A_s_stricts, .ref A_s_marks, .int s_size, .int s_marked, .int s_wholeness])), (A_s_upper, .inl (cy 1, 24, .inl s_upper)), (A_s_lower, .inl (cy 1, 24, .inl s_lower)), (A_s_limits, .inl (cy 1, 24, .inl s_limits)), (A_s_stricts, .inl (cy 1, 24, .inl s_stricts)), (A_t_least, .inl (cy 4, 10, .inr (.inr (.inr (.inr (gx R_t_least 10))))))] ++ gp R_t_least t_least 10 (cy 2) 10) := by rw [hAe]; exact hD0.self
  have hA : ∀ q : Nat, s.heap.size ≤ q → A q := fun q hq => by rw [hAe]; exact Or.inr hq
  have hS : va_S A s.heap s.heap [] := va_S.rf
  have hl := lv_entry [.ref A_t, .ref A_s, .int x2, .int x3] (n := 10) (Nat.le_of_ble_eq_true rfl)
  rw [lg_entry_eq]
  generalize (lg_sl [.ref A_t, .ref A_s, .int x2, .int x3] ++ List.replicate (10 - (lg_sl [.ref A_t, .ref A_s, .int x2, .int x3]).length) Slot.unset).toArray = ls at hl ⊢
  have hl : lv_has ls 10 [(0, .ref A_t), (1, .ref A_s), (2, .int x2), (3, .int x3)] := hl
  refine W.gen (fun Q0 hQ => ?_)
  have L29 : ∀ (n29 : Nat) (t_least : Nat → Nat → Int64) (x6 : Int32) (H : Heap) (locs : List Loc) (ls : Array Slot), L_X0_lengthen_29 post s_size s_wholeness s_upper s_lower s_limits s_stricts x2 x3 n29 t_least x6 → va_P D vwCl ([(A_t, .inr (0, [.ref A_t_row, .int t_size, .ref A_t_least])), (A_s, .inr (5, [.ref A_s_upper, .ref A_s_lower, .ref A_s_limits, .ref A_s_stricts, .ref A_s_marks, .int s_size, .int s_marked, .int s_wholeness])), (A_s_upper, .inl (cy 1, 24, .inl s_upper)), (A_s_lower, .inl (cy 1, 24, .inl s_lower)), (A_s_limits, .inl (cy 1, 24, .inl s_limits)), (A_s_stricts, .inl (cy 1, 24, .inl s_stricts)), (A_t_least, .inl (cy 4, 10, .inr (.inr (.inr (.inr (gx R_t_least 10))))))] ++ gp R_t_least t_least 10 (cy 2) 10) H → va_D A ([(A_t, .inr (0, [.ref A_t_row, .int t_size, .ref A_t_least])), (A_s, .inr (5, [.ref A_s_upper, .ref A_s_lower, .ref A_s_limits, .ref A_s_stricts, .ref A_s_marks, .int s_size, .int s_marked, .int s_wholeness])), (A_s_upper, .inl (cy 1, 24, .inl s_upper)), (A_s_lower, .inl (cy 1, 24, .inl s_lower)), (A_s_limits, .inl (cy 1, 24, .inl s_limits)), (A_s_stricts, .inl (cy 1, 24, .inl s_stricts)), (A_t_least, .inl (cy 4, 10, .inr (.inr (.inr (.inr (gx R_t_least 10))))))] ++ gp R_t_least t_least 10 (cy 2) 10) → va_S A s.heap H locs → vp_in (x2 - (1 : Int32)) 10 → vp_in x2 10 → lv_has ls 10 [(1, .ref A_s), (3, .int x3), (4, .ref (R_t_least (x2 - (1 : Int32)).toNatClampNeg)), (5, .ref (R_t_least x2.toNatClampNeg)), (6, .int x6)] → W p l e (headSpec wsX0_lengthen { frames := 2, cells := 0, slots := 0, locals := 60 }).room s m ([.ref A_t, .ref A_s, .int x2, .int x3] : List Value).toArray below meth c H locs 0 0 Q0 (F0 m 29 ls []) := by
    intro n29
    induction n29 with
    | zero => intro t_least x6 H locs ls h; exact False.elim h
    | succ n29 ih29 =>
      intro t_least x6 H locs ls h hP hD hS hw0 hw1 hl
      have h : LB_X0_lengthen_29 post s_size s_wholeness s_upper s_lower s_limits s_stricts x2 x3 (L_X0_lengthen_29 post s_size s_wholeness s_upper s_lower s_limits s_stricts x2 x3 n29) t_least x6 := h
      unfold LB_X0_lengthen_29 at h
      have J96 : ∀ (t_least : Nat → Nat → Int64) (x6 : Int32) (H : Heap) (locs : List Loc) (ls : Array Slot), B_X0_lengthen_96 (L_X0_lengthen_29 post s_size s_wholeness s_upper s_lower s_limits s_stricts x2 x3 n29) t_least x6 → va_P D vwCl ([(A_t, .inr (0, [.ref A_t_row, .int t_size, .ref A_t_least])), (A_s, .inr (5, [.ref A_s_upper, .ref A_s_lower, .ref A_s_limits, .ref A_s_stricts, .ref A_s_marks, .int s_size, .int s_marked, .int s_wholeness])), (A_s_upper, .inl (cy 1, 24, .inl s_upper)), (A_s_lower, .inl (cy 1, 24, .inl s_lower)), (A_s_limits, .inl (cy 1, 24, .inl s_limits)), (A_s_stricts, .inl (cy 1, 24, .inl s_stricts)), (A_t_least, .inl (cy 4, 10, .inr (.inr (.inr (.inr (gx R_t_least 10))))))] ++ gp R_t_least t_least 10 (cy 2) 10) H → va_D A ([(A_t, .inr (0, [.ref A_t_row, .int t_size, .ref A_t_least])), (A_s, .inr (5, [.ref A_s_upper, .ref A_s_lower, .ref A_s_limits, .ref A_s_stricts, .ref A_s_marks, .int s_size, .int s_marked, .int s_wholeness])), (A_s_upper, .inl (cy 1, 24, .inl s_upper)), (A_s_lower, .inl (cy 1, 24, .inl s_lower)), (A_s_limits, .inl (cy 1, 24, .inl s_limits)), (A_s_stricts, .inl (cy 1, 24, .inl s_stricts)), (A_t_least, .inl (cy 4, 10, .inr (.inr (.inr (.inr (gx R_t_least 10))))))] ++ gp R_t_least t_least 10 (cy 2) 10) → va_S A s.heap H locs → vp_in (x2 - (1 : Int32)) 10 → vp_in x2 10 → lv_has ls 10 [(1, .ref A_s), (3, .int x3), (4, .ref (R_t_least (x2 - (1 : Int32)).toNatClampNeg)), (5, .ref (R_t_least x2.toNatClampNeg)), (6, .int x6)] → W p l e (headSpec wsX0_lengthen { frames := 2, cells := 0, slots := 0, locals := 60 }).room s m ([.ref A_t, .ref A_s, .int x2, .int x3] : List Value).toArray below meth c H locs 0 0 Q0 (F0 m 96 ls []) := by
        intro t_least x6 H locs ls h hP hD hS hw0 hw1 hl
        unfold B_X0_lengthen_96 at h
        refine lv_iinc (v := x6 + (1 : Int32)) (lv' := [(6, .int (x6 + (1 : Int32))), (1, .ref A_s), (3, .int x3), (4, .ref (R_t_least (x2 - (1 : Int32)).toNatClampNeg)), (5, .ref (R_t_least x2.toNatClampNeg))]) hx hb dX0_lengthen_96 hl (k := 4) rfl rfl (by decide) rfl (fun ls hl => ?_)
        refine lv_goto (tgt := 29) hx hb dX0_lengthen_99 (by decide) ?_
        exact ih29 t_least (x6 + (1 : Int32)) H locs ls h hP hD hS (by assumption) (by assumption) (lv_sub hl [1, 2, 3, 4, 0] rfl)
      refine lv_iload hx hb dX0_lengthen_29 (lv_at hl 4 rfl) ?_
      refine lv_aload_n hx hb dX0_lengthen_31 rfl (lv_at hl 0 rfl) ?_
      refine va_get (D := D) (ci := 5) (v := .int s_size) (C := RX5) (T := TX5) (N := 8) hx hb hts iX5 hown hK.1 hP 1 rfl rfl 5 (by decide) f2 (fun _ h9 => h9) rfl dX0_lengthen_32 ?_
      refine lv_icmp_ge (tgt := 102) hx hb dX0_lengthen_35 (by decide) (fun hc => ?_) (fun hc => ?_)
      · replace h := h.1 hc
        subst hQ
        subst hAe
        exact W.vret hx hb hr (fun t ht _ => ⟨⟨t_least, rfl, h, by rw [ht]; exact hP, hD⟩, hS.F ht⟩) hS.2.2 dX0_lengthen_102
      · replace h := h.2 hc
        refine lv_aload hx hb dX0_lengthen_38 (lv_at hl 2 rfl) ?_
        refine lv_aload_n hx hb dX0_lengthen_40 rfl (lv_at hl 0 rfl) ?_
        refine va_get (D := D) (ci := 5) (v := .ref A_s_upper) (C := RX5) (T := TX5) (N := 8) hx hb hts iX5 hown hK.1 hP 1 rfl rfl 0 (by decide) f3 (fun _ h9 => h9) rfl dX0_lengthen_41 ?_
        refine lv_iload hx hb dX0_lengthen_44 (lv_at hl 4 rfl) ?_
        refine va_iald hx hb hK.1 hP 2 1 rfl rfl h.1 dX0_lengthen_46 ?_
        replace h := h.2
        refine va_lald hx hb hK.1 hP (7 + (x2 - (1 : Int32)).toNatClampNeg) 2 (gp_at (X := [(A_t, .inr (0, [.ref A_t_row, .int t_size, .ref A_t_least])), (A_s, .inr (5, [.ref A_s_upper, .ref A_s_lower, .ref A_s_limits, .ref A_s_stricts, .ref A_s_marks, .int s_size, .int s_marked, .int s_wholeness])), (A_s_upper, .inl (cy 1, 24, .inl s_upper)), (A_s_lower, .inl (cy 1, 24, .inl s_lower)), (A_s_limits, .inl (cy 1, 24, .inl s_limits)), (A_s_stricts, .inl (cy 1, 24, .inl s_stricts)), (A_t_least, .inl (cy 4, 10, .inr (.inr (.inr (.inr (gx R_t_least 10))))))]) (vp_lt (n := 10) (by assumption))) rfl h.1 dX0_lengthen_47 ?_
        replace h := h.2
        refine lv_lstore (lv' := [(7, .long (t_least (x2 - (1 : Int32)).toNatClampNeg (s_upper x6.toNatClampNeg).toNatClampNeg)), (1, .ref A_s), (3, .int x3), (4, .ref (R_t_least (x2 - (1 : Int32)).toNatClampNeg)), (5, .ref (R_t_least x2.toNatClampNeg)), (6, .int x6)]) hx hb dX0_lengthen_48 hl (by decide) rfl (fun ls hl => ?_)
        refine lv_iload hx hb dX0_lengthen_50 (lv_at hl 5 rfl) ?_
        refine lv_iload_n hx hb dX0_lengthen_52 rfl (lv_at hl 2 rfl) ?_
        refine lv_icmp_eq (tgt := 96) hx hb dX0_lengthen_53 (by decide) (fun hc => ?_) (fun hc => ?_)
        · replace h := h.1 hc
          exact J96 t_least x6 H locs ls h hP hD hS (by assumption) (by assumption) (lv_sub hl [1, 2, 3, 4, 5] rfl)
        · replace h := h.2 hc
          refine lv_lload hx hb dX0_lengthen_56 (lv_at hl 0 rfl) ?_
          refine lv_ldc2 (v := 4611686018427387904) hx hb hown f1 dX0_lengthen_58 ?_
          refine lx_eq (tgt := 96) hx hb dX0_lengthen_61 dX0_lengthen_62 (by decide) (fun hc => ?_) (fun hc => ?_)
          · replace h := h.1 hc
            exact J96 t_least x6 H locs ls h hP hD hS (by assumption) (by assumption) (lv_sub hl [1, 2, 3, 4, 5] rfl)
          · replace h := h.2 hc
            refine lv_aload_n hx hb dX0_lengthen_65 rfl (lv_at hl 1 rfl) ?_
            refine va_get (D := D) (ci := 5) (v := .ref A_s_lower) (C := RX5) (T := TX5) (N := 8) hx hb hts iX5 hown hK.1 hP 1 rfl rfl 1 (by decide) f4 (fun _ h9 => h9) rfl dX0_lengthen_66 ?_
            refine lv_iload hx hb dX0_lengthen_69 (lv_at hl 5 rfl) ?_
            refine va_iald hx hb hK.1 hP 3 1 rfl rfl h.1 dX0_lengthen_71 ?_
            replace h := h.2
            refine lv_istore (lv' := [(9, .int (s_lower x6.toNatClampNeg)), (7, .long (t_least (x2 - (1 : Int32)).toNatClampNeg (s_upper x6.toNatClampNeg).toNatClampNeg)), (1, .ref A_s), (3, .int x3), (4, .ref (R_t_least (x2 - (1 : Int32)).toNatClampNeg)), (5, .ref (R_t_least x2.toNatClampNeg)), (6, .int x6)]) hx hb dX0_lengthen_72 hl (by decide) rfl (fun ls hl => ?_)
            refine lv_aload hx hb dX0_lengthen_74 (lv_at hl 5 rfl) ?_
            refine lv_iload hx hb dX0_lengthen_76 (lv_at hl 0 rfl) ?_
            refine lv_aload hx hb dX0_lengthen_78 (lv_at hl 5 rfl) ?_
            refine lv_iload hx hb dX0_lengthen_80 (lv_at hl 0 rfl) ?_
            refine va_lald hx hb hK.1 hP (7 + x2.toNatClampNeg) 2 (gp_at (X := [(A_t, .inr (0, [.ref A_t_row, .int t_size, .ref A_t_least])), (A_s, .inr (5, [.ref A_s_upper, .ref A_s_lower, .ref A_s_limits, .ref A_s_stricts, .ref A_s_marks, .int s_size, .int s_marked, .int s_wholeness])), (A_s_upper, .inl (cy 1, 24, .inl s_upper)), (A_s_lower, .inl (cy 1, 24, .inl s_lower)), (A_s_limits, .inl (cy 1, 24, .inl s_limits)), (A_s_stricts, .inl (cy 1, 24, .inl s_stricts)), (A_t_least, .inl (cy 4, 10, .inr (.inr (.inr (.inr (gx R_t_least 10))))))]) (vp_lt (n := 10) (by assumption))) rfl h.1 dX0_lengthen_82 ?_
            replace h := h.2
            refine lv_aload_n hx hb dX0_lengthen_83 rfl (lv_at hl 2 rfl) ?_
            refine lv_iload hx hb dX0_lengthen_84 (lv_at hl 6 rfl) ?_
            have hPc := (gPL hP).sub (ws' := [(A_s, .inr (5, [.ref A_s_upper, .ref A_s_lower, .ref A_s_limits, .ref A_s_stricts, .ref A_s_marks, .int s_size, .int s_marked, .int s_wholeness])), (A_s_limits, .inl (cy 1, 24, .inl s_limits)), (A_s_stricts, .inl (cy 1, 24, .inl s_stricts))]) [1, 4, 5] rfl
            refine vp_callSl (W.runV (As := [.int x6]) (rest := [.long (t_least x2.toNatClampNeg (s_lower x6.toNatClampNeg).toNatClampNeg), .int (s_lower x6.toNatClampNeg), .ref (R_t_least x2.toNatClampNeg)]) CF (c_X5_weightOf l D cy A_s A_s_upper A_s_lower A_s_limits A_s_stricts A_s_marks s_size s_marked s_wholeness s_limits s_stricts x6 _ h) (cwV 1 hts gX0_lengthen_X5_weightOf rfl rfl rfl qX5_weightOf ⟨Nat.le_of_ble_eq_true rfl, Nat.le_of_ble_eq_true rfl⟩) (mpVR hK hPc (ci := 5) (q := (RX5, TX5, 8)) (q0 := 0) rfl rfl) rfl rfl hl.1 rfl (lv_room (Nat.le_of_ble_eq_true rfl)) dX0_lengthen_86 ⟨Nat.zero_le _, Nat.zero_le _⟩) (fun r4 h => ?_)
            refine lv_lload hx hb dX0_lengthen_89 (lv_at hl 1 rfl) ?_
            refine lv_ladd hx hb dX0_lengthen_91 ?_
            refine va_mmin_long hx hb (hml.trans hl.1.symm) hown f5 f6 f7 f8 (Nat.le_of_ble_eq_true rfl) (Nat.le_of_ble_eq_true rfl) (Nat.le_of_ble_eq_true rfl) (Nat.le_of_ble_eq_true rfl) dX0_lengthen_92 ?_
            refine va_last hx hb hK.1 hP hD hS (7 + x2.toNatClampNeg) 2 (gp_at (X := [(A_t, .inr (0, [.ref A_t_row, .int t_size, .ref A_t_least])), (A_s, .inr (5, [.ref A_s_upper, .ref A_s_lower, .ref A_s_limits, .ref A_s_stricts, .ref A_s_marks, .int s_size, .int s_marked, .int s_wholeness])), (A_s_upper, .inl (cy 1, 24, .inl s_upper)), (A_s_lower, .inl (cy 1, 24, .inl s_lower)), (A_s_limits, .inl (cy 1, 24, .inl s_limits)), (A_s_stricts, .inl (cy 1, 24, .inl s_stricts)), (A_t_least, .inl (cy 4, 10, .inr (.inr (.inr (.inr (gx R_t_least 10))))))]) (vp_lt (n := 10) (by assumption))) rfl h.1 dX0_lengthen_95 (fun H locs hP hD hS => ?_)
            replace h := h.2
            have hP := (gp_set (X := [(A_t, .inr (0, [.ref A_t_row, .int t_size, .ref A_t_least])), (A_s, .inr (5, [.ref A_s_upper, .ref A_s_lower, .ref A_s_limits, .ref A_s_stricts, .ref A_s_marks, .int s_size, .int s_marked, .int s_wholeness])), (A_s_upper, .inl (cy 1, 24, .inl s_upper)), (A_s_lower, .inl (cy 1, 24, .inl s_lower)), (A_s_limits, .inl (cy 1, 24, .inl s_limits)), (A_s_stricts, .inl (cy 1, 24, .inl s_stricts)), (A_t_least, .inl (cy 4, 10, .inr (.inr (.inr (.inr (gx R_t_least 10))))))]) (vp_lt (n := 10) (by assumption)) _).subst (motive := fun z => va_P D vwCl z H) hP
            have hD := (gp_set (X := [(A_t, .inr (0, [.ref A_t_row, .int t_size, .ref A_t_least])), (A_s, .inr (5, [.ref A_s_upper, .ref A_s_lower, .ref A_s_limits, .ref A_s_stricts, .ref A_s_marks, .int s_size, .int s_marked, .int s_wholeness])), (A_s_upper, .inl (cy 1, 24, .inl s_upper)), (A_s_lower, .inl (cy 1, 24, .inl s_lower)), (A_s_limits, .inl (cy 1, 24, .inl s_limits)), (A_s_stricts, .inl (cy 1, 24, .inl s_stricts)), (A_t_least, .inl (cy 4, 10, .inr (.inr (.inr (.inr (gx R_t_least 10))))))]) (vp_lt (n := 10) (by assumption)) _).subst (motive := fun z => va_D A z) hD
            have hP : va_P D vwCl ([(A_t, .inr (0, [.ref A_t_row, .int t_size, .ref A_t_least])), (A_s, .inr (5, [.ref A_s_upper, .ref A_s_lower, .ref A_s_limits, .ref A_s_stricts, .ref A_s_marks, .int s_size, .int s_marked, .int s_wholeness])), (A_s_upper, .inl (cy 1, 24, .inl s_upper)), (A_s_lower, .inl (cy 1, 24, .inl s_lower)), (A_s_limits, .inl (cy 1, 24, .inl s_limits)), (A_s_stricts, .inl (cy 1, 24, .inl s_stricts)), (A_t_least, .inl (cy 4, 10, .inr (.inr (.inr (.inr (gx R_t_least 10))))))] ++ gp R_t_least (va_up t_least x2.toNatClampNeg (vp_updL (t_least x2.toNatClampNeg) (s_lower x6.toNatClampNeg).toNatClampNeg (if r4 + (t_least (x2 - (1 : Int32)).toNatClampNeg (s_upper x6.toNatClampNeg).toNatClampNeg) < t_least x2.toNatClampNeg (s_lower x6.toNatClampNeg).toNatClampNeg then r4 + (t_least (x2 - (1 : Int32)).toNatClampNeg (s_upper x6.toNatClampNeg).toNatClampNeg) else t_least x2.toNatClampNeg (s_lower x6.toNatClampNeg).toNatClampNeg))) 10 (cy 2) 10) H := hP
            have hD : va_D A ([(A_t, .inr (0, [.ref A_t_row, .int t_size, .ref A_t_least])), (A_s, .inr (5, [.ref A_s_upper, .ref A_s_lower, .ref A_s_limits, .ref A_s_stricts, .ref A_s_marks, .int s_size, .int s_marked, .int s_wholeness])), (A_s_upper, .inl (cy 1, 24, .inl s_upper)), (A_s_lower, .inl (cy 1, 24, .inl s_lower)), (A_s_limits, .inl (cy 1, 24, .inl s_limits)), (A_s_stricts, .inl (cy 1, 24, .inl s_stricts)), (A_t_least, .inl (cy 4, 10, .inr (.inr (.inr (.inr (gx R_t_least 10))))))] ++ gp R_t_least (va_up t_least x2.toNatClampNeg (vp_updL (t_least x2.toNatClampNeg) (s_lower x6.toNatClampNeg).toNatClampNeg (if r4 + (t_least (x2 - (1 : Int32)).toNatClampNeg (s_upper x6.toNatClampNeg).toNatClampNeg) < t_least x2.toNatClampNeg (s_lower x6.toNatClampNeg).toNatClampNeg then r4 + (t_least (x2 - (1 : Int32)).toNatClampNeg (s_upper x6.toNatClampNeg).toNatClampNeg) else t_least x2.toNatClampNeg (s_lower x6.toNatClampNeg).toNatClampNeg))) 10 (cy 2) 10) := hD
            exact J96 (va_up t_least x2.toNatClampNeg (vp_updL (t_least x2.toNatClampNeg) (s_lower x6.toNatClampNeg).toNatClampNeg (if r4 + (t_least (x2 - (1 : Int32)).toNatClampNeg (s_upper x6.toNatClampNeg).toNatClampNeg) < t_least x2.toNatClampNeg (s_lower x6.toNatClampNeg).toNatClampNeg then r4 + (t_least (x2 - (1 : Int32)).toNatClampNeg (s_upper x6.toNatClampNeg).toNatClampNeg) else t_least x2.toNatClampNeg (s_lower x6.toNatClampNeg).toNatClampNeg))) x6 H locs ls h hP hD hS (by assumption) (by assumption) (lv_sub hl [2, 3, 4, 5, 6] rfl)
  unfold P_X0_lengthen at h
  refine lv_aload_n hx hb dX0_lengthen_0 rfl (lv_at hl 0 rfl) ?_
  refine va_get (D := D) (ci := 0) (v := .ref A_t_least) (C := RX0) (T := TX0) (N := 3) hx hb hts iX0 hown hK.1 hP 0 rfl rfl 2 (by decide) f0 (fun _ h9 => h9) rfl dX0_lengthen_1 ?_
  refine lv_iload_n hx hb dX0_lengthen_4 rfl (lv_at hl 2 rfl) ?_
  refine lv_iconst (v := 1) hx hb dX0_lengthen_5 (by decide) ?_
  refine lv_isub hx hb dX0_lengthen_6 ?_
  refine mx_alda hx hb hK.1 hP 6 4 rfl rfl h.1 dX0_lengthen_7 ?_
  have hv1 := h.1
  replace h := h.2
  refine lv_astore (lv' := [(4, .ref (R_t_least (x2 - (1 : Int32)).toNatClampNeg)), (0, .ref A_t), (1, .ref A_s), (2, .int x2), (3, .int x3)]) hx hb dX0_lengthen_8 hl (by decide) rfl (fun ls hl => ?_)
  refine lv_aload_n hx hb dX0_lengthen_10 rfl (lv_at hl 1 rfl) ?_
  refine va_get (D := D) (ci := 0) (v := .ref A_t_least) (C := RX0) (T := TX0) (N := 3) hx hb hts iX0 hown hK.1 hP 0 rfl rfl 2 (by decide) f0 (fun _ h9 => h9) rfl dX0_lengthen_11 ?_
  refine lv_iload_n hx hb dX0_lengthen_14 rfl (lv_at hl 3 rfl) ?_
  refine mx_alda hx hb hK.1 hP 6 4 rfl rfl h.1 dX0_lengthen_15 ?_
  have hv2 := h.1
  replace h := h.2
  refine lv_astore (lv' := [(5, .ref (R_t_least x2.toNatClampNeg)), (4, .ref (R_t_least (x2 - (1 : Int32)).toNatClampNeg)), (0, .ref A_t), (1, .ref A_s), (2, .int x2), (3, .int x3)]) hx hb dX0_lengthen_16 hl (by decide) rfl (fun ls hl => ?_)
  refine lv_aload hx hb dX0_lengthen_18 (lv_at hl 0 rfl) ?_
  refine lv_ldc2 (v := 4611686018427387904) hx hb hown f1 dX0_lengthen_20 ?_
  have hg3 := gp_at (X := [(A_t, .inr (0, [.ref A_t_row, .int t_size, .ref A_t_least])), (A_s, .inr (5, [.ref A_s_upper, .ref A_s_lower, .ref A_s_limits, .ref A_s_stricts, .ref A_s_marks, .int s_size, .int s_marked, .int s_wholeness])), (A_s_upper, .inl (cy 1, 24, .inl s_upper)), (A_s_lower, .inl (cy 1, 24, .inl s_lower)), (A_s_limits, .inl (cy 1, 24, .inl s_limits)), (A_s_stricts, .inl (cy 1, 24, .inl s_stricts)), (A_t_least, .inl (cy 4, 10, .inr (.inr (.inr (.inr (gx R_t_least 10))))))]) (r := R_t_least) (M := t_least) (n := 10) (k := 10) (cA := cy 2) (i := x2.toNatClampNeg) (vp_lt (n := 10) (by assumption))
  have hPc := va_P1 hP hg3
  have hDc := va_D1 hD hg3
  refine mw_1 (va_runS (As := [.ref (R_t_least x2.toNatClampNeg), .long (4611686018427387904 : Int64)]) (rest := []) CF (c_J7_fill_d0a16 l D cy s.heap.size (R_t_least x2.toNatClampNeg) 10 (t_least x2.toNatClampNeg) (4611686018427387904 : Int64) _ h) (va_cwS 2 hts gX0_lengthen_J7_fill_d0a16 rfl rfl rfl qJ7_fill_d0a16.2 ⟨Nat.le_of_ble_eq_true rfl, Nat.le_of_ble_eq_true rfl⟩) (mpSW hK hPc hDc) rfl rfl hl.1 rfl (lv_room (Nat.le_of_ble_eq_true rfl)) dX0_lengthen_23 ⟨Nat.zero_le _, Nat.zero_le _⟩) hP hD hS hA _ hg3 (fun a_v3 H locs h hP hD hS => ?_)
  have hP := (gp_set (X := [(A_t, .inr (0, [.ref A_t_row, .int t_size, .ref A_t_least])), (A_s, .inr (5, [.ref A_s_upper, .ref A_s_lower, .ref A_s_limits, .ref A_s_stricts, .ref A_s_marks, .int s_size, .int s_marked, .int s_wholeness])), (A_s_upper, .inl (cy 1, 24, .inl s_upper)), (A_s_lower, .inl (cy 1, 24, .inl s_lower)), (A_s_limits, .inl (cy 1, 24, .inl s_limits)), (A_s_stricts, .inl (cy 1, 24, .inl s_stricts)), (A_t_least, .inl (cy 4, 10, .inr (.inr (.inr (.inr (gx R_t_least 10))))))]) (vp_lt (n := 10) (by assumption)) _).subst (motive := fun z => va_P D vwCl z H) hP
  have hD := (gp_set (X := [(A_t, .inr (0, [.ref A_t_row, .int t_size, .ref A_t_least])), (A_s, .inr (5, [.ref A_s_upper, .ref A_s_lower, .ref A_s_limits, .ref A_s_stricts, .ref A_s_marks, .int s_size, .int s_marked, .int s_wholeness])), (A_s_upper, .inl (cy 1, 24, .inl s_upper)), (A_s_lower, .inl (cy 1, 24, .inl s_lower)), (A_s_limits, .inl (cy 1, 24, .inl s_limits)), (A_s_stricts, .inl (cy 1, 24, .inl s_stricts)), (A_t_least, .inl (cy 4, 10, .inr (.inr (.inr (.inr (gx R_t_least 10))))))]) (vp_lt (n := 10) (by assumption)) _).subst (motive := fun z => va_D A z) hD
  have hP : va_P D vwCl ([(A_t, .inr (0, [.ref A_t_row, .int t_size, .ref A_t_least])), (A_s, .inr (5, [.ref A_s_upper, .ref A_s_lower, .ref A_s_limits, .ref A_s_stricts, .ref A_s_marks, .int s_size, .int s_marked, .int s_wholeness])), (A_s_upper, .inl (cy 1, 24, .inl s_upper)), (A_s_lower, .inl (cy 1, 24, .inl s_lower)), (A_s_limits, .inl (cy 1, 24, .inl s_limits)), (A_s_stricts, .inl (cy 1, 24, .inl s_stricts)), (A_t_least, .inl (cy 4, 10, .inr (.inr (.inr (.inr (gx R_t_least 10))))))] ++ gp R_t_least (va_up t_least x2.toNatClampNeg a_v3) 10 (cy 2) 10) H := hP
  have hD : va_D A ([(A_t, .inr (0, [.ref A_t_row, .int t_size, .ref A_t_least])), (A_s, .inr (5, [.ref A_s_upper, .ref A_s_lower, .ref A_s_limits, .ref A_s_stricts, .ref A_s_marks, .int s_size, .int s_marked, .int s_wholeness])), (A_s_upper, .inl (cy 1, 24, .inl s_upper)), (A_s_lower, .inl (cy 1, 24, .inl s_lower)), (A_s_limits, .inl (cy 1, 24, .inl s_limits)), (A_s_stricts, .inl (cy 1, 24, .inl s_stricts)), (A_t_least, .inl (cy 4, 10, .inr (.inr (.inr (.inr (gx R_t_least 10))))))] ++ gp R_t_least (va_up t_least x2.toNatClampNeg a_v3) 10 (cy 2) 10) := hD
  refine lv_iconst (v := 0) hx hb dX0_lengthen_26 (by decide) ?_
  refine lv_istore (lv' := [(6, .int (0 : Int32)), (5, .ref (R_t_least x2.toNatClampNeg)), (4, .ref (R_t_least (x2 - (1 : Int32)).toNatClampNeg)), (0, .ref A_t), (1, .ref A_s), (2, .int x2), (3, .int x3)]) hx hb dX0_lengthen_27 hl (by decide) rfl (fun ls hl => ?_)
  obtain ⟨nn, h⟩ := h
  exact L29 nn (va_up t_least x2.toNatClampNeg a_v3) (0 : Int32) H locs ls h hP hD hS (by assumption) (by assumption) (lv_sub hl [4, 6, 2, 1, 0] rfl)
theorem qX0_firstStep : yX0_firstStep.cls = RX0 ∧ yX0_firstStep.cls ≠ "java/lang/invoke/MethodHandle" ∧ yX0_firstStep.cls ≠ "java/lang/invoke/VarHandle" ∧ (parseMethodDescriptor yX0_firstStep.desc).map (fun d => d.parameters.length) = some 5 := by decide +kernel
def B_X0_firstStep_87 (K_3 : Int32 → Prop) (x7 : Int32) : Prop :=
  K_3 (x7 + (1 : Int32))
def B_X0_firstStep_61 (post : Int32 → Prop) (K_3 : Int32 → Prop) (s_wholeness : Int32) (s_limits : Nat → Int32) (s_stricts : Nat → Int32) (k0 : Int32) (x7 : Int32) (y3 : Int64) (y8 : Int64) : Prop :=
  ((k0 = 0 → B_X0_firstStep_87 K_3 x7) ∧ (¬ k0 = 0 → P_X5_weightOf (fun (r2 : Int64) => (((0 : Int64) ≤ (y3 + r2) + y8 → B_X0_firstStep_87 K_3 x7) ∧ (¬ (0 : Int64) ≤ (y3 + r2) + y8 → post x7))) s_wholeness s_limits s_stricts x7))
def B_X0_firstStep_60 (post : Int32 → Prop) (K_3 : Int32 → Prop) (s_wholeness : Int32) (s_limits : Nat → Int32) (s_stricts : Nat → Int32) (x7 : Int32) (y3 : Int64) (y8 : Int64) : Prop :=
  B_X0_firstStep_61 post K_3 s_wholeness s_limits s_stricts (0 : Int32) x7 y3 y8
def LB_X0_firstStep_3 (post : Int32 → Prop) (s_size : Int32) (s_wholeness : Int32) (s_upper : Nat → Int32) (s_lower : Nat → Int32) (s_limits : Nat → Int32) (s_stricts : Nat → Int32) (t_least : Nat → Nat → Int64) (x2 : Int32) (x5 : Int32) (x6 : Int32) (y3 : Int64) (K_3 : Int32 → Prop) (x7 : Int32) : Prop :=
  ((s_size ≤ x7 → post (-4 : Int32)) ∧ (¬ s_size ≤ x7 → (vp_in x5 10 ∧ (vp_in x7 24 ∧ (vp_in (s_upper x7.toNatClampNeg) 10 ∧ ((x7 = x6 → B_X0_firstStep_60 post K_3 s_wholeness s_limits s_stricts x7 y3 (t_least x5.toNatClampNeg (s_upper x7.toNatClampNeg).toNatClampNeg)) ∧ (¬ x7 = x6 → (vp_in x7 24 ∧ ((¬ s_lower x7.toNatClampNeg = x2 → B_X0_firstStep_60 post K_3 s_wholeness s_limits s_stricts x7 y3 (t_least x5.toNatClampNeg (s_upper x7.toNatClampNeg).toNatClampNeg)) ∧ (s_lower x7.toNatClampNeg = x2 → ((t_least x5.toNatClampNeg (s_upper x7.toNatClampNeg).toNatClampNeg = (4611686018427387904 : Int64) → B_X0_firstStep_60 post K_3 s_wholeness s_limits s_stricts x7 y3 (t_least x5.toNatClampNeg (s_upper x7.toNatClampNeg).toNatClampNeg)) ∧ (¬ t_least x5.toNatClampNeg (s_upper x7.toNatClampNeg).toNatClampNeg = (4611686018427387904 : Int64) → B_X0_firstStep_61 post K_3 s_wholeness s_limits s_stricts (1 : Int32) x7 y3 (t_least x5.toNatClampNeg (s_upper x7.toNatClampNeg).toNatClampNeg)))))))))))))
noncomputable def L_X0_firstStep_3 (post : Int32 → Prop) (s_size : Int32) (s_wholeness : Int32) (s_upper : Nat → Int32) (s_lower : Nat → Int32) (s_limits : Nat → Int32) (s_stricts : Nat → Int32) (t_least : Nat → Nat → Int64) (x2 : Int32) (x5 : Int32) (x6 : Int32) (y3 : Int64) (n : Nat) : Int32 → Prop := Nat.rec (motive := fun _ => Int32 → Prop) (fun _ => False) (fun _ K => LB_X0_firstStep_3 post s_size s_wholeness s_upper s_lower s_limits s_stricts t_least x2 x5 x6 y3 K) n
def P_X0_firstStep (post : Int32 → Prop) (s_size : Int32) (s_wholeness : Int32) (s_upper : Nat → Int32) (s_lower : Nat → Int32) (s_limits : Nat → Int32) (s_stricts : Nat → Int32) (t_least : Nat → Nat → Int64) (x2 : Int32) (x5 : Int32) (x6 : Int32) (y3 : Int64) : Prop :=
  ∃ n : Nat, L_X0_firstStep_3 post s_size s_wholeness s_upper s_lower s_limits s_stricts t_least x2 x5 x6 y3 n (0 : Int32)
set_option maxHeartbeats 4000000 in
set_option maxRecDepth 100000 in
theorem c_X0_firstStep (l : Launch) (D : va_G) (cy : Nat → ClassId) (A_s A_s_upper A_s_lower A_s_limits A_s_stricts A_s_marks A_t A_t_row A_t_least : Nat) (R_t_least : Nat → Nat) (s_size : Int32) (s_marked : Int32) (s_wholeness : Int32) (t_size : Int32) (s_upper : Nat → Int32) (s_lower : Nat → Int32) (s_limits : Nat → Int32) (s_stricts : Nat → Int32) (t_least : Nat → Nat → Int64) (x2 : Int32) (y3 : Int64) (x5 : Int32) (x6 : Int32) (post : Int32 → Prop) (h : P_X0_firstStep post s_size s_wholeness s_upper s_lower s_limits s_stricts t_least x2 x5 x6 y3) : Met l yX0_firstStep wsX0_firstStep { frames := 2, cells := 0, slots := 0, locals := 43 } (pcR D cy ([(A_s, .inr (5, [.ref A_s_upper, .ref A_s_lower, .ref A_s_limits, .ref A_s_stricts, .ref A_s_marks, .int s_size, .int s_marked, .int s_wholeness])), (A_t, .inr (0, [.ref A_t_row, .int t_size, .ref A_t_least])), (A_s_upper, .inl (cy 1, 24, .inl s_upper)), (A_s_lower, .inl (cy 1, 24, .inl s_lower)), (A_s_limits, .inl (cy 1, 24, .inl s_limits)), (A_s_stricts, .inl (cy 1, 24, .inl s_stricts)), (A_t_least, .inl (cy 4, 10, .inr (.inr (.inr (.inr (gx R_t_least 10))))))] ++ gp R_t_least t_least 10 (cy 2) 10) [.ref A_t, .ref A_s, .int x2, .long y3, .int x5, .int x6]) (vp_Si post) 0 0 (fun _ => False) := by
  refine Met.ofW (cc := cX0_firstStep) (maxL := 11) (ret := (some .int)) (by decide) rfl ?_
  intro p e s m args below meth c s₁ B hml hv
  obtain ⟨rfl, hP, hK⟩ := hv
  have hx := B.exec
  have hb := B.bytes
  have hr := B.returns
  have hts := atoms_spec (ws := wsX0_firstStep) B.pre
  have hown : s.vm.findClass RX0 = some m.cls := findClass_of_methodNamed B.named
  have hlocks := B.notSynchronized
  have CF : CallFix p m c cX0_firstStep 11 s ([.ref A_t, .ref A_s, .int x2, .long y3, .int x5, .int x6] : List Value).toArray wsX0_firstStep RX0 := ⟨hx, hb, hml, hown, hts⟩
  have f0 := hts (.fieldLink RX0 40 "GapBounds$Store" "size" "I") (by decide +kernel)
  have f1 := hts (.fieldLink RX0 17 "GapBounds$Clash" "least" "[[J") (by decide +kernel)
  have f2 := hts (.fieldLink RX0 43 "GapBounds$Store" "upper" "[I") (by decide +kernel)
  have f3 := hts (.fieldLink RX0 46 "GapBounds$Store" "lower" "[I") (by decide +kernel)
  have f4 := hts (.constantLong RX0 24 (4611686018427387904)) (by decide +kernel)
  have iX0 : ∀ w ∈ u_ws RX0 TX0 3, w ∈ wsX0_firstStep := by decide +kernel
  have iX5 : ∀ w ∈ u_ws RX5 TX5 8, w ∈ wsX0_firstStep := by decide +kernel
  have hl := lv_entry [.ref A_t, .ref A_s, .int x2, .long y3, .int x5, .int x6] (n := 11) (Nat.le_of_ble_eq_true rfl)
  rw [lg_entry_eq]
  generalize (lg_sl [.ref A_t, .ref A_s, .int x2, .long y3, .int x5, .int x6] ++ List.replicate (11 - (lg_sl [.ref A_t, .ref A_s, .int x2, .long y3, .int x5, .int x6]).length) Slot.unset).toArray = ls at hl ⊢
  have hl : lv_has ls 11 [(0, .ref A_t), (1, .ref A_s), (2, .int x2), (3, .long y3), (5, .int x5), (6, .int x6)] := hl
  refine W.gen (fun Q0 hQ => ?_)
  have L3 : ∀ (n3 : Nat) (x7 : Int32) (ls : Array Slot), L_X0_firstStep_3 post s_size s_wholeness s_upper s_lower s_limits s_stricts t_least x2 x5 x6 y3 n3 x7 → lv_has ls 11 [(0, .ref A_t), (1, .ref A_s), (2, .int x2), (3, .long y3), (5, .int x5), (6, .int x6), (7, .int x7)] → W p l e (headSpec wsX0_firstStep { frames := 2, cells := 0, slots := 0, locals := 43 }).room s m ([.ref A_t, .ref A_s, .int x2, .long y3, .int x5, .int x6] : List Value).toArray below meth c s.heap [] 0 0 Q0 (F0 m 3 ls []) := by
    intro n3
    induction n3 with
    | zero => intro x7 ls h; exact False.elim h
    | succ n3 ih3 =>
      intro x7 ls h hl
      have h : LB_X0_firstStep_3 post s_size s_wholeness s_upper s_lower s_limits s_stricts t_least x2 x5 x6 y3 (L_X0_firstStep_3 post s_size s_wholeness s_upper s_lower s_limits s_stricts t_least x2 x5 x6 y3 n3) x7 := h
      unfold LB_X0_firstStep_3 at h
      have J87 : ∀ (x7 : Int32) (ls : Array Slot), B_X0_firstStep_87 (L_X0_firstStep_3 post s_size s_wholeness s_upper s_lower s_limits s_stricts t_least x2 x5 x6 y3 n3) x7 → lv_has ls 11 [(0, .ref A_t), (1, .ref A_s), (2, .int x2), (3, .long y3), (5, .int x5), (6, .int x6), (7, .int x7)] → W p l e (headSpec wsX0_firstStep { frames := 2, cells := 0, slots := 0, locals := 43 }).room s m ([.ref A_t, .ref A_s, .int x2, .long y3, .int x5, .int x6] : List Value).toArray below meth c s.heap [] 0 0 Q0 (F0 m 87 ls []) := by
        intro x7 ls h hl
        unfold B_X0_firstStep_87 at h
        refine lv_iinc (v := x7 + (1 : Int32)) (lv' := [(7, .int (x7 + (1 : Int32))), (0, .ref A_t), (1, .ref A_s), (2, .int x2), (3, .long y3), (5, .int x5), (6, .int x6)]) hx hb dX0_firstStep_87 hl (k := 6) rfl rfl (by decide) rfl (fun ls hl => ?_)
        refine lv_goto (tgt := 3) hx hb dX0_firstStep_90 (by decide) ?_
        exact ih3 (x7 + (1 : Int32)) ls h (lv_sub hl [1, 2, 3, 4, 5, 6, 0] rfl)
      have J61 : ∀ (x7 : Int32) (y8 : Int64) (k0 : Int32) (ls : Array Slot), B_X0_firstStep_61 post (L_X0_firstStep_3 post s_size s_wholeness s_upper s_lower s_limits s_stricts t_least x2 x5 x6 y3 n3) s_wholeness s_limits s_stricts k0 x7 y3 y8 → lv_has ls 11 [(0, .ref A_t), (1, .ref A_s), (2, .int x2), (3, .long y3), (5, .int x5), (6, .int x6), (7, .int x7), (8, .long y8)] → W p l e (headSpec wsX0_firstStep { frames := 2, cells := 0, slots := 0, locals := 43 }).room s m ([.ref A_t, .ref A_s, .int x2, .long y3, .int x5, .int x6] : List Value).toArray below meth c s.heap [] 0 0 Q0 (F0 m 61 ls [.int k0]) := by
        intro x7 y8 k0 ls h hl
        unfold B_X0_firstStep_61 at h
        refine lv_istore (lv' := [(10, .int k0), (0, .ref A_t), (1, .ref A_s), (2, .int x2), (3, .long y3), (5, .int x5), (6, .int x6), (7, .int x7), (8, .long y8)]) hx hb dX0_firstStep_61 hl (by decide) rfl (fun ls hl => ?_)
        refine lv_iload hx hb dX0_firstStep_63 (lv_at hl 0 rfl) ?_
        refine lv_if_eq (tgt := 87) hx hb dX0_firstStep_65 (by decide) (fun hc => ?_) (fun hc => ?_)
        · replace h := h.1 hc
          exact J87 x7 ls h (lv_sub hl [1, 2, 3, 4, 5, 6, 7] rfl)
        · replace h := h.2 hc
          refine lv_lload_n hx hb dX0_firstStep_68 rfl (lv_at hl 4 rfl) ?_
          refine lv_aload_n hx hb dX0_firstStep_69 rfl (lv_at hl 2 rfl) ?_
          refine lv_iload hx hb dX0_firstStep_70 (lv_at hl 7 rfl) ?_
          have hPc := (gPL hP).sub (ws' := [(A_s, .inr (5, [.ref A_s_upper, .ref A_s_lower, .ref A_s_limits, .ref A_s_stricts, .ref A_s_marks, .int s_size, .int s_marked, .int s_wholeness])), (A_s_limits, .inl (cy 1, 24, .inl s_limits)), (A_s_stricts, .inl (cy 1, 24, .inl s_stricts))]) [0, 4, 5] rfl
          refine vp_callSl (W.runV (As := [.int x7]) (rest := [.long y3]) CF (c_X5_weightOf l D cy A_s A_s_upper A_s_lower A_s_limits A_s_stricts A_s_marks s_size s_marked s_wholeness s_limits s_stricts x7 _ h) (cwV 1 hts gX0_firstStep_X5_weightOf rfl rfl rfl qX5_weightOf ⟨Nat.le_of_ble_eq_true rfl, Nat.le_of_ble_eq_true rfl⟩) (mpVR hK hPc (ci := 5) (q := (RX5, TX5, 8)) (q0 := 0) rfl rfl) rfl rfl hl.1 rfl (lv_room (Nat.le_of_ble_eq_true rfl)) dX0_firstStep_72 ⟨Nat.zero_le _, Nat.zero_le _⟩) (fun r2 h => ?_)
          refine lv_ladd hx hb dX0_firstStep_75 ?_
          refine lv_lload hx hb dX0_firstStep_76 (lv_at hl 8 rfl) ?_
          refine lv_ladd hx hb dX0_firstStep_78 ?_
          refine lv_lconst (v := 0) hx hb dX0_firstStep_79 (by decide) ?_
          refine lx_ge (tgt := 87) hx hb dX0_firstStep_80 dX0_firstStep_81 (by decide) (fun hc => ?_) (fun hc => ?_)
          · replace h := h.1 hc
            exact J87 x7 ls h (lv_sub hl [1, 2, 3, 4, 5, 6, 7] rfl)
          · replace h := h.2 hc
            refine lv_iload hx hb dX0_firstStep_84 (lv_at hl 7 rfl) ?_
            subst hQ
            exact W.iret (v := x7) hx hb hr (fun t ht _ => ⟨x7, rfl, h, ht⟩) (fun _ hq => absurd hq List.not_mem_nil) dX0_firstStep_86
      have J60 : ∀ (x7 : Int32) (y8 : Int64) (ls : Array Slot), B_X0_firstStep_60 post (L_X0_firstStep_3 post s_size s_wholeness s_upper s_lower s_limits s_stricts t_least x2 x5 x6 y3 n3) s_wholeness s_limits s_stricts x7 y3 y8 → lv_has ls 11 [(0, .ref A_t), (1, .ref A_s), (2, .int x2), (3, .long y3), (5, .int x5), (6, .int x6), (7, .int x7), (8, .long y8)] → W p l e (headSpec wsX0_firstStep { frames := 2, cells := 0, slots := 0, locals := 43 }).room s m ([.ref A_t, .ref A_s, .int x2, .long y3, .int x5, .int x6] : List Value).toArray below meth c s.heap [] 0 0 Q0 (F0 m 60 ls []) := by
        intro x7 y8 ls h hl
        unfold B_X0_firstStep_60 at h
        refine lv_iconst (v := 0) hx hb dX0_firstStep_60 (by decide) ?_
        exact J61 x7 y8 (0 : Int32) ls h (lv_sub hl [0, 1, 2, 3, 4, 5, 6, 7] rfl)
      refine lv_iload hx hb dX0_firstStep_3 (lv_at hl 6 rfl) ?_
      refine lv_aload_n hx hb dX0_firstStep_5 rfl (lv_at hl 1 rfl) ?_
      refine va_get (D := D) (ci := 5) (v := .int s_size) (C := RX5) (T := TX5) (N := 8) hx hb hts iX5 hown hK.1 hP 0 rfl rfl 5 (by decide) f0 (fun _ h9 => h9) rfl dX0_firstStep_6 ?_
      refine lv_icmp_ge (tgt := 93) hx hb dX0_firstStep_9 (by decide) (fun hc => ?_) (fun hc => ?_)
      · replace h := h.1 hc
        refine lv_bipush (v := -4) hx hb dX0_firstStep_93 (by decide) ?_
        subst hQ
        exact W.iret (v := (-4 : Int32)) hx hb hr (fun t ht _ => ⟨(-4 : Int32), rfl, h, ht⟩) (fun _ hq => absurd hq List.not_mem_nil) dX0_firstStep_95
      · replace h := h.2 hc
        refine lv_aload_n hx hb dX0_firstStep_12 rfl (lv_at hl 0 rfl) ?_
        refine va_get (D := D) (ci := 0) (v := .ref A_t_least) (C := RX0) (T := TX0) (N := 3) hx hb hts iX0 hown hK.1 hP 1 rfl rfl 2 (by decide) f1 (fun _ h9 => h9) rfl dX0_firstStep_13 ?_
        refine lv_iload hx hb dX0_firstStep_16 (lv_at hl 4 rfl) ?_
        refine mx_alda hx hb hK.1 hP 6 4 rfl rfl h.1 dX0_firstStep_18 ?_
        have hv1 := h.1
        replace h := h.2
        refine lv_aload_n hx hb dX0_firstStep_19 rfl (lv_at hl 1 rfl) ?_
        refine va_get (D := D) (ci := 5) (v := .ref A_s_upper) (C := RX5) (T := TX5) (N := 8) hx hb hts iX5 hown hK.1 hP 0 rfl rfl 0 (by decide) f2 (fun _ h9 => h9) rfl dX0_firstStep_20 ?_
        refine lv_iload hx hb dX0_firstStep_23 (lv_at hl 6 rfl) ?_
        refine va_iald hx hb hK.1 hP 2 1 rfl rfl h.1 dX0_firstStep_25 ?_
        replace h := h.2
        refine va_lald hx hb hK.1 hP (7 + x5.toNatClampNeg) 2 (gp_at (X := [(A_s, .inr (5, [.ref A_s_upper, .ref A_s_lower, .ref A_s_limits, .ref A_s_stricts, .ref A_s_marks, .int s_size, .int s_marked, .int s_wholeness])), (A_t, .inr (0, [.ref A_t_row, .int t_size, .ref A_t_least])), (A_s_upper, .inl (cy 1, 24, .inl s_upper)), (A_s_lower, .inl (cy 1, 24, .inl s_lower)), (A_s_limits, .inl (cy 1, 24, .inl s_limits)), (A_s_stricts, .inl (cy 1, 24, .inl s_stricts)), (A_t_least, .inl (cy 4, 10, .inr (.inr (.inr (.inr (gx R_t_least 10))))))]) (vp_lt (n := 10) (by assumption))) rfl h.1 dX0_firstStep_26 ?_
        replace h := h.2
        refine lv_lstore (lv' := [(8, .long (t_least x5.toNatClampNeg (s_upper x7.toNatClampNeg).toNatClampNeg)), (0, .ref A_t), (1, .ref A_s), (2, .int x2), (3, .long y3), (5, .int x5), (6, .int x6), (7, .int x7)]) hx hb dX0_firstStep_27 hl (by decide) rfl (fun ls hl => ?_)
        refine lv_iload hx hb dX0_firstStep_29 (lv_at hl 7 rfl) ?_
        refine lv_iload hx hb dX0_firstStep_31 (lv_at hl 6 rfl) ?_
        refine lv_icmp_eq (tgt := 60) hx hb dX0_firstStep_33 (by decide) (fun hc => ?_) (fun hc => ?_)
        · replace h := h.1 hc
          exact J60 x7 (t_least x5.toNatClampNeg (s_upper x7.toNatClampNeg).toNatClampNeg) ls h (lv_sub hl [1, 2, 3, 4, 5, 6, 7, 0] rfl)
        · replace h := h.2 hc
          refine lv_aload_n hx hb dX0_firstStep_36 rfl (lv_at hl 2 rfl) ?_
          refine va_get (D := D) (ci := 5) (v := .ref A_s_lower) (C := RX5) (T := TX5) (N := 8) hx hb hts iX5 hown hK.1 hP 0 rfl rfl 1 (by decide) f3 (fun _ h9 => h9) rfl dX0_firstStep_37 ?_
          refine lv_iload hx hb dX0_firstStep_40 (lv_at hl 7 rfl) ?_
          refine va_iald hx hb hK.1 hP 3 1 rfl rfl h.1 dX0_firstStep_42 ?_
          replace h := h.2
          refine lv_iload_n hx hb dX0_firstStep_43 rfl (lv_at hl 3 rfl) ?_
          refine lv_icmp_ne (tgt := 60) hx hb dX0_firstStep_44 (by decide) (fun hc => ?_) (fun hc => ?_)
          · replace h := h.1 hc
            exact J60 x7 (t_least x5.toNatClampNeg (s_upper x7.toNatClampNeg).toNatClampNeg) ls h (lv_sub hl [1, 2, 3, 4, 5, 6, 7, 0] rfl)
          · replace h := h.2 hc
            refine lv_lload hx hb dX0_firstStep_47 (lv_at hl 0 rfl) ?_
            refine lv_ldc2 (v := 4611686018427387904) hx hb hown f4 dX0_firstStep_49 ?_
            refine lx_eq (tgt := 60) hx hb dX0_firstStep_52 dX0_firstStep_53 (by decide) (fun hc => ?_) (fun hc => ?_)
            · replace h := h.1 hc
              exact J60 x7 (t_least x5.toNatClampNeg (s_upper x7.toNatClampNeg).toNatClampNeg) ls h (lv_sub hl [1, 2, 3, 4, 5, 6, 7, 0] rfl)
            · replace h := h.2 hc
              refine lv_iconst (v := 1) hx hb dX0_firstStep_56 (by decide) ?_
              refine lv_goto (tgt := 61) hx hb dX0_firstStep_57 (by decide) ?_
              exact J61 x7 (t_least x5.toNatClampNeg (s_upper x7.toNatClampNeg).toNatClampNeg) (1 : Int32) ls h (lv_sub hl [1, 2, 3, 4, 5, 6, 7, 0] rfl)
  unfold P_X0_firstStep at h
  refine lv_iconst (v := 0) hx hb dX0_firstStep_0 (by decide) ?_
  refine lv_istore (lv' := [(7, .int (0 : Int32)), (0, .ref A_t), (1, .ref A_s), (2, .int x2), (3, .long y3), (5, .int x5), (6, .int x6)]) hx hb dX0_firstStep_1 hl (by decide) rfl (fun ls hl => ?_)
  obtain ⟨nn, h⟩ := h
  exact L3 nn (0 : Int32) ls h (lv_sub hl [1, 2, 3, 4, 5, 6, 0] rfl)
theorem qX0_trace : yX0_trace.cls = RX0 ∧ yX0_trace.cls ≠ "java/lang/invoke/MethodHandle" ∧ yX0_trace.cls ≠ "java/lang/invoke/VarHandle" ∧ (parseMethodDescriptor yX0_trace.desc).map (fun d => d.parameters.length) = some 5 := by decide +kernel
def LB_X0_trace_12 (post : Int32 → (Nat → Int32) → Prop) (s_size : Int32) (s_wholeness : Int32) (s_upper : Nat → Int32) (s_lower : Nat → Int32) (s_limits : Nat → Int32) (s_stricts : Nat → Int32) (t_least : Nat → Nat → Int64) (x6 : Int32) (K_12 : Int32 → (Nat → Int32) → Int32 → Int64 → Int32 → Prop) (t_size : Int32) (t_row : Nat → Int32) (x7 : Int32) (y8 : Int64) (x10 : Int32) : Prop :=
  ((x10 < 0 → post t_size t_row) ∧ (¬ x10 < 0 → P_X0_firstStep (fun (r1 : Int32) => ((0 ≤ r1 → (vp_in t_size 10 ∧ P_X5_weightOf (fun (r2 : Int64) => (vp_in r1 24 ∧ K_12 (t_size + (1 : Int32)) (upd t_row t_size.toNatClampNeg r1) (s_upper r1.toNatClampNeg) (y8 + r2) (x10 + (-1 : Int32)))) s_wholeness s_limits s_stricts r1)) ∧ (¬ 0 ≤ r1 → post t_size t_row))) s_size s_wholeness s_upper s_lower s_limits s_stricts t_least x7 x10 x6 y8))
noncomputable def L_X0_trace_12 (post : Int32 → (Nat → Int32) → Prop) (s_size : Int32) (s_wholeness : Int32) (s_upper : Nat → Int32) (s_lower : Nat → Int32) (s_limits : Nat → Int32) (s_stricts : Nat → Int32) (t_least : Nat → Nat → Int64) (x6 : Int32) (n : Nat) : Int32 → (Nat → Int32) → Int32 → Int64 → Int32 → Prop := Nat.rec (motive := fun _ => Int32 → (Nat → Int32) → Int32 → Int64 → Int32 → Prop) (fun _ _ _ _ _ => False) (fun _ K => LB_X0_trace_12 post s_size s_wholeness s_upper s_lower s_limits s_stricts t_least x6 K) n
def P_X0_trace (post : Int32 → (Nat → Int32) → Prop) (s_size : Int32) (s_wholeness : Int32) (t_size : Int32) (s_upper : Nat → Int32) (s_lower : Nat → Int32) (s_limits : Nat → Int32) (s_stricts : Nat → Int32) (t_row : Nat → Int32) (t_least : Nat → Nat → Int64) (x2 : Int32) (x5 : Int32) (x6 : Int32) (y3 : Int64) : Prop :=
  ∃ n : Nat, L_X0_trace_12 post s_size s_wholeness s_upper s_lower s_limits s_stricts t_least x6 n t_size t_row x2 y3 (x5 - (1 : Int32))
set_option maxHeartbeats 4000000 in
set_option maxRecDepth 100000 in
theorem c_X0_trace (l : Launch) (D : va_G) (cy : Nat → ClassId) (sz : Nat) (A_s A_s_upper A_s_lower A_s_limits A_s_stricts A_s_marks A_t A_t_row A_t_least : Nat) (R_t_least : Nat → Nat) (s_size : Int32) (s_marked : Int32) (s_wholeness : Int32) (t_size : Int32) (s_upper : Nat → Int32) (s_lower : Nat → Int32) (s_limits : Nat → Int32) (s_stricts : Nat → Int32) (t_row : Nat → Int32) (t_least : Nat → Nat → Int64) (x2 : Int32) (y3 : Int64) (x5 : Int32) (x6 : Int32) (post : Int32 → (Nat → Int32) → Prop) (h : P_X0_trace post s_size s_wholeness t_size s_upper s_lower s_limits s_stricts t_row t_least x2 x5 x6 y3) : Met l yX0_trace wsX0_trace { frames := 3, cells := 0, slots := 0, locals := 73 } (pcW D cy ([(A_s, .inr (5, [.ref A_s_upper, .ref A_s_lower, .ref A_s_limits, .ref A_s_stricts, .ref A_s_marks, .int s_size, .int s_marked, .int s_wholeness])), (A_t, .inr (0, [.ref A_t_row, .int t_size, .ref A_t_least])), (A_s_upper, .inl (cy 1, 24, .inl s_upper)), (A_s_lower, .inl (cy 1, 24, .inl s_lower)), (A_s_limits, .inl (cy 1, 24, .inl s_limits)), (A_s_stricts, .inl (cy 1, 24, .inl s_stricts)), (A_t_row, .inl (cy 1, 10, .inl t_row)), (A_t_least, .inl (cy 4, 10, .inr (.inr (.inr (.inr (gx R_t_least 10))))))] ++ gp R_t_least t_least 10 (cy 2) 10) sz [.ref A_t, .ref A_s, .int x2, .long y3, .int x5, .int x6]) (va_Qv (fun (u : Int32 × (Nat → Int32)) => post u.1 u.2) (bW D ([(A_s, .inr (5, [.ref A_s_upper, .ref A_s_lower, .ref A_s_limits, .ref A_s_stricts, .ref A_s_marks, .int s_size, .int s_marked, .int s_wholeness])), (A_t, .inr (0, [.ref A_t_row, .int t_size, .ref A_t_least])), (A_s_upper, .inl (cy 1, 24, .inl s_upper)), (A_s_lower, .inl (cy 1, 24, .inl s_lower)), (A_s_limits, .inl (cy 1, 24, .inl s_limits)), (A_s_stricts, .inl (cy 1, 24, .inl s_stricts)), (A_t_row, .inl (cy 1, 10, .inl t_row)), (A_t_least, .inl (cy 4, 10, .inr (.inr (.inr (.inr (gx R_t_least 10))))))] ++ gp R_t_least t_least 10 (cy 2) 10) sz (fun u => ([(A_s, .inr (5, [.ref A_s_upper, .ref A_s_lower, .ref A_s_limits, .ref A_s_stricts, .ref A_s_marks, .int s_size, .int s_marked, .int s_wholeness])), (A_t, .inr (0, [.ref A_t_row, .int (u.1), .ref A_t_least])), (A_s_upper, .inl (cy 1, 24, .inl s_upper)), (A_s_lower, .inl (cy 1, 24, .inl s_lower)), (A_s_limits, .inl (cy 1, 24, .inl s_limits)), (A_s_stricts, .inl (cy 1, 24, .inl s_stricts)), (A_t_row, .inl (cy 1, 10, .inl u.2)), (A_t_least, .inl (cy 4, 10, .inr (.inr (.inr (.inr (gx R_t_least 10))))))] ++ gp R_t_least t_least 10 (cy 2) 10))) (va_A ([(A_s, .inr (5, [.ref A_s_upper, .ref A_s_lower, .ref A_s_limits, .ref A_s_stricts, .ref A_s_marks, .int s_size, .int s_marked, .int s_wholeness])), (A_t, .inr (0, [.ref A_t_row, .int t_size, .ref A_t_least])), (A_s_upper, .inl (cy 1, 24, .inl s_upper)), (A_s_lower, .inl (cy 1, 24, .inl s_lower)), (A_s_limits, .inl (cy 1, 24, .inl s_limits)), (A_s_stricts, .inl (cy 1, 24, .inl s_stricts)), (A_t_row, .inl (cy 1, 10, .inl t_row)), (A_t_least, .inl (cy 4, 10, .inr (.inr (.inr (.inr (gx R_t_least 10))))))] ++ gp R_t_least t_least 10 (cy 2) 10) sz)) 0 0 (va_A ([(A_s, .inr (5, [.ref A_s_upper, .ref A_s_lower, .ref A_s_limits, .ref A_s_stricts, .ref A_s_marks, .int s_size, .int s_marked, .int s_wholeness])), (A_t, .inr (0, [.ref A_t_row, .int t_size, .ref A_t_least])), (A_s_upper, .inl (cy 1, 24, .inl s_upper)), (A_s_lower, .inl (cy 1, 24, .inl s_lower)), (A_s_limits, .inl (cy 1, 24, .inl s_limits)), (A_s_stricts, .inl (cy 1, 24, .inl s_stricts)), (A_t_row, .inl (cy 1, 10, .inl t_row)), (A_t_least, .inl (cy 4, 10, .inr (.inr (.inr (.inr (gx R_t_least 10))))))] ++ gp R_t_least t_least 10 (cy 2) 10) sz) := by
  refine Met.ofW (cc := cX0_trace) (maxL := 12) (ret := none) (by decide) rfl ?_
  intro p e s m args below meth c s₁ B hml hv
  obtain ⟨rfl, hsz, hP, hK, hD0⟩ := hv
  have hx := B.exec
  have hb := B.bytes
  have hr := B.returns
  have hts := atoms_spec (ws := wsX0_trace) B.pre
  have hown : s.vm.findClass RX0 = some m.cls := findClass_of_methodNamed B.named
  have hlocks := B.notSynchronized
  have CF : CallFix p m c cX0_trace 12 s ([.ref A_t, .ref A_s, .int x2, .long y3, .int x5, .int x6] : List Value).toArray wsX0_trace RX0 := ⟨hx, hb, hml, hown, hts⟩
  have f0 := hts (.fieldLink RX0 9 "GapBounds$Clash" "row" "[I") (by decide +kernel)
  have f1 := hts (.fieldLink RX0 20 "GapBounds$Clash" "size" "I") (by decide +kernel)
  have f2 := hts (.fieldLink RX0 43 "GapBounds$Store" "upper" "[I") (by decide +kernel)
  have iX0 : ∀ w ∈ u_ws RX0 TX0 3, w ∈ wsX0_trace := by decide +kernel
  have iX5 : ∀ w ∈ u_ws RX5 TX5 8, w ∈ wsX0_trace := by decide +kernel
  subst hsz
  obtain ⟨A, hAe⟩ : ∃ A, A = va_A ([(A_s, .inr (5, [.ref A_s_upper, .ref A_s_lower, .ref A_s_limits, .ref A_s_stricts, .ref A_s_marks, .int s_size, .int s_marked, .int s_wholeness])), (A_t, .inr (0, [.ref A_t_row, .int t_size, .ref A_t_least])), (A_s_upper, .inl (cy 1, 24, .inl s_upper)), (A_s_lower, .inl (cy 1, 24, .inl s_lower)), (A_s_limits, .inl (cy 1, 24, .inl s_limits)), (A_s_stricts, .inl (cy 1, 24, .inl s_stricts)), (A_t_row, .inl (cy 1, 10, .inl t_row)), (A_t_least, .inl (cy 4, 10, .inr (.inr (.inr (.inr (gx R_t_least 10))))))] ++ gp R_t_least t_least 10 (cy 2) 10) s.heap.size := ⟨_, rfl⟩
  have hD : va_D A ([(A_s, .inr (5, [.ref A_s_upper, .ref A_s_lower, .ref A_s_limits, .ref A_s_stricts, .ref A_s_marks, .int s_size, .int s_marked, .int s_wholeness])), (A_t, .inr (0, [.ref A_t_row, .int t_size, .ref A_t_least])), (A_s_upper, .inl (cy 1, 24, .inl s_upper)), (A_s_lower, .inl (cy 1, 24, .inl s_lower)), (A_s_limits, .inl (cy 1, 24, .inl s_limits)), (A_s_stricts, .inl (cy 1, 24, .inl s_stricts)), (A_t_row, .inl (cy 1, 10, .inl t_row)), (A_t_least, .inl (cy 4, 10, .inr (.inr (.inr (.inr (gx R_t_least 10))))))] ++ gp R_t_least t_least 10 (cy 2) 10) := by rw [hAe]; exact hD0.self
  have hA : ∀ q : Nat, s.heap.size ≤ q → A q := fun q hq => by rw [hAe]; exact Or.inr hq
  have hS : va_S A s.heap s.heap [] := va_S.rf
  have hl := lv_entry [.ref A_t, .ref A_s, .int x2, .long y3, .int x5, .int x6] (n := 12) (Nat.le_of_ble_eq_true rfl)
  rw [lg_entry_eq]
  generalize (lg_sl [.ref A_t, .ref A_s, .int x2, .long y3, .int x5, .int x6] ++ List.replicate (12 - (lg_sl [.ref A_t, .ref A_s, .int x2, .long y3, .int x5, .int x6]).length) Slot.unset).toArray = ls at hl ⊢
  have hl : lv_has ls 12 [(0, .ref A_t), (1, .ref A_s), (2, .int x2), (3, .long y3), (5, .int x5), (6, .int x6)] := hl
  refine W.gen (fun Q0 hQ => ?_)
  have L12 : ∀ (n12 : Nat) (t_size : Int32) (t_row : Nat → Int32) (x7 : Int32) (y8 : Int64) (x10 : Int32) (H : Heap) (locs : List Loc) (ls : Array Slot), L_X0_trace_12 post s_size s_wholeness s_upper s_lower s_limits s_stricts t_least x6 n12 t_size t_row x7 y8 x10 → va_P D vwCl ([(A_s, .inr (5, [.ref A_s_upper, .ref A_s_lower, .ref A_s_limits, .ref A_s_stricts, .ref A_s_marks, .int s_size, .int s_marked, .int s_wholeness])), (A_t, .inr (0, [.ref A_t_row, .int t_size, .ref A_t_least])), (A_s_upper, .inl (cy 1, 24, .inl s_upper)), (A_s_lower, .inl (cy 1, 24, .inl s_lower)), (A_s_limits, .inl (cy 1, 24, .inl s_limits)), (A_s_stricts, .inl (cy 1, 24, .inl s_stricts)), (A_t_row, .inl (cy 1, 10, .inl t_row)), (A_t_least, .inl (cy 4, 10, .inr (.inr (.inr (.inr (gx R_t_least 10))))))] ++ gp R_t_least t_least 10 (cy 2) 10) H → va_D A ([(A_s, .inr (5, [.ref A_s_upper, .ref A_s_lower, .ref A_s_limits, .ref A_s_stricts, .ref A_s_marks, .int s_size, .int s_marked, .int s_wholeness])), (A_t, .inr (0, [.ref A_t_row, .int t_size, .ref A_t_least])), (A_s_upper, .inl (cy 1, 24, .inl s_upper)), (A_s_lower, .inl (cy 1, 24, .inl s_lower)), (A_s_limits, .inl (cy 1, 24, .inl s_limits)), (A_s_stricts, .inl (cy 1, 24, .inl s_stricts)), (A_t_row, .inl (cy 1, 10, .inl t_row)), (A_t_least, .inl (cy 4, 10, .inr (.inr (.inr (.inr (gx R_t_least 10))))))] ++ gp R_t_least t_least 10 (cy 2) 10) → va_S A s.heap H locs → lv_has ls 12 [(0, .ref A_t), (1, .ref A_s), (6, .int x6), (7, .int x7), (8, .long y8), (10, .int x10)] → W p l e (headSpec wsX0_trace { frames := 3, cells := 0, slots := 0, locals := 73 }).room s m ([.ref A_t, .ref A_s, .int x2, .long y3, .int x5, .int x6] : List Value).toArray below meth c H locs 0 0 Q0 (F0 m 12 ls []) := by
    intro n12
    induction n12 with
    | zero => intro t_size t_row x7 y8 x10 H locs ls h; exact False.elim h
    | succ n12 ih12 =>
      intro t_size t_row x7 y8 x10 H locs ls h hP hD hS hl
      have h : LB_X0_trace_12 post s_size s_wholeness s_upper s_lower s_limits s_stricts t_least x6 (L_X0_trace_12 post s_size s_wholeness s_upper s_lower s_limits s_stricts t_least x6 n12) t_size t_row x7 y8 x10 := h
      unfold LB_X0_trace_12 at h
      refine lv_iload hx hb dX0_trace_12 (lv_at hl 5 rfl) ?_
      refine lv_if_lt (tgt := 85) hx hb dX0_trace_14 (by decide) (fun hc => ?_) (fun hc => ?_)
      · replace h := h.1 hc
        subst hQ
        subst hAe
        exact W.vret hx hb hr (fun t ht _ => ⟨⟨(t_size, t_row), rfl, h, by rw [ht]; exact hP, hD⟩, hS.F ht⟩) hS.2.2 dX0_trace_85
      · replace h := h.2 hc
        refine lv_aload_n hx hb dX0_trace_17 rfl (lv_at hl 0 rfl) ?_
        refine lv_aload_n hx hb dX0_trace_18 rfl (lv_at hl 1 rfl) ?_
        refine lv_iload hx hb dX0_trace_19 (lv_at hl 3 rfl) ?_
        refine lv_lload hx hb dX0_trace_21 (lv_at hl 4 rfl) ?_
        refine lv_iload hx hb dX0_trace_23 (lv_at hl 5 rfl) ?_
        refine lv_iload hx hb dX0_trace_25 (lv_at hl 2 rfl) ?_
        have hPc := gPs (X' := [(A_s, .inr (5, [.ref A_s_upper, .ref A_s_lower, .ref A_s_limits, .ref A_s_stricts, .ref A_s_marks, .int s_size, .int s_marked, .int s_wholeness])), (A_t, .inr (0, [.ref A_t_row, .int t_size, .ref A_t_least])), (A_s_upper, .inl (cy 1, 24, .inl s_upper)), (A_s_lower, .inl (cy 1, 24, .inl s_lower)), (A_s_limits, .inl (cy 1, 24, .inl s_limits)), (A_s_stricts, .inl (cy 1, 24, .inl s_stricts)), (A_t_least, .inl (cy 4, 10, .inr (.inr (.inr (.inr (gx R_t_least 10))))))]) hP [0, 1, 2, 3, 4, 5, 7] rfl
        refine vp_callSi (W.runV (As := [.ref A_s, .int x7, .long y8, .int x10, .int x6]) (rest := []) CF (c_X0_firstStep l D cy A_s A_s_upper A_s_lower A_s_limits A_s_stricts A_s_marks A_t A_t_row A_t_least R_t_least s_size s_marked s_wholeness t_size s_upper s_lower s_limits s_stricts t_least x7 y8 x10 x6 _ h) (cwV 5 hts gX0_trace_X0_firstStep rfl rfl rfl qX0_firstStep ⟨Nat.le_of_ble_eq_true rfl, Nat.le_of_ble_eq_true rfl⟩) (mpVR hK hPc (ci := 0) (q := (RX0, TX0, 3)) (q0 := 1) rfl rfl) rfl rfl hl.1 rfl (lv_room (Nat.le_of_ble_eq_true rfl)) dX0_trace_27 ⟨Nat.zero_le _, Nat.zero_le _⟩) (fun r1 h => ?_)
        refine lv_istore (lv' := [(11, .int r1), (0, .ref A_t), (1, .ref A_s), (6, .int x6), (7, .int x7), (8, .long y8), (10, .int x10)]) hx hb dX0_trace_30 hl (by decide) rfl (fun ls hl => ?_)
        refine lv_iload hx hb dX0_trace_32 (lv_at hl 0 rfl) ?_
        refine lv_if_ge (tgt := 38) hx hb dX0_trace_34 (by decide) (fun hc => ?_) (fun hc => ?_)
        · replace h := h.1 hc
          refine lv_aload_n hx hb dX0_trace_38 rfl (lv_at hl 1 rfl) ?_
          refine va_get (D := D) (ci := 0) (v := .ref A_t_row) (C := RX0) (T := TX0) (N := 3) hx hb hts iX0 hown hK.1 hP 1 rfl rfl 0 (by decide) f0 (fun _ h9 => h9) rfl dX0_trace_39 ?_
          refine lv_aload_n hx hb dX0_trace_42 rfl (lv_at hl 1 rfl) ?_
          refine va_get (D := D) (ci := 0) (v := .int t_size) (C := RX0) (T := TX0) (N := 3) hx hb hts iX0 hown hK.1 hP 1 rfl rfl 1 (by decide) f1 (fun _ h9 => h9) rfl dX0_trace_43 ?_
          refine lv_iload hx hb dX0_trace_46 (lv_at hl 0 rfl) ?_
          refine va_iast hx hb hK.1 hP hD hS 6 1 rfl rfl h.1 dX0_trace_48 (fun H locs hP hD hS => ?_)
          replace h := h.2
          have hP : va_P D vwCl ([(A_s, .inr (5, [.ref A_s_upper, .ref A_s_lower, .ref A_s_limits, .ref A_s_stricts, .ref A_s_marks, .int s_size, .int s_marked, .int s_wholeness])), (A_t, .inr (0, [.ref A_t_row, .int t_size, .ref A_t_least])), (A_s_upper, .inl (cy 1, 24, .inl s_upper)), (A_s_lower, .inl (cy 1, 24, .inl s_lower)), (A_s_limits, .inl (cy 1, 24, .inl s_limits)), (A_s_stricts, .inl (cy 1, 24, .inl s_stricts)), (A_t_row, .inl (cy 1, 10, .inl (upd t_row t_size.toNatClampNeg r1))), (A_t_least, .inl (cy 4, 10, .inr (.inr (.inr (.inr (gx R_t_least 10))))))] ++ gp R_t_least t_least 10 (cy 2) 10) H := hP
          have hD : va_D A ([(A_s, .inr (5, [.ref A_s_upper, .ref A_s_lower, .ref A_s_limits, .ref A_s_stricts, .ref A_s_marks, .int s_size, .int s_marked, .int s_wholeness])), (A_t, .inr (0, [.ref A_t_row, .int t_size, .ref A_t_least])), (A_s_upper, .inl (cy 1, 24, .inl s_upper)), (A_s_lower, .inl (cy 1, 24, .inl s_lower)), (A_s_limits, .inl (cy 1, 24, .inl s_limits)), (A_s_stricts, .inl (cy 1, 24, .inl s_stricts)), (A_t_row, .inl (cy 1, 10, .inl (upd t_row t_size.toNatClampNeg r1))), (A_t_least, .inl (cy 4, 10, .inr (.inr (.inr (.inr (gx R_t_least 10))))))] ++ gp R_t_least t_least 10 (cy 2) 10) := hD
          refine lv_aload_n hx hb dX0_trace_49 rfl (lv_at hl 1 rfl) ?_
          refine lv_dup hx hb dX0_trace_50 rfl ?_
          refine va_get (D := D) (ci := 0) (v := .int t_size) (C := RX0) (T := TX0) (N := 3) hx hb hts iX0 hown hK.1 hP 1 rfl rfl 1 (by decide) f1 (fun _ h9 => h9) rfl dX0_trace_51 ?_
          refine lv_iconst (v := 1) hx hb dX0_trace_54 (by decide) ?_
          refine lv_iadd hx hb dX0_trace_55 ?_
          refine va_put (D := D) (ci := 0) (v := .int (t_size + (1 : Int32))) (ty := .int) (C := RX0) (T := TX0) (N := 3) hx hb hts iX0 tyX0 tyX0_ok nmX0 hown hK.1 hP hD hS 1 rfl rfl 1 (by decide) f1 (fun _ h9 => h9) rfl (tyX0_ok 1 (by decide)) rfl rfl (Nat.le_of_ble_eq_true rfl) dX0_trace_56 (fun H locs hP hD hS => ?_)
          have hP : va_P D vwCl ([(A_s, .inr (5, [.ref A_s_upper, .ref A_s_lower, .ref A_s_limits, .ref A_s_stricts, .ref A_s_marks, .int s_size, .int s_marked, .int s_wholeness])), (A_t, .inr (0, [.ref A_t_row, .int (t_size + (1 : Int32)), .ref A_t_least])), (A_s_upper, .inl (cy 1, 24, .inl s_upper)), (A_s_lower, .inl (cy 1, 24, .inl s_lower)), (A_s_limits, .inl (cy 1, 24, .inl s_limits)), (A_s_stricts, .inl (cy 1, 24, .inl s_stricts)), (A_t_row, .inl (cy 1, 10, .inl (upd t_row t_size.toNatClampNeg r1))), (A_t_least, .inl (cy 4, 10, .inr (.inr (.inr (.inr (gx R_t_least 10))))))] ++ gp R_t_least t_least 10 (cy 2) 10) H := hP
          have hD : va_D A ([(A_s, .inr (5, [.ref A_s_upper, .ref A_s_lower, .ref A_s_limits, .ref A_s_stricts, .ref A_s_marks, .int s_size, .int s_marked, .int s_wholeness])), (A_t, .inr (0, [.ref A_t_row, .int (t_size + (1 : Int32)), .ref A_t_least])), (A_s_upper, .inl (cy 1, 24, .inl s_upper)), (A_s_lower, .inl (cy 1, 24, .inl s_lower)), (A_s_limits, .inl (cy 1, 24, .inl s_limits)), (A_s_stricts, .inl (cy 1, 24, .inl s_stricts)), (A_t_row, .inl (cy 1, 10, .inl (upd t_row t_size.toNatClampNeg r1))), (A_t_least, .inl (cy 4, 10, .inr (.inr (.inr (.inr (gx R_t_least 10))))))] ++ gp R_t_least t_least 10 (cy 2) 10) := hD
          refine lv_lload hx hb dX0_trace_59 (lv_at hl 5 rfl) ?_
          refine lv_aload_n hx hb dX0_trace_61 rfl (lv_at hl 2 rfl) ?_
          refine lv_iload hx hb dX0_trace_62 (lv_at hl 0 rfl) ?_
          have hPc := (gPL hP).sub (ws' := [(A_s, .inr (5, [.ref A_s_upper, .ref A_s_lower, .ref A_s_limits, .ref A_s_stricts, .ref A_s_marks, .int s_size, .int s_marked, .int s_wholeness])), (A_s_limits, .inl (cy 1, 24, .inl s_limits)), (A_s_stricts, .inl (cy 1, 24, .inl s_stricts))]) [0, 4, 5] rfl
          refine vp_callSl (W.runV (As := [.int r1]) (rest := [.long y8]) CF (c_X5_weightOf l D cy A_s A_s_upper A_s_lower A_s_limits A_s_stricts A_s_marks s_size s_marked s_wholeness s_limits s_stricts r1 _ h) (cwV 1 hts gX0_trace_X5_weightOf rfl rfl rfl qX5_weightOf ⟨Nat.le_of_ble_eq_true rfl, Nat.le_of_ble_eq_true rfl⟩) (mpVR hK hPc (ci := 5) (q := (RX5, TX5, 8)) (q0 := 0) rfl rfl) rfl rfl hl.1 rfl (lv_room (Nat.le_of_ble_eq_true rfl)) dX0_trace_64 ⟨Nat.zero_le _, Nat.zero_le _⟩) (fun r2 h => ?_)
          refine lv_ladd hx hb dX0_trace_67 ?_
          refine lv_lstore (lv' := [(8, .long (y8 + r2)), (11, .int r1), (0, .ref A_t), (1, .ref A_s), (6, .int x6), (7, .int x7), (10, .int x10)]) hx hb dX0_trace_68 hl (by decide) rfl (fun ls hl => ?_)
          refine lv_aload_n hx hb dX0_trace_70 rfl (lv_at hl 3 rfl) ?_
          refine va_get (D := D) (ci := 5) (v := .ref A_s_upper) (C := RX5) (T := TX5) (N := 8) hx hb hts iX5 hown hK.1 hP 0 rfl rfl 0 (by decide) f2 (fun _ h9 => h9) rfl dX0_trace_71 ?_
          refine lv_iload hx hb dX0_trace_74 (lv_at hl 1 rfl) ?_
          refine va_iald hx hb hK.1 hP 2 1 rfl rfl h.1 dX0_trace_76 ?_
          replace h := h.2
          refine lv_istore (lv' := [(7, .int (s_upper r1.toNatClampNeg)), (8, .long (y8 + r2)), (11, .int r1), (0, .ref A_t), (1, .ref A_s), (6, .int x6), (10, .int x10)]) hx hb dX0_trace_77 hl (by decide) rfl (fun ls hl => ?_)
          refine lv_iinc (v := x10 + (-1 : Int32)) (lv' := [(10, .int (x10 + (-1 : Int32))), (7, .int (s_upper r1.toNatClampNeg)), (8, .long (y8 + r2)), (11, .int r1), (0, .ref A_t), (1, .ref A_s), (6, .int x6)]) hx hb dX0_trace_79 hl (k := 6) rfl rfl (by decide) rfl (fun ls hl => ?_)
          refine lv_goto (tgt := 12) hx hb dX0_trace_82 (by decide) ?_
          exact ih12 (t_size + (1 : Int32)) (upd t_row t_size.toNatClampNeg r1) (s_upper r1.toNatClampNeg) (y8 + r2) (x10 + (-1 : Int32)) H locs ls h hP hD hS (lv_sub hl [4, 5, 6, 1, 2, 0] rfl)
        · replace h := h.2 hc
          subst hQ
          subst hAe
          exact W.vret hx hb hr (fun t ht _ => ⟨⟨(t_size, t_row), rfl, h, by rw [ht]; exact hP, hD⟩, hS.F ht⟩) hS.2.2 dX0_trace_37
  unfold P_X0_trace at h
  refine lv_iload_n hx hb dX0_trace_0 rfl (lv_at hl 2 rfl) ?_
  refine lv_istore (lv' := [(7, .int x2), (0, .ref A_t), (1, .ref A_s), (2, .int x2), (3, .long y3), (5, .int x5), (6, .int x6)]) hx hb dX0_trace_1 hl (by decide) rfl (fun ls hl => ?_)
  refine lv_lload_n hx hb dX0_trace_3 rfl (lv_at hl 4 rfl) ?_
  refine lv_lstore (lv' := [(8, .long y3), (7, .int x2), (0, .ref A_t), (1, .ref A_s), (2, .int x2), (3, .long y3), (5, .int x5), (6, .int x6)]) hx hb dX0_trace_4 hl (by decide) rfl (fun ls hl => ?_)
  refine lv_iload hx hb dX0_trace_6 (lv_at hl 6 rfl) ?_
  refine lv_iconst (v := 1) hx hb dX0_trace_8 (by decide) ?_
  refine lv_isub hx hb dX0_trace_9 ?_
  refine lv_istore (lv' := [(10, .int (x5 - (1 : Int32))), (8, .long y3), (7, .int x2), (0, .ref A_t), (1, .ref A_s), (2, .int x2), (3, .long y3), (5, .int x5), (6, .int x6)]) hx hb dX0_trace_10 hl (by decide) rfl (fun ls hl => ?_)
  obtain ⟨nn, h⟩ := h
  exact L12 nn t_size t_row x2 y3 (x5 - (1 : Int32)) s.heap [] ls h hP hD hS (lv_sub hl [3, 4, 8, 2, 1, 0] rfl)
theorem qX0_find : yX0_find.cls = RX0 ∧ yX0_find.cls ≠ "java/lang/invoke/MethodHandle" ∧ yX0_find.cls ≠ "java/lang/invoke/VarHandle" ∧ (parseMethodDescriptor yX0_find.desc).map (fun d => d.parameters.length) = some 5 := by decide +kernel
def B_X0_find_91 (K_29 : (Nat → Nat → Int64) → Int32 → Prop) (t_least : Nat → Nat → Int64) (x7 : Int32) : Prop :=
  K_29 t_least (x7 + (1 : Int32))
def LB_X0_find_29 (post : Int32 → (Nat → Int32) → (Nat → Nat → Int64) → Prop) (t_size : Int32) (s_size : Int32) (s_wholeness : Int32) (s_upper : Nat → Int32) (s_lower : Nat → Int32) (s_limits : Nat → Int32) (s_stricts : Nat → Int32) (t_row : Nat → Int32) (x2 : Int32) (x6 : Int32) (y4 : Int64) (K_29 : (Nat → Nat → Int64) → Int32 → Prop) (t_least : Nat → Nat → Int64) (x7 : Int32) : Prop :=
  (((10 : Int32) ≤ x7 → post t_size t_row t_least) ∧ (¬ (10 : Int32) ≤ x7 → P_X0_lengthen (fun (t_least_v4 : Nat → Nat → Int64) => (vp_in x7 10 ∧ (vp_in x2 10 ∧ ((t_least_v4 x7.toNatClampNeg x2.toNatClampNeg = (4611686018427387904 : Int64) → B_X0_find_91 K_29 t_least_v4 x7) ∧ (¬ t_least_v4 x7.toNatClampNeg x2.toNatClampNeg = (4611686018427387904 : Int64) → (vp_in x7 10 ∧ (vp_in x2 10 ∧ (((0 : Int64) ≤ (t_least_v4 x7.toNatClampNeg x2.toNatClampNeg) + y4 → B_X0_find_91 K_29 t_least_v4 x7) ∧ (¬ (0 : Int64) ≤ (t_least_v4 x7.toNatClampNeg x2.toNatClampNeg) + y4 → P_X0_trace (fun (t_size_v7 : Int32) (t_row_v7 : Nat → Int32) => post t_size_v7 t_row_v7 t_least_v4) s_size s_wholeness t_size s_upper s_lower s_limits s_stricts t_row t_least_v4 x2 x7 x6 y4))))))))) s_size s_wholeness s_upper s_lower s_limits s_stricts t_least x7 x6))
noncomputable def L_X0_find_29 (post : Int32 → (Nat → Int32) → (Nat → Nat → Int64) → Prop) (t_size : Int32) (s_size : Int32) (s_wholeness : Int32) (s_upper : Nat → Int32) (s_lower : Nat → Int32) (s_limits : Nat → Int32) (s_stricts : Nat → Int32) (t_row : Nat → Int32) (x2 : Int32) (x6 : Int32) (y4 : Int64) (n : Nat) : (Nat → Nat → Int64) → Int32 → Prop := Nat.rec (motive := fun _ => (Nat → Nat → Int64) → Int32 → Prop) (fun _ _ => False) (fun _ K => LB_X0_find_29 post t_size s_size s_wholeness s_upper s_lower s_limits s_stricts t_row x2 x6 y4 K) n
def P_X0_find (post : Int32 → (Nat → Int32) → (Nat → Nat → Int64) → Prop) (s_size : Int32) (s_wholeness : Int32) (s_upper : Nat → Int32) (s_lower : Nat → Int32) (s_limits : Nat → Int32) (s_stricts : Nat → Int32) (t_row : Nat → Int32) (t_least : Nat → Nat → Int64) (x2 : Int32) (x3 : Int32) (x6 : Int32) (y4 : Int64) : Prop :=
  (vp_in (0 : Int32) 10 ∧ P_J7_fill_d0a16 (fun (a_v2 : Nat → Int64) => (vp_in (0 : Int32) 10 ∧ (vp_in x3 10 ∧ ∃ n : Nat, L_X0_find_29 post (0 : Int32) s_size s_wholeness s_upper s_lower s_limits s_stricts t_row x2 x6 y4 n (va_up (va_up t_least (0 : Int32).toNatClampNeg a_v2) (0 : Int32).toNatClampNeg (vp_updL ((va_up t_least (0 : Int32).toNatClampNeg a_v2) (0 : Int32).toNatClampNeg) x3.toNatClampNeg (0 : Int64))) (1 : Int32)))) 10 (t_least (0 : Int32).toNatClampNeg) (4611686018427387904 : Int64))
set_option maxHeartbeats 4000000 in
set_option maxRecDepth 100000 in
theorem c_X0_find (l : Launch) (D : va_G) (cy : Nat → ClassId) (sz : Nat) (A_t A_t_row A_t_least A_s A_s_upper A_s_lower A_s_limits A_s_stricts A_s_marks : Nat) (R_t_least : Nat → Nat) (t_size : Int32) (s_size : Int32) (s_marked : Int32) (s_wholeness : Int32) (s_upper : Nat → Int32) (s_lower : Nat → Int32) (s_limits : Nat → Int32) (s_stricts : Nat → Int32) (t_row : Nat → Int32) (t_least : Nat → Nat → Int64) (x2 : Int32) (x3 : Int32) (y4 : Int64) (x6 : Int32) (post : Int32 → (Nat → Int32) → (Nat → Nat → Int64) → Prop) (h : P_X0_find post s_size s_wholeness s_upper s_lower s_limits s_stricts t_row t_least x2 x3 x6 y4) : Met l yX0_find wsX0_find { frames := 4, cells := 0, slots := 0, locals := 104 } (pcW D cy ([(A_t, .inr (0, [.ref A_t_row, .int t_size, .ref A_t_least])), (A_s, .inr (5, [.ref A_s_upper, .ref A_s_lower, .ref A_s_limits, .ref A_s_stricts, .ref A_s_marks, .int s_size, .int s_marked, .int s_wholeness])), (A_s_upper, .inl (cy 1, 24, .inl s_upper)), (A_s_lower, .inl (cy 1, 24, .inl s_lower)), (A_s_limits, .inl (cy 1, 24, .inl s_limits)), (A_s_stricts, .inl (cy 1, 24, .inl s_stricts)), (A_t_row, .inl (cy 1, 10, .inl t_row)), (A_t_least, .inl (cy 4, 10, .inr (.inr (.inr (.inr (gx R_t_least 10))))))] ++ gp R_t_least t_least 10 (cy 2) 10) sz [.ref A_t, .ref A_s, .int x2, .int x3, .long y4, .int x6]) (va_Qv (fun (u : Int32 × (Nat → Int32) × (Nat → Nat → Int64)) => post u.1 u.2.1 u.2.2) (bW D ([(A_t, .inr (0, [.ref A_t_row, .int t_size, .ref A_t_least])), (A_s, .inr (5, [.ref A_s_upper, .ref A_s_lower, .ref A_s_limits, .ref A_s_stricts, .ref A_s_marks, .int s_size, .int s_marked, .int s_wholeness])), (A_s_upper, .inl (cy 1, 24, .inl s_upper)), (A_s_lower, .inl (cy 1, 24, .inl s_lower)), (A_s_limits, .inl (cy 1, 24, .inl s_limits)), (A_s_stricts, .inl (cy 1, 24, .inl s_stricts)), (A_t_row, .inl (cy 1, 10, .inl t_row)), (A_t_least, .inl (cy 4, 10, .inr (.inr (.inr (.inr (gx R_t_least 10))))))] ++ gp R_t_least t_least 10 (cy 2) 10) sz (fun u => ([(A_t, .inr (0, [.ref A_t_row, .int (u.1), .ref A_t_least])), (A_s, .inr (5, [.ref A_s_upper, .ref A_s_lower, .ref A_s_limits, .ref A_s_stricts, .ref A_s_marks, .int s_size, .int s_marked, .int s_wholeness])), (A_s_upper, .inl (cy 1, 24, .inl s_upper)), (A_s_lower, .inl (cy 1, 24, .inl s_lower)), (A_s_limits, .inl (cy 1, 24, .inl s_limits)), (A_s_stricts, .inl (cy 1, 24, .inl s_stricts)), (A_t_row, .inl (cy 1, 10, .inl u.2.1)), (A_t_least, .inl (cy 4, 10, .inr (.inr (.inr (.inr (gx R_t_least 10))))))] ++ gp R_t_least u.2.2 10 (cy 2) 10))) (va_A ([(A_t, .inr (0, [.ref A_t_row, .int t_size, .ref A_t_least])), (A_s, .inr (5, [.ref A_s_upper, .ref A_s_lower, .ref A_s_limits, .ref A_s_stricts, .ref A_s_marks, .int s_size, .int s_marked, .int s_wholeness])), (A_s_upper, .inl (cy 1, 24, .inl s_upper)), (A_s_lower, .inl (cy 1, 24, .inl s_lower)), (A_s_limits, .inl (cy 1, 24, .inl s_limits)), (A_s_stricts, .inl (cy 1, 24, .inl s_stricts)), (A_t_row, .inl (cy 1, 10, .inl t_row)), (A_t_least, .inl (cy 4, 10, .inr (.inr (.inr (.inr (gx R_t_least 10))))))] ++ gp R_t_least t_least 10 (cy 2) 10) sz)) 0 0 (va_A ([(A_t, .inr (0, [.ref A_t_row, .int t_size, .ref A_t_least])), (A_s, .inr (5, [.ref A_s_upper, .ref A_s_lower, .ref A_s_limits, .ref A_s_stricts, .ref A_s_marks, .int s_size, .int s_marked, .int s_wholeness])), (A_s_upper, .inl (cy 1, 24, .inl s_upper)), (A_s_lower, .inl (cy 1, 24, .inl s_lower)), (A_s_limits, .inl (cy 1, 24, .inl s_limits)), (A_s_stricts, .inl (cy 1, 24, .inl s_stricts)), (A_t_row, .inl (cy 1, 10, .inl t_row)), (A_t_least, .inl (cy 4, 10, .inr (.inr (.inr (.inr (gx R_t_least 10))))))] ++ gp R_t_least t_least 10 (cy 2) 10) sz) := by
  refine Met.ofW (cc := cX0_find) (maxL := 8) (ret := none) (by decide) rfl ?_
  intro p e s m args below meth c s₁ B hml hv
  obtain ⟨rfl, hsz, hP, hK, hD0⟩ := hv
  have hx := B.exec
  have hb := B.bytes
  have hr := B.returns
  have hts := atoms_spec (ws := wsX0_find) B.pre
  have hown : s.vm.findClass RX0 = some m.cls := findClass_of_methodNamed B.named
  have hlocks := B.notSynchronized
  have CF : CallFix p m c cX0_find 8 s ([.ref A_t, .ref A_s, .int x2, .int x3, .long y4, .int x6] : List Value).toArray wsX0_find RX0 := ⟨hx, hb, hml, hown, hts⟩
  have f0 := hts (.fieldLink RX0 20 "GapBounds$Clash" "size" "I") (by decide +kernel)
  have f1 := hts (.fieldLink RX0 17 "GapBounds$Clash" "least" "[[J") (by decide +kernel)
  have f2 := hts (.constantLong RX0 24 (4611686018427387904)) (by decide +kernel)
  have iX0 : ∀ w ∈ u_ws RX0 TX0 3, w ∈ wsX0_find := by decide +kernel
  subst hsz
  obtain ⟨A, hAe⟩ : ∃ A, A = va_A ([(A_t, .inr (0, [.ref A_t_row, .int t_size, .ref A_t_least])), (A_s, .inr (5, [.ref A_s_upper, .ref A_s_lower, .ref A_s_limits, .ref A_s_stricts, .ref A_s_marks, .int s_size, .int s_marked, .int s_wholeness])), (A_s_upper, .inl (cy 1, 24, .inl s_upper)), (A_s_lower, .inl (cy 1, 24, .inl s_lower)), (A_s_limits, .inl (cy 1, 24, .inl s_limits)), (A_s_stricts, .inl (cy 1, 24, .inl s_stricts)), (A_t_row, .inl (cy 1, 10, .inl t_row)), (A_t_least, .inl (cy 4, 10, .inr (.inr (.inr (.inr (gx R_t_least 10))))))] ++ gp R_t_least t_least 10 (cy 2) 10) s.heap.size := ⟨_, rfl⟩
  have hD : va_D A ([(A_t, .inr (0, [.ref A_t_row, .int t_size, .ref A_t_least])), (A_s, .inr (5, [.ref A_s_upper, .ref A_s_lower, .ref A_s_limits, .ref A_s_stricts, .ref A_s_marks, .int s_size, .int s_marked, .int s_wholeness])), (A_s_upper, .inl (cy 1, 24, .inl s_upper)), (A_s_lower, .inl (cy 1, 24, .inl s_lower)), (A_s_limits, .inl (cy 1, 24, .inl s_limits)), (A_s_stricts, .inl (cy 1, 24, .inl s_stricts)), (A_t_row, .inl (cy 1, 10, .inl t_row)), (A_t_least, .inl (cy 4, 10, .inr (.inr (.inr (.inr (gx R_t_least 10))))))] ++ gp R_t_least t_least 10 (cy 2) 10) := by rw [hAe]; exact hD0.self
  have hA : ∀ q : Nat, s.heap.size ≤ q → A q := fun q hq => by rw [hAe]; exact Or.inr hq
  have hS : va_S A s.heap s.heap [] := va_S.rf
  have hl := lv_entry [.ref A_t, .ref A_s, .int x2, .int x3, .long y4, .int x6] (n := 8) (Nat.le_of_ble_eq_true rfl)
  rw [lg_entry_eq]
  generalize (lg_sl [.ref A_t, .ref A_s, .int x2, .int x3, .long y4, .int x6] ++ List.replicate (8 - (lg_sl [.ref A_t, .ref A_s, .int x2, .int x3, .long y4, .int x6]).length) Slot.unset).toArray = ls at hl ⊢
  have hl : lv_has ls 8 [(0, .ref A_t), (1, .ref A_s), (2, .int x2), (3, .int x3), (4, .long y4), (6, .int x6)] := hl
  refine W.gen (fun Q0 hQ => ?_)
  have L29 : ∀ (n29 : Nat) (t_size : Int32) (t_row : Nat → Int32) (t_least : Nat → Nat → Int64) (x7 : Int32) (H : Heap) (locs : List Loc) (ls : Array Slot), L_X0_find_29 post t_size s_size s_wholeness s_upper s_lower s_limits s_stricts t_row x2 x6 y4 n29 t_least x7 → va_P D vwCl ([(A_t, .inr (0, [.ref A_t_row, .int t_size, .ref A_t_least])), (A_s, .inr (5, [.ref A_s_upper, .ref A_s_lower, .ref A_s_limits, .ref A_s_stricts, .ref A_s_marks, .int s_size, .int s_marked, .int s_wholeness])), (A_s_upper, .inl (cy 1, 24, .inl s_upper)), (A_s_lower, .inl (cy 1, 24, .inl s_lower)), (A_s_limits, .inl (cy 1, 24, .inl s_limits)), (A_s_stricts, .inl (cy 1, 24, .inl s_stricts)), (A_t_row, .inl (cy 1, 10, .inl t_row)), (A_t_least, .inl (cy 4, 10, .inr (.inr (.inr (.inr (gx R_t_least 10))))))] ++ gp R_t_least t_least 10 (cy 2) 10) H → va_D A ([(A_t, .inr (0, [.ref A_t_row, .int t_size, .ref A_t_least])), (A_s, .inr (5, [.ref A_s_upper, .ref A_s_lower, .ref A_s_limits, .ref A_s_stricts, .ref A_s_marks, .int s_size, .int s_marked, .int s_wholeness])), (A_s_upper, .inl (cy 1, 24, .inl s_upper)), (A_s_lower, .inl (cy 1, 24, .inl s_lower)), (A_s_limits, .inl (cy 1, 24, .inl s_limits)), (A_s_stricts, .inl (cy 1, 24, .inl s_stricts)), (A_t_row, .inl (cy 1, 10, .inl t_row)), (A_t_least, .inl (cy 4, 10, .inr (.inr (.inr (.inr (gx R_t_least 10))))))] ++ gp R_t_least t_least 10 (cy 2) 10) → va_S A s.heap H locs → lv_has ls 8 [(0, .ref A_t), (1, .ref A_s), (2, .int x2), (4, .long y4), (6, .int x6), (7, .int x7)] → W p l e (headSpec wsX0_find { frames := 4, cells := 0, slots := 0, locals := 104 }).room s m ([.ref A_t, .ref A_s, .int x2, .int x3, .long y4, .int x6] : List Value).toArray below meth c H locs 0 0 Q0 (F0 m 29 ls []) := by
    intro n29
    induction n29 with
    | zero => intro t_size t_row t_least x7 H locs ls h; exact False.elim h
    | succ n29 ih29 =>
      intro t_size t_row t_least x7 H locs ls h hP hD hS hl
      have h : LB_X0_find_29 post t_size s_size s_wholeness s_upper s_lower s_limits s_stricts t_row x2 x6 y4 (L_X0_find_29 post t_size s_size s_wholeness s_upper s_lower s_limits s_stricts t_row x2 x6 y4 n29) t_least x7 := h
      unfold LB_X0_find_29 at h
      have J91 : ∀ (t_size : Int32) (t_row : Nat → Int32) (t_least : Nat → Nat → Int64) (x7 : Int32) (H : Heap) (locs : List Loc) (ls : Array Slot), B_X0_find_91 (L_X0_find_29 post t_size s_size s_wholeness s_upper s_lower s_limits s_stricts t_row x2 x6 y4 n29) t_least x7 → va_P D vwCl ([(A_t, .inr (0, [.ref A_t_row, .int t_size, .ref A_t_least])), (A_s, .inr (5, [.ref A_s_upper, .ref A_s_lower, .ref A_s_limits, .ref A_s_stricts, .ref A_s_marks, .int s_size, .int s_marked, .int s_wholeness])), (A_s_upper, .inl (cy 1, 24, .inl s_upper)), (A_s_lower, .inl (cy 1, 24, .inl s_lower)), (A_s_limits, .inl (cy 1, 24, .inl s_limits)), (A_s_stricts, .inl (cy 1, 24, .inl s_stricts)), (A_t_row, .inl (cy 1, 10, .inl t_row)), (A_t_least, .inl (cy 4, 10, .inr (.inr (.inr (.inr (gx R_t_least 10))))))] ++ gp R_t_least t_least 10 (cy 2) 10) H → va_D A ([(A_t, .inr (0, [.ref A_t_row, .int t_size, .ref A_t_least])), (A_s, .inr (5, [.ref A_s_upper, .ref A_s_lower, .ref A_s_limits, .ref A_s_stricts, .ref A_s_marks, .int s_size, .int s_marked, .int s_wholeness])), (A_s_upper, .inl (cy 1, 24, .inl s_upper)), (A_s_lower, .inl (cy 1, 24, .inl s_lower)), (A_s_limits, .inl (cy 1, 24, .inl s_limits)), (A_s_stricts, .inl (cy 1, 24, .inl s_stricts)), (A_t_row, .inl (cy 1, 10, .inl t_row)), (A_t_least, .inl (cy 4, 10, .inr (.inr (.inr (.inr (gx R_t_least 10))))))] ++ gp R_t_least t_least 10 (cy 2) 10) → va_S A s.heap H locs → lv_has ls 8 [(0, .ref A_t), (1, .ref A_s), (2, .int x2), (4, .long y4), (6, .int x6), (7, .int x7)] → W p l e (headSpec wsX0_find { frames := 4, cells := 0, slots := 0, locals := 104 }).room s m ([.ref A_t, .ref A_s, .int x2, .int x3, .long y4, .int x6] : List Value).toArray below meth c H locs 0 0 Q0 (F0 m 91 ls []) := by
        intro t_size t_row t_least x7 H locs ls h hP hD hS hl
        unfold B_X0_find_91 at h
        refine lv_iinc (v := x7 + (1 : Int32)) (lv' := [(7, .int (x7 + (1 : Int32))), (0, .ref A_t), (1, .ref A_s), (2, .int x2), (4, .long y4), (6, .int x6)]) hx hb dX0_find_91 hl (k := 5) rfl rfl (by decide) rfl (fun ls hl => ?_)
        refine lv_goto (tgt := 29) hx hb dX0_find_94 (by decide) ?_
        exact ih29 t_size t_row t_least (x7 + (1 : Int32)) H locs ls h hP hD hS (lv_sub hl [1, 2, 3, 4, 5, 0] rfl)
      refine lv_iload hx hb dX0_find_29 (lv_at hl 5 rfl) ?_
      refine lv_bipush (v := 10) hx hb dX0_find_31 (by decide) ?_
      refine lv_icmp_ge (tgt := 97) hx hb dX0_find_33 (by decide) (fun hc => ?_) (fun hc => ?_)
      · replace h := h.1 hc
        subst hQ
        subst hAe
        exact W.vret hx hb hr (fun t ht _ => ⟨⟨(t_size, t_row, t_least), rfl, h, by rw [ht]; exact hP, hD⟩, hS.F ht⟩) hS.2.2 dX0_find_97
      · replace h := h.2 hc
        refine lv_aload_n hx hb dX0_find_36 rfl (lv_at hl 0 rfl) ?_
        refine lv_aload_n hx hb dX0_find_37 rfl (lv_at hl 1 rfl) ?_
        refine lv_iload hx hb dX0_find_38 (lv_at hl 5 rfl) ?_
        refine lv_iload hx hb dX0_find_40 (lv_at hl 4 rfl) ?_
        have hPn := gPa (a := [(A_t_row, .inl (cy 1, 10, .inl t_row))]) (b := [(A_t, .inr (0, [.ref A_t_row, .int t_size, .ref A_t_least])), (A_s, .inr (5, [.ref A_s_upper, .ref A_s_lower, .ref A_s_limits, .ref A_s_stricts, .ref A_s_marks, .int s_size, .int s_marked, .int s_wholeness])), (A_s_upper, .inl (cy 1, 24, .inl s_upper)), (A_s_lower, .inl (cy 1, 24, .inl s_lower)), (A_s_limits, .inl (cy 1, 24, .inl s_limits)), (A_s_stricts, .inl (cy 1, 24, .inl s_stricts)), (A_t_least, .inl (cy 4, 10, .inr (.inr (.inr (.inr (gx R_t_least 10))))))]) (gPs hP [6, 0, 1, 2, 3, 4, 5, 7] rfl)
        have hDn := gDa (a := [(A_t_row, .inl (cy 1, 10, .inl t_row))]) (b := [(A_t, .inr (0, [.ref A_t_row, .int t_size, .ref A_t_least])), (A_s, .inr (5, [.ref A_s_upper, .ref A_s_lower, .ref A_s_limits, .ref A_s_stricts, .ref A_s_marks, .int s_size, .int s_marked, .int s_wholeness])), (A_s_upper, .inl (cy 1, 24, .inl s_upper)), (A_s_lower, .inl (cy 1, 24, .inl s_lower)), (A_s_limits, .inl (cy 1, 24, .inl s_limits)), (A_s_stricts, .inl (cy 1, 24, .inl s_stricts)), (A_t_least, .inl (cy 4, 10, .inr (.inr (.inr (.inr (gx R_t_least 10))))))]) (gDs hD [6, 0, 1, 2, 3, 4, 5, 7] (by decide) rfl)
        have hPc := gPR hPn
        have hDc := gDR hDn
        refine mw_v (va_runV (As := [.ref A_s, .int x7, .int x6]) (rest := []) CF (c_X0_lengthen l D cy H.size A_t A_t_row A_t_least A_s A_s_upper A_s_lower A_s_limits A_s_stricts A_s_marks R_t_least t_size s_size s_marked s_wholeness s_upper s_lower s_limits s_stricts t_least x7 x6 _ h) (cwV 3 hts gX0_find_X0_lengthen rfl rfl rfl qX0_lengthen ⟨Nat.le_of_ble_eq_true rfl, Nat.le_of_ble_eq_true rfl⟩) (mpVW hK hPc hDc (ci := 0) (q := (RX0, TX0, 3)) (q0 := 0) rfl rfl) rfl rfl hl.1 rfl (lv_room (Nat.le_of_ble_eq_true rfl)) dX0_find_42 ⟨Nat.zero_le _, Nat.zero_le _⟩) hPn hDn hS hA (fun t_least_v4 H locs h hP hD hS => ?_)
        have hP : va_P D vwCl ([(A_t, .inr (0, [.ref A_t_row, .int t_size, .ref A_t_least])), (A_s, .inr (5, [.ref A_s_upper, .ref A_s_lower, .ref A_s_limits, .ref A_s_stricts, .ref A_s_marks, .int s_size, .int s_marked, .int s_wholeness])), (A_s_upper, .inl (cy 1, 24, .inl s_upper)), (A_s_lower, .inl (cy 1, 24, .inl s_lower)), (A_s_limits, .inl (cy 1, 24, .inl s_limits)), (A_s_stricts, .inl (cy 1, 24, .inl s_stricts)), (A_t_row, .inl (cy 1, 10, .inl t_row)), (A_t_least, .inl (cy 4, 10, .inr (.inr (.inr (.inr (gx R_t_least 10))))))] ++ gp R_t_least t_least_v4 10 (cy 2) 10) H := gPs (gPb (a := [(A_t_row, .inl (cy 1, 10, .inl t_row))]) (b := [(A_t, .inr (0, [.ref A_t_row, .int t_size, .ref A_t_least])), (A_s, .inr (5, [.ref A_s_upper, .ref A_s_lower, .ref A_s_limits, .ref A_s_stricts, .ref A_s_marks, .int s_size, .int s_marked, .int s_wholeness])), (A_s_upper, .inl (cy 1, 24, .inl s_upper)), (A_s_lower, .inl (cy 1, 24, .inl s_lower)), (A_s_limits, .inl (cy 1, 24, .inl s_limits)), (A_s_stricts, .inl (cy 1, 24, .inl s_stricts)), (A_t_least, .inl (cy 4, 10, .inr (.inr (.inr (.inr (gx R_t_least 10))))))]) (c := gp R_t_least t_least_v4 10 (cy 2) 10) hP) [1, 2, 3, 4, 5, 6, 0, 7] rfl
        have hD : va_D A ([(A_t, .inr (0, [.ref A_t_row, .int t_size, .ref A_t_least])), (A_s, .inr (5, [.ref A_s_upper, .ref A_s_lower, .ref A_s_limits, .ref A_s_stricts, .ref A_s_marks, .int s_size, .int s_marked, .int s_wholeness])), (A_s_upper, .inl (cy 1, 24, .inl s_upper)), (A_s_lower, .inl (cy 1, 24, .inl s_lower)), (A_s_limits, .inl (cy 1, 24, .inl s_limits)), (A_s_stricts, .inl (cy 1, 24, .inl s_stricts)), (A_t_row, .inl (cy 1, 10, .inl t_row)), (A_t_least, .inl (cy 4, 10, .inr (.inr (.inr (.inr (gx R_t_least 10))))))] ++ gp R_t_least t_least_v4 10 (cy 2) 10) := gDs (gDb (a := [(A_t_row, .inl (cy 1, 10, .inl t_row))]) (b := [(A_t, .inr (0, [.ref A_t_row, .int t_size, .ref A_t_least])), (A_s, .inr (5, [.ref A_s_upper, .ref A_s_lower, .ref A_s_limits, .ref A_s_stricts, .ref A_s_marks, .int s_size, .int s_marked, .int s_wholeness])), (A_s_upper, .inl (cy 1, 24, .inl s_upper)), (A_s_lower, .inl (cy 1, 24, .inl s_lower)), (A_s_limits, .inl (cy 1, 24, .inl s_limits)), (A_s_stricts, .inl (cy 1, 24, .inl s_stricts)), (A_t_least, .inl (cy 4, 10, .inr (.inr (.inr (.inr (gx R_t_least 10))))))]) (c := gp R_t_least t_least_v4 10 (cy 2) 10) hD) [1, 2, 3, 4, 5, 6, 0, 7] (by decide) rfl
        refine lv_aload_n hx hb dX0_find_45 rfl (lv_at hl 0 rfl) ?_
        refine va_get (D := D) (ci := 0) (v := .ref A_t_least) (C := RX0) (T := TX0) (N := 3) hx hb hts iX0 hown hK.1 hP 0 rfl rfl 2 (by decide) f1 (fun _ h9 => h9) rfl dX0_find_46 ?_
        refine lv_iload hx hb dX0_find_49 (lv_at hl 5 rfl) ?_
        refine mx_alda hx hb hK.1 hP 7 4 rfl rfl h.1 dX0_find_51 ?_
        have hv5 := h.1
        replace h := h.2
        refine lv_iload_n hx hb dX0_find_52 rfl (lv_at hl 2 rfl) ?_
        refine va_lald hx hb hK.1 hP (8 + x7.toNatClampNeg) 2 (gp_at (X := [(A_t, .inr (0, [.ref A_t_row, .int t_size, .ref A_t_least])), (A_s, .inr (5, [.ref A_s_upper, .ref A_s_lower, .ref A_s_limits, .ref A_s_stricts, .ref A_s_marks, .int s_size, .int s_marked, .int s_wholeness])), (A_s_upper, .inl (cy 1, 24, .inl s_upper)), (A_s_lower, .inl (cy 1, 24, .inl s_lower)), (A_s_limits, .inl (cy 1, 24, .inl s_limits)), (A_s_stricts, .inl (cy 1, 24, .inl s_stricts)), (A_t_row, .inl (cy 1, 10, .inl t_row)), (A_t_least, .inl (cy 4, 10, .inr (.inr (.inr (.inr (gx R_t_least 10))))))]) (vp_lt (n := 10) (by assumption))) rfl h.1 dX0_find_53 ?_
        replace h := h.2
        refine lv_ldc2 (v := 4611686018427387904) hx hb hown f2 dX0_find_54 ?_
        refine lx_eq (tgt := 91) hx hb dX0_find_57 dX0_find_58 (by decide) (fun hc => ?_) (fun hc => ?_)
        · replace h := h.1 hc
          exact J91 t_size t_row t_least_v4 x7 H locs ls h hP hD hS (lv_sub hl [0, 1, 2, 3, 4, 5] rfl)
        · replace h := h.2 hc
          refine lv_aload_n hx hb dX0_find_61 rfl (lv_at hl 0 rfl) ?_
          refine va_get (D := D) (ci := 0) (v := .ref A_t_least) (C := RX0) (T := TX0) (N := 3) hx hb hts iX0 hown hK.1 hP 0 rfl rfl 2 (by decide) f1 (fun _ h9 => h9) rfl dX0_find_62 ?_
          refine lv_iload hx hb dX0_find_65 (lv_at hl 5 rfl) ?_
          refine mx_alda hx hb hK.1 hP 7 4 rfl rfl h.1 dX0_find_67 ?_
          have hv6 := h.1
          replace h := h.2
          refine lv_iload_n hx hb dX0_find_68 rfl (lv_at hl 2 rfl) ?_
          refine va_lald hx hb hK.1 hP (8 + x7.toNatClampNeg) 2 (gp_at (X := [(A_t, .inr (0, [.ref A_t_row, .int t_size, .ref A_t_least])), (A_s, .inr (5, [.ref A_s_upper, .ref A_s_lower, .ref A_s_limits, .ref A_s_stricts, .ref A_s_marks, .int s_size, .int s_marked, .int s_wholeness])), (A_s_upper, .inl (cy 1, 24, .inl s_upper)), (A_s_lower, .inl (cy 1, 24, .inl s_lower)), (A_s_limits, .inl (cy 1, 24, .inl s_limits)), (A_s_stricts, .inl (cy 1, 24, .inl s_stricts)), (A_t_row, .inl (cy 1, 10, .inl t_row)), (A_t_least, .inl (cy 4, 10, .inr (.inr (.inr (.inr (gx R_t_least 10))))))]) (vp_lt (n := 10) (by assumption))) rfl h.1 dX0_find_69 ?_
          replace h := h.2
          refine lv_lload hx hb dX0_find_70 (lv_at hl 3 rfl) ?_
          refine lv_ladd hx hb dX0_find_72 ?_
          refine lv_lconst (v := 0) hx hb dX0_find_73 (by decide) ?_
          refine lx_ge (tgt := 91) hx hb dX0_find_74 dX0_find_75 (by decide) (fun hc => ?_) (fun hc => ?_)
          · replace h := h.1 hc
            exact J91 t_size t_row t_least_v4 x7 H locs ls h hP hD hS (lv_sub hl [0, 1, 2, 3, 4, 5] rfl)
          · replace h := h.2 hc
            refine lv_aload_n hx hb dX0_find_78 rfl (lv_at hl 0 rfl) ?_
            refine lv_aload_n hx hb dX0_find_79 rfl (lv_at hl 1 rfl) ?_
            refine lv_iload_n hx hb dX0_find_80 rfl (lv_at hl 2 rfl) ?_
            refine lv_lload hx hb dX0_find_81 (lv_at hl 3 rfl) ?_
            refine lv_iload hx hb dX0_find_83 (lv_at hl 5 rfl) ?_
            refine lv_iload hx hb dX0_find_85 (lv_at hl 4 rfl) ?_
            have hPn := gPa (a := []) (b := [(A_s, .inr (5, [.ref A_s_upper, .ref A_s_lower, .ref A_s_limits, .ref A_s_stricts, .ref A_s_marks, .int s_size, .int s_marked, .int s_wholeness])), (A_t, .inr (0, [.ref A_t_row, .int t_size, .ref A_t_least])), (A_s_upper, .inl (cy 1, 24, .inl s_upper)), (A_s_lower, .inl (cy 1, 24, .inl s_lower)), (A_s_limits, .inl (cy 1, 24, .inl s_limits)), (A_s_stricts, .inl (cy 1, 24, .inl s_stricts)), (A_t_row, .inl (cy 1, 10, .inl t_row)), (A_t_least, .inl (cy 4, 10, .inr (.inr (.inr (.inr (gx R_t_least 10))))))]) (gPs hP [1, 0, 2, 3, 4, 5, 6, 7] rfl)
            have hDn := gDa (a := []) (b := [(A_s, .inr (5, [.ref A_s_upper, .ref A_s_lower, .ref A_s_limits, .ref A_s_stricts, .ref A_s_marks, .int s_size, .int s_marked, .int s_wholeness])), (A_t, .inr (0, [.ref A_t_row, .int t_size, .ref A_t_least])), (A_s_upper, .inl (cy 1, 24, .inl s_upper)), (A_s_lower, .inl (cy 1, 24, .inl s_lower)), (A_s_limits, .inl (cy 1, 24, .inl s_limits)), (A_s_stricts, .inl (cy 1, 24, .inl s_stricts)), (A_t_row, .inl (cy 1, 10, .inl t_row)), (A_t_least, .inl (cy 4, 10, .inr (.inr (.inr (.inr (gx R_t_least 10))))))]) (gDs hD [1, 0, 2, 3, 4, 5, 6, 7] (by decide) rfl)
            have hPc := gPR hPn
            have hDc := gDR hDn
            refine mw_v (va_runV (As := [.ref A_s, .int x2, .long y4, .int x7, .int x6]) (rest := []) CF (c_X0_trace l D cy H.size A_s A_s_upper A_s_lower A_s_limits A_s_stricts A_s_marks A_t A_t_row A_t_least R_t_least s_size s_marked s_wholeness t_size s_upper s_lower s_limits s_stricts t_row t_least_v4 x2 y4 x7 x6 _ h) (cwV 5 hts gX0_find_X0_trace rfl rfl rfl qX0_trace ⟨Nat.le_of_ble_eq_true rfl, Nat.le_of_ble_eq_true rfl⟩) (mpVW hK hPc hDc (ci := 0) (q := (RX0, TX0, 3)) (q0 := 1) rfl rfl) rfl rfl hl.1 rfl (lv_room (Nat.le_of_ble_eq_true rfl)) dX0_find_87 ⟨Nat.zero_le _, Nat.zero_le _⟩) hPn hDn hS hA (fun u H locs h hP hD hS => ?_)
            obtain ⟨t_size_v7, t_row_v7⟩ := u
            have hP : va_P D vwCl ([(A_t, .inr (0, [.ref A_t_row, .int t_size_v7, .ref A_t_least])), (A_s, .inr (5, [.ref A_s_upper, .ref A_s_lower, .ref A_s_limits, .ref A_s_stricts, .ref A_s_marks, .int s_size, .int s_marked, .int s_wholeness])), (A_s_upper, .inl (cy 1, 24, .inl s_upper)), (A_s_lower, .inl (cy 1, 24, .inl s_lower)), (A_s_limits, .inl (cy 1, 24, .inl s_limits)), (A_s_stricts, .inl (cy 1, 24, .inl s_stricts)), (A_t_row, .inl (cy 1, 10, .inl t_row_v7)), (A_t_least, .inl (cy 4, 10, .inr (.inr (.inr (.inr (gx R_t_least 10))))))] ++ gp R_t_least t_least_v4 10 (cy 2) 10) H := gPs (gPb (a := []) (b := [(A_s, .inr (5, [.ref A_s_upper, .ref A_s_lower, .ref A_s_limits, .ref A_s_stricts, .ref A_s_marks, .int s_size, .int s_marked, .int s_wholeness])), (A_t, .inr (0, [.ref A_t_row, .int t_size_v7, .ref A_t_least])), (A_s_upper, .inl (cy 1, 24, .inl s_upper)), (A_s_lower, .inl (cy 1, 24, .inl s_lower)), (A_s_limits, .inl (cy 1, 24, .inl s_limits)), (A_s_stricts, .inl (cy 1, 24, .inl s_stricts)), (A_t_row, .inl (cy 1, 10, .inl t_row_v7)), (A_t_least, .inl (cy 4, 10, .inr (.inr (.inr (.inr (gx R_t_least 10))))))]) (c := gp R_t_least t_least_v4 10 (cy 2) 10) hP) [1, 0, 2, 3, 4, 5, 6, 7] rfl
            have hD : va_D A ([(A_t, .inr (0, [.ref A_t_row, .int t_size_v7, .ref A_t_least])), (A_s, .inr (5, [.ref A_s_upper, .ref A_s_lower, .ref A_s_limits, .ref A_s_stricts, .ref A_s_marks, .int s_size, .int s_marked, .int s_wholeness])), (A_s_upper, .inl (cy 1, 24, .inl s_upper)), (A_s_lower, .inl (cy 1, 24, .inl s_lower)), (A_s_limits, .inl (cy 1, 24, .inl s_limits)), (A_s_stricts, .inl (cy 1, 24, .inl s_stricts)), (A_t_row, .inl (cy 1, 10, .inl t_row_v7)), (A_t_least, .inl (cy 4, 10, .inr (.inr (.inr (.inr (gx R_t_least 10))))))] ++ gp R_t_least t_least_v4 10 (cy 2) 10) := gDs (gDb (a := []) (b := [(A_s, .inr (5, [.ref A_s_upper, .ref A_s_lower, .ref A_s_limits, .ref A_s_stricts, .ref A_s_marks, .int s_size, .int s_marked, .int s_wholeness])), (A_t, .inr (0, [.ref A_t_row, .int t_size_v7, .ref A_t_least])), (A_s_upper, .inl (cy 1, 24, .inl s_upper)), (A_s_lower, .inl (cy 1, 24, .inl s_lower)), (A_s_limits, .inl (cy 1, 24, .inl s_limits)), (A_s_stricts, .inl (cy 1, 24, .inl s_stricts)), (A_t_row, .inl (cy 1, 10, .inl t_row_v7)), (A_t_least, .inl (cy 4, 10, .inr (.inr (.inr (.inr (gx R_t_least 10))))))]) (c := gp R_t_least t_least_v4 10 (cy 2) 10) hD) [1, 0, 2, 3, 4, 5, 6, 7] (by decide) rfl
            try dsimp only at h
            subst hQ
            subst hAe
            exact W.vret hx hb hr (fun t ht _ => ⟨⟨(t_size_v7, t_row_v7, t_least_v4), rfl, h, by rw [ht]; exact hP, hD⟩, hS.F ht⟩) hS.2.2 dX0_find_90
  unfold P_X0_find at h
  refine lv_aload_n hx hb dX0_find_0 rfl (lv_at hl 0 rfl) ?_
  refine lv_iconst (v := 0) hx hb dX0_find_1 (by decide) ?_
  refine va_put (D := D) (ci := 0) (v := .int (0 : Int32)) (ty := .int) (C := RX0) (T := TX0) (N := 3) hx hb hts iX0 tyX0 tyX0_ok nmX0 hown hK.1 hP hD hS 0 rfl rfl 1 (by decide) f0 (fun _ h9 => h9) rfl (tyX0_ok 1 (by decide)) rfl rfl (Nat.le_of_ble_eq_true rfl) dX0_find_2 (fun H locs hP hD hS => ?_)
  have hP : va_P D vwCl ([(A_t, .inr (0, [.ref A_t_row, .int ((0 : Int32)), .ref A_t_least])), (A_s, .inr (5, [.ref A_s_upper, .ref A_s_lower, .ref A_s_limits, .ref A_s_stricts, .ref A_s_marks, .int s_size, .int s_marked, .int s_wholeness])), (A_s_upper, .inl (cy 1, 24, .inl s_upper)), (A_s_lower, .inl (cy 1, 24, .inl s_lower)), (A_s_limits, .inl (cy 1, 24, .inl s_limits)), (A_s_stricts, .inl (cy 1, 24, .inl s_stricts)), (A_t_row, .inl (cy 1, 10, .inl t_row)), (A_t_least, .inl (cy 4, 10, .inr (.inr (.inr (.inr (gx R_t_least 10))))))] ++ gp R_t_least t_least 10 (cy 2) 10) H := hP
  have hD : va_D A ([(A_t, .inr (0, [.ref A_t_row, .int ((0 : Int32)), .ref A_t_least])), (A_s, .inr (5, [.ref A_s_upper, .ref A_s_lower, .ref A_s_limits, .ref A_s_stricts, .ref A_s_marks, .int s_size, .int s_marked, .int s_wholeness])), (A_s_upper, .inl (cy 1, 24, .inl s_upper)), (A_s_lower, .inl (cy 1, 24, .inl s_lower)), (A_s_limits, .inl (cy 1, 24, .inl s_limits)), (A_s_stricts, .inl (cy 1, 24, .inl s_stricts)), (A_t_row, .inl (cy 1, 10, .inl t_row)), (A_t_least, .inl (cy 4, 10, .inr (.inr (.inr (.inr (gx R_t_least 10))))))] ++ gp R_t_least t_least 10 (cy 2) 10) := hD
  refine lv_aload_n hx hb dX0_find_5 rfl (lv_at hl 0 rfl) ?_
  refine va_get (D := D) (ci := 0) (v := .ref A_t_least) (C := RX0) (T := TX0) (N := 3) hx hb hts iX0 hown hK.1 hP 0 rfl rfl 2 (by decide) f1 (fun _ h9 => h9) rfl dX0_find_6 ?_
  refine lv_iconst (v := 0) hx hb dX0_find_9 (by decide) ?_
  refine mx_alda hx hb hK.1 hP 7 4 rfl rfl h.1 dX0_find_10 ?_
  have hv1 := h.1
  replace h := h.2
  refine lv_ldc2 (v := 4611686018427387904) hx hb hown f2 dX0_find_11 ?_
  have hg2 := gp_at (X := [(A_t, .inr (0, [.ref A_t_row, .int ((0 : Int32)), .ref A_t_least])), (A_s, .inr (5, [.ref A_s_upper, .ref A_s_lower, .ref A_s_limits, .ref A_s_stricts, .ref A_s_marks, .int s_size, .int s_marked, .int s_wholeness])), (A_s_upper, .inl (cy 1, 24, .inl s_upper)), (A_s_lower, .inl (cy 1, 24, .inl s_lower)), (A_s_limits, .inl (cy 1, 24, .inl s_limits)), (A_s_stricts, .inl (cy 1, 24, .inl s_stricts)), (A_t_row, .inl (cy 1, 10, .inl t_row)), (A_t_least, .inl (cy 4, 10, .inr (.inr (.inr (.inr (gx R_t_least 10))))))]) (r := R_t_least) (M := t_least) (n := 10) (k := 10) (cA := cy 2) (i := (0 : Int32).toNatClampNeg) (vp_lt (n := 10) (by assumption))
  have hPc := va_P1 hP hg2
  have hDc := va_D1 hD hg2
  refine mw_1 (va_runS (As := [.ref (R_t_least (0 : Int32).toNatClampNeg), .long (4611686018427387904 : Int64)]) (rest := []) CF (c_J7_fill_d0a16 l D cy H.size (R_t_least (0 : Int32).toNatClampNeg) 10 (t_least (0 : Int32).toNatClampNeg) (4611686018427387904 : Int64) _ h) (va_cwS 2 hts gX0_find_J7_fill_d0a16 rfl rfl rfl qJ7_fill_d0a16.2 ⟨Nat.le_of_ble_eq_true rfl, Nat.le_of_ble_eq_true rfl⟩) (mpSW hK hPc hDc) rfl rfl hl.1 rfl (lv_room (Nat.le_of_ble_eq_true rfl)) dX0_find_14 ⟨Nat.zero_le _, Nat.zero_le _⟩) hP hD hS hA _ hg2 (fun a_v2 H locs h hP hD hS => ?_)
  have hP := (gp_set (X := [(A_t, .inr (0, [.ref A_t_row, .int ((0 : Int32)), .ref A_t_least])), (A_s, .inr (5, [.ref A_s_upper, .ref A_s_lower, .ref A_s_limits, .ref A_s_stricts, .ref A_s_marks, .int s_size, .int s_marked, .int s_wholeness])), (A_s_upper, .inl (cy 1, 24, .inl s_upper)), (A_s_lower, .inl (cy 1, 24, .inl s_lower)), (A_s_limits, .inl (cy 1, 24, .inl s_limits)), (A_s_stricts, .inl (cy 1, 24, .inl s_stricts)), (A_t_row, .inl (cy 1, 10, .inl t_row)), (A_t_least, .inl (cy 4, 10, .inr (.inr (.inr (.inr (gx R_t_least 10))))))]) (vp_lt (n := 10) (by assumption)) _).subst (motive := fun z => va_P D vwCl z H) hP
  have hD := (gp_set (X := [(A_t, .inr (0, [.ref A_t_row, .int ((0 : Int32)), .ref A_t_least])), (A_s, .inr (5, [.ref A_s_upper, .ref A_s_lower, .ref A_s_limits, .ref A_s_stricts, .ref A_s_marks, .int s_size, .int s_marked, .int s_wholeness])), (A_s_upper, .inl (cy 1, 24, .inl s_upper)), (A_s_lower, .inl (cy 1, 24, .inl s_lower)), (A_s_limits, .inl (cy 1, 24, .inl s_limits)), (A_s_stricts, .inl (cy 1, 24, .inl s_stricts)), (A_t_row, .inl (cy 1, 10, .inl t_row)), (A_t_least, .inl (cy 4, 10, .inr (.inr (.inr (.inr (gx R_t_least 10))))))]) (vp_lt (n := 10) (by assumption)) _).subst (motive := fun z => va_D A z) hD
  have hP : va_P D vwCl ([(A_t, .inr (0, [.ref A_t_row, .int ((0 : Int32)), .ref A_t_least])), (A_s, .inr (5, [.ref A_s_upper, .ref A_s_lower, .ref A_s_limits, .ref A_s_stricts, .ref A_s_marks, .int s_size, .int s_marked, .int s_wholeness])), (A_s_upper, .inl (cy 1, 24, .inl s_upper)), (A_s_lower, .inl (cy 1, 24, .inl s_lower)), (A_s_limits, .inl (cy 1, 24, .inl s_limits)), (A_s_stricts, .inl (cy 1, 24, .inl s_stricts)), (A_t_row, .inl (cy 1, 10, .inl t_row)), (A_t_least, .inl (cy 4, 10, .inr (.inr (.inr (.inr (gx R_t_least 10))))))] ++ gp R_t_least (va_up t_least (0 : Int32).toNatClampNeg a_v2) 10 (cy 2) 10) H := hP
  have hD : va_D A ([(A_t, .inr (0, [.ref A_t_row, .int ((0 : Int32)), .ref A_t_least])), (A_s, .inr (5, [.ref A_s_upper, .ref A_s_lower, .ref A_s_limits, .ref A_s_stricts, .ref A_s_marks, .int s_size, .int s_marked, .int s_wholeness])), (A_s_upper, .inl (cy 1, 24, .inl s_upper)), (A_s_lower, .inl (cy 1, 24, .inl s_lower)), (A_s_limits, .inl (cy 1, 24, .inl s_limits)), (A_s_stricts, .inl (cy 1, 24, .inl s_stricts)), (A_t_row, .inl (cy 1, 10, .inl t_row)), (A_t_least, .inl (cy 4, 10, .inr (.inr (.inr (.inr (gx R_t_least 10))))))] ++ gp R_t_least (va_up t_least (0 : Int32).toNatClampNeg a_v2) 10 (cy 2) 10) := hD
  refine lv_aload_n hx hb dX0_find_17 rfl (lv_at hl 0 rfl) ?_
  refine va_get (D := D) (ci := 0) (v := .ref A_t_least) (C := RX0) (T := TX0) (N := 3) hx hb hts iX0 hown hK.1 hP 0 rfl rfl 2 (by decide) f1 (fun _ h9 => h9) rfl dX0_find_18 ?_
  refine lv_iconst (v := 0) hx hb dX0_find_21 (by decide) ?_
  refine mx_alda hx hb hK.1 hP 7 4 rfl rfl h.1 dX0_find_22 ?_
  have hv3 := h.1
  replace h := h.2
  refine lv_iload_n hx hb dX0_find_23 rfl (lv_at hl 3 rfl) ?_
  refine lv_lconst (v := 0) hx hb dX0_find_24 (by decide) ?_
  refine va_last hx hb hK.1 hP hD hS (8 + (0 : Int32).toNatClampNeg) 2 (gp_at (X := [(A_t, .inr (0, [.ref A_t_row, .int ((0 : Int32)), .ref A_t_least])), (A_s, .inr (5, [.ref A_s_upper, .ref A_s_lower, .ref A_s_limits, .ref A_s_stricts, .ref A_s_marks, .int s_size, .int s_marked, .int s_wholeness])), (A_s_upper, .inl (cy 1, 24, .inl s_upper)), (A_s_lower, .inl (cy 1, 24, .inl s_lower)), (A_s_limits, .inl (cy 1, 24, .inl s_limits)), (A_s_stricts, .inl (cy 1, 24, .inl s_stricts)), (A_t_row, .inl (cy 1, 10, .inl t_row)), (A_t_least, .inl (cy 4, 10, .inr (.inr (.inr (.inr (gx R_t_least 10))))))]) (vp_lt (n := 10) (by assumption))) rfl h.1 dX0_find_25 (fun H locs hP hD hS => ?_)
  replace h := h.2
  have hP := (gp_set (X := [(A_t, .inr (0, [.ref A_t_row, .int ((0 : Int32)), .ref A_t_least])), (A_s, .inr (5, [.ref A_s_upper, .ref A_s_lower, .ref A_s_limits, .ref A_s_stricts, .ref A_s_marks, .int s_size, .int s_marked, .int s_wholeness])), (A_s_upper, .inl (cy 1, 24, .inl s_upper)), (A_s_lower, .inl (cy 1, 24, .inl s_lower)), (A_s_limits, .inl (cy 1, 24, .inl s_limits)), (A_s_stricts, .inl (cy 1, 24, .inl s_stricts)), (A_t_row, .inl (cy 1, 10, .inl t_row)), (A_t_least, .inl (cy 4, 10, .inr (.inr (.inr (.inr (gx R_t_least 10))))))]) (vp_lt (n := 10) (by assumption)) _).subst (motive := fun z => va_P D vwCl z H) hP
  have hD := (gp_set (X := [(A_t, .inr (0, [.ref A_t_row, .int ((0 : Int32)), .ref A_t_least])), (A_s, .inr (5, [.ref A_s_upper, .ref A_s_lower, .ref A_s_limits, .ref A_s_stricts, .ref A_s_marks, .int s_size, .int s_marked, .int s_wholeness])), (A_s_upper, .inl (cy 1, 24, .inl s_upper)), (A_s_lower, .inl (cy 1, 24, .inl s_lower)), (A_s_limits, .inl (cy 1, 24, .inl s_limits)), (A_s_stricts, .inl (cy 1, 24, .inl s_stricts)), (A_t_row, .inl (cy 1, 10, .inl t_row)), (A_t_least, .inl (cy 4, 10, .inr (.inr (.inr (.inr (gx R_t_least 10))))))]) (vp_lt (n := 10) (by assumption)) _).subst (motive := fun z => va_D A z) hD
  have hP : va_P D vwCl ([(A_t, .inr (0, [.ref A_t_row, .int ((0 : Int32)), .ref A_t_least])), (A_s, .inr (5, [.ref A_s_upper, .ref A_s_lower, .ref A_s_limits, .ref A_s_stricts, .ref A_s_marks, .int s_size, .int s_marked, .int s_wholeness])), (A_s_upper, .inl (cy 1, 24, .inl s_upper)), (A_s_lower, .inl (cy 1, 24, .inl s_lower)), (A_s_limits, .inl (cy 1, 24, .inl s_limits)), (A_s_stricts, .inl (cy 1, 24, .inl s_stricts)), (A_t_row, .inl (cy 1, 10, .inl t_row)), (A_t_least, .inl (cy 4, 10, .inr (.inr (.inr (.inr (gx R_t_least 10))))))] ++ gp R_t_least (va_up (va_up t_least (0 : Int32).toNatClampNeg a_v2) (0 : Int32).toNatClampNeg (vp_updL ((va_up t_least (0 : Int32).toNatClampNeg a_v2) (0 : Int32).toNatClampNeg) x3.toNatClampNeg (0 : Int64))) 10 (cy 2) 10) H := hP
  have hD : va_D A ([(A_t, .inr (0, [.ref A_t_row, .int ((0 : Int32)), .ref A_t_least])), (A_s, .inr (5, [.ref A_s_upper, .ref A_s_lower, .ref A_s_limits, .ref A_s_stricts, .ref A_s_marks, .int s_size, .int s_marked, .int s_wholeness])), (A_s_upper, .inl (cy 1, 24, .inl s_upper)), (A_s_lower, .inl (cy 1, 24, .inl s_lower)), (A_s_limits, .inl (cy 1, 24, .inl s_limits)), (A_s_stricts, .inl (cy 1, 24, .inl s_stricts)), (A_t_row, .inl (cy 1, 10, .inl t_row)), (A_t_least, .inl (cy 4, 10, .inr (.inr (.inr (.inr (gx R_t_least 10))))))] ++ gp R_t_least (va_up (va_up t_least (0 : Int32).toNatClampNeg a_v2) (0 : Int32).toNatClampNeg (vp_updL ((va_up t_least (0 : Int32).toNatClampNeg a_v2) (0 : Int32).toNatClampNeg) x3.toNatClampNeg (0 : Int64))) 10 (cy 2) 10) := hD
  refine lv_iconst (v := 1) hx hb dX0_find_26 (by decide) ?_
  refine lv_istore (lv' := [(7, .int (1 : Int32)), (0, .ref A_t), (1, .ref A_s), (2, .int x2), (3, .int x3), (4, .long y4), (6, .int x6)]) hx hb dX0_find_27 hl (by decide) rfl (fun ls hl => ?_)
  obtain ⟨nn, h⟩ := h
  exact L29 nn (0 : Int32) t_row (va_up (va_up t_least (0 : Int32).toNatClampNeg a_v2) (0 : Int32).toNatClampNeg (vp_updL ((va_up t_least (0 : Int32).toNatClampNeg a_v2) (0 : Int32).toNatClampNeg) x3.toNatClampNeg (0 : Int64))) (1 : Int32) H locs ls h hP hD hS (lv_sub hl [1, 2, 3, 5, 6, 0] rfl)
