theorem qX8_limit : yX8_limit.cls = RX8 ∧ yX8_limit.cls ≠ "java/lang/invoke/MethodHandle" ∧ yX8_limit.cls ≠ "java/lang/invoke/VarHandle" ∧ (parseMethodDescriptor yX8_limit.desc).map (fun d => d.parameters.length) = some 1 := by decide +kernel
def P_X8_limit (post : Int64 → Prop) (t_state : Nat → Int32) (x1 : Int32) : Prop :=
  P_X8_isBound (fun (r1 : Int32) => ((r1 = 0 → post (1000000000000 : Int64)) ∧ (¬ r1 = 0 → (vp_in ((48 : Int32) + x1) 535 ∧ post ((t_state ((48 : Int32) + x1).toNatClampNeg).toInt64))))) t_state x1
set_option maxHeartbeats 4000000 in
set_option maxRecDepth 100000 in
theorem c_X8_limit (l : Launch) (D : va_G) (cy : Nat → ClassId) (A_t A_t_state A_t_tape A_t_ends A_t_letters A_t_least A_t_conflicts A_t_behind A_t_placed A_t_isKept A_t_lanes A_t_lengths A_t_cells : Nat) (t_taped : Int32) (t_fault : Int32) (t_broken : Int32) (t_brokenAt : Int32) (t_spot : Int32) (t_here : Int32) (t_token : Int32) (t_value : Int32) (t_isRealTold : Int32) (t_conflictMany : Int32) (t_torn : Int32) (t_state : Nat → Int32) (x1 : Int32) (post : Int64 → Prop) (h : P_X8_limit post t_state x1) : Met l yX8_limit wsX8_limit { frames := 2, cells := 0, slots := 0, locals := 46 } (pcR D cy [(A_t, .inr (8, [.ref A_t_state, .ref A_t_tape, .int t_taped, .int t_fault, .int t_broken, .int t_brokenAt, .int t_spot, .int t_here, .int t_token, .int t_value, .int t_isRealTold, .ref A_t_ends, .ref A_t_letters, .ref A_t_least, .ref A_t_conflicts, .int t_conflictMany, .ref A_t_behind, .ref A_t_placed, .ref A_t_isKept, .ref A_t_lanes, .ref A_t_lengths, .ref A_t_cells, .int t_torn])), (A_t_state, .inl (cy 1, 535, .inl t_state))] [.ref A_t, .int x1]) (vp_Sl post) 0 0 (fun _ => False) := by
  refine Met.ofW (cc := cX8_limit) (maxL := 2) (ret := (some .long)) (by decide) rfl ?_
  intro p e s m args below meth c s₁ B hml hv
  obtain ⟨rfl, hP, hK⟩ := hv
  have hx := B.exec
  have hb := B.bytes
  have hr := B.returns
  have hts := atoms_spec (ws := wsX8_limit) B.pre
  have hown : s.vm.findClass RX8 = some m.cls := findClass_of_methodNamed B.named
  have hlocks := B.notSynchronized
  have CF : CallFix p m c cX8_limit 2 s ([.ref A_t, .int x1] : List Value).toArray wsX8_limit RX8 := ⟨hx, hb, hml, hown, hts⟩
  have f0 := hts (.constantLong RX8 196 (1000000000000)) (by decide +kernel)
  have f1 := hts (.fieldLink RX8 7 "GapBoundsModel" "state" "[I") (by decide +kernel)
  have iX8 : ∀ w ∈ u_ws RX8 TX8 23, w ∈ wsX8_limit := by decide +kernel
  have hl := lv_entry [.ref A_t, .int x1] (n := 2) (Nat.le_of_ble_eq_true rfl)
  rw [lg_entry_eq]
  generalize (lg_sl [.ref A_t, .int x1] ++ List.replicate (2 - (lg_sl [.ref A_t, .int x1]).length) Slot.unset).toArray = ls at hl ⊢
  have hl : lv_has ls 2 [(0, .ref A_t), (1, .int x1)] := hl
  refine W.gen (fun Q0 hQ => ?_)
  unfold P_X8_limit at h
  refine lv_aload_n hx hb dX8_limit_0 rfl (lv_at hl 0 rfl) ?_
  refine lv_iload_n hx hb dX8_limit_1 rfl (lv_at hl 1 rfl) ?_
  have hPc := hP.sub (ws' := [(A_t, .inr (8, [.ref A_t_state, .ref A_t_tape, .int t_taped, .int t_fault, .int t_broken, .int t_brokenAt, .int t_spot, .int t_here, .int t_token, .int t_value, .int t_isRealTold, .ref A_t_ends, .ref A_t_letters, .ref A_t_least, .ref A_t_conflicts, .int t_conflictMany, .ref A_t_behind, .ref A_t_placed, .ref A_t_isKept, .ref A_t_lanes, .ref A_t_lengths, .ref A_t_cells, .int t_torn])), (A_t_state, .inl (cy 1, 535, .inl t_state))]) [0, 1] rfl
  refine vp_callSi (W.runV (As := [.int x1]) (rest := []) CF (c_X8_isBound l D cy A_t A_t_state A_t_tape A_t_ends A_t_letters A_t_least A_t_conflicts A_t_behind A_t_placed A_t_isKept A_t_lanes A_t_lengths A_t_cells t_taped t_fault t_broken t_brokenAt t_spot t_here t_token t_value t_isRealTold t_conflictMany t_torn t_state x1 _ h) (cwV 1 hts gX8_limit_X8_isBound rfl rfl rfl qX8_isBound ⟨Nat.le_of_ble_eq_true rfl, Nat.le_of_ble_eq_true rfl⟩) (mpVR hK hPc (ci := 8) (q := (RX8, TX8, 23)) (q0 := 0) rfl rfl) rfl rfl hl.1 rfl (lv_room (Nat.le_of_ble_eq_true rfl)) dX8_limit_2 ⟨Nat.zero_le _, Nat.zero_le _⟩) (fun r1 h => ?_)
  refine lv_if_eq (tgt := 21) hx hb dX8_limit_5 (by decide) (fun hc => ?_) (fun hc => ?_)
  · replace h := h.1 hc
    refine lv_ldc2 (v := 1000000000000) hx hb hown f0 dX8_limit_21 ?_
    subst hQ
    exact W.lret (v := (1000000000000 : Int64)) hx hb hr (fun t ht _ => ⟨(1000000000000 : Int64), rfl, h, ht⟩) (fun _ hq => absurd hq List.not_mem_nil) dX8_limit_24
  · replace h := h.2 hc
    refine lv_aload_n hx hb dX8_limit_8 rfl (lv_at hl 0 rfl) ?_
    refine va_get (D := D) (ci := 8) (v := .ref A_t_state) (C := RX8) (T := TX8) (N := 23) hx hb hts iX8 hown hK.1 hP 0 rfl rfl 0 (by decide) f1 (fun _ h9 => h9) rfl dX8_limit_9 ?_
    refine lv_bipush (v := 48) hx hb dX8_limit_12 (by decide) ?_
    refine lv_iload_n hx hb dX8_limit_14 rfl (lv_at hl 1 rfl) ?_
    refine lv_iadd hx hb dX8_limit_15 ?_
    refine va_iald hx hb hK.1 hP 1 1 rfl rfl h.1 dX8_limit_16 ?_
    replace h := h.2
    refine lv_i2l (v := (t_state ((48 : Int32) + x1).toNatClampNeg).toInt64) hx hb dX8_limit_17 rfl ?_
    refine lv_goto (tgt := 24) hx hb dX8_limit_18 (by decide) ?_
    subst hQ
    exact W.lret (v := (t_state ((48 : Int32) + x1).toNatClampNeg).toInt64) hx hb hr (fun t ht _ => ⟨(t_state ((48 : Int32) + x1).toNatClampNeg).toInt64, rfl, h, ht⟩) (fun _ hq => absurd hq List.not_mem_nil) dX8_limit_24
theorem qX8_tightest : yX8_tightest.cls = RX8 ∧ yX8_tightest.cls ≠ "java/lang/invoke/MethodHandle" ∧ yX8_tightest.cls ≠ "java/lang/invoke/VarHandle" ∧ (parseMethodDescriptor yX8_tightest.desc).map (fun d => d.parameters.length) = some 2 := by decide +kernel
def B_X8_tightest_81 (K_16 : Int32 → Int32 → Prop) (k0 : Int32) (x4 : Int32) : Prop :=
  K_16 k0 (x4 + (1 : Int32))
def B_X8_tightest_68 (K_16 : Int32 → Int32 → Prop) (k0 : Int32) (x3 : Int32) (x4 : Int32) : Prop :=
  ((k0 = 0 → B_X8_tightest_81 K_16 x3 x4) ∧ (¬ k0 = 0 → B_X8_tightest_81 K_16 x4 x4))
def B_X8_tightest_67 (K_16 : Int32 → Int32 → Prop) (x3 : Int32) (x4 : Int32) : Prop :=
  B_X8_tightest_68 K_16 (0 : Int32) x3 x4
def B_X8_tightest_63 (K_16 : Int32 → Int32 → Prop) (x3 : Int32) (x4 : Int32) : Prop :=
  B_X8_tightest_68 K_16 (1 : Int32) x3 x4
def LB_X8_tightest_16 (post : Int32 → Prop) (t_state : Nat → Int32) (x1 : Int32) (x2 : Int32) (K_16 : Int32 → Int32 → Prop) (x3 : Int32) (x4 : Int32) : Prop :=
  P_X8_many (fun (r2 : Int32) => ((r2 ≤ x4 → post x3) ∧ (¬ r2 ≤ x4 → P_X8_pairOf (fun (r3 : Int32) => ((¬ r3 = ((10 : Int32) * x1) + x2 → B_X8_tightest_67 K_16 x3 x4) ∧ (r3 = ((10 : Int32) * x1) + x2 → ((x3 = (-4 : Int32) → B_X8_tightest_63 K_16 x3 x4) ∧ (¬ x3 = (-4 : Int32) → P_X8_weightOf (fun (r4 : Int64) => P_X8_weightOf (fun (r5 : Int64) => ((r5 ≤ r4 → B_X8_tightest_67 K_16 x3 x4) ∧ (¬ r5 ≤ r4 → B_X8_tightest_63 K_16 x3 x4))) t_state (0 : Int32) x3) t_state (0 : Int32) x4))))) t_state x4))) t_state
noncomputable def L_X8_tightest_16 (post : Int32 → Prop) (t_state : Nat → Int32) (x1 : Int32) (x2 : Int32) (n : Nat) : Int32 → Int32 → Prop := Nat.rec (motive := fun _ => Int32 → Int32 → Prop) (fun _ _ => False) (fun _ K => LB_X8_tightest_16 post t_state x1 x2 K) n
def P_X8_tightest (post : Int32 → Prop) (t_state : Nat → Int32) (x1 : Int32) (x2 : Int32) : Prop :=
  P_X8_isPair (fun (r1 : Int32) => ((¬ r1 = 0 → ∃ n : Nat, L_X8_tightest_16 post t_state x1 x2 n (-4 : Int32) (0 : Int32)) ∧ (r1 = 0 → post (-1 : Int32)))) x1 x2
set_option maxHeartbeats 4000000 in
set_option maxRecDepth 100000 in
theorem c_X8_tightest (l : Launch) (D : va_G) (cy : Nat → ClassId) (A_t A_t_state A_t_tape A_t_ends A_t_letters A_t_least A_t_conflicts A_t_behind A_t_placed A_t_isKept A_t_lanes A_t_lengths A_t_cells : Nat) (t_taped : Int32) (t_fault : Int32) (t_broken : Int32) (t_brokenAt : Int32) (t_spot : Int32) (t_here : Int32) (t_token : Int32) (t_value : Int32) (t_isRealTold : Int32) (t_conflictMany : Int32) (t_torn : Int32) (t_state : Nat → Int32) (x1 : Int32) (x2 : Int32) (post : Int32 → Prop) (h : P_X8_tightest post t_state x1 x2) : Met l yX8_tightest wsX8_tightest { frames := 3, cells := 0, slots := 0, locals := 66 } (pcR D cy [(A_t, .inr (8, [.ref A_t_state, .ref A_t_tape, .int t_taped, .int t_fault, .int t_broken, .int t_brokenAt, .int t_spot, .int t_here, .int t_token, .int t_value, .int t_isRealTold, .ref A_t_ends, .ref A_t_letters, .ref A_t_least, .ref A_t_conflicts, .int t_conflictMany, .ref A_t_behind, .ref A_t_placed, .ref A_t_isKept, .ref A_t_lanes, .ref A_t_lengths, .ref A_t_cells, .int t_torn])), (A_t_state, .inl (cy 1, 535, .inl t_state))] [.ref A_t, .int x1, .int x2]) (vp_Si post) 0 0 (fun _ => False) := by
  refine Met.ofW (cc := cX8_tightest) (maxL := 6) (ret := (some .int)) (by decide) rfl ?_
  intro p e s m args below meth c s₁ B hml hv
  obtain ⟨rfl, hP, hK⟩ := hv
  have hx := B.exec
  have hb := B.bytes
  have hr := B.returns
  have hts := atoms_spec (ws := wsX8_tightest) B.pre
  have hown : s.vm.findClass RX8 = some m.cls := findClass_of_methodNamed B.named
  have hlocks := B.notSynchronized
  have CF : CallFix p m c cX8_tightest 6 s ([.ref A_t, .int x1, .int x2] : List Value).toArray wsX8_tightest RX8 := ⟨hx, hb, hml, hown, hts⟩
  have hl := lv_entry [.ref A_t, .int x1, .int x2] (n := 6) (Nat.le_of_ble_eq_true rfl)
  rw [lg_entry_eq]
  generalize (lg_sl [.ref A_t, .int x1, .int x2] ++ List.replicate (6 - (lg_sl [.ref A_t, .int x1, .int x2]).length) Slot.unset).toArray = ls at hl ⊢
  have hl : lv_has ls 6 [(0, .ref A_t), (1, .int x1), (2, .int x2)] := hl
  refine W.gen (fun Q0 hQ => ?_)
  have L16 : ∀ (n16 : Nat) (x3 : Int32) (x4 : Int32) (ls : Array Slot), L_X8_tightest_16 post t_state x1 x2 n16 x3 x4 → lv_has ls 6 [(0, .ref A_t), (1, .int x1), (2, .int x2), (3, .int x3), (4, .int x4)] → W p l e (headSpec wsX8_tightest { frames := 3, cells := 0, slots := 0, locals := 66 }).room s m ([.ref A_t, .int x1, .int x2] : List Value).toArray below meth c s.heap [] 0 0 Q0 (F0 m 16 ls []) := by
    intro n16
    induction n16 with
    | zero => intro x3 x4 ls h; exact False.elim h
    | succ n16 ih16 =>
      intro x3 x4 ls h hl
      have h : LB_X8_tightest_16 post t_state x1 x2 (L_X8_tightest_16 post t_state x1 x2 n16) x3 x4 := h
      unfold LB_X8_tightest_16 at h
      have J81 : ∀ (x4 : Int32) (k0 : Int32) (ls : Array Slot), B_X8_tightest_81 (L_X8_tightest_16 post t_state x1 x2 n16) k0 x4 → lv_has ls 6 [(0, .ref A_t), (1, .int x1), (2, .int x2), (4, .int x4)] → W p l e (headSpec wsX8_tightest { frames := 3, cells := 0, slots := 0, locals := 66 }).room s m ([.ref A_t, .int x1, .int x2] : List Value).toArray below meth c s.heap [] 0 0 Q0 (F0 m 81 ls [.int k0]) := by
        intro x4 k0 ls h hl
        unfold B_X8_tightest_81 at h
        refine lv_istore_n (lv' := [(3, .int k0), (0, .ref A_t), (1, .int x1), (2, .int x2), (4, .int x4)]) hx hb dX8_tightest_81 rfl hl (by decide) rfl (fun ls hl => ?_)
        refine lv_iinc (v := x4 + (1 : Int32)) (lv' := [(4, .int (x4 + (1 : Int32))), (3, .int k0), (0, .ref A_t), (1, .int x1), (2, .int x2)]) hx hb dX8_tightest_82 hl (k := 4) rfl rfl (by decide) rfl (fun ls hl => ?_)
        refine lv_goto (tgt := 16) hx hb dX8_tightest_85 (by decide) ?_
        exact ih16 k0 (x4 + (1 : Int32)) ls h (lv_sub hl [2, 3, 4, 1, 0] rfl)
      have J68 : ∀ (x3 : Int32) (x4 : Int32) (k0 : Int32) (ls : Array Slot), B_X8_tightest_68 (L_X8_tightest_16 post t_state x1 x2 n16) k0 x3 x4 → lv_has ls 6 [(0, .ref A_t), (1, .int x1), (2, .int x2), (3, .int x3), (4, .int x4)] → W p l e (headSpec wsX8_tightest { frames := 3, cells := 0, slots := 0, locals := 66 }).room s m ([.ref A_t, .int x1, .int x2] : List Value).toArray below meth c s.heap [] 0 0 Q0 (F0 m 68 ls [.int k0]) := by
        intro x3 x4 k0 ls h hl
        unfold B_X8_tightest_68 at h
        refine lv_istore (lv' := [(5, .int k0), (0, .ref A_t), (1, .int x1), (2, .int x2), (3, .int x3), (4, .int x4)]) hx hb dX8_tightest_68 hl (by decide) rfl (fun ls hl => ?_)
        refine lv_iload hx hb dX8_tightest_70 (lv_at hl 0 rfl) ?_
        refine lv_if_eq (tgt := 80) hx hb dX8_tightest_72 (by decide) (fun hc => ?_) (fun hc => ?_)
        · replace h := h.1 hc
          refine lv_iload_n hx hb dX8_tightest_80 rfl (lv_at hl 4 rfl) ?_
          exact J81 x4 x3 ls h (lv_sub hl [1, 2, 3, 5] rfl)
        · replace h := h.2 hc
          refine lv_iload hx hb dX8_tightest_75 (lv_at hl 5 rfl) ?_
          refine lv_goto (tgt := 81) hx hb dX8_tightest_77 (by decide) ?_
          exact J81 x4 x4 ls h (lv_sub hl [1, 2, 3, 5] rfl)
      have J67 : ∀ (x3 : Int32) (x4 : Int32) (ls : Array Slot), B_X8_tightest_67 (L_X8_tightest_16 post t_state x1 x2 n16) x3 x4 → lv_has ls 6 [(0, .ref A_t), (1, .int x1), (2, .int x2), (3, .int x3), (4, .int x4)] → W p l e (headSpec wsX8_tightest { frames := 3, cells := 0, slots := 0, locals := 66 }).room s m ([.ref A_t, .int x1, .int x2] : List Value).toArray below meth c s.heap [] 0 0 Q0 (F0 m 67 ls []) := by
        intro x3 x4 ls h hl
        unfold B_X8_tightest_67 at h
        refine lv_iconst (v := 0) hx hb dX8_tightest_67 (by decide) ?_
        exact J68 x3 x4 (0 : Int32) ls h (lv_sub hl [0, 1, 2, 3, 4] rfl)
      have J63 : ∀ (x3 : Int32) (x4 : Int32) (ls : Array Slot), B_X8_tightest_63 (L_X8_tightest_16 post t_state x1 x2 n16) x3 x4 → lv_has ls 6 [(0, .ref A_t), (1, .int x1), (2, .int x2), (3, .int x3), (4, .int x4)] → W p l e (headSpec wsX8_tightest { frames := 3, cells := 0, slots := 0, locals := 66 }).room s m ([.ref A_t, .int x1, .int x2] : List Value).toArray below meth c s.heap [] 0 0 Q0 (F0 m 63 ls []) := by
        intro x3 x4 ls h hl
        unfold B_X8_tightest_63 at h
        refine lv_iconst (v := 1) hx hb dX8_tightest_63 (by decide) ?_
        refine lv_goto (tgt := 68) hx hb dX8_tightest_64 (by decide) ?_
        exact J68 x3 x4 (1 : Int32) ls h (lv_sub hl [0, 1, 2, 3, 4] rfl)
      refine lv_iload hx hb dX8_tightest_16 (lv_at hl 4 rfl) ?_
      refine lv_aload_n hx hb dX8_tightest_18 rfl (lv_at hl 0 rfl) ?_
      have hPc := hP.sub (ws' := [(A_t, .inr (8, [.ref A_t_state, .ref A_t_tape, .int t_taped, .int t_fault, .int t_broken, .int t_brokenAt, .int t_spot, .int t_here, .int t_token, .int t_value, .int t_isRealTold, .ref A_t_ends, .ref A_t_letters, .ref A_t_least, .ref A_t_conflicts, .int t_conflictMany, .ref A_t_behind, .ref A_t_placed, .ref A_t_isKept, .ref A_t_lanes, .ref A_t_lengths, .ref A_t_cells, .int t_torn])), (A_t_state, .inl (cy 1, 535, .inl t_state))]) [0, 1] rfl
      refine vp_callSi (W.runV (As := []) (rest := [.int x4]) CF (c_X8_many l D cy A_t A_t_state A_t_tape A_t_ends A_t_letters A_t_least A_t_conflicts A_t_behind A_t_placed A_t_isKept A_t_lanes A_t_lengths A_t_cells t_taped t_fault t_broken t_brokenAt t_spot t_here t_token t_value t_isRealTold t_conflictMany t_torn t_state _ h) (cwV 0 hts gX8_tightest_X8_many rfl rfl rfl qX8_many ⟨Nat.le_of_ble_eq_true rfl, Nat.le_of_ble_eq_true rfl⟩) (mpVR hK hPc (ci := 8) (q := (RX8, TX8, 23)) (q0 := 0) rfl rfl) rfl rfl hl.1 rfl (lv_room (Nat.le_of_ble_eq_true rfl)) dX8_tightest_19 ⟨Nat.zero_le _, Nat.zero_le _⟩) (fun r2 h => ?_)
      refine lv_icmp_ge (tgt := 88) hx hb dX8_tightest_22 (by decide) (fun hc => ?_) (fun hc => ?_)
      · replace h := h.1 hc
        refine lv_iload_n hx hb dX8_tightest_88 rfl (lv_at hl 3 rfl) ?_
        subst hQ
        exact W.iret (v := x3) hx hb hr (fun t ht _ => ⟨x3, rfl, h, ht⟩) (fun _ hq => absurd hq List.not_mem_nil) dX8_tightest_89
      · replace h := h.2 hc
        refine lv_aload_n hx hb dX8_tightest_25 rfl (lv_at hl 0 rfl) ?_
        refine lv_iload hx hb dX8_tightest_26 (lv_at hl 4 rfl) ?_
        have hPc := hP.sub (ws' := [(A_t, .inr (8, [.ref A_t_state, .ref A_t_tape, .int t_taped, .int t_fault, .int t_broken, .int t_brokenAt, .int t_spot, .int t_here, .int t_token, .int t_value, .int t_isRealTold, .ref A_t_ends, .ref A_t_letters, .ref A_t_least, .ref A_t_conflicts, .int t_conflictMany, .ref A_t_behind, .ref A_t_placed, .ref A_t_isKept, .ref A_t_lanes, .ref A_t_lengths, .ref A_t_cells, .int t_torn])), (A_t_state, .inl (cy 1, 535, .inl t_state))]) [0, 1] rfl
        refine vp_callSi (W.runV (As := [.int x4]) (rest := []) CF (c_X8_pairOf l D cy A_t A_t_state A_t_tape A_t_ends A_t_letters A_t_least A_t_conflicts A_t_behind A_t_placed A_t_isKept A_t_lanes A_t_lengths A_t_cells t_taped t_fault t_broken t_brokenAt t_spot t_here t_token t_value t_isRealTold t_conflictMany t_torn t_state x4 _ h) (cwV 1 hts gX8_tightest_X8_pairOf rfl rfl rfl qX8_pairOf ⟨Nat.le_of_ble_eq_true rfl, Nat.le_of_ble_eq_true rfl⟩) (mpVR hK hPc (ci := 8) (q := (RX8, TX8, 23)) (q0 := 0) rfl rfl) rfl rfl hl.1 rfl (lv_room (Nat.le_of_ble_eq_true rfl)) dX8_tightest_28 ⟨Nat.zero_le _, Nat.zero_le _⟩) (fun r3 h => ?_)
        refine lv_bipush (v := 10) hx hb dX8_tightest_31 (by decide) ?_
        refine lv_iload_n hx hb dX8_tightest_33 rfl (lv_at hl 1 rfl) ?_
        refine lv_imul hx hb dX8_tightest_34 ?_
        refine lv_iload_n hx hb dX8_tightest_35 rfl (lv_at hl 2 rfl) ?_
        refine lv_iadd hx hb dX8_tightest_36 ?_
        refine lv_icmp_ne (tgt := 67) hx hb dX8_tightest_37 (by decide) (fun hc => ?_) (fun hc => ?_)
        · replace h := h.1 hc
          exact J67 x3 x4 ls h (lv_sub hl [0, 1, 2, 3, 4] rfl)
        · replace h := h.2 hc
          refine lv_iload_n hx hb dX8_tightest_40 rfl (lv_at hl 3 rfl) ?_
          refine lv_bipush (v := -4) hx hb dX8_tightest_41 (by decide) ?_
          refine lv_icmp_eq (tgt := 63) hx hb dX8_tightest_43 (by decide) (fun hc => ?_) (fun hc => ?_)
          · replace h := h.1 hc
            exact J63 x3 x4 ls h (lv_sub hl [0, 1, 2, 3, 4] rfl)
          · replace h := h.2 hc
            refine lv_aload_n hx hb dX8_tightest_46 rfl (lv_at hl 0 rfl) ?_
            refine lv_iconst (v := 0) hx hb dX8_tightest_47 (by decide) ?_
            refine lv_iload hx hb dX8_tightest_48 (lv_at hl 4 rfl) ?_
            have hPc := hP.sub (ws' := [(A_t, .inr (8, [.ref A_t_state, .ref A_t_tape, .int t_taped, .int t_fault, .int t_broken, .int t_brokenAt, .int t_spot, .int t_here, .int t_token, .int t_value, .int t_isRealTold, .ref A_t_ends, .ref A_t_letters, .ref A_t_least, .ref A_t_conflicts, .int t_conflictMany, .ref A_t_behind, .ref A_t_placed, .ref A_t_isKept, .ref A_t_lanes, .ref A_t_lengths, .ref A_t_cells, .int t_torn])), (A_t_state, .inl (cy 1, 535, .inl t_state))]) [0, 1] rfl
            refine vp_callSl (W.runV (As := [.int (0 : Int32), .int x4]) (rest := []) CF (c_X8_weightOf l D cy A_t A_t_state A_t_tape A_t_ends A_t_letters A_t_least A_t_conflicts A_t_behind A_t_placed A_t_isKept A_t_lanes A_t_lengths A_t_cells t_taped t_fault t_broken t_brokenAt t_spot t_here t_token t_value t_isRealTold t_conflictMany t_torn t_state (0 : Int32) x4 _ h) (cwV 2 hts gX8_tightest_X8_weightOf rfl rfl rfl qX8_weightOf ⟨Nat.le_of_ble_eq_true rfl, Nat.le_of_ble_eq_true rfl⟩) (mpVR hK hPc (ci := 8) (q := (RX8, TX8, 23)) (q0 := 0) rfl rfl) rfl rfl hl.1 rfl (lv_room (Nat.le_of_ble_eq_true rfl)) dX8_tightest_50 ⟨Nat.zero_le _, Nat.zero_le _⟩) (fun r4 h => ?_)
            refine lv_aload_n hx hb dX8_tightest_53 rfl (lv_at hl 0 rfl) ?_
            refine lv_iconst (v := 0) hx hb dX8_tightest_54 (by decide) ?_
            refine lv_iload_n hx hb dX8_tightest_55 rfl (lv_at hl 3 rfl) ?_
            have hPc := hP.sub (ws' := [(A_t, .inr (8, [.ref A_t_state, .ref A_t_tape, .int t_taped, .int t_fault, .int t_broken, .int t_brokenAt, .int t_spot, .int t_here, .int t_token, .int t_value, .int t_isRealTold, .ref A_t_ends, .ref A_t_letters, .ref A_t_least, .ref A_t_conflicts, .int t_conflictMany, .ref A_t_behind, .ref A_t_placed, .ref A_t_isKept, .ref A_t_lanes, .ref A_t_lengths, .ref A_t_cells, .int t_torn])), (A_t_state, .inl (cy 1, 535, .inl t_state))]) [0, 1] rfl
            refine vp_callSl (W.runV (As := [.int (0 : Int32), .int x3]) (rest := [.long r4]) CF (c_X8_weightOf l D cy A_t A_t_state A_t_tape A_t_ends A_t_letters A_t_least A_t_conflicts A_t_behind A_t_placed A_t_isKept A_t_lanes A_t_lengths A_t_cells t_taped t_fault t_broken t_brokenAt t_spot t_here t_token t_value t_isRealTold t_conflictMany t_torn t_state (0 : Int32) x3 _ h) (cwV 2 hts gX8_tightest_X8_weightOf rfl rfl rfl qX8_weightOf ⟨Nat.le_of_ble_eq_true rfl, Nat.le_of_ble_eq_true rfl⟩) (mpVR hK hPc (ci := 8) (q := (RX8, TX8, 23)) (q0 := 0) rfl rfl) rfl rfl hl.1 rfl (lv_room (Nat.le_of_ble_eq_true rfl)) dX8_tightest_56 ⟨Nat.zero_le _, Nat.zero_le _⟩) (fun r5 h => ?_)
            refine lx_ge (tgt := 67) hx hb dX8_tightest_59 dX8_tightest_60 (by decide) (fun hc => ?_) (fun hc => ?_)
            · replace h := h.1 hc
              exact J67 x3 x4 ls h (lv_sub hl [0, 1, 2, 3, 4] rfl)
            · replace h := h.2 hc
              exact J63 x3 x4 ls h (lv_sub hl [0, 1, 2, 3, 4] rfl)
  unfold P_X8_tightest at h
  refine lv_iload_n hx hb dX8_tightest_0 rfl (lv_at hl 1 rfl) ?_
  refine lv_iload_n hx hb dX8_tightest_1 rfl (lv_at hl 2 rfl) ?_
  refine vp_callSi (W.runS (As := [.int x1, .int x2]) (rest := []) CF (c_X8_isPair l x1 x2 _ h) (va_cwS 2 hts gX8_tightest_X8_isPair rfl rfl rfl qX8_isPair.2 ⟨Nat.le_of_ble_eq_true rfl, Nat.le_of_ble_eq_true rfl⟩) mpSN rfl rfl hl.1 rfl (lv_room (Nat.le_of_ble_eq_true rfl)) dX8_tightest_2 ⟨Nat.zero_le _, Nat.zero_le _⟩) (fun r1 h => ?_)
  refine lv_if_ne (tgt := 10) hx hb dX8_tightest_5 (by decide) (fun hc => ?_) (fun hc => ?_)
  · replace h := h.1 hc
    refine lv_bipush (v := -4) hx hb dX8_tightest_10 (by decide) ?_
    refine lv_istore_n (lv' := [(3, .int (-4 : Int32)), (0, .ref A_t), (1, .int x1), (2, .int x2)]) hx hb dX8_tightest_12 rfl hl (by decide) rfl (fun ls hl => ?_)
    refine lv_iconst (v := 0) hx hb dX8_tightest_13 (by decide) ?_
    refine lv_istore (lv' := [(4, .int (0 : Int32)), (3, .int (-4 : Int32)), (0, .ref A_t), (1, .int x1), (2, .int x2)]) hx hb dX8_tightest_14 hl (by decide) rfl (fun ls hl => ?_)
    obtain ⟨nn, h⟩ := h
    exact L16 nn (-4 : Int32) (0 : Int32) ls h (lv_sub hl [2, 3, 4, 1, 0] rfl)
  · replace h := h.2 hc
    refine lv_iconst (v := -1) hx hb dX8_tightest_8 (by decide) ?_
    subst hQ
    exact W.iret (v := (-1 : Int32)) hx hb hr (fun t ht _ => ⟨(-1 : Int32), rfl, h, ht⟩) (fun _ hq => absurd hq List.not_mem_nil) dX8_tightest_9
theorem qX8_pair : yX8_pair.cls = RX8 ∧ yX8_pair.cls ≠ "java/lang/invoke/MethodHandle" ∧ yX8_pair.cls ≠ "java/lang/invoke/VarHandle" ∧ (parseMethodDescriptor yX8_pair.desc).map (fun d => d.parameters.length) = some 1 := by decide +kernel
def B_X8_pair_39 (K_10 : Int32 → Int32 → Prop) (x2 : Int32) (x3 : Int32) : Prop :=
  K_10 x2 (x3 + (1 : Int32))
def LB_X8_pair_10 (post : Int32 → Prop) (t_state : Nat → Int32) (K_10 : Int32 → Int32 → Prop) (x2 : Int32) (x3 : Int32) : Prop :=
  P_X8_many (fun (r1 : Int32) => ((r1 ≤ x3 → post (-4 : Int32)) ∧ (¬ r1 ≤ x3 → P_X8_isFirstPair (fun (r2 : Int32) => ((r2 = 0 → B_X8_pair_39 K_10 x2 x3) ∧ (¬ r2 = 0 → ((¬ x2 = 0 → B_X8_pair_39 K_10 (x2 + (-1 : Int32)) x3) ∧ (x2 = 0 → P_X8_pairOf (fun (r3 : Int32) => post r3) t_state x3))))) t_state x3))) t_state
noncomputable def L_X8_pair_10 (post : Int32 → Prop) (t_state : Nat → Int32) (n : Nat) : Int32 → Int32 → Prop := Nat.rec (motive := fun _ => Int32 → Int32 → Prop) (fun _ _ => False) (fun _ K => LB_X8_pair_10 post t_state K) n
def P_X8_pair (post : Int32 → Prop) (t_state : Nat → Int32) (x1 : Int32) : Prop :=
  ((0 ≤ x1 → ∃ n : Nat, L_X8_pair_10 post t_state n x1 (0 : Int32)) ∧ (¬ 0 ≤ x1 → post (-1 : Int32)))
set_option maxHeartbeats 4000000 in
set_option maxRecDepth 100000 in
theorem c_X8_pair (l : Launch) (D : va_G) (cy : Nat → ClassId) (A_t A_t_state A_t_tape A_t_ends A_t_letters A_t_least A_t_conflicts A_t_behind A_t_placed A_t_isKept A_t_lanes A_t_lengths A_t_cells : Nat) (t_taped : Int32) (t_fault : Int32) (t_broken : Int32) (t_brokenAt : Int32) (t_spot : Int32) (t_here : Int32) (t_token : Int32) (t_value : Int32) (t_isRealTold : Int32) (t_conflictMany : Int32) (t_torn : Int32) (t_state : Nat → Int32) (x1 : Int32) (post : Int32 → Prop) (h : P_X8_pair post t_state x1) : Met l yX8_pair wsX8_pair { frames := 2, cells := 0, slots := 0, locals := 44 } (pcR D cy [(A_t, .inr (8, [.ref A_t_state, .ref A_t_tape, .int t_taped, .int t_fault, .int t_broken, .int t_brokenAt, .int t_spot, .int t_here, .int t_token, .int t_value, .int t_isRealTold, .ref A_t_ends, .ref A_t_letters, .ref A_t_least, .ref A_t_conflicts, .int t_conflictMany, .ref A_t_behind, .ref A_t_placed, .ref A_t_isKept, .ref A_t_lanes, .ref A_t_lengths, .ref A_t_cells, .int t_torn])), (A_t_state, .inl (cy 1, 535, .inl t_state))] [.ref A_t, .int x1]) (vp_Si post) 0 0 (fun _ => False) := by
  refine Met.ofW (cc := cX8_pair) (maxL := 4) (ret := (some .int)) (by decide) rfl ?_
  intro p e s m args below meth c s₁ B hml hv
  obtain ⟨rfl, hP, hK⟩ := hv
  have hx := B.exec
  have hb := B.bytes
  have hr := B.returns
  have hts := atoms_spec (ws := wsX8_pair) B.pre
  have hown : s.vm.findClass RX8 = some m.cls := findClass_of_methodNamed B.named
  have hlocks := B.notSynchronized
  have CF : CallFix p m c cX8_pair 4 s ([.ref A_t, .int x1] : List Value).toArray wsX8_pair RX8 := ⟨hx, hb, hml, hown, hts⟩
  have hl := lv_entry [.ref A_t, .int x1] (n := 4) (Nat.le_of_ble_eq_true rfl)
  rw [lg_entry_eq]
  generalize (lg_sl [.ref A_t, .int x1] ++ List.replicate (4 - (lg_sl [.ref A_t, .int x1]).length) Slot.unset).toArray = ls at hl ⊢
  have hl : lv_has ls 4 [(0, .ref A_t), (1, .int x1)] := hl
  refine W.gen (fun Q0 hQ => ?_)
  have L10 : ∀ (n10 : Nat) (x2 : Int32) (x3 : Int32) (ls : Array Slot), L_X8_pair_10 post t_state n10 x2 x3 → lv_has ls 4 [(0, .ref A_t), (2, .int x2), (3, .int x3)] → W p l e (headSpec wsX8_pair { frames := 2, cells := 0, slots := 0, locals := 44 }).room s m ([.ref A_t, .int x1] : List Value).toArray below meth c s.heap [] 0 0 Q0 (F0 m 10 ls []) := by
    intro n10
    induction n10 with
    | zero => intro x2 x3 ls h; exact False.elim h
    | succ n10 ih10 =>
      intro x2 x3 ls h hl
      have h : LB_X8_pair_10 post t_state (L_X8_pair_10 post t_state n10) x2 x3 := h
      unfold LB_X8_pair_10 at h
      have J39 : ∀ (x2 : Int32) (x3 : Int32) (ls : Array Slot), B_X8_pair_39 (L_X8_pair_10 post t_state n10) x2 x3 → lv_has ls 4 [(0, .ref A_t), (2, .int x2), (3, .int x3)] → W p l e (headSpec wsX8_pair { frames := 2, cells := 0, slots := 0, locals := 44 }).room s m ([.ref A_t, .int x1] : List Value).toArray below meth c s.heap [] 0 0 Q0 (F0 m 39 ls []) := by
        intro x2 x3 ls h hl
        unfold B_X8_pair_39 at h
        refine lv_iinc (v := x3 + (1 : Int32)) (lv' := [(3, .int (x3 + (1 : Int32))), (0, .ref A_t), (2, .int x2)]) hx hb dX8_pair_39 hl (k := 2) rfl rfl (by decide) rfl (fun ls hl => ?_)
        refine lv_goto (tgt := 10) hx hb dX8_pair_42 (by decide) ?_
        exact ih10 x2 (x3 + (1 : Int32)) ls h (lv_sub hl [1, 2, 0] rfl)
      refine lv_iload_n hx hb dX8_pair_10 rfl (lv_at hl 2 rfl) ?_
      refine lv_aload_n hx hb dX8_pair_11 rfl (lv_at hl 0 rfl) ?_
      have hPc := hP.sub (ws' := [(A_t, .inr (8, [.ref A_t_state, .ref A_t_tape, .int t_taped, .int t_fault, .int t_broken, .int t_brokenAt, .int t_spot, .int t_here, .int t_token, .int t_value, .int t_isRealTold, .ref A_t_ends, .ref A_t_letters, .ref A_t_least, .ref A_t_conflicts, .int t_conflictMany, .ref A_t_behind, .ref A_t_placed, .ref A_t_isKept, .ref A_t_lanes, .ref A_t_lengths, .ref A_t_cells, .int t_torn])), (A_t_state, .inl (cy 1, 535, .inl t_state))]) [0, 1] rfl
      refine vp_callSi (W.runV (As := []) (rest := [.int x3]) CF (c_X8_many l D cy A_t A_t_state A_t_tape A_t_ends A_t_letters A_t_least A_t_conflicts A_t_behind A_t_placed A_t_isKept A_t_lanes A_t_lengths A_t_cells t_taped t_fault t_broken t_brokenAt t_spot t_here t_token t_value t_isRealTold t_conflictMany t_torn t_state _ h) (cwV 0 hts gX8_pair_X8_many rfl rfl rfl qX8_many ⟨Nat.le_of_ble_eq_true rfl, Nat.le_of_ble_eq_true rfl⟩) (mpVR hK hPc (ci := 8) (q := (RX8, TX8, 23)) (q0 := 0) rfl rfl) rfl rfl hl.1 rfl (lv_room (Nat.le_of_ble_eq_true rfl)) dX8_pair_12 ⟨Nat.zero_le _, Nat.zero_le _⟩) (fun r1 h => ?_)
      refine lv_icmp_ge (tgt := 45) hx hb dX8_pair_15 (by decide) (fun hc => ?_) (fun hc => ?_)
      · replace h := h.1 hc
        refine lv_bipush (v := -4) hx hb dX8_pair_45 (by decide) ?_
        subst hQ
        exact W.iret (v := (-4 : Int32)) hx hb hr (fun t ht _ => ⟨(-4 : Int32), rfl, h, ht⟩) (fun _ hq => absurd hq List.not_mem_nil) dX8_pair_47
      · replace h := h.2 hc
        refine lv_aload_n hx hb dX8_pair_18 rfl (lv_at hl 0 rfl) ?_
        refine lv_iload_n hx hb dX8_pair_19 rfl (lv_at hl 2 rfl) ?_
        have hPc := hP.sub (ws' := [(A_t, .inr (8, [.ref A_t_state, .ref A_t_tape, .int t_taped, .int t_fault, .int t_broken, .int t_brokenAt, .int t_spot, .int t_here, .int t_token, .int t_value, .int t_isRealTold, .ref A_t_ends, .ref A_t_letters, .ref A_t_least, .ref A_t_conflicts, .int t_conflictMany, .ref A_t_behind, .ref A_t_placed, .ref A_t_isKept, .ref A_t_lanes, .ref A_t_lengths, .ref A_t_cells, .int t_torn])), (A_t_state, .inl (cy 1, 535, .inl t_state))]) [0, 1] rfl
        refine vp_callSi (W.runV (As := [.int x3]) (rest := []) CF (c_X8_isFirstPair l D cy A_t A_t_state A_t_tape A_t_ends A_t_letters A_t_least A_t_conflicts A_t_behind A_t_placed A_t_isKept A_t_lanes A_t_lengths A_t_cells t_taped t_fault t_broken t_brokenAt t_spot t_here t_token t_value t_isRealTold t_conflictMany t_torn t_state x3 _ h) (cwV 1 hts gX8_pair_X8_isFirstPair rfl rfl rfl qX8_isFirstPair ⟨Nat.le_of_ble_eq_true rfl, Nat.le_of_ble_eq_true rfl⟩) (mpVR hK hPc (ci := 8) (q := (RX8, TX8, 23)) (q0 := 0) rfl rfl) rfl rfl hl.1 rfl (lv_room (Nat.le_of_ble_eq_true rfl)) dX8_pair_20 ⟨Nat.zero_le _, Nat.zero_le _⟩) (fun r2 h => ?_)
        refine lv_if_eq (tgt := 39) hx hb dX8_pair_23 (by decide) (fun hc => ?_) (fun hc => ?_)
        · replace h := h.1 hc
          exact J39 x2 x3 ls h (lv_sub hl [0, 1, 2] rfl)
        · replace h := h.2 hc
          refine lv_iload_n hx hb dX8_pair_26 rfl (lv_at hl 1 rfl) ?_
          refine lv_if_ne (tgt := 36) hx hb dX8_pair_27 (by decide) (fun hc => ?_) (fun hc => ?_)
          · replace h := h.1 hc
            refine lv_iinc (v := x2 + (-1 : Int32)) (lv' := [(2, .int (x2 + (-1 : Int32))), (0, .ref A_t), (3, .int x3)]) hx hb dX8_pair_36 hl (k := 1) rfl rfl (by decide) rfl (fun ls hl => ?_)
            exact J39 (x2 + (-1 : Int32)) x3 ls h (lv_sub hl [1, 0, 2] rfl)
          · replace h := h.2 hc
            refine lv_aload_n hx hb dX8_pair_30 rfl (lv_at hl 0 rfl) ?_
            refine lv_iload_n hx hb dX8_pair_31 rfl (lv_at hl 2 rfl) ?_
            have hPc := hP.sub (ws' := [(A_t, .inr (8, [.ref A_t_state, .ref A_t_tape, .int t_taped, .int t_fault, .int t_broken, .int t_brokenAt, .int t_spot, .int t_here, .int t_token, .int t_value, .int t_isRealTold, .ref A_t_ends, .ref A_t_letters, .ref A_t_least, .ref A_t_conflicts, .int t_conflictMany, .ref A_t_behind, .ref A_t_placed, .ref A_t_isKept, .ref A_t_lanes, .ref A_t_lengths, .ref A_t_cells, .int t_torn])), (A_t_state, .inl (cy 1, 535, .inl t_state))]) [0, 1] rfl
            refine vp_callSi (W.runV (As := [.int x3]) (rest := []) CF (c_X8_pairOf l D cy A_t A_t_state A_t_tape A_t_ends A_t_letters A_t_least A_t_conflicts A_t_behind A_t_placed A_t_isKept A_t_lanes A_t_lengths A_t_cells t_taped t_fault t_broken t_brokenAt t_spot t_here t_token t_value t_isRealTold t_conflictMany t_torn t_state x3 _ h) (cwV 1 hts gX8_pair_X8_pairOf rfl rfl rfl qX8_pairOf ⟨Nat.le_of_ble_eq_true rfl, Nat.le_of_ble_eq_true rfl⟩) (mpVR hK hPc (ci := 8) (q := (RX8, TX8, 23)) (q0 := 0) rfl rfl) rfl rfl hl.1 rfl (lv_room (Nat.le_of_ble_eq_true rfl)) dX8_pair_32 ⟨Nat.zero_le _, Nat.zero_le _⟩) (fun r3 h => ?_)
            subst hQ
            exact W.iret (v := r3) hx hb hr (fun t ht _ => ⟨r3, rfl, h, ht⟩) (fun _ hq => absurd hq List.not_mem_nil) dX8_pair_35
  unfold P_X8_pair at h
  refine lv_iload_n hx hb dX8_pair_0 rfl (lv_at hl 1 rfl) ?_
  refine lv_if_ge (tgt := 6) hx hb dX8_pair_1 (by decide) (fun hc => ?_) (fun hc => ?_)
  · replace h := h.1 hc
    refine lv_iload_n hx hb dX8_pair_6 rfl (lv_at hl 1 rfl) ?_
    refine lv_istore_n (lv' := [(2, .int x1), (0, .ref A_t), (1, .int x1)]) hx hb dX8_pair_7 rfl hl (by decide) rfl (fun ls hl => ?_)
    refine lv_iconst (v := 0) hx hb dX8_pair_8 (by decide) ?_
    refine lv_istore_n (lv' := [(3, .int (0 : Int32)), (2, .int x1), (0, .ref A_t), (1, .int x1)]) hx hb dX8_pair_9 rfl hl (by decide) rfl (fun ls hl => ?_)
    obtain ⟨nn, h⟩ := h
    exact L10 nn x1 (0 : Int32) ls h (lv_sub hl [2, 1, 0] rfl)
  · replace h := h.2 hc
    refine lv_iconst (v := -1) hx hb dX8_pair_4 (by decide) ?_
    subst hQ
    exact W.iret (v := (-1 : Int32)) hx hb hr (fun t ht _ => ⟨(-1 : Int32), rfl, h, ht⟩) (fun _ hq => absurd hq List.not_mem_nil) dX8_pair_5
theorem qX8_follow : yX8_follow.cls = RX8 ∧ yX8_follow.cls ≠ "java/lang/invoke/MethodHandle" ∧ yX8_follow.cls ≠ "java/lang/invoke/VarHandle" ∧ (parseMethodDescriptor yX8_follow.desc).map (fun d => d.parameters.length) = some 2 := by decide +kernel
def P_X8_follow (post : Int64 → Prop) (t_state : Nat → Int32) (t_behind : Nat → Int64) (x1 : Int32) (x2 : Int32) : Prop :=
  (vp_in x1 535 ∧ (vp_in (((10 : Int32) * (x2 - (1 : Int32))) + (t_state x1.toNatClampNeg)) 110 ∧ (((1000000000000000000 : Int64) ≤ t_behind (((10 : Int32) * (x2 - (1 : Int32))) + (t_state x1.toNatClampNeg)).toNatClampNeg → post (1000000000000000000 : Int64)) ∧ (¬ (1000000000000000000 : Int64) ≤ t_behind (((10 : Int32) * (x2 - (1 : Int32))) + (t_state x1.toNatClampNeg)).toNatClampNeg → P_X8_weightOf (fun (r1 : Int64) => post (r1 + (t_behind (((10 : Int32) * (x2 - (1 : Int32))) + (t_state x1.toNatClampNeg)).toNatClampNeg))) t_state (0 : Int32) x1))))
set_option maxHeartbeats 4000000 in
set_option maxRecDepth 100000 in
theorem c_X8_follow (l : Launch) (D : va_G) (cy : Nat → ClassId) (A_t A_t_state A_t_tape A_t_ends A_t_letters A_t_least A_t_conflicts A_t_behind A_t_placed A_t_isKept A_t_lanes A_t_lengths A_t_cells : Nat) (t_taped : Int32) (t_fault : Int32) (t_broken : Int32) (t_brokenAt : Int32) (t_spot : Int32) (t_here : Int32) (t_token : Int32) (t_value : Int32) (t_isRealTold : Int32) (t_conflictMany : Int32) (t_torn : Int32) (t_state : Nat → Int32) (t_behind : Nat → Int64) (x1 : Int32) (x2 : Int32) (post : Int64 → Prop) (h : P_X8_follow post t_state t_behind x1 x2) : Met l yX8_follow wsX8_follow { frames := 2, cells := 0, slots := 0, locals := 44 } (pcR D cy [(A_t, .inr (8, [.ref A_t_state, .ref A_t_tape, .int t_taped, .int t_fault, .int t_broken, .int t_brokenAt, .int t_spot, .int t_here, .int t_token, .int t_value, .int t_isRealTold, .ref A_t_ends, .ref A_t_letters, .ref A_t_least, .ref A_t_conflicts, .int t_conflictMany, .ref A_t_behind, .ref A_t_placed, .ref A_t_isKept, .ref A_t_lanes, .ref A_t_lengths, .ref A_t_cells, .int t_torn])), (A_t_state, .inl (cy 1, 535, .inl t_state)), (A_t_behind, .inl (cy 2, 110, .inr (.inl t_behind)))] [.ref A_t, .int x1, .int x2]) (vp_Sl post) 0 0 (fun _ => False) := by
  refine Met.ofW (cc := cX8_follow) (maxL := 5) (ret := (some .long)) (by decide) rfl ?_
  intro p e s m args below meth c s₁ B hml hv
  obtain ⟨rfl, hP, hK⟩ := hv
  have hx := B.exec
  have hb := B.bytes
  have hr := B.returns
  have hts := atoms_spec (ws := wsX8_follow) B.pre
  have hown : s.vm.findClass RX8 = some m.cls := findClass_of_methodNamed B.named
  have hlocks := B.notSynchronized
  have CF : CallFix p m c cX8_follow 5 s ([.ref A_t, .int x1, .int x2] : List Value).toArray wsX8_follow RX8 := ⟨hx, hb, hml, hown, hts⟩
  have f0 := hts (.fieldLink RX8 29 "GapBoundsModel" "behind" "[J") (by decide +kernel)
  have f1 := hts (.fieldLink RX8 7 "GapBoundsModel" "state" "[I") (by decide +kernel)
  have f2 := hts (.constantLong RX8 151 (1000000000000000000)) (by decide +kernel)
  have iX8 : ∀ w ∈ u_ws RX8 TX8 23, w ∈ wsX8_follow := by decide +kernel
  have hl := lv_entry [.ref A_t, .int x1, .int x2] (n := 5) (Nat.le_of_ble_eq_true rfl)
  rw [lg_entry_eq]
  generalize (lg_sl [.ref A_t, .int x1, .int x2] ++ List.replicate (5 - (lg_sl [.ref A_t, .int x1, .int x2]).length) Slot.unset).toArray = ls at hl ⊢
  have hl : lv_has ls 5 [(0, .ref A_t), (1, .int x1), (2, .int x2)] := hl
  refine W.gen (fun Q0 hQ => ?_)
  unfold P_X8_follow at h
  refine lv_aload_n hx hb dX8_follow_0 rfl (lv_at hl 0 rfl) ?_
  refine va_get (D := D) (ci := 8) (v := .ref A_t_behind) (C := RX8) (T := TX8) (N := 23) hx hb hts iX8 hown hK.1 hP 0 rfl rfl 16 (by decide) f0 (fun _ h9 => h9) rfl dX8_follow_1 ?_
  refine lv_bipush (v := 10) hx hb dX8_follow_4 (by decide) ?_
  refine lv_iload_n hx hb dX8_follow_6 rfl (lv_at hl 2 rfl) ?_
  refine lv_iconst (v := 1) hx hb dX8_follow_7 (by decide) ?_
  refine lv_isub hx hb dX8_follow_8 ?_
  refine lv_imul hx hb dX8_follow_9 ?_
  refine lv_aload_n hx hb dX8_follow_10 rfl (lv_at hl 0 rfl) ?_
  refine va_get (D := D) (ci := 8) (v := .ref A_t_state) (C := RX8) (T := TX8) (N := 23) hx hb hts iX8 hown hK.1 hP 0 rfl rfl 0 (by decide) f1 (fun _ h9 => h9) rfl dX8_follow_11 ?_
  refine lv_iload_n hx hb dX8_follow_14 rfl (lv_at hl 1 rfl) ?_
  refine va_iald hx hb hK.1 hP 1 1 rfl rfl h.1 dX8_follow_15 ?_
  replace h := h.2
  refine lv_iadd hx hb dX8_follow_16 ?_
  refine va_lald hx hb hK.1 hP 2 2 rfl rfl h.1 dX8_follow_17 ?_
  replace h := h.2
  refine lv_lstore_n (lv' := [(3, .long (t_behind (((10 : Int32) * (x2 - (1 : Int32))) + (t_state x1.toNatClampNeg)).toNatClampNeg)), (0, .ref A_t), (1, .int x1), (2, .int x2)]) hx hb dX8_follow_18 rfl hl (by decide) rfl (fun ls hl => ?_)
  refine lv_lload_n hx hb dX8_follow_19 rfl (lv_at hl 0 rfl) ?_
  refine lv_ldc2 (v := 1000000000000000000) hx hb hown f2 dX8_follow_20 ?_
  refine lx_ge (tgt := 38) hx hb dX8_follow_23 dX8_follow_24 (by decide) (fun hc => ?_) (fun hc => ?_)
  · replace h := h.1 hc
    refine lv_ldc2 (v := 1000000000000000000) hx hb hown f2 dX8_follow_38 ?_
    subst hQ
    exact W.lret (v := (1000000000000000000 : Int64)) hx hb hr (fun t ht _ => ⟨(1000000000000000000 : Int64), rfl, h, ht⟩) (fun _ hq => absurd hq List.not_mem_nil) dX8_follow_41
  · replace h := h.2 hc
    refine lv_aload_n hx hb dX8_follow_27 rfl (lv_at hl 1 rfl) ?_
    refine lv_iconst (v := 0) hx hb dX8_follow_28 (by decide) ?_
    refine lv_iload_n hx hb dX8_follow_29 rfl (lv_at hl 2 rfl) ?_
    have hPc := hP.sub (ws' := [(A_t, .inr (8, [.ref A_t_state, .ref A_t_tape, .int t_taped, .int t_fault, .int t_broken, .int t_brokenAt, .int t_spot, .int t_here, .int t_token, .int t_value, .int t_isRealTold, .ref A_t_ends, .ref A_t_letters, .ref A_t_least, .ref A_t_conflicts, .int t_conflictMany, .ref A_t_behind, .ref A_t_placed, .ref A_t_isKept, .ref A_t_lanes, .ref A_t_lengths, .ref A_t_cells, .int t_torn])), (A_t_state, .inl (cy 1, 535, .inl t_state))]) [0, 1] rfl
    refine vp_callSl (W.runV (As := [.int (0 : Int32), .int x1]) (rest := []) CF (c_X8_weightOf l D cy A_t A_t_state A_t_tape A_t_ends A_t_letters A_t_least A_t_conflicts A_t_behind A_t_placed A_t_isKept A_t_lanes A_t_lengths A_t_cells t_taped t_fault t_broken t_brokenAt t_spot t_here t_token t_value t_isRealTold t_conflictMany t_torn t_state (0 : Int32) x1 _ h) (cwV 2 hts gX8_follow_X8_weightOf rfl rfl rfl qX8_weightOf ⟨Nat.le_of_ble_eq_true rfl, Nat.le_of_ble_eq_true rfl⟩) (mpVR hK hPc (ci := 8) (q := (RX8, TX8, 23)) (q0 := 0) rfl rfl) rfl rfl hl.1 rfl (lv_room (Nat.le_of_ble_eq_true rfl)) dX8_follow_30 ⟨Nat.zero_le _, Nat.zero_le _⟩) (fun r1 h => ?_)
    refine lv_lload_n hx hb dX8_follow_33 rfl (lv_at hl 0 rfl) ?_
    refine lv_ladd hx hb dX8_follow_34 ?_
    refine lv_goto (tgt := 41) hx hb dX8_follow_35 (by decide) ?_
    subst hQ
    exact W.lret (v := r1 + (t_behind (((10 : Int32) * (x2 - (1 : Int32))) + (t_state x1.toNatClampNeg)).toNatClampNeg)) hx hb hr (fun t ht _ => ⟨r1 + (t_behind (((10 : Int32) * (x2 - (1 : Int32))) + (t_state x1.toNatClampNeg)).toNatClampNeg), rfl, h, ht⟩) (fun _ hq => absurd hq List.not_mem_nil) dX8_follow_41
theorem qX8_behindAll : yX8_behindAll.cls = RX8 ∧ yX8_behindAll.cls ≠ "java/lang/invoke/MethodHandle" ∧ yX8_behindAll.cls ≠ "java/lang/invoke/VarHandle" ∧ (parseMethodDescriptor yX8_behindAll.desc).map (fun d => d.parameters.length) = some 2 := by decide +kernel
def B_X8_behindAll_152 (K_74 : (Nat → Int64) → Int32 → Prop) (t_behind : Nat → Int64) (k1 : Int32) (l2 : Int64) (x4 : Int32) : Prop :=
  (vp_in k1 110 ∧ K_74 (vp_updL t_behind k1.toNatClampNeg l2) (x4 + (1 : Int32)))
def B_X8_behindAll_119 (K_74 : (Nat → Int64) → Int32 → Prop) (t_behind : Nat → Int64) (l0 : Int64) (x4 : Int32) (x5 : Int32) : Prop :=
  (vp_in x5 110 ∧ ((t_behind x5.toNatClampNeg ≤ l0 → (vp_in x5 110 ∧ B_X8_behindAll_152 K_74 t_behind x5 (t_behind x5.toNatClampNeg) x4)) ∧ (¬ t_behind x5.toNatClampNeg ≤ l0 → B_X8_behindAll_152 K_74 t_behind x5 l0 x4)))
def LB_X8_behindAll_74 (K_34 : (Nat → Int64) → Int32 → Prop) (t_state : Nat → Int32) (x2 : Int32) (x3 : Int32) (K_74 : (Nat → Int64) → Int32 → Prop) (t_behind : Nat → Int64) (x4 : Int32) : Prop :=
  P_X8_many (fun (r1 : Int32) => ((r1 ≤ x4 → K_34 t_behind (x3 + (1 : Int32))) ∧ (¬ r1 ≤ x4 → (vp_in ((24 : Int32) + x4) 535 ∧ ((¬ x4 = x2 → P_X8_follow (fun (r2 : Int64) => B_X8_behindAll_119 K_74 t_behind r2 x4 (((10 : Int32) * x3) + (t_state ((24 : Int32) + x4).toNatClampNeg))) t_state t_behind x4 x3) ∧ (x4 = x2 → B_X8_behindAll_119 K_74 t_behind (1000000000000000000 : Int64) x4 (((10 : Int32) * x3) + (t_state ((24 : Int32) + x4).toNatClampNeg)))))))) t_state
noncomputable def L_X8_behindAll_74 (K_34 : (Nat → Int64) → Int32 → Prop) (t_state : Nat → Int32) (x2 : Int32) (x3 : Int32) (n : Nat) : (Nat → Int64) → Int32 → Prop := Nat.rec (motive := fun _ => (Nat → Int64) → Int32 → Prop) (fun _ _ => False) (fun _ K => LB_X8_behindAll_74 K_34 t_state x2 x3 K) n
def LB_X8_behindAll_43 (K_34 : (Nat → Int64) → Int32 → Prop) (t_state : Nat → Int32) (x2 : Int32) (x3 : Int32) (K_43 : (Nat → Int64) → Int32 → Prop) (t_behind : Nat → Int64) (x4 : Int32) : Prop :=
  (((10 : Int32) ≤ x4 → ∃ n : Nat, L_X8_behindAll_74 K_34 t_state x2 x3 n t_behind (0 : Int32)) ∧ (¬ (10 : Int32) ≤ x4 → (vp_in (((10 : Int32) * x3) + x4) 110 ∧ K_43 (vp_updL t_behind (((10 : Int32) * x3) + x4).toNatClampNeg (1000000000000000000 : Int64)) (x4 + (1 : Int32)))))
noncomputable def L_X8_behindAll_43 (K_34 : (Nat → Int64) → Int32 → Prop) (t_state : Nat → Int32) (x2 : Int32) (x3 : Int32) (n : Nat) : (Nat → Int64) → Int32 → Prop := Nat.rec (motive := fun _ => (Nat → Int64) → Int32 → Prop) (fun _ _ => False) (fun _ K => LB_X8_behindAll_43 K_34 t_state x2 x3 K) n
def LB_X8_behindAll_34 (post : (Nat → Int64) → Prop) (t_state : Nat → Int32) (x2 : Int32) (K_34 : (Nat → Int64) → Int32 → Prop) (t_behind : Nat → Int64) (x3 : Int32) : Prop :=
  (((11 : Int32) ≤ x3 → post t_behind) ∧ (¬ (11 : Int32) ≤ x3 → ∃ n : Nat, L_X8_behindAll_43 K_34 t_state x2 x3 n t_behind (0 : Int32)))
noncomputable def L_X8_behindAll_34 (post : (Nat → Int64) → Prop) (t_state : Nat → Int32) (x2 : Int32) (n : Nat) : (Nat → Int64) → Int32 → Prop := Nat.rec (motive := fun _ => (Nat → Int64) → Int32 → Prop) (fun _ _ => False) (fun _ K => LB_X8_behindAll_34 post t_state x2 K) n
def B_X8_behindAll_25 (K_2 : (Nat → Int64) → Int32 → Prop) (t_behind : Nat → Int64) (k1 : Int32) (l2 : Int64) (x3 : Int32) : Prop :=
  (vp_in k1 110 ∧ K_2 (vp_updL t_behind k1.toNatClampNeg l2) (x3 + (1 : Int32)))
def LB_X8_behindAll_2 (post : (Nat → Int64) → Prop) (t_state : Nat → Int32) (x1 : Int32) (x2 : Int32) (K_2 : (Nat → Int64) → Int32 → Prop) (t_behind : Nat → Int64) (x3 : Int32) : Prop :=
  (((10 : Int32) ≤ x3 → ∃ n : Nat, L_X8_behindAll_34 post t_state x2 n t_behind (1 : Int32)) ∧ (¬ (10 : Int32) ≤ x3 → ((¬ x3 = x1 → B_X8_behindAll_25 K_2 t_behind x3 (1000000000000000000 : Int64) x3) ∧ (x3 = x1 → B_X8_behindAll_25 K_2 t_behind x3 (0 : Int64) x3))))
noncomputable def L_X8_behindAll_2 (post : (Nat → Int64) → Prop) (t_state : Nat → Int32) (x1 : Int32) (x2 : Int32) (n : Nat) : (Nat → Int64) → Int32 → Prop := Nat.rec (motive := fun _ => (Nat → Int64) → Int32 → Prop) (fun _ _ => False) (fun _ K => LB_X8_behindAll_2 post t_state x1 x2 K) n
def P_X8_behindAll (post : (Nat → Int64) → Prop) (t_behind : Nat → Int64) (t_state : Nat → Int32) (x1 : Int32) (x2 : Int32) : Prop :=
  ∃ n : Nat, L_X8_behindAll_2 post t_state x1 x2 n t_behind (0 : Int32)
set_option maxHeartbeats 4000000 in
set_option maxRecDepth 100000 in
theorem c_X8_behindAll (l : Launch) (D : va_G) (cy : Nat → ClassId) (sz : Nat) (A_t A_t_state A_t_tape A_t_ends A_t_letters A_t_least A_t_conflicts A_t_behind A_t_placed A_t_isKept A_t_lanes A_t_lengths A_t_cells : Nat) (t_taped : Int32) (t_fault : Int32) (t_broken : Int32) (t_brokenAt : Int32) (t_spot : Int32) (t_here : Int32) (t_token : Int32) (t_value : Int32) (t_isRealTold : Int32) (t_conflictMany : Int32) (t_torn : Int32) (t_behind : Nat → Int64) (t_state : Nat → Int32) (x1 : Int32) (x2 : Int32) (post : (Nat → Int64) → Prop) (h : P_X8_behindAll post t_behind t_state x1 x2) : Met l yX8_behindAll wsX8_behindAll { frames := 3, cells := 0, slots := 0, locals := 68 } (pcW D cy [(A_t, .inr (8, [.ref A_t_state, .ref A_t_tape, .int t_taped, .int t_fault, .int t_broken, .int t_brokenAt, .int t_spot, .int t_here, .int t_token, .int t_value, .int t_isRealTold, .ref A_t_ends, .ref A_t_letters, .ref A_t_least, .ref A_t_conflicts, .int t_conflictMany, .ref A_t_behind, .ref A_t_placed, .ref A_t_isKept, .ref A_t_lanes, .ref A_t_lengths, .ref A_t_cells, .int t_torn])), (A_t_behind, .inl (cy 2, 110, .inr (.inl t_behind))), (A_t_state, .inl (cy 1, 535, .inl t_state))] sz [.ref A_t, .int x1, .int x2]) (va_Qv (fun (u : (Nat → Int64)) => post u) (bW D [(A_t, .inr (8, [.ref A_t_state, .ref A_t_tape, .int t_taped, .int t_fault, .int t_broken, .int t_brokenAt, .int t_spot, .int t_here, .int t_token, .int t_value, .int t_isRealTold, .ref A_t_ends, .ref A_t_letters, .ref A_t_least, .ref A_t_conflicts, .int t_conflictMany, .ref A_t_behind, .ref A_t_placed, .ref A_t_isKept, .ref A_t_lanes, .ref A_t_lengths, .ref A_t_cells, .int t_torn])), (A_t_behind, .inl (cy 2, 110, .inr (.inl t_behind))), (A_t_state, .inl (cy 1, 535, .inl t_state))] sz (fun u => [(A_t, .inr (8, [.ref A_t_state, .ref A_t_tape, .int t_taped, .int t_fault, .int t_broken, .int t_brokenAt, .int t_spot, .int t_here, .int t_token, .int t_value, .int t_isRealTold, .ref A_t_ends, .ref A_t_letters, .ref A_t_least, .ref A_t_conflicts, .int t_conflictMany, .ref A_t_behind, .ref A_t_placed, .ref A_t_isKept, .ref A_t_lanes, .ref A_t_lengths, .ref A_t_cells, .int t_torn])), (A_t_behind, .inl (cy 2, 110, .inr (.inl u))), (A_t_state, .inl (cy 1, 535, .inl t_state))])) (va_A [(A_t, .inr (8, [.ref A_t_state, .ref A_t_tape, .int t_taped, .int t_fault, .int t_broken, .int t_brokenAt, .int t_spot, .int t_here, .int t_token, .int t_value, .int t_isRealTold, .ref A_t_ends, .ref A_t_letters, .ref A_t_least, .ref A_t_conflicts, .int t_conflictMany, .ref A_t_behind, .ref A_t_placed, .ref A_t_isKept, .ref A_t_lanes, .ref A_t_lengths, .ref A_t_cells, .int t_torn])), (A_t_behind, .inl (cy 2, 110, .inr (.inl t_behind))), (A_t_state, .inl (cy 1, 535, .inl t_state))] sz)) 0 0 (va_A [(A_t, .inr (8, [.ref A_t_state, .ref A_t_tape, .int t_taped, .int t_fault, .int t_broken, .int t_brokenAt, .int t_spot, .int t_here, .int t_token, .int t_value, .int t_isRealTold, .ref A_t_ends, .ref A_t_letters, .ref A_t_least, .ref A_t_conflicts, .int t_conflictMany, .ref A_t_behind, .ref A_t_placed, .ref A_t_isKept, .ref A_t_lanes, .ref A_t_lengths, .ref A_t_cells, .int t_torn])), (A_t_behind, .inl (cy 2, 110, .inr (.inl t_behind))), (A_t_state, .inl (cy 1, 535, .inl t_state))] sz) := by
  refine Met.ofW (cc := cX8_behindAll) (maxL := 8) (ret := none) (by decide) rfl ?_
  intro p e s m args below meth c s₁ B hml hv
  obtain ⟨rfl, hsz, hP, hK, hD0⟩ := hv
  have hx := B.exec
  have hb := B.bytes
  have hr := B.returns
  have hts := atoms_spec (ws := wsX8_behindAll) B.pre
  have hown : s.vm.findClass RX8 = some m.cls := findClass_of_methodNamed B.named
  have hlocks := B.notSynchronized
  have CF : CallFix p m c cX8_behindAll 8 s ([.ref A_t, .int x1, .int x2] : List Value).toArray wsX8_behindAll RX8 := ⟨hx, hb, hml, hown, hts⟩
  have f0 := hts (.fieldLink RX8 7 "GapBoundsModel" "state" "[I") (by decide +kernel)
  have f1 := hts (.fieldLink RX8 29 "GapBoundsModel" "behind" "[J") (by decide +kernel)
  have f2 := hts (.constantLong RX8 151 (1000000000000000000)) (by decide +kernel)
  have iX8 : ∀ w ∈ u_ws RX8 TX8 23, w ∈ wsX8_behindAll := by decide +kernel
  subst hsz
  obtain ⟨A, hAe⟩ : ∃ A, A = va_A [(A_t, .inr (8, [.ref A_t_state, .ref A_t_tape, .int t_taped, .int t_fault, .int t_broken, .int t_brokenAt, .int t_spot, .int t_here, .int t_token, .int t_value, .int t_isRealTold, .ref A_t_ends, .ref A_t_letters, .ref A_t_least, .ref A_t_conflicts, .int t_conflictMany, .ref A_t_behind, .ref A_t_placed, .ref A_t_isKept, .ref A_t_lanes, .ref A_t_lengths, .ref A_t_cells, .int t_torn])), (A_t_behind, .inl (cy 2, 110, .inr (.inl t_behind))), (A_t_state, .inl (cy 1, 535, .inl t_state))] s.heap.size := ⟨_, rfl⟩
  have hD : va_D A [(A_t, .inr (8, [.ref A_t_state, .ref A_t_tape, .int t_taped, .int t_fault, .int t_broken, .int t_brokenAt, .int t_spot, .int t_here, .int t_token, .int t_value, .int t_isRealTold, .ref A_t_ends, .ref A_t_letters, .ref A_t_least, .ref A_t_conflicts, .int t_conflictMany, .ref A_t_behind, .ref A_t_placed, .ref A_t_isKept, .ref A_t_lanes, .ref A_t_lengths, .ref A_t_cells, .int t_torn])), (A_t_behind, .inl (cy 2, 110, .inr (.inl t_behind))), (A_t_state, .inl (cy 1, 535, .inl t_state))] := by rw [hAe]; exact hD0.self
  have hA : ∀ q : Nat, s.heap.size ≤ q → A q := fun q hq => by rw [hAe]; exact Or.inr hq
  have hS : va_S A s.heap s.heap [] := va_S.rf
  have hl := lv_entry [.ref A_t, .int x1, .int x2] (n := 8) (Nat.le_of_ble_eq_true rfl)
  rw [lg_entry_eq]
  generalize (lg_sl [.ref A_t, .int x1, .int x2] ++ List.replicate (8 - (lg_sl [.ref A_t, .int x1, .int x2]).length) Slot.unset).toArray = ls at hl ⊢
  have hl : lv_has ls 8 [(0, .ref A_t), (1, .int x1), (2, .int x2)] := hl
  refine W.gen (fun Q0 hQ => ?_)
  have L34 : ∀ (n34 : Nat) (t_behind : Nat → Int64) (x3 : Int32) (H : Heap) (locs : List Loc) (ls : Array Slot), L_X8_behindAll_34 post t_state x2 n34 t_behind x3 → va_P D vwCl [(A_t, .inr (8, [.ref A_t_state, .ref A_t_tape, .int t_taped, .int t_fault, .int t_broken, .int t_brokenAt, .int t_spot, .int t_here, .int t_token, .int t_value, .int t_isRealTold, .ref A_t_ends, .ref A_t_letters, .ref A_t_least, .ref A_t_conflicts, .int t_conflictMany, .ref A_t_behind, .ref A_t_placed, .ref A_t_isKept, .ref A_t_lanes, .ref A_t_lengths, .ref A_t_cells, .int t_torn])), (A_t_behind, .inl (cy 2, 110, .inr (.inl t_behind))), (A_t_state, .inl (cy 1, 535, .inl t_state))] H → va_D A [(A_t, .inr (8, [.ref A_t_state, .ref A_t_tape, .int t_taped, .int t_fault, .int t_broken, .int t_brokenAt, .int t_spot, .int t_here, .int t_token, .int t_value, .int t_isRealTold, .ref A_t_ends, .ref A_t_letters, .ref A_t_least, .ref A_t_conflicts, .int t_conflictMany, .ref A_t_behind, .ref A_t_placed, .ref A_t_isKept, .ref A_t_lanes, .ref A_t_lengths, .ref A_t_cells, .int t_torn])), (A_t_behind, .inl (cy 2, 110, .inr (.inl t_behind))), (A_t_state, .inl (cy 1, 535, .inl t_state))] → va_S A s.heap H locs → lv_has ls 8 [(0, .ref A_t), (2, .int x2), (3, .int x3)] → W p l e (headSpec wsX8_behindAll { frames := 3, cells := 0, slots := 0, locals := 68 }).room s m ([.ref A_t, .int x1, .int x2] : List Value).toArray below meth c H locs 0 0 Q0 (F0 m 34 ls []) := by
    intro n34
    induction n34 with
    | zero => intro t_behind x3 H locs ls h; exact False.elim h
    | succ n34 ih34 =>
      intro t_behind x3 H locs ls h hP hD hS hl
      have h : LB_X8_behindAll_34 post t_state x2 (L_X8_behindAll_34 post t_state x2 n34) t_behind x3 := h
      unfold LB_X8_behindAll_34 at h
      have L74 : ∀ (n74 : Nat) (t_behind : Nat → Int64) (x3 : Int32) (x4 : Int32) (H : Heap) (locs : List Loc) (ls : Array Slot), L_X8_behindAll_74 (L_X8_behindAll_34 post t_state x2 n34) t_state x2 x3 n74 t_behind x4 → va_P D vwCl [(A_t, .inr (8, [.ref A_t_state, .ref A_t_tape, .int t_taped, .int t_fault, .int t_broken, .int t_brokenAt, .int t_spot, .int t_here, .int t_token, .int t_value, .int t_isRealTold, .ref A_t_ends, .ref A_t_letters, .ref A_t_least, .ref A_t_conflicts, .int t_conflictMany, .ref A_t_behind, .ref A_t_placed, .ref A_t_isKept, .ref A_t_lanes, .ref A_t_lengths, .ref A_t_cells, .int t_torn])), (A_t_behind, .inl (cy 2, 110, .inr (.inl t_behind))), (A_t_state, .inl (cy 1, 535, .inl t_state))] H → va_D A [(A_t, .inr (8, [.ref A_t_state, .ref A_t_tape, .int t_taped, .int t_fault, .int t_broken, .int t_brokenAt, .int t_spot, .int t_here, .int t_token, .int t_value, .int t_isRealTold, .ref A_t_ends, .ref A_t_letters, .ref A_t_least, .ref A_t_conflicts, .int t_conflictMany, .ref A_t_behind, .ref A_t_placed, .ref A_t_isKept, .ref A_t_lanes, .ref A_t_lengths, .ref A_t_cells, .int t_torn])), (A_t_behind, .inl (cy 2, 110, .inr (.inl t_behind))), (A_t_state, .inl (cy 1, 535, .inl t_state))] → va_S A s.heap H locs → lv_has ls 8 [(0, .ref A_t), (2, .int x2), (3, .int x3), (4, .int x4)] → W p l e (headSpec wsX8_behindAll { frames := 3, cells := 0, slots := 0, locals := 68 }).room s m ([.ref A_t, .int x1, .int x2] : List Value).toArray below meth c H locs 0 0 Q0 (F0 m 74 ls []) := by
        intro n74
        induction n74 with
        | zero => intro t_behind x3 x4 H locs ls h; exact False.elim h
        | succ n74 ih74 =>
          intro t_behind x3 x4 H locs ls h hP hD hS hl
          have h : LB_X8_behindAll_74 (L_X8_behindAll_34 post t_state x2 n34) t_state x2 x3 (L_X8_behindAll_74 (L_X8_behindAll_34 post t_state x2 n34) t_state x2 x3 n74) t_behind x4 := h
          unfold LB_X8_behindAll_74 at h
          have J152 : ∀ (t_behind : Nat → Int64) (x3 : Int32) (x4 : Int32) (k1 : Int32) (l2 : Int64) (H : Heap) (locs : List Loc) (ls : Array Slot), B_X8_behindAll_152 (L_X8_behindAll_74 (L_X8_behindAll_34 post t_state x2 n34) t_state x2 x3 n74) t_behind k1 l2 x4 → va_P D vwCl [(A_t, .inr (8, [.ref A_t_state, .ref A_t_tape, .int t_taped, .int t_fault, .int t_broken, .int t_brokenAt, .int t_spot, .int t_here, .int t_token, .int t_value, .int t_isRealTold, .ref A_t_ends, .ref A_t_letters, .ref A_t_least, .ref A_t_conflicts, .int t_conflictMany, .ref A_t_behind, .ref A_t_placed, .ref A_t_isKept, .ref A_t_lanes, .ref A_t_lengths, .ref A_t_cells, .int t_torn])), (A_t_behind, .inl (cy 2, 110, .inr (.inl t_behind))), (A_t_state, .inl (cy 1, 535, .inl t_state))] H → va_D A [(A_t, .inr (8, [.ref A_t_state, .ref A_t_tape, .int t_taped, .int t_fault, .int t_broken, .int t_brokenAt, .int t_spot, .int t_here, .int t_token, .int t_value, .int t_isRealTold, .ref A_t_ends, .ref A_t_letters, .ref A_t_least, .ref A_t_conflicts, .int t_conflictMany, .ref A_t_behind, .ref A_t_placed, .ref A_t_isKept, .ref A_t_lanes, .ref A_t_lengths, .ref A_t_cells, .int t_torn])), (A_t_behind, .inl (cy 2, 110, .inr (.inl t_behind))), (A_t_state, .inl (cy 1, 535, .inl t_state))] → va_S A s.heap H locs → lv_has ls 8 [(0, .ref A_t), (2, .int x2), (3, .int x3), (4, .int x4)] → W p l e (headSpec wsX8_behindAll { frames := 3, cells := 0, slots := 0, locals := 68 }).room s m ([.ref A_t, .int x1, .int x2] : List Value).toArray below meth c H locs 0 0 Q0 (F0 m 152 ls [.long l2, .int k1, .ref A_t_behind]) := by
            intro t_behind x3 x4 k1 l2 H locs ls h hP hD hS hl
            unfold B_X8_behindAll_152 at h
            refine va_last hx hb hK.1 hP hD hS 1 2 rfl rfl h.1 dX8_behindAll_152 (fun H locs hP hD hS => ?_)
            replace h := h.2
            have hP : va_P D vwCl [(A_t, .inr (8, [.ref A_t_state, .ref A_t_tape, .int t_taped, .int t_fault, .int t_broken, .int t_brokenAt, .int t_spot, .int t_here, .int t_token, .int t_value, .int t_isRealTold, .ref A_t_ends, .ref A_t_letters, .ref A_t_least, .ref A_t_conflicts, .int t_conflictMany, .ref A_t_behind, .ref A_t_placed, .ref A_t_isKept, .ref A_t_lanes, .ref A_t_lengths, .ref A_t_cells, .int t_torn])), (A_t_behind, .inl (cy 2, 110, .inr (.inl (vp_updL t_behind k1.toNatClampNeg l2)))), (A_t_state, .inl (cy 1, 535, .inl t_state))] H := hP
            have hD : va_D A [(A_t, .inr (8, [.ref A_t_state, .ref A_t_tape, .int t_taped, .int t_fault, .int t_broken, .int t_brokenAt, .int t_spot, .int t_here, .int t_token, .int t_value, .int t_isRealTold, .ref A_t_ends, .ref A_t_letters, .ref A_t_least, .ref A_t_conflicts, .int t_conflictMany, .ref A_t_behind, .ref A_t_placed, .ref A_t_isKept, .ref A_t_lanes, .ref A_t_lengths, .ref A_t_cells, .int t_torn])), (A_t_behind, .inl (cy 2, 110, .inr (.inl (vp_updL t_behind k1.toNatClampNeg l2)))), (A_t_state, .inl (cy 1, 535, .inl t_state))] := hD
            refine lv_iinc (v := x4 + (1 : Int32)) (lv' := [(4, .int (x4 + (1 : Int32))), (0, .ref A_t), (2, .int x2), (3, .int x3)]) hx hb dX8_behindAll_153 hl (k := 3) rfl rfl (by decide) rfl (fun ls hl => ?_)
            refine lv_goto (tgt := 74) hx hb dX8_behindAll_156 (by decide) ?_
            exact ih74 (vp_updL t_behind k1.toNatClampNeg l2) x3 (x4 + (1 : Int32)) H locs ls h hP hD hS (lv_sub hl [1, 2, 3, 0] rfl)
          have J119 : ∀ (t_behind : Nat → Int64) (x3 : Int32) (x4 : Int32) (x5 : Int32) (l0 : Int64) (H : Heap) (locs : List Loc) (ls : Array Slot), B_X8_behindAll_119 (L_X8_behindAll_74 (L_X8_behindAll_34 post t_state x2 n34) t_state x2 x3 n74) t_behind l0 x4 x5 → va_P D vwCl [(A_t, .inr (8, [.ref A_t_state, .ref A_t_tape, .int t_taped, .int t_fault, .int t_broken, .int t_brokenAt, .int t_spot, .int t_here, .int t_token, .int t_value, .int t_isRealTold, .ref A_t_ends, .ref A_t_letters, .ref A_t_least, .ref A_t_conflicts, .int t_conflictMany, .ref A_t_behind, .ref A_t_placed, .ref A_t_isKept, .ref A_t_lanes, .ref A_t_lengths, .ref A_t_cells, .int t_torn])), (A_t_behind, .inl (cy 2, 110, .inr (.inl t_behind))), (A_t_state, .inl (cy 1, 535, .inl t_state))] H → va_D A [(A_t, .inr (8, [.ref A_t_state, .ref A_t_tape, .int t_taped, .int t_fault, .int t_broken, .int t_brokenAt, .int t_spot, .int t_here, .int t_token, .int t_value, .int t_isRealTold, .ref A_t_ends, .ref A_t_letters, .ref A_t_least, .ref A_t_conflicts, .int t_conflictMany, .ref A_t_behind, .ref A_t_placed, .ref A_t_isKept, .ref A_t_lanes, .ref A_t_lengths, .ref A_t_cells, .int t_torn])), (A_t_behind, .inl (cy 2, 110, .inr (.inl t_behind))), (A_t_state, .inl (cy 1, 535, .inl t_state))] → va_S A s.heap H locs → lv_has ls 8 [(0, .ref A_t), (2, .int x2), (3, .int x3), (4, .int x4), (5, .int x5)] → W p l e (headSpec wsX8_behindAll { frames := 3, cells := 0, slots := 0, locals := 68 }).room s m ([.ref A_t, .int x1, .int x2] : List Value).toArray below meth c H locs 0 0 Q0 (F0 m 119 ls [.long l0]) := by
            intro t_behind x3 x4 x5 l0 H locs ls h hP hD hS hl
            unfold B_X8_behindAll_119 at h
            refine lv_lstore (lv' := [(6, .long l0), (0, .ref A_t), (2, .int x2), (3, .int x3), (4, .int x4), (5, .int x5)]) hx hb dX8_behindAll_119 hl (by decide) rfl (fun ls hl => ?_)
            refine lv_aload_n hx hb dX8_behindAll_121 rfl (lv_at hl 1 rfl) ?_
            refine va_get (D := D) (ci := 8) (v := .ref A_t_behind) (C := RX8) (T := TX8) (N := 23) hx hb hts iX8 hown hK.1 hP 0 rfl rfl 16 (by decide) f1 (fun _ h9 => h9) rfl dX8_behindAll_122 ?_
            refine lv_iload hx hb dX8_behindAll_125 (lv_at hl 5 rfl) ?_
            refine lv_lload hx hb dX8_behindAll_127 (lv_at hl 0 rfl) ?_
            refine lv_aload_n hx hb dX8_behindAll_129 rfl (lv_at hl 1 rfl) ?_
            refine va_get (D := D) (ci := 8) (v := .ref A_t_behind) (C := RX8) (T := TX8) (N := 23) hx hb hts iX8 hown hK.1 hP 0 rfl rfl 16 (by decide) f1 (fun _ h9 => h9) rfl dX8_behindAll_130 ?_
            refine lv_iload hx hb dX8_behindAll_133 (lv_at hl 5 rfl) ?_
            refine va_lald hx hb hK.1 hP 1 2 rfl rfl h.1 dX8_behindAll_135 ?_
            replace h := h.2
            refine lx_ge (tgt := 145) hx hb dX8_behindAll_136 dX8_behindAll_137 (by decide) (fun hc => ?_) (fun hc => ?_)
            · replace h := h.1 hc
              refine lv_aload_n hx hb dX8_behindAll_145 rfl (lv_at hl 1 rfl) ?_
              refine va_get (D := D) (ci := 8) (v := .ref A_t_behind) (C := RX8) (T := TX8) (N := 23) hx hb hts iX8 hown hK.1 hP 0 rfl rfl 16 (by decide) f1 (fun _ h9 => h9) rfl dX8_behindAll_146 ?_
              refine lv_iload hx hb dX8_behindAll_149 (lv_at hl 5 rfl) ?_
              refine va_lald hx hb hK.1 hP 1 2 rfl rfl h.1 dX8_behindAll_151 ?_
              replace h := h.2
              exact J152 t_behind x3 x4 x5 (t_behind x5.toNatClampNeg) H locs ls h hP hD hS (lv_sub hl [1, 2, 3, 4] rfl)
            · replace h := h.2 hc
              refine lv_lload hx hb dX8_behindAll_140 (lv_at hl 0 rfl) ?_
              refine lv_goto (tgt := 152) hx hb dX8_behindAll_142 (by decide) ?_
              exact J152 t_behind x3 x4 x5 l0 H locs ls h hP hD hS (lv_sub hl [1, 2, 3, 4] rfl)
          refine lv_iload hx hb dX8_behindAll_74 (lv_at hl 3 rfl) ?_
          refine lv_aload_n hx hb dX8_behindAll_76 rfl (lv_at hl 0 rfl) ?_
          have hPc := hP.sub (ws' := [(A_t, .inr (8, [.ref A_t_state, .ref A_t_tape, .int t_taped, .int t_fault, .int t_broken, .int t_brokenAt, .int t_spot, .int t_here, .int t_token, .int t_value, .int t_isRealTold, .ref A_t_ends, .ref A_t_letters, .ref A_t_least, .ref A_t_conflicts, .int t_conflictMany, .ref A_t_behind, .ref A_t_placed, .ref A_t_isKept, .ref A_t_lanes, .ref A_t_lengths, .ref A_t_cells, .int t_torn])), (A_t_state, .inl (cy 1, 535, .inl t_state))]) [0, 2] rfl
          refine vp_callSi (W.runV (As := []) (rest := [.int x4]) CF (c_X8_many l D cy A_t A_t_state A_t_tape A_t_ends A_t_letters A_t_least A_t_conflicts A_t_behind A_t_placed A_t_isKept A_t_lanes A_t_lengths A_t_cells t_taped t_fault t_broken t_brokenAt t_spot t_here t_token t_value t_isRealTold t_conflictMany t_torn t_state _ h) (cwV 0 hts gX8_behindAll_X8_many rfl rfl rfl qX8_many ⟨Nat.le_of_ble_eq_true rfl, Nat.le_of_ble_eq_true rfl⟩) (mpVR hK hPc (ci := 8) (q := (RX8, TX8, 23)) (q0 := 0) rfl rfl) rfl rfl hl.1 rfl (lv_room (Nat.le_of_ble_eq_true rfl)) dX8_behindAll_77 ⟨Nat.zero_le _, Nat.zero_le _⟩) (fun r1 h => ?_)
          refine lv_icmp_ge (tgt := 159) hx hb dX8_behindAll_80 (by decide) (fun hc => ?_) (fun hc => ?_)
          · replace h := h.1 hc
            refine lv_iinc (v := x3 + (1 : Int32)) (lv' := [(3, .int (x3 + (1 : Int32))), (0, .ref A_t), (2, .int x2), (4, .int x4)]) hx hb dX8_behindAll_159 hl (k := 2) rfl rfl (by decide) rfl (fun ls hl => ?_)
            refine lv_goto (tgt := 34) hx hb dX8_behindAll_162 (by decide) ?_
            exact ih34 t_behind (x3 + (1 : Int32)) H locs ls h hP hD hS (lv_sub hl [1, 2, 0] rfl)
          · replace h := h.2 hc
            refine lv_bipush (v := 10) hx hb dX8_behindAll_83 (by decide) ?_
            refine lv_iload_n hx hb dX8_behindAll_85 rfl (lv_at hl 2 rfl) ?_
            refine lv_imul hx hb dX8_behindAll_86 ?_
            refine lv_aload_n hx hb dX8_behindAll_87 rfl (lv_at hl 0 rfl) ?_
            refine va_get (D := D) (ci := 8) (v := .ref A_t_state) (C := RX8) (T := TX8) (N := 23) hx hb hts iX8 hown hK.1 hP 0 rfl rfl 0 (by decide) f0 (fun _ h9 => h9) rfl dX8_behindAll_88 ?_
            refine lv_bipush (v := 24) hx hb dX8_behindAll_91 (by decide) ?_
            refine lv_iload hx hb dX8_behindAll_93 (lv_at hl 3 rfl) ?_
            refine lv_iadd hx hb dX8_behindAll_95 ?_
            refine va_iald hx hb hK.1 hP 2 1 rfl rfl h.1 dX8_behindAll_96 ?_
            replace h := h.2
            refine lv_iadd hx hb dX8_behindAll_97 ?_
            refine lv_istore (lv' := [(5, .int (((10 : Int32) * x3) + (t_state ((24 : Int32) + x4).toNatClampNeg))), (0, .ref A_t), (2, .int x2), (3, .int x3), (4, .int x4)]) hx hb dX8_behindAll_98 hl (by decide) rfl (fun ls hl => ?_)
            refine lv_iload hx hb dX8_behindAll_100 (lv_at hl 4 rfl) ?_
            refine lv_iload_n hx hb dX8_behindAll_102 rfl (lv_at hl 2 rfl) ?_
            refine lv_icmp_ne (tgt := 112) hx hb dX8_behindAll_103 (by decide) (fun hc => ?_) (fun hc => ?_)
            · replace h := h.1 hc
              refine lv_aload_n hx hb dX8_behindAll_112 rfl (lv_at hl 1 rfl) ?_
              refine lv_iload hx hb dX8_behindAll_113 (lv_at hl 4 rfl) ?_
              refine lv_iload_n hx hb dX8_behindAll_115 rfl (lv_at hl 3 rfl) ?_
              have hPc := hP.sub (ws' := [(A_t, .inr (8, [.ref A_t_state, .ref A_t_tape, .int t_taped, .int t_fault, .int t_broken, .int t_brokenAt, .int t_spot, .int t_here, .int t_token, .int t_value, .int t_isRealTold, .ref A_t_ends, .ref A_t_letters, .ref A_t_least, .ref A_t_conflicts, .int t_conflictMany, .ref A_t_behind, .ref A_t_placed, .ref A_t_isKept, .ref A_t_lanes, .ref A_t_lengths, .ref A_t_cells, .int t_torn])), (A_t_state, .inl (cy 1, 535, .inl t_state)), (A_t_behind, .inl (cy 2, 110, .inr (.inl t_behind)))]) [0, 2, 1] rfl
              refine vp_callSl (W.runV (As := [.int x4, .int x3]) (rest := []) CF (c_X8_follow l D cy A_t A_t_state A_t_tape A_t_ends A_t_letters A_t_least A_t_conflicts A_t_behind A_t_placed A_t_isKept A_t_lanes A_t_lengths A_t_cells t_taped t_fault t_broken t_brokenAt t_spot t_here t_token t_value t_isRealTold t_conflictMany t_torn t_state t_behind x4 x3 _ h) (cwV 2 hts gX8_behindAll_X8_follow rfl rfl rfl qX8_follow ⟨Nat.le_of_ble_eq_true rfl, Nat.le_of_ble_eq_true rfl⟩) (mpVR hK hPc (ci := 8) (q := (RX8, TX8, 23)) (q0 := 0) rfl rfl) rfl rfl hl.1 rfl (lv_room (Nat.le_of_ble_eq_true rfl)) dX8_behindAll_116 ⟨Nat.zero_le _, Nat.zero_le _⟩) (fun r2 h => ?_)
              exact J119 t_behind x3 x4 (((10 : Int32) * x3) + (t_state ((24 : Int32) + x4).toNatClampNeg)) r2 H locs ls h hP hD hS (lv_sub hl [1, 2, 3, 4, 0] rfl)
            · replace h := h.2 hc
              refine lv_ldc2 (v := 1000000000000000000) hx hb hown f2 dX8_behindAll_106 ?_
              refine lv_goto (tgt := 119) hx hb dX8_behindAll_109 (by decide) ?_
              exact J119 t_behind x3 x4 (((10 : Int32) * x3) + (t_state ((24 : Int32) + x4).toNatClampNeg)) (1000000000000000000 : Int64) H locs ls h hP hD hS (lv_sub hl [1, 2, 3, 4, 0] rfl)
      have L43 : ∀ (n43 : Nat) (t_behind : Nat → Int64) (x3 : Int32) (x4 : Int32) (H : Heap) (locs : List Loc) (ls : Array Slot), L_X8_behindAll_43 (L_X8_behindAll_34 post t_state x2 n34) t_state x2 x3 n43 t_behind x4 → va_P D vwCl [(A_t, .inr (8, [.ref A_t_state, .ref A_t_tape, .int t_taped, .int t_fault, .int t_broken, .int t_brokenAt, .int t_spot, .int t_here, .int t_token, .int t_value, .int t_isRealTold, .ref A_t_ends, .ref A_t_letters, .ref A_t_least, .ref A_t_conflicts, .int t_conflictMany, .ref A_t_behind, .ref A_t_placed, .ref A_t_isKept, .ref A_t_lanes, .ref A_t_lengths, .ref A_t_cells, .int t_torn])), (A_t_behind, .inl (cy 2, 110, .inr (.inl t_behind))), (A_t_state, .inl (cy 1, 535, .inl t_state))] H → va_D A [(A_t, .inr (8, [.ref A_t_state, .ref A_t_tape, .int t_taped, .int t_fault, .int t_broken, .int t_brokenAt, .int t_spot, .int t_here, .int t_token, .int t_value, .int t_isRealTold, .ref A_t_ends, .ref A_t_letters, .ref A_t_least, .ref A_t_conflicts, .int t_conflictMany, .ref A_t_behind, .ref A_t_placed, .ref A_t_isKept, .ref A_t_lanes, .ref A_t_lengths, .ref A_t_cells, .int t_torn])), (A_t_behind, .inl (cy 2, 110, .inr (.inl t_behind))), (A_t_state, .inl (cy 1, 535, .inl t_state))] → va_S A s.heap H locs → lv_has ls 8 [(0, .ref A_t), (2, .int x2), (3, .int x3), (4, .int x4)] → W p l e (headSpec wsX8_behindAll { frames := 3, cells := 0, slots := 0, locals := 68 }).room s m ([.ref A_t, .int x1, .int x2] : List Value).toArray below meth c H locs 0 0 Q0 (F0 m 43 ls []) := by
        intro n43
        induction n43 with
        | zero => intro t_behind x3 x4 H locs ls h; exact False.elim h
        | succ n43 ih43 =>
          intro t_behind x3 x4 H locs ls h hP hD hS hl
          have h : LB_X8_behindAll_43 (L_X8_behindAll_34 post t_state x2 n34) t_state x2 x3 (L_X8_behindAll_43 (L_X8_behindAll_34 post t_state x2 n34) t_state x2 x3 n43) t_behind x4 := h
          unfold LB_X8_behindAll_43 at h
          refine lv_iload hx hb dX8_behindAll_43 (lv_at hl 3 rfl) ?_
          refine lv_bipush (v := 10) hx hb dX8_behindAll_45 (by decide) ?_
          refine lv_icmp_ge (tgt := 71) hx hb dX8_behindAll_47 (by decide) (fun hc => ?_) (fun hc => ?_)
          · replace h := h.1 hc
            refine lv_iconst (v := 0) hx hb dX8_behindAll_71 (by decide) ?_
            refine lv_istore (lv' := [(4, .int (0 : Int32)), (0, .ref A_t), (2, .int x2), (3, .int x3)]) hx hb dX8_behindAll_72 hl (by decide) rfl (fun ls hl => ?_)
            obtain ⟨nn, h⟩ := h
            exact L74 nn t_behind x3 (0 : Int32) H locs ls h hP hD hS (lv_sub hl [1, 2, 3, 0] rfl)
          · replace h := h.2 hc
            refine lv_aload_n hx hb dX8_behindAll_50 rfl (lv_at hl 0 rfl) ?_
            refine va_get (D := D) (ci := 8) (v := .ref A_t_behind) (C := RX8) (T := TX8) (N := 23) hx hb hts iX8 hown hK.1 hP 0 rfl rfl 16 (by decide) f1 (fun _ h9 => h9) rfl dX8_behindAll_51 ?_
            refine lv_bipush (v := 10) hx hb dX8_behindAll_54 (by decide) ?_
            refine lv_iload_n hx hb dX8_behindAll_56 rfl (lv_at hl 2 rfl) ?_
            refine lv_imul hx hb dX8_behindAll_57 ?_
            refine lv_iload hx hb dX8_behindAll_58 (lv_at hl 3 rfl) ?_
            refine lv_iadd hx hb dX8_behindAll_60 ?_
            refine lv_ldc2 (v := 1000000000000000000) hx hb hown f2 dX8_behindAll_61 ?_
            refine va_last hx hb hK.1 hP hD hS 1 2 rfl rfl h.1 dX8_behindAll_64 (fun H locs hP hD hS => ?_)
            replace h := h.2
            have hP : va_P D vwCl [(A_t, .inr (8, [.ref A_t_state, .ref A_t_tape, .int t_taped, .int t_fault, .int t_broken, .int t_brokenAt, .int t_spot, .int t_here, .int t_token, .int t_value, .int t_isRealTold, .ref A_t_ends, .ref A_t_letters, .ref A_t_least, .ref A_t_conflicts, .int t_conflictMany, .ref A_t_behind, .ref A_t_placed, .ref A_t_isKept, .ref A_t_lanes, .ref A_t_lengths, .ref A_t_cells, .int t_torn])), (A_t_behind, .inl (cy 2, 110, .inr (.inl (vp_updL t_behind (((10 : Int32) * x3) + x4).toNatClampNeg (1000000000000000000 : Int64))))), (A_t_state, .inl (cy 1, 535, .inl t_state))] H := hP
            have hD : va_D A [(A_t, .inr (8, [.ref A_t_state, .ref A_t_tape, .int t_taped, .int t_fault, .int t_broken, .int t_brokenAt, .int t_spot, .int t_here, .int t_token, .int t_value, .int t_isRealTold, .ref A_t_ends, .ref A_t_letters, .ref A_t_least, .ref A_t_conflicts, .int t_conflictMany, .ref A_t_behind, .ref A_t_placed, .ref A_t_isKept, .ref A_t_lanes, .ref A_t_lengths, .ref A_t_cells, .int t_torn])), (A_t_behind, .inl (cy 2, 110, .inr (.inl (vp_updL t_behind (((10 : Int32) * x3) + x4).toNatClampNeg (1000000000000000000 : Int64))))), (A_t_state, .inl (cy 1, 535, .inl t_state))] := hD
            refine lv_iinc (v := x4 + (1 : Int32)) (lv' := [(4, .int (x4 + (1 : Int32))), (0, .ref A_t), (2, .int x2), (3, .int x3)]) hx hb dX8_behindAll_65 hl (k := 3) rfl rfl (by decide) rfl (fun ls hl => ?_)
            refine lv_goto (tgt := 43) hx hb dX8_behindAll_68 (by decide) ?_
            exact ih43 (vp_updL t_behind (((10 : Int32) * x3) + x4).toNatClampNeg (1000000000000000000 : Int64)) x3 (x4 + (1 : Int32)) H locs ls h hP hD hS (lv_sub hl [1, 2, 3, 0] rfl)
      refine lv_iload_n hx hb dX8_behindAll_34 rfl (lv_at hl 2 rfl) ?_
      refine lv_bipush (v := 11) hx hb dX8_behindAll_35 (by decide) ?_
      refine lv_icmp_ge (tgt := 165) hx hb dX8_behindAll_37 (by decide) (fun hc => ?_) (fun hc => ?_)
      · replace h := h.1 hc
        subst hQ
        subst hAe
        exact W.vret hx hb hr (fun t ht _ => ⟨⟨t_behind, rfl, h, by rw [ht]; exact hP, hD⟩, hS.F ht⟩) hS.2.2 dX8_behindAll_165
      · replace h := h.2 hc
        refine lv_iconst (v := 0) hx hb dX8_behindAll_40 (by decide) ?_
        refine lv_istore (lv' := [(4, .int (0 : Int32)), (0, .ref A_t), (2, .int x2), (3, .int x3)]) hx hb dX8_behindAll_41 hl (by decide) rfl (fun ls hl => ?_)
        obtain ⟨nn, h⟩ := h
        exact L43 nn t_behind x3 (0 : Int32) H locs ls h hP hD hS (lv_sub hl [1, 2, 3, 0] rfl)
  have L2 : ∀ (n2 : Nat) (t_behind : Nat → Int64) (x3 : Int32) (H : Heap) (locs : List Loc) (ls : Array Slot), L_X8_behindAll_2 post t_state x1 x2 n2 t_behind x3 → va_P D vwCl [(A_t, .inr (8, [.ref A_t_state, .ref A_t_tape, .int t_taped, .int t_fault, .int t_broken, .int t_brokenAt, .int t_spot, .int t_here, .int t_token, .int t_value, .int t_isRealTold, .ref A_t_ends, .ref A_t_letters, .ref A_t_least, .ref A_t_conflicts, .int t_conflictMany, .ref A_t_behind, .ref A_t_placed, .ref A_t_isKept, .ref A_t_lanes, .ref A_t_lengths, .ref A_t_cells, .int t_torn])), (A_t_behind, .inl (cy 2, 110, .inr (.inl t_behind))), (A_t_state, .inl (cy 1, 535, .inl t_state))] H → va_D A [(A_t, .inr (8, [.ref A_t_state, .ref A_t_tape, .int t_taped, .int t_fault, .int t_broken, .int t_brokenAt, .int t_spot, .int t_here, .int t_token, .int t_value, .int t_isRealTold, .ref A_t_ends, .ref A_t_letters, .ref A_t_least, .ref A_t_conflicts, .int t_conflictMany, .ref A_t_behind, .ref A_t_placed, .ref A_t_isKept, .ref A_t_lanes, .ref A_t_lengths, .ref A_t_cells, .int t_torn])), (A_t_behind, .inl (cy 2, 110, .inr (.inl t_behind))), (A_t_state, .inl (cy 1, 535, .inl t_state))] → va_S A s.heap H locs → lv_has ls 8 [(0, .ref A_t), (1, .int x1), (2, .int x2), (3, .int x3)] → W p l e (headSpec wsX8_behindAll { frames := 3, cells := 0, slots := 0, locals := 68 }).room s m ([.ref A_t, .int x1, .int x2] : List Value).toArray below meth c H locs 0 0 Q0 (F0 m 2 ls []) := by
    intro n2
    induction n2 with
    | zero => intro t_behind x3 H locs ls h; exact False.elim h
    | succ n2 ih2 =>
      intro t_behind x3 H locs ls h hP hD hS hl
      have h : LB_X8_behindAll_2 post t_state x1 x2 (L_X8_behindAll_2 post t_state x1 x2 n2) t_behind x3 := h
      unfold LB_X8_behindAll_2 at h
      have J25 : ∀ (t_behind : Nat → Int64) (x3 : Int32) (k1 : Int32) (l2 : Int64) (H : Heap) (locs : List Loc) (ls : Array Slot), B_X8_behindAll_25 (L_X8_behindAll_2 post t_state x1 x2 n2) t_behind k1 l2 x3 → va_P D vwCl [(A_t, .inr (8, [.ref A_t_state, .ref A_t_tape, .int t_taped, .int t_fault, .int t_broken, .int t_brokenAt, .int t_spot, .int t_here, .int t_token, .int t_value, .int t_isRealTold, .ref A_t_ends, .ref A_t_letters, .ref A_t_least, .ref A_t_conflicts, .int t_conflictMany, .ref A_t_behind, .ref A_t_placed, .ref A_t_isKept, .ref A_t_lanes, .ref A_t_lengths, .ref A_t_cells, .int t_torn])), (A_t_behind, .inl (cy 2, 110, .inr (.inl t_behind))), (A_t_state, .inl (cy 1, 535, .inl t_state))] H → va_D A [(A_t, .inr (8, [.ref A_t_state, .ref A_t_tape, .int t_taped, .int t_fault, .int t_broken, .int t_brokenAt, .int t_spot, .int t_here, .int t_token, .int t_value, .int t_isRealTold, .ref A_t_ends, .ref A_t_letters, .ref A_t_least, .ref A_t_conflicts, .int t_conflictMany, .ref A_t_behind, .ref A_t_placed, .ref A_t_isKept, .ref A_t_lanes, .ref A_t_lengths, .ref A_t_cells, .int t_torn])), (A_t_behind, .inl (cy 2, 110, .inr (.inl t_behind))), (A_t_state, .inl (cy 1, 535, .inl t_state))] → va_S A s.heap H locs → lv_has ls 8 [(0, .ref A_t), (1, .int x1), (2, .int x2), (3, .int x3)] → W p l e (headSpec wsX8_behindAll { frames := 3, cells := 0, slots := 0, locals := 68 }).room s m ([.ref A_t, .int x1, .int x2] : List Value).toArray below meth c H locs 0 0 Q0 (F0 m 25 ls [.long l2, .int k1, .ref A_t_behind]) := by
        intro t_behind x3 k1 l2 H locs ls h hP hD hS hl
        unfold B_X8_behindAll_25 at h
        refine va_last hx hb hK.1 hP hD hS 1 2 rfl rfl h.1 dX8_behindAll_25 (fun H locs hP hD hS => ?_)
        replace h := h.2
        have hP : va_P D vwCl [(A_t, .inr (8, [.ref A_t_state, .ref A_t_tape, .int t_taped, .int t_fault, .int t_broken, .int t_brokenAt, .int t_spot, .int t_here, .int t_token, .int t_value, .int t_isRealTold, .ref A_t_ends, .ref A_t_letters, .ref A_t_least, .ref A_t_conflicts, .int t_conflictMany, .ref A_t_behind, .ref A_t_placed, .ref A_t_isKept, .ref A_t_lanes, .ref A_t_lengths, .ref A_t_cells, .int t_torn])), (A_t_behind, .inl (cy 2, 110, .inr (.inl (vp_updL t_behind k1.toNatClampNeg l2)))), (A_t_state, .inl (cy 1, 535, .inl t_state))] H := hP
        have hD : va_D A [(A_t, .inr (8, [.ref A_t_state, .ref A_t_tape, .int t_taped, .int t_fault, .int t_broken, .int t_brokenAt, .int t_spot, .int t_here, .int t_token, .int t_value, .int t_isRealTold, .ref A_t_ends, .ref A_t_letters, .ref A_t_least, .ref A_t_conflicts, .int t_conflictMany, .ref A_t_behind, .ref A_t_placed, .ref A_t_isKept, .ref A_t_lanes, .ref A_t_lengths, .ref A_t_cells, .int t_torn])), (A_t_behind, .inl (cy 2, 110, .inr (.inl (vp_updL t_behind k1.toNatClampNeg l2)))), (A_t_state, .inl (cy 1, 535, .inl t_state))] := hD
        refine lv_iinc (v := x3 + (1 : Int32)) (lv' := [(3, .int (x3 + (1 : Int32))), (0, .ref A_t), (1, .int x1), (2, .int x2)]) hx hb dX8_behindAll_26 hl (k := 3) rfl rfl (by decide) rfl (fun ls hl => ?_)
        refine lv_goto (tgt := 2) hx hb dX8_behindAll_29 (by decide) ?_
        exact ih2 (vp_updL t_behind k1.toNatClampNeg l2) (x3 + (1 : Int32)) H locs ls h hP hD hS (lv_sub hl [1, 2, 3, 0] rfl)
      refine lv_iload_n hx hb dX8_behindAll_2 rfl (lv_at hl 3 rfl) ?_
      refine lv_bipush (v := 10) hx hb dX8_behindAll_3 (by decide) ?_
      refine lv_icmp_ge (tgt := 32) hx hb dX8_behindAll_5 (by decide) (fun hc => ?_) (fun hc => ?_)
      · replace h := h.1 hc
        refine lv_iconst (v := 1) hx hb dX8_behindAll_32 (by decide) ?_
        refine lv_istore_n (lv' := [(3, .int (1 : Int32)), (0, .ref A_t), (1, .int x1), (2, .int x2)]) hx hb dX8_behindAll_33 rfl hl (by decide) rfl (fun ls hl => ?_)
        obtain ⟨nn, h⟩ := h
        exact L34 nn t_behind (1 : Int32) H locs ls h hP hD hS (lv_sub hl [1, 3, 0] rfl)
      · replace h := h.2 hc
        refine lv_aload_n hx hb dX8_behindAll_8 rfl (lv_at hl 0 rfl) ?_
        refine va_get (D := D) (ci := 8) (v := .ref A_t_behind) (C := RX8) (T := TX8) (N := 23) hx hb hts iX8 hown hK.1 hP 0 rfl rfl 16 (by decide) f1 (fun _ h9 => h9) rfl dX8_behindAll_9 ?_
        refine lv_iload_n hx hb dX8_behindAll_12 rfl (lv_at hl 3 rfl) ?_
        refine lv_iload_n hx hb dX8_behindAll_13 rfl (lv_at hl 3 rfl) ?_
        refine lv_iload_n hx hb dX8_behindAll_14 rfl (lv_at hl 1 rfl) ?_
        refine lv_icmp_ne (tgt := 22) hx hb dX8_behindAll_15 (by decide) (fun hc => ?_) (fun hc => ?_)
        · replace h := h.1 hc
          refine lv_ldc2 (v := 1000000000000000000) hx hb hown f2 dX8_behindAll_22 ?_
          exact J25 t_behind x3 x3 (1000000000000000000 : Int64) H locs ls h hP hD hS (lv_sub hl [0, 1, 2, 3] rfl)
        · replace h := h.2 hc
          refine lv_lconst (v := 0) hx hb dX8_behindAll_18 (by decide) ?_
          refine lv_goto (tgt := 25) hx hb dX8_behindAll_19 (by decide) ?_
          exact J25 t_behind x3 x3 (0 : Int64) H locs ls h hP hD hS (lv_sub hl [0, 1, 2, 3] rfl)
  unfold P_X8_behindAll at h
  refine lv_iconst (v := 0) hx hb dX8_behindAll_0 (by decide) ?_
  refine lv_istore_n (lv' := [(3, .int (0 : Int32)), (0, .ref A_t), (1, .int x1), (2, .int x2)]) hx hb dX8_behindAll_1 rfl hl (by decide) rfl (fun ls hl => ?_)
  obtain ⟨nn, h⟩ := h
  exact L2 nn t_behind (0 : Int32) s.heap [] ls h hP hD hS (lv_sub hl [1, 2, 3, 0] rfl)
theorem qX8_conflictsWith : yX8_conflictsWith.cls = RX8 ∧ yX8_conflictsWith.cls ≠ "java/lang/invoke/MethodHandle" ∧ yX8_conflictsWith.cls ≠ "java/lang/invoke/VarHandle" ∧ (parseMethodDescriptor yX8_conflictsWith.desc).map (fun d => d.parameters.length) = some 4 := by decide +kernel
def B_X8_conflictsWith_154 (K_76 : Int32 → (Nat → Int32) → Int64 → Int32 → Int32 → Prop) (t_conflictMany : Int32) (t_state : Nat → Int32) (t_conflicts : Nat → Int32) (x10 : Int32) (x11 : Int32) (y7 : Int64) : Prop :=
  (vp_in t_conflictMany 16 ∧ P_X8_weightOf (fun (r3 : Int64) => (vp_in x11 535 ∧ K_76 (t_conflictMany + (1 : Int32)) (upd t_conflicts t_conflictMany.toNatClampNeg x11) (y7 + r3) (t_state x11.toNatClampNeg) (x10 + (-1 : Int32)))) t_state (0 : Int32) x11)
def B_X8_conflictsWith_148 (K_84 : Int32 → Prop) (x11 : Int32) : Prop :=
  K_84 (x11 + (1 : Int32))
def LB_X8_conflictsWith_84 (K_76 : Int32 → (Nat → Int32) → Int64 → Int32 → Int32 → Prop) (t_conflictMany : Int32) (t_behind : Nat → Int64) (t_state : Nat → Int32) (t_conflicts : Nat → Int32) (x5 : Int32) (x9 : Int32) (x10 : Int32) (y7 : Int64) (K_84 : Int32 → Prop) (x11 : Int32) : Prop :=
  P_X8_many (fun (r2 : Int32) => ((r2 ≤ x11 + (1 : Int32) → B_X8_conflictsWith_154 K_76 t_conflictMany t_state t_conflicts x10 x11 y7) ∧ (¬ r2 ≤ x11 + (1 : Int32) → ((x11 = x5 → B_X8_conflictsWith_148 K_84 x11) ∧ (¬ x11 = x5 → (vp_in ((24 : Int32) + x11) 535 ∧ ((¬ t_state ((24 : Int32) + x11).toNatClampNeg = x9 → B_X8_conflictsWith_148 K_84 x11) ∧ (t_state ((24 : Int32) + x11).toNatClampNeg = x9 → P_X8_follow (fun (r4 : Int64) => (((1000000000000000000 : Int64) ≤ r4 → B_X8_conflictsWith_148 K_84 x11) ∧ (¬ (1000000000000000000 : Int64) ≤ r4 → P_X8_follow (fun (r5 : Int64) => ((y7 + r5 < (0 : Int64) → B_X8_conflictsWith_154 K_76 t_conflictMany t_state t_conflicts x10 x11 y7) ∧ (¬ y7 + r5 < (0 : Int64) → B_X8_conflictsWith_148 K_84 x11))) t_state t_behind x11 x10))) t_state t_behind x11 x10)))))))) t_state
noncomputable def L_X8_conflictsWith_84 (K_76 : Int32 → (Nat → Int32) → Int64 → Int32 → Int32 → Prop) (t_conflictMany : Int32) (t_behind : Nat → Int64) (t_state : Nat → Int32) (t_conflicts : Nat → Int32) (x5 : Int32) (x9 : Int32) (x10 : Int32) (y7 : Int64) (n : Nat) : Int32 → Prop := Nat.rec (motive := fun _ => Int32 → Prop) (fun _ => False) (fun _ K => LB_X8_conflictsWith_84 K_76 t_conflictMany t_behind t_state t_conflicts x5 x9 x10 y7 K) n
def LB_X8_conflictsWith_76 (post : Int32 → (Nat → Int64) → (Nat → Int32) → Prop) (t_behind : Nat → Int64) (t_state : Nat → Int32) (x5 : Int32) (K_76 : Int32 → (Nat → Int32) → Int64 → Int32 → Int32 → Prop) (t_conflictMany : Int32) (t_conflicts : Nat → Int32) (y7 : Int64) (x9 : Int32) (x10 : Int32) : Prop :=
  ((x10 ≤ 0 → post t_conflictMany t_behind t_conflicts) ∧ (¬ x10 ≤ 0 → ∃ n : Nat, L_X8_conflictsWith_84 K_76 t_conflictMany t_behind t_state t_conflicts x5 x9 x10 y7 n (0 : Int32)))
noncomputable def L_X8_conflictsWith_76 (post : Int32 → (Nat → Int64) → (Nat → Int32) → Prop) (t_behind : Nat → Int64) (t_state : Nat → Int32) (x5 : Int32) (n : Nat) : Int32 → (Nat → Int32) → Int64 → Int32 → Int32 → Prop := Nat.rec (motive := fun _ => Int32 → (Nat → Int32) → Int64 → Int32 → Int32 → Prop) (fun _ _ _ _ _ => False) (fun _ K => LB_X8_conflictsWith_76 post t_behind t_state x5 K) n
def B_X8_conflictsWith_61 (post : Int32 → (Nat → Int64) → (Nat → Int32) → Prop) (t_behind : Nat → Int64) (t_state : Nat → Int32) (t_conflicts : Nat → Int32) (x1 : Int32) (x5 : Int32) (x6 : Int32) (y3 : Int64) : Prop :=
  ∃ n : Nat, L_X8_conflictsWith_76 post t_behind t_state x5 n (0 : Int32) t_conflicts y3 x1 x6
def B_X8_conflictsWith_55 (K_10 : Int32 → Prop) (x6 : Int32) : Prop :=
  K_10 (x6 + (1 : Int32))
def LB_X8_conflictsWith_10 (post : Int32 → (Nat → Int64) → (Nat → Int32) → Prop) (t_behind : Nat → Int64) (t_state : Nat → Int32) (t_conflicts : Nat → Int32) (x1 : Int32) (x5 : Int32) (y3 : Int64) (K_10 : Int32 → Prop) (x6 : Int32) : Prop :=
  (((10 : Int32) ≤ x6 → B_X8_conflictsWith_61 post t_behind t_state t_conflicts x1 x5 x6 y3) ∧ (¬ (10 : Int32) ≤ x6 → (vp_in (((10 : Int32) * x6) + x1) 110 ∧ (((1000000000000000000 : Int64) ≤ t_behind (((10 : Int32) * x6) + x1).toNatClampNeg → B_X8_conflictsWith_55 K_10 x6) ∧ (¬ (1000000000000000000 : Int64) ≤ t_behind (((10 : Int32) * x6) + x1).toNatClampNeg → (vp_in (((10 : Int32) * x6) + x1) 110 ∧ (((t_behind (((10 : Int32) * x6) + x1).toNatClampNeg) + y3 < (0 : Int64) → B_X8_conflictsWith_61 post t_behind t_state t_conflicts x1 x5 x6 y3) ∧ (¬ (t_behind (((10 : Int32) * x6) + x1).toNatClampNeg) + y3 < (0 : Int64) → B_X8_conflictsWith_55 K_10 x6))))))))
noncomputable def L_X8_conflictsWith_10 (post : Int32 → (Nat → Int64) → (Nat → Int32) → Prop) (t_behind : Nat → Int64) (t_state : Nat → Int32) (t_conflicts : Nat → Int32) (x1 : Int32) (x5 : Int32) (y3 : Int64) (n : Nat) : Int32 → Prop := Nat.rec (motive := fun _ => Int32 → Prop) (fun _ => False) (fun _ K => LB_X8_conflictsWith_10 post t_behind t_state t_conflicts x1 x5 y3 K) n
def P_X8_conflictsWith (post : Int32 → (Nat → Int64) → (Nat → Int32) → Prop) (t_behind : Nat → Int64) (t_state : Nat → Int32) (t_conflicts : Nat → Int32) (x1 : Int32) (x2 : Int32) (x5 : Int32) (y3 : Int64) : Prop :=
  P_X8_behindAll (fun (t_behind_v1 : Nat → Int64) => ∃ n : Nat, L_X8_conflictsWith_10 post t_behind_v1 t_state t_conflicts x1 x5 y3 n (1 : Int32)) t_behind t_state x2 x5
set_option maxHeartbeats 4000000 in
set_option maxRecDepth 100000 in
theorem c_X8_conflictsWith (l : Launch) (D : va_G) (cy : Nat → ClassId) (sz : Nat) (A_t A_t_state A_t_tape A_t_ends A_t_letters A_t_least A_t_conflicts A_t_behind A_t_placed A_t_isKept A_t_lanes A_t_lengths A_t_cells : Nat) (t_taped : Int32) (t_fault : Int32) (t_broken : Int32) (t_brokenAt : Int32) (t_spot : Int32) (t_here : Int32) (t_token : Int32) (t_value : Int32) (t_isRealTold : Int32) (t_conflictMany : Int32) (t_torn : Int32) (t_behind : Nat → Int64) (t_state : Nat → Int32) (t_conflicts : Nat → Int32) (x1 : Int32) (x2 : Int32) (y3 : Int64) (x5 : Int32) (post : Int32 → (Nat → Int64) → (Nat → Int32) → Prop) (h : P_X8_conflictsWith post t_behind t_state t_conflicts x1 x2 x5 y3) : Met l yX8_conflictsWith wsX8_conflictsWith { frames := 4, cells := 0, slots := 0, locals := 95 } (pcW D cy [(A_t, .inr (8, [.ref A_t_state, .ref A_t_tape, .int t_taped, .int t_fault, .int t_broken, .int t_brokenAt, .int t_spot, .int t_here, .int t_token, .int t_value, .int t_isRealTold, .ref A_t_ends, .ref A_t_letters, .ref A_t_least, .ref A_t_conflicts, .int t_conflictMany, .ref A_t_behind, .ref A_t_placed, .ref A_t_isKept, .ref A_t_lanes, .ref A_t_lengths, .ref A_t_cells, .int t_torn])), (A_t_behind, .inl (cy 2, 110, .inr (.inl t_behind))), (A_t_state, .inl (cy 1, 535, .inl t_state)), (A_t_conflicts, .inl (cy 1, 16, .inl t_conflicts))] sz [.ref A_t, .int x1, .int x2, .long y3, .int x5]) (va_Qv (fun (u : Int32 × (Nat → Int64) × (Nat → Int32)) => post u.1 u.2.1 u.2.2) (bW D [(A_t, .inr (8, [.ref A_t_state, .ref A_t_tape, .int t_taped, .int t_fault, .int t_broken, .int t_brokenAt, .int t_spot, .int t_here, .int t_token, .int t_value, .int t_isRealTold, .ref A_t_ends, .ref A_t_letters, .ref A_t_least, .ref A_t_conflicts, .int t_conflictMany, .ref A_t_behind, .ref A_t_placed, .ref A_t_isKept, .ref A_t_lanes, .ref A_t_lengths, .ref A_t_cells, .int t_torn])), (A_t_behind, .inl (cy 2, 110, .inr (.inl t_behind))), (A_t_state, .inl (cy 1, 535, .inl t_state)), (A_t_conflicts, .inl (cy 1, 16, .inl t_conflicts))] sz (fun u => [(A_t, .inr (8, [.ref A_t_state, .ref A_t_tape, .int t_taped, .int t_fault, .int t_broken, .int t_brokenAt, .int t_spot, .int t_here, .int t_token, .int t_value, .int t_isRealTold, .ref A_t_ends, .ref A_t_letters, .ref A_t_least, .ref A_t_conflicts, .int (u.1), .ref A_t_behind, .ref A_t_placed, .ref A_t_isKept, .ref A_t_lanes, .ref A_t_lengths, .ref A_t_cells, .int t_torn])), (A_t_behind, .inl (cy 2, 110, .inr (.inl u.2.1))), (A_t_state, .inl (cy 1, 535, .inl t_state)), (A_t_conflicts, .inl (cy 1, 16, .inl u.2.2))])) (va_A [(A_t, .inr (8, [.ref A_t_state, .ref A_t_tape, .int t_taped, .int t_fault, .int t_broken, .int t_brokenAt, .int t_spot, .int t_here, .int t_token, .int t_value, .int t_isRealTold, .ref A_t_ends, .ref A_t_letters, .ref A_t_least, .ref A_t_conflicts, .int t_conflictMany, .ref A_t_behind, .ref A_t_placed, .ref A_t_isKept, .ref A_t_lanes, .ref A_t_lengths, .ref A_t_cells, .int t_torn])), (A_t_behind, .inl (cy 2, 110, .inr (.inl t_behind))), (A_t_state, .inl (cy 1, 535, .inl t_state)), (A_t_conflicts, .inl (cy 1, 16, .inl t_conflicts))] sz)) 0 0 (va_A [(A_t, .inr (8, [.ref A_t_state, .ref A_t_tape, .int t_taped, .int t_fault, .int t_broken, .int t_brokenAt, .int t_spot, .int t_here, .int t_token, .int t_value, .int t_isRealTold, .ref A_t_ends, .ref A_t_letters, .ref A_t_least, .ref A_t_conflicts, .int t_conflictMany, .ref A_t_behind, .ref A_t_placed, .ref A_t_isKept, .ref A_t_lanes, .ref A_t_lengths, .ref A_t_cells, .int t_torn])), (A_t_behind, .inl (cy 2, 110, .inr (.inl t_behind))), (A_t_state, .inl (cy 1, 535, .inl t_state)), (A_t_conflicts, .inl (cy 1, 16, .inl t_conflicts))] sz) := by
  refine Met.ofW (cc := cX8_conflictsWith) (maxL := 12) (ret := none) (by decide) rfl ?_
  intro p e s m args below meth c s₁ B hml hv
  obtain ⟨rfl, hsz, hP, hK, hD0⟩ := hv
  have hx := B.exec
  have hb := B.bytes
  have hr := B.returns
  have hts := atoms_spec (ws := wsX8_conflictsWith) B.pre
  have hown : s.vm.findClass RX8 = some m.cls := findClass_of_methodNamed B.named
  have hlocks := B.notSynchronized
  have CF : CallFix p m c cX8_conflictsWith 12 s ([.ref A_t, .int x1, .int x2, .long y3, .int x5] : List Value).toArray wsX8_conflictsWith RX8 := ⟨hx, hb, hml, hown, hts⟩
  have f0 := hts (.fieldLink RX8 136 "GapBoundsModel" "conflictMany" "I") (by decide +kernel)
  have f1 := hts (.fieldLink RX8 26 "GapBoundsModel" "conflicts" "[I") (by decide +kernel)
  have f2 := hts (.fieldLink RX8 7 "GapBoundsModel" "state" "[I") (by decide +kernel)
  have f3 := hts (.constantLong RX8 151 (1000000000000000000)) (by decide +kernel)
  have f4 := hts (.fieldLink RX8 29 "GapBoundsModel" "behind" "[J") (by decide +kernel)
  have iX8 : ∀ w ∈ u_ws RX8 TX8 23, w ∈ wsX8_conflictsWith := by decide +kernel
  subst hsz
  obtain ⟨A, hAe⟩ : ∃ A, A = va_A [(A_t, .inr (8, [.ref A_t_state, .ref A_t_tape, .int t_taped, .int t_fault, .int t_broken, .int t_brokenAt, .int t_spot, .int t_here, .int t_token, .int t_value, .int t_isRealTold, .ref A_t_ends, .ref A_t_letters, .ref A_t_least, .ref A_t_conflicts, .int t_conflictMany, .ref A_t_behind, .ref A_t_placed, .ref A_t_isKept, .ref A_t_lanes, .ref A_t_lengths, .ref A_t_cells, .int t_torn])), (A_t_behind, .inl (cy 2, 110, .inr (.inl t_behind))), (A_t_state, .inl (cy 1, 535, .inl t_state)), (A_t_conflicts, .inl (cy 1, 16, .inl t_conflicts))] s.heap.size := ⟨_, rfl⟩
  have hD : va_D A [(A_t, .inr (8, [.ref A_t_state, .ref A_t_tape, .int t_taped, .int t_fault, .int t_broken, .int t_brokenAt, .int t_spot, .int t_here, .int t_token, .int t_value, .int t_isRealTold, .ref A_t_ends, .ref A_t_letters, .ref A_t_least, .ref A_t_conflicts, .int t_conflictMany, .ref A_t_behind, .ref A_t_placed, .ref A_t_isKept, .ref A_t_lanes, .ref A_t_lengths, .ref A_t_cells, .int t_torn])), (A_t_behind, .inl (cy 2, 110, .inr (.inl t_behind))), (A_t_state, .inl (cy 1, 535, .inl t_state)), (A_t_conflicts, .inl (cy 1, 16, .inl t_conflicts))] := by rw [hAe]; exact hD0.self
  have hA : ∀ q : Nat, s.heap.size ≤ q → A q := fun q hq => by rw [hAe]; exact Or.inr hq
  have hS : va_S A s.heap s.heap [] := va_S.rf
  have hl := lv_entry [.ref A_t, .int x1, .int x2, .long y3, .int x5] (n := 12) (Nat.le_of_ble_eq_true rfl)
  rw [lg_entry_eq]
  generalize (lg_sl [.ref A_t, .int x1, .int x2, .long y3, .int x5] ++ List.replicate (12 - (lg_sl [.ref A_t, .int x1, .int x2, .long y3, .int x5]).length) Slot.unset).toArray = ls at hl ⊢
  have hl : lv_has ls 12 [(0, .ref A_t), (1, .int x1), (2, .int x2), (3, .long y3), (5, .int x5)] := hl
  refine W.gen (fun Q0 hQ => ?_)
  have L76 : ∀ (n76 : Nat) (t_conflictMany : Int32) (t_behind : Nat → Int64) (t_conflicts : Nat → Int32) (y7 : Int64) (x9 : Int32) (x10 : Int32) (H : Heap) (locs : List Loc) (ls : Array Slot), L_X8_conflictsWith_76 post t_behind t_state x5 n76 t_conflictMany t_conflicts y7 x9 x10 → va_P D vwCl [(A_t, .inr (8, [.ref A_t_state, .ref A_t_tape, .int t_taped, .int t_fault, .int t_broken, .int t_brokenAt, .int t_spot, .int t_here, .int t_token, .int t_value, .int t_isRealTold, .ref A_t_ends, .ref A_t_letters, .ref A_t_least, .ref A_t_conflicts, .int t_conflictMany, .ref A_t_behind, .ref A_t_placed, .ref A_t_isKept, .ref A_t_lanes, .ref A_t_lengths, .ref A_t_cells, .int t_torn])), (A_t_behind, .inl (cy 2, 110, .inr (.inl t_behind))), (A_t_state, .inl (cy 1, 535, .inl t_state)), (A_t_conflicts, .inl (cy 1, 16, .inl t_conflicts))] H → va_D A [(A_t, .inr (8, [.ref A_t_state, .ref A_t_tape, .int t_taped, .int t_fault, .int t_broken, .int t_brokenAt, .int t_spot, .int t_here, .int t_token, .int t_value, .int t_isRealTold, .ref A_t_ends, .ref A_t_letters, .ref A_t_least, .ref A_t_conflicts, .int t_conflictMany, .ref A_t_behind, .ref A_t_placed, .ref A_t_isKept, .ref A_t_lanes, .ref A_t_lengths, .ref A_t_cells, .int t_torn])), (A_t_behind, .inl (cy 2, 110, .inr (.inl t_behind))), (A_t_state, .inl (cy 1, 535, .inl t_state)), (A_t_conflicts, .inl (cy 1, 16, .inl t_conflicts))] → va_S A s.heap H locs → lv_has ls 12 [(0, .ref A_t), (5, .int x5), (7, .long y7), (9, .int x9), (10, .int x10)] → W p l e (headSpec wsX8_conflictsWith { frames := 4, cells := 0, slots := 0, locals := 95 }).room s m ([.ref A_t, .int x1, .int x2, .long y3, .int x5] : List Value).toArray below meth c H locs 0 0 Q0 (F0 m 76 ls []) := by
    intro n76
    induction n76 with
    | zero => intro t_conflictMany t_behind t_conflicts y7 x9 x10 H locs ls h; exact False.elim h
    | succ n76 ih76 =>
      intro t_conflictMany t_behind t_conflicts y7 x9 x10 H locs ls h hP hD hS hl
      have h : LB_X8_conflictsWith_76 post t_behind t_state x5 (L_X8_conflictsWith_76 post t_behind t_state x5 n76) t_conflictMany t_conflicts y7 x9 x10 := h
      unfold LB_X8_conflictsWith_76 at h
      have J154 : ∀ (t_conflictMany : Int32) (t_behind : Nat → Int64) (t_conflicts : Nat → Int32) (y7 : Int64) (x10 : Int32) (x11 : Int32) (H : Heap) (locs : List Loc) (ls : Array Slot), B_X8_conflictsWith_154 (L_X8_conflictsWith_76 post t_behind t_state x5 n76) t_conflictMany t_state t_conflicts x10 x11 y7 → va_P D vwCl [(A_t, .inr (8, [.ref A_t_state, .ref A_t_tape, .int t_taped, .int t_fault, .int t_broken, .int t_brokenAt, .int t_spot, .int t_here, .int t_token, .int t_value, .int t_isRealTold, .ref A_t_ends, .ref A_t_letters, .ref A_t_least, .ref A_t_conflicts, .int t_conflictMany, .ref A_t_behind, .ref A_t_placed, .ref A_t_isKept, .ref A_t_lanes, .ref A_t_lengths, .ref A_t_cells, .int t_torn])), (A_t_behind, .inl (cy 2, 110, .inr (.inl t_behind))), (A_t_state, .inl (cy 1, 535, .inl t_state)), (A_t_conflicts, .inl (cy 1, 16, .inl t_conflicts))] H → va_D A [(A_t, .inr (8, [.ref A_t_state, .ref A_t_tape, .int t_taped, .int t_fault, .int t_broken, .int t_brokenAt, .int t_spot, .int t_here, .int t_token, .int t_value, .int t_isRealTold, .ref A_t_ends, .ref A_t_letters, .ref A_t_least, .ref A_t_conflicts, .int t_conflictMany, .ref A_t_behind, .ref A_t_placed, .ref A_t_isKept, .ref A_t_lanes, .ref A_t_lengths, .ref A_t_cells, .int t_torn])), (A_t_behind, .inl (cy 2, 110, .inr (.inl t_behind))), (A_t_state, .inl (cy 1, 535, .inl t_state)), (A_t_conflicts, .inl (cy 1, 16, .inl t_conflicts))] → va_S A s.heap H locs → lv_has ls 12 [(0, .ref A_t), (5, .int x5), (7, .long y7), (10, .int x10), (11, .int x11)] → W p l e (headSpec wsX8_conflictsWith { frames := 4, cells := 0, slots := 0, locals := 95 }).room s m ([.ref A_t, .int x1, .int x2, .long y3, .int x5] : List Value).toArray below meth c H locs 0 0 Q0 (F0 m 154 ls []) := by
        intro t_conflictMany t_behind t_conflicts y7 x10 x11 H locs ls h hP hD hS hl
        unfold B_X8_conflictsWith_154 at h
        refine lv_aload_n hx hb dX8_conflictsWith_154 rfl (lv_at hl 0 rfl) ?_
        refine va_get (D := D) (ci := 8) (v := .ref A_t_conflicts) (C := RX8) (T := TX8) (N := 23) hx hb hts iX8 hown hK.1 hP 0 rfl rfl 14 (by decide) f1 (fun _ h9 => h9) rfl dX8_conflictsWith_155 ?_
        refine lv_aload_n hx hb dX8_conflictsWith_158 rfl (lv_at hl 0 rfl) ?_
        refine va_get (D := D) (ci := 8) (v := .int t_conflictMany) (C := RX8) (T := TX8) (N := 23) hx hb hts iX8 hown hK.1 hP 0 rfl rfl 15 (by decide) f0 (fun _ h9 => h9) rfl dX8_conflictsWith_159 ?_
        refine lv_iload hx hb dX8_conflictsWith_162 (lv_at hl 4 rfl) ?_
        refine va_iast hx hb hK.1 hP hD hS 3 1 rfl rfl h.1 dX8_conflictsWith_164 (fun H locs hP hD hS => ?_)
        replace h := h.2
        have hP : va_P D vwCl [(A_t, .inr (8, [.ref A_t_state, .ref A_t_tape, .int t_taped, .int t_fault, .int t_broken, .int t_brokenAt, .int t_spot, .int t_here, .int t_token, .int t_value, .int t_isRealTold, .ref A_t_ends, .ref A_t_letters, .ref A_t_least, .ref A_t_conflicts, .int t_conflictMany, .ref A_t_behind, .ref A_t_placed, .ref A_t_isKept, .ref A_t_lanes, .ref A_t_lengths, .ref A_t_cells, .int t_torn])), (A_t_behind, .inl (cy 2, 110, .inr (.inl t_behind))), (A_t_state, .inl (cy 1, 535, .inl t_state)), (A_t_conflicts, .inl (cy 1, 16, .inl (upd t_conflicts t_conflictMany.toNatClampNeg x11)))] H := hP
        have hD : va_D A [(A_t, .inr (8, [.ref A_t_state, .ref A_t_tape, .int t_taped, .int t_fault, .int t_broken, .int t_brokenAt, .int t_spot, .int t_here, .int t_token, .int t_value, .int t_isRealTold, .ref A_t_ends, .ref A_t_letters, .ref A_t_least, .ref A_t_conflicts, .int t_conflictMany, .ref A_t_behind, .ref A_t_placed, .ref A_t_isKept, .ref A_t_lanes, .ref A_t_lengths, .ref A_t_cells, .int t_torn])), (A_t_behind, .inl (cy 2, 110, .inr (.inl t_behind))), (A_t_state, .inl (cy 1, 535, .inl t_state)), (A_t_conflicts, .inl (cy 1, 16, .inl (upd t_conflicts t_conflictMany.toNatClampNeg x11)))] := hD
        refine lv_aload_n hx hb dX8_conflictsWith_165 rfl (lv_at hl 0 rfl) ?_
        refine lv_dup hx hb dX8_conflictsWith_166 rfl ?_
        refine va_get (D := D) (ci := 8) (v := .int t_conflictMany) (C := RX8) (T := TX8) (N := 23) hx hb hts iX8 hown hK.1 hP 0 rfl rfl 15 (by decide) f0 (fun _ h9 => h9) rfl dX8_conflictsWith_167 ?_
        refine lv_iconst (v := 1) hx hb dX8_conflictsWith_170 (by decide) ?_
        refine lv_iadd hx hb dX8_conflictsWith_171 ?_
        refine va_put (D := D) (ci := 8) (v := .int (t_conflictMany + (1 : Int32))) (ty := .int) (C := RX8) (T := TX8) (N := 23) hx hb hts iX8 tyX8 tyX8_ok nmX8 hown hK.1 hP hD hS 0 rfl rfl 15 (by decide) f0 (fun _ h9 => h9) rfl (tyX8_ok 15 (by decide)) rfl rfl (Nat.le_of_ble_eq_true rfl) dX8_conflictsWith_172 (fun H locs hP hD hS => ?_)
        have hP : va_P D vwCl [(A_t, .inr (8, [.ref A_t_state, .ref A_t_tape, .int t_taped, .int t_fault, .int t_broken, .int t_brokenAt, .int t_spot, .int t_here, .int t_token, .int t_value, .int t_isRealTold, .ref A_t_ends, .ref A_t_letters, .ref A_t_least, .ref A_t_conflicts, .int (t_conflictMany + (1 : Int32)), .ref A_t_behind, .ref A_t_placed, .ref A_t_isKept, .ref A_t_lanes, .ref A_t_lengths, .ref A_t_cells, .int t_torn])), (A_t_behind, .inl (cy 2, 110, .inr (.inl t_behind))), (A_t_state, .inl (cy 1, 535, .inl t_state)), (A_t_conflicts, .inl (cy 1, 16, .inl (upd t_conflicts t_conflictMany.toNatClampNeg x11)))] H := hP
        have hD : va_D A [(A_t, .inr (8, [.ref A_t_state, .ref A_t_tape, .int t_taped, .int t_fault, .int t_broken, .int t_brokenAt, .int t_spot, .int t_here, .int t_token, .int t_value, .int t_isRealTold, .ref A_t_ends, .ref A_t_letters, .ref A_t_least, .ref A_t_conflicts, .int (t_conflictMany + (1 : Int32)), .ref A_t_behind, .ref A_t_placed, .ref A_t_isKept, .ref A_t_lanes, .ref A_t_lengths, .ref A_t_cells, .int t_torn])), (A_t_behind, .inl (cy 2, 110, .inr (.inl t_behind))), (A_t_state, .inl (cy 1, 535, .inl t_state)), (A_t_conflicts, .inl (cy 1, 16, .inl (upd t_conflicts t_conflictMany.toNatClampNeg x11)))] := hD
        refine lv_lload hx hb dX8_conflictsWith_175 (lv_at hl 2 rfl) ?_
        refine lv_aload_n hx hb dX8_conflictsWith_177 rfl (lv_at hl 0 rfl) ?_
        refine lv_iconst (v := 0) hx hb dX8_conflictsWith_178 (by decide) ?_
        refine lv_iload hx hb dX8_conflictsWith_179 (lv_at hl 4 rfl) ?_
        have hPc := hP.sub (ws' := [(A_t, .inr (8, [.ref A_t_state, .ref A_t_tape, .int t_taped, .int t_fault, .int t_broken, .int t_brokenAt, .int t_spot, .int t_here, .int t_token, .int t_value, .int t_isRealTold, .ref A_t_ends, .ref A_t_letters, .ref A_t_least, .ref A_t_conflicts, .int (t_conflictMany + (1 : Int32)), .ref A_t_behind, .ref A_t_placed, .ref A_t_isKept, .ref A_t_lanes, .ref A_t_lengths, .ref A_t_cells, .int t_torn])), (A_t_state, .inl (cy 1, 535, .inl t_state))]) [0, 2] rfl
        refine vp_callSl (W.runV (As := [.int (0 : Int32), .int x11]) (rest := [.long y7]) CF (c_X8_weightOf l D cy A_t A_t_state A_t_tape A_t_ends A_t_letters A_t_least A_t_conflicts A_t_behind A_t_placed A_t_isKept A_t_lanes A_t_lengths A_t_cells t_taped t_fault t_broken t_brokenAt t_spot t_here t_token t_value t_isRealTold (t_conflictMany + (1 : Int32)) t_torn t_state (0 : Int32) x11 _ h) (cwV 2 hts gX8_conflictsWith_X8_weightOf rfl rfl rfl qX8_weightOf ⟨Nat.le_of_ble_eq_true rfl, Nat.le_of_ble_eq_true rfl⟩) (mpVR hK hPc (ci := 8) (q := (RX8, TX8, 23)) (q0 := 0) rfl rfl) rfl rfl hl.1 rfl (lv_room (Nat.le_of_ble_eq_true rfl)) dX8_conflictsWith_181 ⟨Nat.zero_le _, Nat.zero_le _⟩) (fun r3 h => ?_)
        refine lv_ladd hx hb dX8_conflictsWith_184 ?_
        refine lv_lstore (lv' := [(7, .long (y7 + r3)), (0, .ref A_t), (5, .int x5), (10, .int x10), (11, .int x11)]) hx hb dX8_conflictsWith_185 hl (by decide) rfl (fun ls hl => ?_)
        refine lv_aload_n hx hb dX8_conflictsWith_187 rfl (lv_at hl 1 rfl) ?_
        refine va_get (D := D) (ci := 8) (v := .ref A_t_state) (C := RX8) (T := TX8) (N := 23) hx hb hts iX8 hown hK.1 hP 0 rfl rfl 0 (by decide) f2 (fun _ h9 => h9) rfl dX8_conflictsWith_188 ?_
        refine lv_iload hx hb dX8_conflictsWith_191 (lv_at hl 4 rfl) ?_
        refine va_iald hx hb hK.1 hP 2 1 rfl rfl h.1 dX8_conflictsWith_193 ?_
        replace h := h.2
        refine lv_istore (lv' := [(9, .int (t_state x11.toNatClampNeg)), (7, .long (y7 + r3)), (0, .ref A_t), (5, .int x5), (10, .int x10), (11, .int x11)]) hx hb dX8_conflictsWith_194 hl (by decide) rfl (fun ls hl => ?_)
        refine lv_iinc (v := x10 + (-1 : Int32)) (lv' := [(10, .int (x10 + (-1 : Int32))), (9, .int (t_state x11.toNatClampNeg)), (7, .long (y7 + r3)), (0, .ref A_t), (5, .int x5), (11, .int x11)]) hx hb dX8_conflictsWith_196 hl (k := 4) rfl rfl (by decide) rfl (fun ls hl => ?_)
        refine lv_goto (tgt := 76) hx hb dX8_conflictsWith_199 (by decide) ?_
        exact ih76 (t_conflictMany + (1 : Int32)) t_behind (upd t_conflicts t_conflictMany.toNatClampNeg x11) (y7 + r3) (t_state x11.toNatClampNeg) (x10 + (-1 : Int32)) H locs ls h hP hD hS (lv_sub hl [3, 4, 2, 1, 0] rfl)
      have L84 : ∀ (n84 : Nat) (t_conflictMany : Int32) (t_behind : Nat → Int64) (t_conflicts : Nat → Int32) (y7 : Int64) (x9 : Int32) (x10 : Int32) (x11 : Int32) (H : Heap) (locs : List Loc) (ls : Array Slot), L_X8_conflictsWith_84 (L_X8_conflictsWith_76 post t_behind t_state x5 n76) t_conflictMany t_behind t_state t_conflicts x5 x9 x10 y7 n84 x11 → va_P D vwCl [(A_t, .inr (8, [.ref A_t_state, .ref A_t_tape, .int t_taped, .int t_fault, .int t_broken, .int t_brokenAt, .int t_spot, .int t_here, .int t_token, .int t_value, .int t_isRealTold, .ref A_t_ends, .ref A_t_letters, .ref A_t_least, .ref A_t_conflicts, .int t_conflictMany, .ref A_t_behind, .ref A_t_placed, .ref A_t_isKept, .ref A_t_lanes, .ref A_t_lengths, .ref A_t_cells, .int t_torn])), (A_t_behind, .inl (cy 2, 110, .inr (.inl t_behind))), (A_t_state, .inl (cy 1, 535, .inl t_state)), (A_t_conflicts, .inl (cy 1, 16, .inl t_conflicts))] H → va_D A [(A_t, .inr (8, [.ref A_t_state, .ref A_t_tape, .int t_taped, .int t_fault, .int t_broken, .int t_brokenAt, .int t_spot, .int t_here, .int t_token, .int t_value, .int t_isRealTold, .ref A_t_ends, .ref A_t_letters, .ref A_t_least, .ref A_t_conflicts, .int t_conflictMany, .ref A_t_behind, .ref A_t_placed, .ref A_t_isKept, .ref A_t_lanes, .ref A_t_lengths, .ref A_t_cells, .int t_torn])), (A_t_behind, .inl (cy 2, 110, .inr (.inl t_behind))), (A_t_state, .inl (cy 1, 535, .inl t_state)), (A_t_conflicts, .inl (cy 1, 16, .inl t_conflicts))] → va_S A s.heap H locs → lv_has ls 12 [(0, .ref A_t), (5, .int x5), (7, .long y7), (9, .int x9), (10, .int x10), (11, .int x11)] → W p l e (headSpec wsX8_conflictsWith { frames := 4, cells := 0, slots := 0, locals := 95 }).room s m ([.ref A_t, .int x1, .int x2, .long y3, .int x5] : List Value).toArray below meth c H locs 0 0 Q0 (F0 m 84 ls []) := by
        intro n84
        induction n84 with
        | zero => intro t_conflictMany t_behind t_conflicts y7 x9 x10 x11 H locs ls h; exact False.elim h
        | succ n84 ih84 =>
          intro t_conflictMany t_behind t_conflicts y7 x9 x10 x11 H locs ls h hP hD hS hl
          have h : LB_X8_conflictsWith_84 (L_X8_conflictsWith_76 post t_behind t_state x5 n76) t_conflictMany t_behind t_state t_conflicts x5 x9 x10 y7 (L_X8_conflictsWith_84 (L_X8_conflictsWith_76 post t_behind t_state x5 n76) t_conflictMany t_behind t_state t_conflicts x5 x9 x10 y7 n84) x11 := h
          unfold LB_X8_conflictsWith_84 at h
          have J148 : ∀ (t_conflictMany : Int32) (t_behind : Nat → Int64) (t_conflicts : Nat → Int32) (y7 : Int64) (x9 : Int32) (x10 : Int32) (x11 : Int32) (H : Heap) (locs : List Loc) (ls : Array Slot), B_X8_conflictsWith_148 (L_X8_conflictsWith_84 (L_X8_conflictsWith_76 post t_behind t_state x5 n76) t_conflictMany t_behind t_state t_conflicts x5 x9 x10 y7 n84) x11 → va_P D vwCl [(A_t, .inr (8, [.ref A_t_state, .ref A_t_tape, .int t_taped, .int t_fault, .int t_broken, .int t_brokenAt, .int t_spot, .int t_here, .int t_token, .int t_value, .int t_isRealTold, .ref A_t_ends, .ref A_t_letters, .ref A_t_least, .ref A_t_conflicts, .int t_conflictMany, .ref A_t_behind, .ref A_t_placed, .ref A_t_isKept, .ref A_t_lanes, .ref A_t_lengths, .ref A_t_cells, .int t_torn])), (A_t_behind, .inl (cy 2, 110, .inr (.inl t_behind))), (A_t_state, .inl (cy 1, 535, .inl t_state)), (A_t_conflicts, .inl (cy 1, 16, .inl t_conflicts))] H → va_D A [(A_t, .inr (8, [.ref A_t_state, .ref A_t_tape, .int t_taped, .int t_fault, .int t_broken, .int t_brokenAt, .int t_spot, .int t_here, .int t_token, .int t_value, .int t_isRealTold, .ref A_t_ends, .ref A_t_letters, .ref A_t_least, .ref A_t_conflicts, .int t_conflictMany, .ref A_t_behind, .ref A_t_placed, .ref A_t_isKept, .ref A_t_lanes, .ref A_t_lengths, .ref A_t_cells, .int t_torn])), (A_t_behind, .inl (cy 2, 110, .inr (.inl t_behind))), (A_t_state, .inl (cy 1, 535, .inl t_state)), (A_t_conflicts, .inl (cy 1, 16, .inl t_conflicts))] → va_S A s.heap H locs → lv_has ls 12 [(0, .ref A_t), (5, .int x5), (7, .long y7), (9, .int x9), (10, .int x10), (11, .int x11)] → W p l e (headSpec wsX8_conflictsWith { frames := 4, cells := 0, slots := 0, locals := 95 }).room s m ([.ref A_t, .int x1, .int x2, .long y3, .int x5] : List Value).toArray below meth c H locs 0 0 Q0 (F0 m 148 ls []) := by
            intro t_conflictMany t_behind t_conflicts y7 x9 x10 x11 H locs ls h hP hD hS hl
            unfold B_X8_conflictsWith_148 at h
            refine lv_iinc (v := x11 + (1 : Int32)) (lv' := [(11, .int (x11 + (1 : Int32))), (0, .ref A_t), (5, .int x5), (7, .long y7), (9, .int x9), (10, .int x10)]) hx hb dX8_conflictsWith_148 hl (k := 5) rfl rfl (by decide) rfl (fun ls hl => ?_)
            refine lv_goto (tgt := 84) hx hb dX8_conflictsWith_151 (by decide) ?_
            exact ih84 t_conflictMany t_behind t_conflicts y7 x9 x10 (x11 + (1 : Int32)) H locs ls h hP hD hS (lv_sub hl [1, 2, 3, 4, 5, 0] rfl)
          refine lv_iload hx hb dX8_conflictsWith_84 (lv_at hl 5 rfl) ?_
          refine lv_iconst (v := 1) hx hb dX8_conflictsWith_86 (by decide) ?_
          refine lv_iadd hx hb dX8_conflictsWith_87 ?_
          refine lv_aload_n hx hb dX8_conflictsWith_88 rfl (lv_at hl 0 rfl) ?_
          have hPc := hP.sub (ws' := [(A_t, .inr (8, [.ref A_t_state, .ref A_t_tape, .int t_taped, .int t_fault, .int t_broken, .int t_brokenAt, .int t_spot, .int t_here, .int t_token, .int t_value, .int t_isRealTold, .ref A_t_ends, .ref A_t_letters, .ref A_t_least, .ref A_t_conflicts, .int t_conflictMany, .ref A_t_behind, .ref A_t_placed, .ref A_t_isKept, .ref A_t_lanes, .ref A_t_lengths, .ref A_t_cells, .int t_torn])), (A_t_state, .inl (cy 1, 535, .inl t_state))]) [0, 2] rfl
          refine vp_callSi (W.runV (As := []) (rest := [.int (x11 + (1 : Int32))]) CF (c_X8_many l D cy A_t A_t_state A_t_tape A_t_ends A_t_letters A_t_least A_t_conflicts A_t_behind A_t_placed A_t_isKept A_t_lanes A_t_lengths A_t_cells t_taped t_fault t_broken t_brokenAt t_spot t_here t_token t_value t_isRealTold t_conflictMany t_torn t_state _ h) (cwV 0 hts gX8_conflictsWith_X8_many rfl rfl rfl qX8_many ⟨Nat.le_of_ble_eq_true rfl, Nat.le_of_ble_eq_true rfl⟩) (mpVR hK hPc (ci := 8) (q := (RX8, TX8, 23)) (q0 := 0) rfl rfl) rfl rfl hl.1 rfl (lv_room (Nat.le_of_ble_eq_true rfl)) dX8_conflictsWith_89 ⟨Nat.zero_le _, Nat.zero_le _⟩) (fun r2 h => ?_)
          refine lv_icmp_ge (tgt := 154) hx hb dX8_conflictsWith_92 (by decide) (fun hc => ?_) (fun hc => ?_)
          · replace h := h.1 hc
            exact J154 t_conflictMany t_behind t_conflicts y7 x10 x11 H locs ls h hP hD hS (lv_sub hl [0, 1, 2, 4, 5] rfl)
          · replace h := h.2 hc
            refine lv_iload hx hb dX8_conflictsWith_95 (lv_at hl 5 rfl) ?_
            refine lv_iload hx hb dX8_conflictsWith_97 (lv_at hl 1 rfl) ?_
            refine lv_icmp_eq (tgt := 148) hx hb dX8_conflictsWith_99 (by decide) (fun hc => ?_) (fun hc => ?_)
            · replace h := h.1 hc
              exact J148 t_conflictMany t_behind t_conflicts y7 x9 x10 x11 H locs ls h hP hD hS (lv_sub hl [0, 1, 2, 3, 4, 5] rfl)
            · replace h := h.2 hc
              refine lv_aload_n hx hb dX8_conflictsWith_102 rfl (lv_at hl 0 rfl) ?_
              refine va_get (D := D) (ci := 8) (v := .ref A_t_state) (C := RX8) (T := TX8) (N := 23) hx hb hts iX8 hown hK.1 hP 0 rfl rfl 0 (by decide) f2 (fun _ h9 => h9) rfl dX8_conflictsWith_103 ?_
              refine lv_bipush (v := 24) hx hb dX8_conflictsWith_106 (by decide) ?_
              refine lv_iload hx hb dX8_conflictsWith_108 (lv_at hl 5 rfl) ?_
              refine lv_iadd hx hb dX8_conflictsWith_110 ?_
              refine va_iald hx hb hK.1 hP 2 1 rfl rfl h.1 dX8_conflictsWith_111 ?_
              replace h := h.2
              refine lv_iload hx hb dX8_conflictsWith_112 (lv_at hl 3 rfl) ?_
              refine lv_icmp_ne (tgt := 148) hx hb dX8_conflictsWith_114 (by decide) (fun hc => ?_) (fun hc => ?_)
              · replace h := h.1 hc
                exact J148 t_conflictMany t_behind t_conflicts y7 x9 x10 x11 H locs ls h hP hD hS (lv_sub hl [0, 1, 2, 3, 4, 5] rfl)
              · replace h := h.2 hc
                refine lv_aload_n hx hb dX8_conflictsWith_117 rfl (lv_at hl 0 rfl) ?_
                refine lv_iload hx hb dX8_conflictsWith_118 (lv_at hl 5 rfl) ?_
                refine lv_iload hx hb dX8_conflictsWith_120 (lv_at hl 4 rfl) ?_
                have hPc := hP.sub (ws' := [(A_t, .inr (8, [.ref A_t_state, .ref A_t_tape, .int t_taped, .int t_fault, .int t_broken, .int t_brokenAt, .int t_spot, .int t_here, .int t_token, .int t_value, .int t_isRealTold, .ref A_t_ends, .ref A_t_letters, .ref A_t_least, .ref A_t_conflicts, .int t_conflictMany, .ref A_t_behind, .ref A_t_placed, .ref A_t_isKept, .ref A_t_lanes, .ref A_t_lengths, .ref A_t_cells, .int t_torn])), (A_t_state, .inl (cy 1, 535, .inl t_state)), (A_t_behind, .inl (cy 2, 110, .inr (.inl t_behind)))]) [0, 2, 1] rfl
                refine vp_callSl (W.runV (As := [.int x11, .int x10]) (rest := []) CF (c_X8_follow l D cy A_t A_t_state A_t_tape A_t_ends A_t_letters A_t_least A_t_conflicts A_t_behind A_t_placed A_t_isKept A_t_lanes A_t_lengths A_t_cells t_taped t_fault t_broken t_brokenAt t_spot t_here t_token t_value t_isRealTold t_conflictMany t_torn t_state t_behind x11 x10 _ h) (cwV 2 hts gX8_conflictsWith_X8_follow rfl rfl rfl qX8_follow ⟨Nat.le_of_ble_eq_true rfl, Nat.le_of_ble_eq_true rfl⟩) (mpVR hK hPc (ci := 8) (q := (RX8, TX8, 23)) (q0 := 0) rfl rfl) rfl rfl hl.1 rfl (lv_room (Nat.le_of_ble_eq_true rfl)) dX8_conflictsWith_122 ⟨Nat.zero_le _, Nat.zero_le _⟩) (fun r4 h => ?_)
                refine lv_ldc2 (v := 1000000000000000000) hx hb hown f3 dX8_conflictsWith_125 ?_
                refine lx_ge (tgt := 148) hx hb dX8_conflictsWith_128 dX8_conflictsWith_129 (by decide) (fun hc => ?_) (fun hc => ?_)
                · replace h := h.1 hc
                  exact J148 t_conflictMany t_behind t_conflicts y7 x9 x10 x11 H locs ls h hP hD hS (lv_sub hl [0, 1, 2, 3, 4, 5] rfl)
                · replace h := h.2 hc
                  refine lv_lload hx hb dX8_conflictsWith_132 (lv_at hl 2 rfl) ?_
                  refine lv_aload_n hx hb dX8_conflictsWith_134 rfl (lv_at hl 0 rfl) ?_
                  refine lv_iload hx hb dX8_conflictsWith_135 (lv_at hl 5 rfl) ?_
                  refine lv_iload hx hb dX8_conflictsWith_137 (lv_at hl 4 rfl) ?_
                  have hPc := hP.sub (ws' := [(A_t, .inr (8, [.ref A_t_state, .ref A_t_tape, .int t_taped, .int t_fault, .int t_broken, .int t_brokenAt, .int t_spot, .int t_here, .int t_token, .int t_value, .int t_isRealTold, .ref A_t_ends, .ref A_t_letters, .ref A_t_least, .ref A_t_conflicts, .int t_conflictMany, .ref A_t_behind, .ref A_t_placed, .ref A_t_isKept, .ref A_t_lanes, .ref A_t_lengths, .ref A_t_cells, .int t_torn])), (A_t_state, .inl (cy 1, 535, .inl t_state)), (A_t_behind, .inl (cy 2, 110, .inr (.inl t_behind)))]) [0, 2, 1] rfl
                  refine vp_callSl (W.runV (As := [.int x11, .int x10]) (rest := [.long y7]) CF (c_X8_follow l D cy A_t A_t_state A_t_tape A_t_ends A_t_letters A_t_least A_t_conflicts A_t_behind A_t_placed A_t_isKept A_t_lanes A_t_lengths A_t_cells t_taped t_fault t_broken t_brokenAt t_spot t_here t_token t_value t_isRealTold t_conflictMany t_torn t_state t_behind x11 x10 _ h) (cwV 2 hts gX8_conflictsWith_X8_follow rfl rfl rfl qX8_follow ⟨Nat.le_of_ble_eq_true rfl, Nat.le_of_ble_eq_true rfl⟩) (mpVR hK hPc (ci := 8) (q := (RX8, TX8, 23)) (q0 := 0) rfl rfl) rfl rfl hl.1 rfl (lv_room (Nat.le_of_ble_eq_true rfl)) dX8_conflictsWith_139 ⟨Nat.zero_le _, Nat.zero_le _⟩) (fun r5 h => ?_)
                  refine lv_ladd hx hb dX8_conflictsWith_142 ?_
                  refine lv_lconst (v := 0) hx hb dX8_conflictsWith_143 (by decide) ?_
                  refine lx_lt (tgt := 154) hx hb dX8_conflictsWith_144 dX8_conflictsWith_145 (by decide) (fun hc => ?_) (fun hc => ?_)
                  · replace h := h.1 hc
                    exact J154 t_conflictMany t_behind t_conflicts y7 x10 x11 H locs ls h hP hD hS (lv_sub hl [0, 1, 2, 4, 5] rfl)
                  · replace h := h.2 hc
                    exact J148 t_conflictMany t_behind t_conflicts y7 x9 x10 x11 H locs ls h hP hD hS (lv_sub hl [0, 1, 2, 3, 4, 5] rfl)
      refine lv_iload hx hb dX8_conflictsWith_76 (lv_at hl 4 rfl) ?_
      refine lv_if_le (tgt := 202) hx hb dX8_conflictsWith_78 (by decide) (fun hc => ?_) (fun hc => ?_)
      · replace h := h.1 hc
        subst hQ
        subst hAe
        exact W.vret hx hb hr (fun t ht _ => ⟨⟨(t_conflictMany, t_behind, t_conflicts), rfl, h, by rw [ht]; exact hP, hD⟩, hS.F ht⟩) hS.2.2 dX8_conflictsWith_202
      · replace h := h.2 hc
        refine lv_iconst (v := 0) hx hb dX8_conflictsWith_81 (by decide) ?_
        refine lv_istore (lv' := [(11, .int (0 : Int32)), (0, .ref A_t), (5, .int x5), (7, .long y7), (9, .int x9), (10, .int x10)]) hx hb dX8_conflictsWith_82 hl (by decide) rfl (fun ls hl => ?_)
        obtain ⟨nn, h⟩ := h
        exact L84 nn t_conflictMany t_behind t_conflicts y7 x9 x10 (0 : Int32) H locs ls h hP hD hS (lv_sub hl [1, 2, 3, 4, 5, 0] rfl)
  have J61 : ∀ (t_conflictMany : Int32) (t_behind : Nat → Int64) (t_conflicts : Nat → Int32) (x6 : Int32) (H : Heap) (locs : List Loc) (ls : Array Slot), B_X8_conflictsWith_61 post t_behind t_state t_conflicts x1 x5 x6 y3 → va_P D vwCl [(A_t, .inr (8, [.ref A_t_state, .ref A_t_tape, .int t_taped, .int t_fault, .int t_broken, .int t_brokenAt, .int t_spot, .int t_here, .int t_token, .int t_value, .int t_isRealTold, .ref A_t_ends, .ref A_t_letters, .ref A_t_least, .ref A_t_conflicts, .int t_conflictMany, .ref A_t_behind, .ref A_t_placed, .ref A_t_isKept, .ref A_t_lanes, .ref A_t_lengths, .ref A_t_cells, .int t_torn])), (A_t_behind, .inl (cy 2, 110, .inr (.inl t_behind))), (A_t_state, .inl (cy 1, 535, .inl t_state)), (A_t_conflicts, .inl (cy 1, 16, .inl t_conflicts))] H → va_D A [(A_t, .inr (8, [.ref A_t_state, .ref A_t_tape, .int t_taped, .int t_fault, .int t_broken, .int t_brokenAt, .int t_spot, .int t_here, .int t_token, .int t_value, .int t_isRealTold, .ref A_t_ends, .ref A_t_letters, .ref A_t_least, .ref A_t_conflicts, .int t_conflictMany, .ref A_t_behind, .ref A_t_placed, .ref A_t_isKept, .ref A_t_lanes, .ref A_t_lengths, .ref A_t_cells, .int t_torn])), (A_t_behind, .inl (cy 2, 110, .inr (.inl t_behind))), (A_t_state, .inl (cy 1, 535, .inl t_state)), (A_t_conflicts, .inl (cy 1, 16, .inl t_conflicts))] → va_S A s.heap H locs → lv_has ls 12 [(0, .ref A_t), (1, .int x1), (3, .long y3), (5, .int x5), (6, .int x6)] → W p l e (headSpec wsX8_conflictsWith { frames := 4, cells := 0, slots := 0, locals := 95 }).room s m ([.ref A_t, .int x1, .int x2, .long y3, .int x5] : List Value).toArray below meth c H locs 0 0 Q0 (F0 m 61 ls []) := by
    intro t_conflictMany t_behind t_conflicts x6 H locs ls h hP hD hS hl
    unfold B_X8_conflictsWith_61 at h
    refine lv_aload_n hx hb dX8_conflictsWith_61 rfl (lv_at hl 0 rfl) ?_
    refine lv_iconst (v := 0) hx hb dX8_conflictsWith_62 (by decide) ?_
    refine va_put (D := D) (ci := 8) (v := .int (0 : Int32)) (ty := .int) (C := RX8) (T := TX8) (N := 23) hx hb hts iX8 tyX8 tyX8_ok nmX8 hown hK.1 hP hD hS 0 rfl rfl 15 (by decide) f0 (fun _ h9 => h9) rfl (tyX8_ok 15 (by decide)) rfl rfl (Nat.le_of_ble_eq_true rfl) dX8_conflictsWith_63 (fun H locs hP hD hS => ?_)
    have hP : va_P D vwCl [(A_t, .inr (8, [.ref A_t_state, .ref A_t_tape, .int t_taped, .int t_fault, .int t_broken, .int t_brokenAt, .int t_spot, .int t_here, .int t_token, .int t_value, .int t_isRealTold, .ref A_t_ends, .ref A_t_letters, .ref A_t_least, .ref A_t_conflicts, .int ((0 : Int32)), .ref A_t_behind, .ref A_t_placed, .ref A_t_isKept, .ref A_t_lanes, .ref A_t_lengths, .ref A_t_cells, .int t_torn])), (A_t_behind, .inl (cy 2, 110, .inr (.inl t_behind))), (A_t_state, .inl (cy 1, 535, .inl t_state)), (A_t_conflicts, .inl (cy 1, 16, .inl t_conflicts))] H := hP
    have hD : va_D A [(A_t, .inr (8, [.ref A_t_state, .ref A_t_tape, .int t_taped, .int t_fault, .int t_broken, .int t_brokenAt, .int t_spot, .int t_here, .int t_token, .int t_value, .int t_isRealTold, .ref A_t_ends, .ref A_t_letters, .ref A_t_least, .ref A_t_conflicts, .int ((0 : Int32)), .ref A_t_behind, .ref A_t_placed, .ref A_t_isKept, .ref A_t_lanes, .ref A_t_lengths, .ref A_t_cells, .int t_torn])), (A_t_behind, .inl (cy 2, 110, .inr (.inl t_behind))), (A_t_state, .inl (cy 1, 535, .inl t_state)), (A_t_conflicts, .inl (cy 1, 16, .inl t_conflicts))] := hD
    refine lv_lload_n hx hb dX8_conflictsWith_66 rfl (lv_at hl 2 rfl) ?_
    refine lv_lstore (lv' := [(7, .long y3), (0, .ref A_t), (1, .int x1), (3, .long y3), (5, .int x5), (6, .int x6)]) hx hb dX8_conflictsWith_67 hl (by decide) rfl (fun ls hl => ?_)
    refine lv_iload_n hx hb dX8_conflictsWith_69 rfl (lv_at hl 2 rfl) ?_
    refine lv_istore (lv' := [(9, .int x1), (7, .long y3), (0, .ref A_t), (1, .int x1), (3, .long y3), (5, .int x5), (6, .int x6)]) hx hb dX8_conflictsWith_70 hl (by decide) rfl (fun ls hl => ?_)
    refine lv_iload hx hb dX8_conflictsWith_72 (lv_at hl 6 rfl) ?_
    refine lv_istore (lv' := [(10, .int x6), (9, .int x1), (7, .long y3), (0, .ref A_t), (1, .int x1), (3, .long y3), (5, .int x5), (6, .int x6)]) hx hb dX8_conflictsWith_74 hl (by decide) rfl (fun ls hl => ?_)
    obtain ⟨nn, h⟩ := h
    exact L76 nn (0 : Int32) t_behind t_conflicts y3 x1 x6 H locs ls h hP hD hS (lv_sub hl [3, 6, 2, 1, 0] rfl)
  have L10 : ∀ (n10 : Nat) (t_conflictMany : Int32) (t_behind : Nat → Int64) (t_conflicts : Nat → Int32) (x6 : Int32) (H : Heap) (locs : List Loc) (ls : Array Slot), L_X8_conflictsWith_10 post t_behind t_state t_conflicts x1 x5 y3 n10 x6 → va_P D vwCl [(A_t, .inr (8, [.ref A_t_state, .ref A_t_tape, .int t_taped, .int t_fault, .int t_broken, .int t_brokenAt, .int t_spot, .int t_here, .int t_token, .int t_value, .int t_isRealTold, .ref A_t_ends, .ref A_t_letters, .ref A_t_least, .ref A_t_conflicts, .int t_conflictMany, .ref A_t_behind, .ref A_t_placed, .ref A_t_isKept, .ref A_t_lanes, .ref A_t_lengths, .ref A_t_cells, .int t_torn])), (A_t_behind, .inl (cy 2, 110, .inr (.inl t_behind))), (A_t_state, .inl (cy 1, 535, .inl t_state)), (A_t_conflicts, .inl (cy 1, 16, .inl t_conflicts))] H → va_D A [(A_t, .inr (8, [.ref A_t_state, .ref A_t_tape, .int t_taped, .int t_fault, .int t_broken, .int t_brokenAt, .int t_spot, .int t_here, .int t_token, .int t_value, .int t_isRealTold, .ref A_t_ends, .ref A_t_letters, .ref A_t_least, .ref A_t_conflicts, .int t_conflictMany, .ref A_t_behind, .ref A_t_placed, .ref A_t_isKept, .ref A_t_lanes, .ref A_t_lengths, .ref A_t_cells, .int t_torn])), (A_t_behind, .inl (cy 2, 110, .inr (.inl t_behind))), (A_t_state, .inl (cy 1, 535, .inl t_state)), (A_t_conflicts, .inl (cy 1, 16, .inl t_conflicts))] → va_S A s.heap H locs → lv_has ls 12 [(0, .ref A_t), (1, .int x1), (3, .long y3), (5, .int x5), (6, .int x6)] → W p l e (headSpec wsX8_conflictsWith { frames := 4, cells := 0, slots := 0, locals := 95 }).room s m ([.ref A_t, .int x1, .int x2, .long y3, .int x5] : List Value).toArray below meth c H locs 0 0 Q0 (F0 m 10 ls []) := by
    intro n10
    induction n10 with
    | zero => intro t_conflictMany t_behind t_conflicts x6 H locs ls h; exact False.elim h
    | succ n10 ih10 =>
      intro t_conflictMany t_behind t_conflicts x6 H locs ls h hP hD hS hl
      have h : LB_X8_conflictsWith_10 post t_behind t_state t_conflicts x1 x5 y3 (L_X8_conflictsWith_10 post t_behind t_state t_conflicts x1 x5 y3 n10) x6 := h
      unfold LB_X8_conflictsWith_10 at h
      have J55 : ∀ (t_conflictMany : Int32) (t_behind : Nat → Int64) (t_conflicts : Nat → Int32) (x6 : Int32) (H : Heap) (locs : List Loc) (ls : Array Slot), B_X8_conflictsWith_55 (L_X8_conflictsWith_10 post t_behind t_state t_conflicts x1 x5 y3 n10) x6 → va_P D vwCl [(A_t, .inr (8, [.ref A_t_state, .ref A_t_tape, .int t_taped, .int t_fault, .int t_broken, .int t_brokenAt, .int t_spot, .int t_here, .int t_token, .int t_value, .int t_isRealTold, .ref A_t_ends, .ref A_t_letters, .ref A_t_least, .ref A_t_conflicts, .int t_conflictMany, .ref A_t_behind, .ref A_t_placed, .ref A_t_isKept, .ref A_t_lanes, .ref A_t_lengths, .ref A_t_cells, .int t_torn])), (A_t_behind, .inl (cy 2, 110, .inr (.inl t_behind))), (A_t_state, .inl (cy 1, 535, .inl t_state)), (A_t_conflicts, .inl (cy 1, 16, .inl t_conflicts))] H → va_D A [(A_t, .inr (8, [.ref A_t_state, .ref A_t_tape, .int t_taped, .int t_fault, .int t_broken, .int t_brokenAt, .int t_spot, .int t_here, .int t_token, .int t_value, .int t_isRealTold, .ref A_t_ends, .ref A_t_letters, .ref A_t_least, .ref A_t_conflicts, .int t_conflictMany, .ref A_t_behind, .ref A_t_placed, .ref A_t_isKept, .ref A_t_lanes, .ref A_t_lengths, .ref A_t_cells, .int t_torn])), (A_t_behind, .inl (cy 2, 110, .inr (.inl t_behind))), (A_t_state, .inl (cy 1, 535, .inl t_state)), (A_t_conflicts, .inl (cy 1, 16, .inl t_conflicts))] → va_S A s.heap H locs → lv_has ls 12 [(0, .ref A_t), (1, .int x1), (3, .long y3), (5, .int x5), (6, .int x6)] → W p l e (headSpec wsX8_conflictsWith { frames := 4, cells := 0, slots := 0, locals := 95 }).room s m ([.ref A_t, .int x1, .int x2, .long y3, .int x5] : List Value).toArray below meth c H locs 0 0 Q0 (F0 m 55 ls []) := by
        intro t_conflictMany t_behind t_conflicts x6 H locs ls h hP hD hS hl
        unfold B_X8_conflictsWith_55 at h
        refine lv_iinc (v := x6 + (1 : Int32)) (lv' := [(6, .int (x6 + (1 : Int32))), (0, .ref A_t), (1, .int x1), (3, .long y3), (5, .int x5)]) hx hb dX8_conflictsWith_55 hl (k := 4) rfl rfl (by decide) rfl (fun ls hl => ?_)
        refine lv_goto (tgt := 10) hx hb dX8_conflictsWith_58 (by decide) ?_
        exact ih10 t_conflictMany t_behind t_conflicts (x6 + (1 : Int32)) H locs ls h hP hD hS (lv_sub hl [1, 2, 3, 4, 0] rfl)
      refine lv_iload hx hb dX8_conflictsWith_10 (lv_at hl 4 rfl) ?_
      refine lv_bipush (v := 10) hx hb dX8_conflictsWith_12 (by decide) ?_
      refine lv_icmp_ge (tgt := 61) hx hb dX8_conflictsWith_14 (by decide) (fun hc => ?_) (fun hc => ?_)
      · replace h := h.1 hc
        exact J61 t_conflictMany t_behind t_conflicts x6 H locs ls h hP hD hS (lv_sub hl [0, 1, 2, 3, 4] rfl)
      · replace h := h.2 hc
        refine lv_aload_n hx hb dX8_conflictsWith_17 rfl (lv_at hl 0 rfl) ?_
        refine va_get (D := D) (ci := 8) (v := .ref A_t_behind) (C := RX8) (T := TX8) (N := 23) hx hb hts iX8 hown hK.1 hP 0 rfl rfl 16 (by decide) f4 (fun _ h9 => h9) rfl dX8_conflictsWith_18 ?_
        refine lv_bipush (v := 10) hx hb dX8_conflictsWith_21 (by decide) ?_
        refine lv_iload hx hb dX8_conflictsWith_23 (lv_at hl 4 rfl) ?_
        refine lv_imul hx hb dX8_conflictsWith_25 ?_
        refine lv_iload_n hx hb dX8_conflictsWith_26 rfl (lv_at hl 1 rfl) ?_
        refine lv_iadd hx hb dX8_conflictsWith_27 ?_
        refine va_lald hx hb hK.1 hP 1 2 rfl rfl h.1 dX8_conflictsWith_28 ?_
        replace h := h.2
        refine lv_ldc2 (v := 1000000000000000000) hx hb hown f3 dX8_conflictsWith_29 ?_
        refine lx_ge (tgt := 55) hx hb dX8_conflictsWith_32 dX8_conflictsWith_33 (by decide) (fun hc => ?_) (fun hc => ?_)
        · replace h := h.1 hc
          exact J55 t_conflictMany t_behind t_conflicts x6 H locs ls h hP hD hS (lv_sub hl [0, 1, 2, 3, 4] rfl)
        · replace h := h.2 hc
          refine lv_aload_n hx hb dX8_conflictsWith_36 rfl (lv_at hl 0 rfl) ?_
          refine va_get (D := D) (ci := 8) (v := .ref A_t_behind) (C := RX8) (T := TX8) (N := 23) hx hb hts iX8 hown hK.1 hP 0 rfl rfl 16 (by decide) f4 (fun _ h9 => h9) rfl dX8_conflictsWith_37 ?_
          refine lv_bipush (v := 10) hx hb dX8_conflictsWith_40 (by decide) ?_
          refine lv_iload hx hb dX8_conflictsWith_42 (lv_at hl 4 rfl) ?_
          refine lv_imul hx hb dX8_conflictsWith_44 ?_
          refine lv_iload_n hx hb dX8_conflictsWith_45 rfl (lv_at hl 1 rfl) ?_
          refine lv_iadd hx hb dX8_conflictsWith_46 ?_
          refine va_lald hx hb hK.1 hP 1 2 rfl rfl h.1 dX8_conflictsWith_47 ?_
          replace h := h.2
          refine lv_lload_n hx hb dX8_conflictsWith_48 rfl (lv_at hl 2 rfl) ?_
          refine lv_ladd hx hb dX8_conflictsWith_49 ?_
          refine lv_lconst (v := 0) hx hb dX8_conflictsWith_50 (by decide) ?_
          refine lx_lt (tgt := 61) hx hb dX8_conflictsWith_51 dX8_conflictsWith_52 (by decide) (fun hc => ?_) (fun hc => ?_)
          · replace h := h.1 hc
            exact J61 t_conflictMany t_behind t_conflicts x6 H locs ls h hP hD hS (lv_sub hl [0, 1, 2, 3, 4] rfl)
          · replace h := h.2 hc
            exact J55 t_conflictMany t_behind t_conflicts x6 H locs ls h hP hD hS (lv_sub hl [0, 1, 2, 3, 4] rfl)
  unfold P_X8_conflictsWith at h
  refine lv_aload_n hx hb dX8_conflictsWith_0 rfl (lv_at hl 0 rfl) ?_
  refine lv_iload_n hx hb dX8_conflictsWith_1 rfl (lv_at hl 2 rfl) ?_
  refine lv_iload hx hb dX8_conflictsWith_2 (lv_at hl 4 rfl) ?_
  have hPn : va_P D vwCl ([(A_t_conflicts, .inl (cy 1, 16, .inl t_conflicts))] ++ [(A_t, .inr (8, [.ref A_t_state, .ref A_t_tape, .int t_taped, .int t_fault, .int t_broken, .int t_brokenAt, .int t_spot, .int t_here, .int t_token, .int t_value, .int t_isRealTold, .ref A_t_ends, .ref A_t_letters, .ref A_t_least, .ref A_t_conflicts, .int t_conflictMany, .ref A_t_behind, .ref A_t_placed, .ref A_t_isKept, .ref A_t_lanes, .ref A_t_lengths, .ref A_t_cells, .int t_torn])), (A_t_behind, .inl (cy 2, 110, .inr (.inl t_behind))), (A_t_state, .inl (cy 1, 535, .inl t_state))]) s.heap := hP.sub [3, 0, 1, 2] rfl
  have hDn : va_D A ([(A_t_conflicts, .inl (cy 1, 16, .inl t_conflicts))] ++ [(A_t, .inr (8, [.ref A_t_state, .ref A_t_tape, .int t_taped, .int t_fault, .int t_broken, .int t_brokenAt, .int t_spot, .int t_here, .int t_token, .int t_value, .int t_isRealTold, .ref A_t_ends, .ref A_t_letters, .ref A_t_least, .ref A_t_conflicts, .int t_conflictMany, .ref A_t_behind, .ref A_t_placed, .ref A_t_isKept, .ref A_t_lanes, .ref A_t_lengths, .ref A_t_cells, .int t_torn])), (A_t_behind, .inl (cy 2, 110, .inr (.inl t_behind))), (A_t_state, .inl (cy 1, 535, .inl t_state))]) := hD.sub [3, 0, 1, 2] (by decide) rfl
  have hPc := gPR hPn
  have hDc := gDR hDn
  refine mw_v (va_runV (As := [.int x2, .int x5]) (rest := []) CF (c_X8_behindAll l D cy s.heap.size A_t A_t_state A_t_tape A_t_ends A_t_letters A_t_least A_t_conflicts A_t_behind A_t_placed A_t_isKept A_t_lanes A_t_lengths A_t_cells t_taped t_fault t_broken t_brokenAt t_spot t_here t_token t_value t_isRealTold t_conflictMany t_torn t_behind t_state x2 x5 _ h) (cwV 2 hts gX8_conflictsWith_X8_behindAll rfl rfl rfl qX8_behindAll ⟨Nat.le_of_ble_eq_true rfl, Nat.le_of_ble_eq_true rfl⟩) (mpVW hK hPc hDc (ci := 8) (q := (RX8, TX8, 23)) (q0 := 0) rfl rfl) rfl rfl hl.1 rfl (lv_room (Nat.le_of_ble_eq_true rfl)) dX8_conflictsWith_4 ⟨Nat.zero_le _, Nat.zero_le _⟩) hPn hDn hS hA (fun t_behind_v1 H locs h hP hD hS => ?_)
  have hP : va_P D vwCl [(A_t, .inr (8, [.ref A_t_state, .ref A_t_tape, .int t_taped, .int t_fault, .int t_broken, .int t_brokenAt, .int t_spot, .int t_here, .int t_token, .int t_value, .int t_isRealTold, .ref A_t_ends, .ref A_t_letters, .ref A_t_least, .ref A_t_conflicts, .int t_conflictMany, .ref A_t_behind, .ref A_t_placed, .ref A_t_isKept, .ref A_t_lanes, .ref A_t_lengths, .ref A_t_cells, .int t_torn])), (A_t_behind, .inl (cy 2, 110, .inr (.inl t_behind_v1))), (A_t_state, .inl (cy 1, 535, .inl t_state)), (A_t_conflicts, .inl (cy 1, 16, .inl t_conflicts))] H := hP.sub [1, 2, 3, 0] rfl
  have hD : va_D A [(A_t, .inr (8, [.ref A_t_state, .ref A_t_tape, .int t_taped, .int t_fault, .int t_broken, .int t_brokenAt, .int t_spot, .int t_here, .int t_token, .int t_value, .int t_isRealTold, .ref A_t_ends, .ref A_t_letters, .ref A_t_least, .ref A_t_conflicts, .int t_conflictMany, .ref A_t_behind, .ref A_t_placed, .ref A_t_isKept, .ref A_t_lanes, .ref A_t_lengths, .ref A_t_cells, .int t_torn])), (A_t_behind, .inl (cy 2, 110, .inr (.inl t_behind_v1))), (A_t_state, .inl (cy 1, 535, .inl t_state)), (A_t_conflicts, .inl (cy 1, 16, .inl t_conflicts))] := hD.sub [1, 2, 3, 0] (by decide) rfl
  refine lv_iconst (v := 1) hx hb dX8_conflictsWith_7 (by decide) ?_
  refine lv_istore (lv' := [(6, .int (1 : Int32)), (0, .ref A_t), (1, .int x1), (2, .int x2), (3, .long y3), (5, .int x5)]) hx hb dX8_conflictsWith_8 hl (by decide) rfl (fun ls hl => ?_)
  obtain ⟨nn, h⟩ := h
  exact L10 nn t_conflictMany t_behind_v1 t_conflicts (1 : Int32) H locs ls h hP hD hS (lv_sub hl [1, 2, 4, 5, 0] rfl)
theorem qX8_isAllowed : yX8_isAllowed.cls = RX8 ∧ yX8_isAllowed.cls ≠ "java/lang/invoke/MethodHandle" ∧ yX8_isAllowed.cls ≠ "java/lang/invoke/VarHandle" ∧ (parseMethodDescriptor yX8_isAllowed.desc).map (fun d => d.parameters.length) = some 4 := by decide +kernel
def P_X8_isAllowed (post : Int32 → (Nat → Int64) → Prop) (t_state : Nat → Int32) (t_least : Nat → Int64) (x1 : Int32) (x2 : Int32) (x5 : Int32) (y3 : Int64) : Prop :=
  P_X8_reckons (fun (t_least_v1 : Nat → Int64) => (vp_in (((10 : Int32) * x1) + x2) 100 ∧ (((1000000000000000000 : Int64) ≤ t_least_v1 (((10 : Int32) * x1) + x2).toNatClampNeg → post (1 : Int32) t_least_v1) ∧ (¬ (1000000000000000000 : Int64) ≤ t_least_v1 (((10 : Int32) * x1) + x2).toNatClampNeg → (vp_in (((10 : Int32) * x1) + x2) 100 ∧ (((t_least_v1 (((10 : Int32) * x1) + x2).toNatClampNeg) + y3 < (0 : Int64) → post (0 : Int32) t_least_v1) ∧ (¬ (t_least_v1 (((10 : Int32) * x1) + x2).toNatClampNeg) + y3 < (0 : Int64) → post (1 : Int32) t_least_v1))))))) t_state t_least (0 : Int32) x5
set_option maxHeartbeats 4000000 in
set_option maxRecDepth 100000 in
theorem c_X8_isAllowed (l : Launch) (D : va_G) (cy : Nat → ClassId) (sz : Nat) (A_t A_t_state A_t_tape A_t_ends A_t_letters A_t_least A_t_conflicts A_t_behind A_t_placed A_t_isKept A_t_lanes A_t_lengths A_t_cells : Nat) (t_taped : Int32) (t_fault : Int32) (t_broken : Int32) (t_brokenAt : Int32) (t_spot : Int32) (t_here : Int32) (t_token : Int32) (t_value : Int32) (t_isRealTold : Int32) (t_conflictMany : Int32) (t_torn : Int32) (t_state : Nat → Int32) (t_least : Nat → Int64) (x1 : Int32) (x2 : Int32) (y3 : Int64) (x5 : Int32) (post : Int32 → (Nat → Int64) → Prop) (h : P_X8_isAllowed post t_state t_least x1 x2 x5 y3) : Met l yX8_isAllowed wsX8_isAllowed { frames := 3, cells := 0, slots := 0, locals := 72 } (pcW D cy [(A_t, .inr (8, [.ref A_t_state, .ref A_t_tape, .int t_taped, .int t_fault, .int t_broken, .int t_brokenAt, .int t_spot, .int t_here, .int t_token, .int t_value, .int t_isRealTold, .ref A_t_ends, .ref A_t_letters, .ref A_t_least, .ref A_t_conflicts, .int t_conflictMany, .ref A_t_behind, .ref A_t_placed, .ref A_t_isKept, .ref A_t_lanes, .ref A_t_lengths, .ref A_t_cells, .int t_torn])), (A_t_state, .inl (cy 1, 535, .inl t_state)), (A_t_least, .inl (cy 2, 100, .inr (.inl t_least)))] sz [.ref A_t, .int x1, .int x2, .long y3, .int x5]) (va_Qi (fun r (u : (Nat → Int64)) => post r u) (bW D [(A_t, .inr (8, [.ref A_t_state, .ref A_t_tape, .int t_taped, .int t_fault, .int t_broken, .int t_brokenAt, .int t_spot, .int t_here, .int t_token, .int t_value, .int t_isRealTold, .ref A_t_ends, .ref A_t_letters, .ref A_t_least, .ref A_t_conflicts, .int t_conflictMany, .ref A_t_behind, .ref A_t_placed, .ref A_t_isKept, .ref A_t_lanes, .ref A_t_lengths, .ref A_t_cells, .int t_torn])), (A_t_state, .inl (cy 1, 535, .inl t_state)), (A_t_least, .inl (cy 2, 100, .inr (.inl t_least)))] sz (fun u => [(A_t, .inr (8, [.ref A_t_state, .ref A_t_tape, .int t_taped, .int t_fault, .int t_broken, .int t_brokenAt, .int t_spot, .int t_here, .int t_token, .int t_value, .int t_isRealTold, .ref A_t_ends, .ref A_t_letters, .ref A_t_least, .ref A_t_conflicts, .int t_conflictMany, .ref A_t_behind, .ref A_t_placed, .ref A_t_isKept, .ref A_t_lanes, .ref A_t_lengths, .ref A_t_cells, .int t_torn])), (A_t_state, .inl (cy 1, 535, .inl t_state)), (A_t_least, .inl (cy 2, 100, .inr (.inl u)))])) (va_A [(A_t, .inr (8, [.ref A_t_state, .ref A_t_tape, .int t_taped, .int t_fault, .int t_broken, .int t_brokenAt, .int t_spot, .int t_here, .int t_token, .int t_value, .int t_isRealTold, .ref A_t_ends, .ref A_t_letters, .ref A_t_least, .ref A_t_conflicts, .int t_conflictMany, .ref A_t_behind, .ref A_t_placed, .ref A_t_isKept, .ref A_t_lanes, .ref A_t_lengths, .ref A_t_cells, .int t_torn])), (A_t_state, .inl (cy 1, 535, .inl t_state)), (A_t_least, .inl (cy 2, 100, .inr (.inl t_least)))] sz)) 0 0 (va_A [(A_t, .inr (8, [.ref A_t_state, .ref A_t_tape, .int t_taped, .int t_fault, .int t_broken, .int t_brokenAt, .int t_spot, .int t_here, .int t_token, .int t_value, .int t_isRealTold, .ref A_t_ends, .ref A_t_letters, .ref A_t_least, .ref A_t_conflicts, .int t_conflictMany, .ref A_t_behind, .ref A_t_placed, .ref A_t_isKept, .ref A_t_lanes, .ref A_t_lengths, .ref A_t_cells, .int t_torn])), (A_t_state, .inl (cy 1, 535, .inl t_state)), (A_t_least, .inl (cy 2, 100, .inr (.inl t_least)))] sz) := by
  refine Met.ofW (cc := cX8_isAllowed) (maxL := 6) (ret := (some .boolean)) (by decide) rfl ?_
  intro p e s m args below meth c s₁ B hml hv
  obtain ⟨rfl, hsz, hP, hK, hD0⟩ := hv
  have hx := B.exec
  have hb := B.bytes
  have hr := B.returns
  have hts := atoms_spec (ws := wsX8_isAllowed) B.pre
  have hown : s.vm.findClass RX8 = some m.cls := findClass_of_methodNamed B.named
  have hlocks := B.notSynchronized
  have CF : CallFix p m c cX8_isAllowed 6 s ([.ref A_t, .int x1, .int x2, .long y3, .int x5] : List Value).toArray wsX8_isAllowed RX8 := ⟨hx, hb, hml, hown, hts⟩
  have f0 := hts (.fieldLink RX8 22 "GapBoundsModel" "least" "[J") (by decide +kernel)
  have f1 := hts (.constantLong RX8 151 (1000000000000000000)) (by decide +kernel)
  have iX8 : ∀ w ∈ u_ws RX8 TX8 23, w ∈ wsX8_isAllowed := by decide +kernel
  subst hsz
  obtain ⟨A, hAe⟩ : ∃ A, A = va_A [(A_t, .inr (8, [.ref A_t_state, .ref A_t_tape, .int t_taped, .int t_fault, .int t_broken, .int t_brokenAt, .int t_spot, .int t_here, .int t_token, .int t_value, .int t_isRealTold, .ref A_t_ends, .ref A_t_letters, .ref A_t_least, .ref A_t_conflicts, .int t_conflictMany, .ref A_t_behind, .ref A_t_placed, .ref A_t_isKept, .ref A_t_lanes, .ref A_t_lengths, .ref A_t_cells, .int t_torn])), (A_t_state, .inl (cy 1, 535, .inl t_state)), (A_t_least, .inl (cy 2, 100, .inr (.inl t_least)))] s.heap.size := ⟨_, rfl⟩
  have hD : va_D A [(A_t, .inr (8, [.ref A_t_state, .ref A_t_tape, .int t_taped, .int t_fault, .int t_broken, .int t_brokenAt, .int t_spot, .int t_here, .int t_token, .int t_value, .int t_isRealTold, .ref A_t_ends, .ref A_t_letters, .ref A_t_least, .ref A_t_conflicts, .int t_conflictMany, .ref A_t_behind, .ref A_t_placed, .ref A_t_isKept, .ref A_t_lanes, .ref A_t_lengths, .ref A_t_cells, .int t_torn])), (A_t_state, .inl (cy 1, 535, .inl t_state)), (A_t_least, .inl (cy 2, 100, .inr (.inl t_least)))] := by rw [hAe]; exact hD0.self
  have hA : ∀ q : Nat, s.heap.size ≤ q → A q := fun q hq => by rw [hAe]; exact Or.inr hq
  have hS : va_S A s.heap s.heap [] := va_S.rf
  have hl := lv_entry [.ref A_t, .int x1, .int x2, .long y3, .int x5] (n := 6) (Nat.le_of_ble_eq_true rfl)
  rw [lg_entry_eq]
  generalize (lg_sl [.ref A_t, .int x1, .int x2, .long y3, .int x5] ++ List.replicate (6 - (lg_sl [.ref A_t, .int x1, .int x2, .long y3, .int x5]).length) Slot.unset).toArray = ls at hl ⊢
  have hl : lv_has ls 6 [(0, .ref A_t), (1, .int x1), (2, .int x2), (3, .long y3), (5, .int x5)] := hl
  refine W.gen (fun Q0 hQ => ?_)
  unfold P_X8_isAllowed at h
  refine lv_aload_n hx hb dX8_isAllowed_0 rfl (lv_at hl 0 rfl) ?_
  refine lv_iconst (v := 0) hx hb dX8_isAllowed_1 (by decide) ?_
  refine lv_iload hx hb dX8_isAllowed_2 (lv_at hl 4 rfl) ?_
  have hPn : va_P D vwCl ([] ++ [(A_t, .inr (8, [.ref A_t_state, .ref A_t_tape, .int t_taped, .int t_fault, .int t_broken, .int t_brokenAt, .int t_spot, .int t_here, .int t_token, .int t_value, .int t_isRealTold, .ref A_t_ends, .ref A_t_letters, .ref A_t_least, .ref A_t_conflicts, .int t_conflictMany, .ref A_t_behind, .ref A_t_placed, .ref A_t_isKept, .ref A_t_lanes, .ref A_t_lengths, .ref A_t_cells, .int t_torn])), (A_t_state, .inl (cy 1, 535, .inl t_state)), (A_t_least, .inl (cy 2, 100, .inr (.inl t_least)))]) s.heap := hP.sub [0, 1, 2] rfl
  have hDn : va_D A ([] ++ [(A_t, .inr (8, [.ref A_t_state, .ref A_t_tape, .int t_taped, .int t_fault, .int t_broken, .int t_brokenAt, .int t_spot, .int t_here, .int t_token, .int t_value, .int t_isRealTold, .ref A_t_ends, .ref A_t_letters, .ref A_t_least, .ref A_t_conflicts, .int t_conflictMany, .ref A_t_behind, .ref A_t_placed, .ref A_t_isKept, .ref A_t_lanes, .ref A_t_lengths, .ref A_t_cells, .int t_torn])), (A_t_state, .inl (cy 1, 535, .inl t_state)), (A_t_least, .inl (cy 2, 100, .inr (.inl t_least)))]) := hD.sub [0, 1, 2] (by decide) rfl
  have hPc := gPR hPn
  have hDc := gDR hDn
  refine mw_v (va_runV (As := [.int (0 : Int32), .int x5]) (rest := []) CF (c_X8_reckons l D cy s.heap.size A_t A_t_state A_t_tape A_t_ends A_t_letters A_t_least A_t_conflicts A_t_behind A_t_placed A_t_isKept A_t_lanes A_t_lengths A_t_cells t_taped t_fault t_broken t_brokenAt t_spot t_here t_token t_value t_isRealTold t_conflictMany t_torn t_state t_least (0 : Int32) x5 _ h) (cwV 2 hts gX8_isAllowed_X8_reckons rfl rfl rfl qX8_reckons ⟨Nat.le_of_ble_eq_true rfl, Nat.le_of_ble_eq_true rfl⟩) (mpVW hK hPc hDc (ci := 8) (q := (RX8, TX8, 23)) (q0 := 0) rfl rfl) rfl rfl hl.1 rfl (lv_room (Nat.le_of_ble_eq_true rfl)) dX8_isAllowed_4 ⟨Nat.zero_le _, Nat.zero_le _⟩) hPn hDn hS hA (fun t_least_v1 H locs h hP hD hS => ?_)
  have hP : va_P D vwCl [(A_t, .inr (8, [.ref A_t_state, .ref A_t_tape, .int t_taped, .int t_fault, .int t_broken, .int t_brokenAt, .int t_spot, .int t_here, .int t_token, .int t_value, .int t_isRealTold, .ref A_t_ends, .ref A_t_letters, .ref A_t_least, .ref A_t_conflicts, .int t_conflictMany, .ref A_t_behind, .ref A_t_placed, .ref A_t_isKept, .ref A_t_lanes, .ref A_t_lengths, .ref A_t_cells, .int t_torn])), (A_t_state, .inl (cy 1, 535, .inl t_state)), (A_t_least, .inl (cy 2, 100, .inr (.inl t_least_v1)))] H := hP.sub [0, 1, 2] rfl
  have hD : va_D A [(A_t, .inr (8, [.ref A_t_state, .ref A_t_tape, .int t_taped, .int t_fault, .int t_broken, .int t_brokenAt, .int t_spot, .int t_here, .int t_token, .int t_value, .int t_isRealTold, .ref A_t_ends, .ref A_t_letters, .ref A_t_least, .ref A_t_conflicts, .int t_conflictMany, .ref A_t_behind, .ref A_t_placed, .ref A_t_isKept, .ref A_t_lanes, .ref A_t_lengths, .ref A_t_cells, .int t_torn])), (A_t_state, .inl (cy 1, 535, .inl t_state)), (A_t_least, .inl (cy 2, 100, .inr (.inl t_least_v1)))] := hD.sub [0, 1, 2] (by decide) rfl
  refine lv_aload_n hx hb dX8_isAllowed_7 rfl (lv_at hl 0 rfl) ?_
  refine va_get (D := D) (ci := 8) (v := .ref A_t_least) (C := RX8) (T := TX8) (N := 23) hx hb hts iX8 hown hK.1 hP 0 rfl rfl 13 (by decide) f0 (fun _ h9 => h9) rfl dX8_isAllowed_8 ?_
  refine lv_bipush (v := 10) hx hb dX8_isAllowed_11 (by decide) ?_
  refine lv_iload_n hx hb dX8_isAllowed_13 rfl (lv_at hl 1 rfl) ?_
  refine lv_imul hx hb dX8_isAllowed_14 ?_
  refine lv_iload_n hx hb dX8_isAllowed_15 rfl (lv_at hl 2 rfl) ?_
  refine lv_iadd hx hb dX8_isAllowed_16 ?_
  refine va_lald hx hb hK.1 hP 2 2 rfl rfl h.1 dX8_isAllowed_17 ?_
  replace h := h.2
  refine lv_ldc2 (v := 1000000000000000000) hx hb hown f1 dX8_isAllowed_18 ?_
  refine lx_ge (tgt := 43) hx hb dX8_isAllowed_21 dX8_isAllowed_22 (by decide) (fun hc => ?_) (fun hc => ?_)
  · replace h := h.1 hc
    refine lv_iconst (v := 1) hx hb dX8_isAllowed_43 (by decide) ?_
    refine lv_goto (tgt := 48) hx hb dX8_isAllowed_44 (by decide) ?_
    subst hQ
    subst hAe
    exact W.zret (v := (1 : Int32)) hx hb hr bz1 (fun t ht _ => ⟨⟨(1 : Int32), t_least_v1, rfl, h, by rw [ht]; exact hP, hD⟩, hS.F ht⟩) hS.2.2 dX8_isAllowed_48
  · replace h := h.2 hc
    refine lv_aload_n hx hb dX8_isAllowed_25 rfl (lv_at hl 0 rfl) ?_
    refine va_get (D := D) (ci := 8) (v := .ref A_t_least) (C := RX8) (T := TX8) (N := 23) hx hb hts iX8 hown hK.1 hP 0 rfl rfl 13 (by decide) f0 (fun _ h9 => h9) rfl dX8_isAllowed_26 ?_
    refine lv_bipush (v := 10) hx hb dX8_isAllowed_29 (by decide) ?_
    refine lv_iload_n hx hb dX8_isAllowed_31 rfl (lv_at hl 1 rfl) ?_
    refine lv_imul hx hb dX8_isAllowed_32 ?_
    refine lv_iload_n hx hb dX8_isAllowed_33 rfl (lv_at hl 2 rfl) ?_
    refine lv_iadd hx hb dX8_isAllowed_34 ?_
    refine va_lald hx hb hK.1 hP 2 2 rfl rfl h.1 dX8_isAllowed_35 ?_
    replace h := h.2
    refine lv_lload_n hx hb dX8_isAllowed_36 rfl (lv_at hl 3 rfl) ?_
    refine lv_ladd hx hb dX8_isAllowed_37 ?_
    refine lv_lconst (v := 0) hx hb dX8_isAllowed_38 (by decide) ?_
    refine lx_lt (tgt := 47) hx hb dX8_isAllowed_39 dX8_isAllowed_40 (by decide) (fun hc => ?_) (fun hc => ?_)
    · replace h := h.1 hc
      refine lv_iconst (v := 0) hx hb dX8_isAllowed_47 (by decide) ?_
      subst hQ
      subst hAe
      exact W.zret (v := (0 : Int32)) hx hb hr bz0 (fun t ht _ => ⟨⟨(0 : Int32), t_least_v1, rfl, h, by rw [ht]; exact hP, hD⟩, hS.F ht⟩) hS.2.2 dX8_isAllowed_48
    · replace h := h.2 hc
      refine lv_iconst (v := 1) hx hb dX8_isAllowed_43 (by decide) ?_
      refine lv_goto (tgt := 48) hx hb dX8_isAllowed_44 (by decide) ?_
      subst hQ
      subst hAe
      exact W.zret (v := (1 : Int32)) hx hb hr bz1 (fun t ht _ => ⟨⟨(1 : Int32), t_least_v1, rfl, h, by rw [ht]; exact hP, hD⟩, hS.F ht⟩) hS.2.2 dX8_isAllowed_48
theorem qX8_isFlag : yX8_isFlag.cls = RX8 ∧ yX8_isFlag.cls ≠ "java/lang/invoke/MethodHandle" ∧ yX8_isFlag.cls ≠ "java/lang/invoke/VarHandle" ∧ (parseMethodDescriptor yX8_isFlag.desc).map (fun d => d.parameters.length) = some 1 := by decide +kernel
def P_X8_isFlag (post : Int32 → Prop) (x0 : Int32) : Prop :=
  P_X8_in (fun (r1 : Int32) => (bz r1 ∧ post r1)) x0.toInt64 (0 : Int64) (1 : Int64)
set_option maxHeartbeats 4000000 in
set_option maxRecDepth 100000 in
theorem c_X8_isFlag (l : Launch) (x0 : Int32) (post : Int32 → Prop) (h : P_X8_isFlag post x0) : Met l yX8_isFlag wsX8_isFlag { frames := 1, cells := 0, slots := 0, locals := 25 } (pcN [.int x0]) (vp_Si post) 0 0 (fun _ => False) := by
  refine Met.ofW (cc := cX8_isFlag) (maxL := 1) (ret := (some .boolean)) (by decide) rfl ?_
  intro p e s m args below meth c s₁ B hml hv
  obtain ⟨rfl, -⟩ := hv
  have hx := B.exec
  have hb := B.bytes
  have hr := B.returns
  have hts := atoms_spec (ws := wsX8_isFlag) B.pre
  have hown : s.vm.findClass RX8 = some m.cls := findClass_of_methodNamed B.named
  have hlocks := B.notSynchronized
  have CF : CallFix p m c cX8_isFlag 1 s ([.int x0] : List Value).toArray wsX8_isFlag RX8 := ⟨hx, hb, hml, hown, hts⟩
  have hl := lv_entry [.int x0] (n := 1) (Nat.le_of_ble_eq_true rfl)
  rw [lg_entry_eq]
  generalize (lg_sl [.int x0] ++ List.replicate (1 - (lg_sl [.int x0]).length) Slot.unset).toArray = ls at hl ⊢
  have hl : lv_has ls 1 [(0, .int x0)] := hl
  refine W.gen (fun Q0 hQ => ?_)
  unfold P_X8_isFlag at h
  refine lv_iload_n hx hb dX8_isFlag_0 rfl (lv_at hl 0 rfl) ?_
  refine lv_i2l (v := x0.toInt64) hx hb dX8_isFlag_1 rfl ?_
  refine lv_lconst (v := 0) hx hb dX8_isFlag_2 (by decide) ?_
  refine lv_lconst (v := 1) hx hb dX8_isFlag_3 (by decide) ?_
  refine vp_callSi (W.runS (As := [.long x0.toInt64, .long (0 : Int64), .long (1 : Int64)]) (rest := []) CF (c_X8_in l x0.toInt64 (0 : Int64) (1 : Int64) _ h) (va_cwS 3 hts gX8_isFlag_X8_in rfl rfl rfl qX8_in.2 ⟨Nat.le_of_ble_eq_true rfl, Nat.le_of_ble_eq_true rfl⟩) mpSN rfl rfl hl.1 rfl (lv_room (Nat.le_of_ble_eq_true rfl)) dX8_isFlag_4 ⟨Nat.zero_le _, Nat.zero_le _⟩) (fun r1 h => ?_)
  subst hQ
  exact W.zret (v := r1) hx hb hr h.1 (fun t ht _ => ⟨r1, rfl, h.2, ht⟩) (fun _ hq => absurd hq List.not_mem_nil) dX8_isFlag_7
theorem qX8_adds : yX8_adds.cls = RX8 ∧ yX8_adds.cls ≠ "java/lang/invoke/MethodHandle" ∧ yX8_adds.cls ≠ "java/lang/invoke/VarHandle" ∧ (parseMethodDescriptor yX8_adds.desc).map (fun d => d.parameters.length) = some 4 := by decide +kernel
def P_X8_adds (post : Int32 → Int32 → (Nat → Int32) → (Nat → Int64) → (Nat → Int64) → (Nat → Int32) → Prop) (t_conflictMany : Int32) (t_state : Nat → Int32) (t_least : Nat → Int64) (t_behind : Nat → Int64) (t_conflicts : Nat → Int32) (x1 : Int32) (x2 : Int32) (x3 : Int32) (x4 : Int32) : Prop :=
  P_X8_isPair (fun (r1 : Int32) => ((r1 = 0 → post (-1 : Int32) t_conflictMany t_state t_least t_behind t_conflicts) ∧ (¬ r1 = 0 → P_X8_isFlag (fun (r2 : Int32) => ((¬ r2 = 0 → P_X8_many (fun (r3 : Int32) => ((¬ r3 = (24 : Int32) → P_X8_isReal (fun (r4 : Int32) => P_X8_weighed (fun (r5 : Int64) => P_X8_isAllowed (fun (r6 : Int32) (t_least_v6 : Nat → Int64) => ((¬ r6 = 0 → P_X8_puts (fun (t_state_v7 : Nat → Int32) => P_X8_many (fun (r8 : Int32) => post r8 t_conflictMany t_state_v7 t_least_v6 t_behind t_conflicts) t_state_v7) t_state (0 : Int32) x1 x2 x3 x4) ∧ (r6 = 0 → P_X8_conflictsWith (fun (t_conflictMany_v9 : Int32) (t_behind_v9 : Nat → Int64) (t_conflicts_v9 : Nat → Int32) => post (-2 : Int32) t_conflictMany_v9 t_state t_least_v6 t_behind_v9 t_conflicts_v9) t_behind t_state t_conflicts x1 x2 (-4 : Int32) r5))) t_state t_least x1 x2 (-4 : Int32) r5) r4 x3 x4) t_state) ∧ (r3 = (24 : Int32) → post (-3 : Int32) t_conflictMany t_state t_least t_behind t_conflicts))) t_state) ∧ (r2 = 0 → post (-1 : Int32) t_conflictMany t_state t_least t_behind t_conflicts))) x4))) x1 x2
set_option maxHeartbeats 4000000 in
set_option maxRecDepth 100000 in
theorem c_X8_adds (l : Launch) (D : va_G) (cy : Nat → ClassId) (sz : Nat) (A_t A_t_state A_t_tape A_t_ends A_t_letters A_t_least A_t_conflicts A_t_behind A_t_placed A_t_isKept A_t_lanes A_t_lengths A_t_cells : Nat) (t_taped : Int32) (t_fault : Int32) (t_broken : Int32) (t_brokenAt : Int32) (t_spot : Int32) (t_here : Int32) (t_token : Int32) (t_value : Int32) (t_isRealTold : Int32) (t_conflictMany : Int32) (t_torn : Int32) (t_state : Nat → Int32) (t_least : Nat → Int64) (t_behind : Nat → Int64) (t_conflicts : Nat → Int32) (x1 : Int32) (x2 : Int32) (x3 : Int32) (x4 : Int32) (post : Int32 → Int32 → (Nat → Int32) → (Nat → Int64) → (Nat → Int64) → (Nat → Int32) → Prop) (h : P_X8_adds post t_conflictMany t_state t_least t_behind t_conflicts x1 x2 x3 x4) : Met l yX8_adds wsX8_adds { frames := 5, cells := 0, slots := 0, locals := 126 } (pcW D cy [(A_t, .inr (8, [.ref A_t_state, .ref A_t_tape, .int t_taped, .int t_fault, .int t_broken, .int t_brokenAt, .int t_spot, .int t_here, .int t_token, .int t_value, .int t_isRealTold, .ref A_t_ends, .ref A_t_letters, .ref A_t_least, .ref A_t_conflicts, .int t_conflictMany, .ref A_t_behind, .ref A_t_placed, .ref A_t_isKept, .ref A_t_lanes, .ref A_t_lengths, .ref A_t_cells, .int t_torn])), (A_t_state, .inl (cy 1, 535, .inl t_state)), (A_t_least, .inl (cy 2, 100, .inr (.inl t_least))), (A_t_behind, .inl (cy 2, 110, .inr (.inl t_behind))), (A_t_conflicts, .inl (cy 1, 16, .inl t_conflicts))] sz [.ref A_t, .int x1, .int x2, .int x3, .int x4]) (va_Qi (fun r (u : Int32 × (Nat → Int32) × (Nat → Int64) × (Nat → Int64) × (Nat → Int32)) => post r u.1 u.2.1 u.2.2.1 u.2.2.2.1 u.2.2.2.2) (bW D [(A_t, .inr (8, [.ref A_t_state, .ref A_t_tape, .int t_taped, .int t_fault, .int t_broken, .int t_brokenAt, .int t_spot, .int t_here, .int t_token, .int t_value, .int t_isRealTold, .ref A_t_ends, .ref A_t_letters, .ref A_t_least, .ref A_t_conflicts, .int t_conflictMany, .ref A_t_behind, .ref A_t_placed, .ref A_t_isKept, .ref A_t_lanes, .ref A_t_lengths, .ref A_t_cells, .int t_torn])), (A_t_state, .inl (cy 1, 535, .inl t_state)), (A_t_least, .inl (cy 2, 100, .inr (.inl t_least))), (A_t_behind, .inl (cy 2, 110, .inr (.inl t_behind))), (A_t_conflicts, .inl (cy 1, 16, .inl t_conflicts))] sz (fun u => [(A_t, .inr (8, [.ref A_t_state, .ref A_t_tape, .int t_taped, .int t_fault, .int t_broken, .int t_brokenAt, .int t_spot, .int t_here, .int t_token, .int t_value, .int t_isRealTold, .ref A_t_ends, .ref A_t_letters, .ref A_t_least, .ref A_t_conflicts, .int (u.1), .ref A_t_behind, .ref A_t_placed, .ref A_t_isKept, .ref A_t_lanes, .ref A_t_lengths, .ref A_t_cells, .int t_torn])), (A_t_state, .inl (cy 1, 535, .inl u.2.1)), (A_t_least, .inl (cy 2, 100, .inr (.inl u.2.2.1))), (A_t_behind, .inl (cy 2, 110, .inr (.inl u.2.2.2.1))), (A_t_conflicts, .inl (cy 1, 16, .inl u.2.2.2.2))])) (va_A [(A_t, .inr (8, [.ref A_t_state, .ref A_t_tape, .int t_taped, .int t_fault, .int t_broken, .int t_brokenAt, .int t_spot, .int t_here, .int t_token, .int t_value, .int t_isRealTold, .ref A_t_ends, .ref A_t_letters, .ref A_t_least, .ref A_t_conflicts, .int t_conflictMany, .ref A_t_behind, .ref A_t_placed, .ref A_t_isKept, .ref A_t_lanes, .ref A_t_lengths, .ref A_t_cells, .int t_torn])), (A_t_state, .inl (cy 1, 535, .inl t_state)), (A_t_least, .inl (cy 2, 100, .inr (.inl t_least))), (A_t_behind, .inl (cy 2, 110, .inr (.inl t_behind))), (A_t_conflicts, .inl (cy 1, 16, .inl t_conflicts))] sz)) 0 0 (va_A [(A_t, .inr (8, [.ref A_t_state, .ref A_t_tape, .int t_taped, .int t_fault, .int t_broken, .int t_brokenAt, .int t_spot, .int t_here, .int t_token, .int t_value, .int t_isRealTold, .ref A_t_ends, .ref A_t_letters, .ref A_t_least, .ref A_t_conflicts, .int t_conflictMany, .ref A_t_behind, .ref A_t_placed, .ref A_t_isKept, .ref A_t_lanes, .ref A_t_lengths, .ref A_t_cells, .int t_torn])), (A_t_state, .inl (cy 1, 535, .inl t_state)), (A_t_least, .inl (cy 2, 100, .inr (.inl t_least))), (A_t_behind, .inl (cy 2, 110, .inr (.inl t_behind))), (A_t_conflicts, .inl (cy 1, 16, .inl t_conflicts))] sz) := by
  refine Met.ofW (cc := cX8_adds) (maxL := 7) (ret := (some .int)) (by decide) rfl ?_
  intro p e s m args below meth c s₁ B hml hv
  obtain ⟨rfl, hsz, hP, hK, hD0⟩ := hv
  have hx := B.exec
  have hb := B.bytes
  have hr := B.returns
  have hts := atoms_spec (ws := wsX8_adds) B.pre
  have hown : s.vm.findClass RX8 = some m.cls := findClass_of_methodNamed B.named
  have hlocks := B.notSynchronized
  have CF : CallFix p m c cX8_adds 7 s ([.ref A_t, .int x1, .int x2, .int x3, .int x4] : List Value).toArray wsX8_adds RX8 := ⟨hx, hb, hml, hown, hts⟩
  subst hsz
  obtain ⟨A, hAe⟩ : ∃ A, A = va_A [(A_t, .inr (8, [.ref A_t_state, .ref A_t_tape, .int t_taped, .int t_fault, .int t_broken, .int t_brokenAt, .int t_spot, .int t_here, .int t_token, .int t_value, .int t_isRealTold, .ref A_t_ends, .ref A_t_letters, .ref A_t_least, .ref A_t_conflicts, .int t_conflictMany, .ref A_t_behind, .ref A_t_placed, .ref A_t_isKept, .ref A_t_lanes, .ref A_t_lengths, .ref A_t_cells, .int t_torn])), (A_t_state, .inl (cy 1, 535, .inl t_state)), (A_t_least, .inl (cy 2, 100, .inr (.inl t_least))), (A_t_behind, .inl (cy 2, 110, .inr (.inl t_behind))), (A_t_conflicts, .inl (cy 1, 16, .inl t_conflicts))] s.heap.size := ⟨_, rfl⟩
  have hD : va_D A [(A_t, .inr (8, [.ref A_t_state, .ref A_t_tape, .int t_taped, .int t_fault, .int t_broken, .int t_brokenAt, .int t_spot, .int t_here, .int t_token, .int t_value, .int t_isRealTold, .ref A_t_ends, .ref A_t_letters, .ref A_t_least, .ref A_t_conflicts, .int t_conflictMany, .ref A_t_behind, .ref A_t_placed, .ref A_t_isKept, .ref A_t_lanes, .ref A_t_lengths, .ref A_t_cells, .int t_torn])), (A_t_state, .inl (cy 1, 535, .inl t_state)), (A_t_least, .inl (cy 2, 100, .inr (.inl t_least))), (A_t_behind, .inl (cy 2, 110, .inr (.inl t_behind))), (A_t_conflicts, .inl (cy 1, 16, .inl t_conflicts))] := by rw [hAe]; exact hD0.self
  have hA : ∀ q : Nat, s.heap.size ≤ q → A q := fun q hq => by rw [hAe]; exact Or.inr hq
  have hS : va_S A s.heap s.heap [] := va_S.rf
  have hl := lv_entry [.ref A_t, .int x1, .int x2, .int x3, .int x4] (n := 7) (Nat.le_of_ble_eq_true rfl)
  rw [lg_entry_eq]
  generalize (lg_sl [.ref A_t, .int x1, .int x2, .int x3, .int x4] ++ List.replicate (7 - (lg_sl [.ref A_t, .int x1, .int x2, .int x3, .int x4]).length) Slot.unset).toArray = ls at hl ⊢
  have hl : lv_has ls 7 [(0, .ref A_t), (1, .int x1), (2, .int x2), (3, .int x3), (4, .int x4)] := hl
  refine W.gen (fun Q0 hQ => ?_)
  unfold P_X8_adds at h
  refine lv_iload_n hx hb dX8_adds_0 rfl (lv_at hl 1 rfl) ?_
  refine lv_iload_n hx hb dX8_adds_1 rfl (lv_at hl 2 rfl) ?_
  refine vp_callSi (W.runS (As := [.int x1, .int x2]) (rest := []) CF (c_X8_isPair l x1 x2 _ h) (va_cwS 2 hts gX8_adds_X8_isPair rfl rfl rfl qX8_isPair.2 ⟨Nat.le_of_ble_eq_true rfl, Nat.le_of_ble_eq_true rfl⟩) mpSN rfl rfl hl.1 rfl (lv_room (Nat.le_of_ble_eq_true rfl)) dX8_adds_2 ⟨Nat.zero_le _, Nat.zero_le _⟩) (fun r1 h => ?_)
  refine lv_if_eq (tgt := 16) hx hb dX8_adds_5 (by decide) (fun hc => ?_) (fun hc => ?_)
  · replace h := h.1 hc
    refine lv_iconst (v := -1) hx hb dX8_adds_16 (by decide) ?_
    subst hQ
    subst hAe
    exact W.iret (v := (-1 : Int32)) hx hb hr (fun t ht _ => ⟨⟨(-1 : Int32), (t_conflictMany, t_state, t_least, t_behind, t_conflicts), rfl, h, by rw [ht]; exact hP, hD⟩, hS.F ht⟩) hS.2.2 dX8_adds_17
  · replace h := h.2 hc
    refine lv_iload hx hb dX8_adds_8 (lv_at hl 4 rfl) ?_
    refine vp_callSi (W.runS (As := [.int x4]) (rest := []) CF (c_X8_isFlag l x4 _ h) (va_cwS 1 hts gX8_adds_X8_isFlag rfl rfl rfl qX8_isFlag.2 ⟨Nat.le_of_ble_eq_true rfl, Nat.le_of_ble_eq_true rfl⟩) mpSN rfl rfl hl.1 rfl (lv_room (Nat.le_of_ble_eq_true rfl)) dX8_adds_10 ⟨Nat.zero_le _, Nat.zero_le _⟩) (fun r2 h => ?_)
    refine lv_if_ne (tgt := 18) hx hb dX8_adds_13 (by decide) (fun hc => ?_) (fun hc => ?_)
    · replace h := h.1 hc
      refine lv_aload_n hx hb dX8_adds_18 rfl (lv_at hl 0 rfl) ?_
      have hPc := hP.sub (ws' := [(A_t, .inr (8, [.ref A_t_state, .ref A_t_tape, .int t_taped, .int t_fault, .int t_broken, .int t_brokenAt, .int t_spot, .int t_here, .int t_token, .int t_value, .int t_isRealTold, .ref A_t_ends, .ref A_t_letters, .ref A_t_least, .ref A_t_conflicts, .int t_conflictMany, .ref A_t_behind, .ref A_t_placed, .ref A_t_isKept, .ref A_t_lanes, .ref A_t_lengths, .ref A_t_cells, .int t_torn])), (A_t_state, .inl (cy 1, 535, .inl t_state))]) [0, 1] rfl
      refine vp_callSi (W.runV (As := []) (rest := []) CF (c_X8_many l D cy A_t A_t_state A_t_tape A_t_ends A_t_letters A_t_least A_t_conflicts A_t_behind A_t_placed A_t_isKept A_t_lanes A_t_lengths A_t_cells t_taped t_fault t_broken t_brokenAt t_spot t_here t_token t_value t_isRealTold t_conflictMany t_torn t_state _ h) (cwV 0 hts gX8_adds_X8_many rfl rfl rfl qX8_many ⟨Nat.le_of_ble_eq_true rfl, Nat.le_of_ble_eq_true rfl⟩) (mpVR hK hPc (ci := 8) (q := (RX8, TX8, 23)) (q0 := 0) rfl rfl) rfl rfl hl.1 rfl (lv_room (Nat.le_of_ble_eq_true rfl)) dX8_adds_19 ⟨Nat.zero_le _, Nat.zero_le _⟩) (fun r3 h => ?_)
      refine lv_bipush (v := 24) hx hb dX8_adds_22 (by decide) ?_
      refine lv_icmp_ne (tgt := 30) hx hb dX8_adds_24 (by decide) (fun hc => ?_) (fun hc => ?_)
      · replace h := h.1 hc
        refine lv_aload_n hx hb dX8_adds_30 rfl (lv_at hl 0 rfl) ?_
        have hPc := hP.sub (ws' := [(A_t, .inr (8, [.ref A_t_state, .ref A_t_tape, .int t_taped, .int t_fault, .int t_broken, .int t_brokenAt, .int t_spot, .int t_here, .int t_token, .int t_value, .int t_isRealTold, .ref A_t_ends, .ref A_t_letters, .ref A_t_least, .ref A_t_conflicts, .int t_conflictMany, .ref A_t_behind, .ref A_t_placed, .ref A_t_isKept, .ref A_t_lanes, .ref A_t_lengths, .ref A_t_cells, .int t_torn])), (A_t_state, .inl (cy 1, 535, .inl t_state))]) [0, 1] rfl
        refine vp_callSi (W.runV (As := []) (rest := []) CF (c_X8_isReal l D cy A_t A_t_state A_t_tape A_t_ends A_t_letters A_t_least A_t_conflicts A_t_behind A_t_placed A_t_isKept A_t_lanes A_t_lengths A_t_cells t_taped t_fault t_broken t_brokenAt t_spot t_here t_token t_value t_isRealTold t_conflictMany t_torn t_state _ h) (cwV 0 hts gX8_adds_X8_isReal rfl rfl rfl qX8_isReal ⟨Nat.le_of_ble_eq_true rfl, Nat.le_of_ble_eq_true rfl⟩) (mpVR hK hPc (ci := 8) (q := (RX8, TX8, 23)) (q0 := 0) rfl rfl) rfl rfl hl.1 rfl (lv_room (Nat.le_of_ble_eq_true rfl)) dX8_adds_31 ⟨Nat.zero_le _, Nat.zero_le _⟩) (fun r4 h => ?_)
        refine lv_iload_n hx hb dX8_adds_34 rfl (lv_at hl 3 rfl) ?_
        refine lv_iload hx hb dX8_adds_35 (lv_at hl 4 rfl) ?_
        refine vp_callSl (W.runS (As := [.int r4, .int x3, .int x4]) (rest := []) CF (c_X8_weighed l r4 x3 x4 _ h) (va_cwS 3 hts gX8_adds_X8_weighed rfl rfl rfl qX8_weighed.2 ⟨Nat.le_of_ble_eq_true rfl, Nat.le_of_ble_eq_true rfl⟩) mpSN rfl rfl hl.1 rfl (lv_room (Nat.le_of_ble_eq_true rfl)) dX8_adds_37 ⟨Nat.zero_le _, Nat.zero_le _⟩) (fun r5 h => ?_)
        refine lv_lstore (lv' := [(5, .long r5), (0, .ref A_t), (1, .int x1), (2, .int x2), (3, .int x3), (4, .int x4)]) hx hb dX8_adds_40 hl (by decide) rfl (fun ls hl => ?_)
        refine lv_aload_n hx hb dX8_adds_42 rfl (lv_at hl 1 rfl) ?_
        refine lv_iload_n hx hb dX8_adds_43 rfl (lv_at hl 2 rfl) ?_
        refine lv_iload_n hx hb dX8_adds_44 rfl (lv_at hl 3 rfl) ?_
        refine lv_lload hx hb dX8_adds_45 (lv_at hl 0 rfl) ?_
        refine lv_bipush (v := -4) hx hb dX8_adds_47 (by decide) ?_
        have hPn : va_P D vwCl ([(A_t_behind, .inl (cy 2, 110, .inr (.inl t_behind))), (A_t_conflicts, .inl (cy 1, 16, .inl t_conflicts))] ++ [(A_t, .inr (8, [.ref A_t_state, .ref A_t_tape, .int t_taped, .int t_fault, .int t_broken, .int t_brokenAt, .int t_spot, .int t_here, .int t_token, .int t_value, .int t_isRealTold, .ref A_t_ends, .ref A_t_letters, .ref A_t_least, .ref A_t_conflicts, .int t_conflictMany, .ref A_t_behind, .ref A_t_placed, .ref A_t_isKept, .ref A_t_lanes, .ref A_t_lengths, .ref A_t_cells, .int t_torn])), (A_t_state, .inl (cy 1, 535, .inl t_state)), (A_t_least, .inl (cy 2, 100, .inr (.inl t_least)))]) s.heap := hP.sub [3, 4, 0, 1, 2] rfl
        have hDn : va_D A ([(A_t_behind, .inl (cy 2, 110, .inr (.inl t_behind))), (A_t_conflicts, .inl (cy 1, 16, .inl t_conflicts))] ++ [(A_t, .inr (8, [.ref A_t_state, .ref A_t_tape, .int t_taped, .int t_fault, .int t_broken, .int t_brokenAt, .int t_spot, .int t_here, .int t_token, .int t_value, .int t_isRealTold, .ref A_t_ends, .ref A_t_letters, .ref A_t_least, .ref A_t_conflicts, .int t_conflictMany, .ref A_t_behind, .ref A_t_placed, .ref A_t_isKept, .ref A_t_lanes, .ref A_t_lengths, .ref A_t_cells, .int t_torn])), (A_t_state, .inl (cy 1, 535, .inl t_state)), (A_t_least, .inl (cy 2, 100, .inr (.inl t_least)))]) := hD.sub [3, 4, 0, 1, 2] (by decide) rfl
        have hPc := gPR hPn
        have hDc := gDR hDn
        refine mw_i (va_runV (As := [.int x1, .int x2, .long r5, .int (-4 : Int32)]) (rest := []) CF (c_X8_isAllowed l D cy s.heap.size A_t A_t_state A_t_tape A_t_ends A_t_letters A_t_least A_t_conflicts A_t_behind A_t_placed A_t_isKept A_t_lanes A_t_lengths A_t_cells t_taped t_fault t_broken t_brokenAt t_spot t_here t_token t_value t_isRealTold t_conflictMany t_torn t_state t_least x1 x2 r5 (-4 : Int32) _ h) (cwV 4 hts gX8_adds_X8_isAllowed rfl rfl rfl qX8_isAllowed ⟨Nat.le_of_ble_eq_true rfl, Nat.le_of_ble_eq_true rfl⟩) (mpVW hK hPc hDc (ci := 8) (q := (RX8, TX8, 23)) (q0 := 0) rfl rfl) rfl rfl hl.1 rfl (lv_room (Nat.le_of_ble_eq_true rfl)) dX8_adds_49 ⟨Nat.zero_le _, Nat.zero_le _⟩) hPn hDn hS hA (fun r6 t_least_v6 H locs h hP hD hS => ?_)
        have hP : va_P D vwCl [(A_t, .inr (8, [.ref A_t_state, .ref A_t_tape, .int t_taped, .int t_fault, .int t_broken, .int t_brokenAt, .int t_spot, .int t_here, .int t_token, .int t_value, .int t_isRealTold, .ref A_t_ends, .ref A_t_letters, .ref A_t_least, .ref A_t_conflicts, .int t_conflictMany, .ref A_t_behind, .ref A_t_placed, .ref A_t_isKept, .ref A_t_lanes, .ref A_t_lengths, .ref A_t_cells, .int t_torn])), (A_t_state, .inl (cy 1, 535, .inl t_state)), (A_t_least, .inl (cy 2, 100, .inr (.inl t_least_v6))), (A_t_behind, .inl (cy 2, 110, .inr (.inl t_behind))), (A_t_conflicts, .inl (cy 1, 16, .inl t_conflicts))] H := hP.sub [2, 3, 4, 0, 1] rfl
        have hD : va_D A [(A_t, .inr (8, [.ref A_t_state, .ref A_t_tape, .int t_taped, .int t_fault, .int t_broken, .int t_brokenAt, .int t_spot, .int t_here, .int t_token, .int t_value, .int t_isRealTold, .ref A_t_ends, .ref A_t_letters, .ref A_t_least, .ref A_t_conflicts, .int t_conflictMany, .ref A_t_behind, .ref A_t_placed, .ref A_t_isKept, .ref A_t_lanes, .ref A_t_lengths, .ref A_t_cells, .int t_torn])), (A_t_state, .inl (cy 1, 535, .inl t_state)), (A_t_least, .inl (cy 2, 100, .inr (.inl t_least_v6))), (A_t_behind, .inl (cy 2, 110, .inr (.inl t_behind))), (A_t_conflicts, .inl (cy 1, 16, .inl t_conflicts))] := hD.sub [2, 3, 4, 0, 1] (by decide) rfl
        refine lv_if_ne (tgt := 68) hx hb dX8_adds_52 (by decide) (fun hc => ?_) (fun hc => ?_)
        · replace h := h.1 hc
          refine lv_aload_n hx hb dX8_adds_68 rfl (lv_at hl 1 rfl) ?_
          refine lv_iconst (v := 0) hx hb dX8_adds_69 (by decide) ?_
          refine lv_iload_n hx hb dX8_adds_70 rfl (lv_at hl 2 rfl) ?_
          refine lv_iload_n hx hb dX8_adds_71 rfl (lv_at hl 3 rfl) ?_
          refine lv_iload_n hx hb dX8_adds_72 rfl (lv_at hl 4 rfl) ?_
          refine lv_iload hx hb dX8_adds_73 (lv_at hl 5 rfl) ?_
          have hPn : va_P D vwCl ([(A_t_least, .inl (cy 2, 100, .inr (.inl t_least_v6))), (A_t_behind, .inl (cy 2, 110, .inr (.inl t_behind))), (A_t_conflicts, .inl (cy 1, 16, .inl t_conflicts))] ++ [(A_t, .inr (8, [.ref A_t_state, .ref A_t_tape, .int t_taped, .int t_fault, .int t_broken, .int t_brokenAt, .int t_spot, .int t_here, .int t_token, .int t_value, .int t_isRealTold, .ref A_t_ends, .ref A_t_letters, .ref A_t_least, .ref A_t_conflicts, .int t_conflictMany, .ref A_t_behind, .ref A_t_placed, .ref A_t_isKept, .ref A_t_lanes, .ref A_t_lengths, .ref A_t_cells, .int t_torn])), (A_t_state, .inl (cy 1, 535, .inl t_state))]) H := hP.sub [2, 3, 4, 0, 1] rfl
          have hDn : va_D A ([(A_t_least, .inl (cy 2, 100, .inr (.inl t_least_v6))), (A_t_behind, .inl (cy 2, 110, .inr (.inl t_behind))), (A_t_conflicts, .inl (cy 1, 16, .inl t_conflicts))] ++ [(A_t, .inr (8, [.ref A_t_state, .ref A_t_tape, .int t_taped, .int t_fault, .int t_broken, .int t_brokenAt, .int t_spot, .int t_here, .int t_token, .int t_value, .int t_isRealTold, .ref A_t_ends, .ref A_t_letters, .ref A_t_least, .ref A_t_conflicts, .int t_conflictMany, .ref A_t_behind, .ref A_t_placed, .ref A_t_isKept, .ref A_t_lanes, .ref A_t_lengths, .ref A_t_cells, .int t_torn])), (A_t_state, .inl (cy 1, 535, .inl t_state))]) := hD.sub [2, 3, 4, 0, 1] (by decide) rfl
          have hPc := gPR hPn
          have hDc := gDR hDn
          refine mw_v (va_runV (As := [.int (0 : Int32), .int x1, .int x2, .int x3, .int x4]) (rest := []) CF (c_X8_puts l D cy H.size A_t A_t_state A_t_tape A_t_ends A_t_letters A_t_least A_t_conflicts A_t_behind A_t_placed A_t_isKept A_t_lanes A_t_lengths A_t_cells t_taped t_fault t_broken t_brokenAt t_spot t_here t_token t_value t_isRealTold t_conflictMany t_torn t_state (0 : Int32) x1 x2 x3 x4 _ h) (cwV 5 hts gX8_adds_X8_puts rfl rfl rfl qX8_puts ⟨Nat.le_of_ble_eq_true rfl, Nat.le_of_ble_eq_true rfl⟩) (mpVW hK hPc hDc (ci := 8) (q := (RX8, TX8, 23)) (q0 := 0) rfl rfl) rfl rfl hl.1 rfl (lv_room (Nat.le_of_ble_eq_true rfl)) dX8_adds_75 ⟨Nat.zero_le _, Nat.zero_le _⟩) hPn hDn hS hA (fun t_state_v7 H locs h hP hD hS => ?_)
          have hP : va_P D vwCl [(A_t, .inr (8, [.ref A_t_state, .ref A_t_tape, .int t_taped, .int t_fault, .int t_broken, .int t_brokenAt, .int t_spot, .int t_here, .int t_token, .int t_value, .int t_isRealTold, .ref A_t_ends, .ref A_t_letters, .ref A_t_least, .ref A_t_conflicts, .int t_conflictMany, .ref A_t_behind, .ref A_t_placed, .ref A_t_isKept, .ref A_t_lanes, .ref A_t_lengths, .ref A_t_cells, .int t_torn])), (A_t_state, .inl (cy 1, 535, .inl t_state_v7)), (A_t_least, .inl (cy 2, 100, .inr (.inl t_least_v6))), (A_t_behind, .inl (cy 2, 110, .inr (.inl t_behind))), (A_t_conflicts, .inl (cy 1, 16, .inl t_conflicts))] H := hP.sub [3, 4, 0, 1, 2] rfl
          have hD : va_D A [(A_t, .inr (8, [.ref A_t_state, .ref A_t_tape, .int t_taped, .int t_fault, .int t_broken, .int t_brokenAt, .int t_spot, .int t_here, .int t_token, .int t_value, .int t_isRealTold, .ref A_t_ends, .ref A_t_letters, .ref A_t_least, .ref A_t_conflicts, .int t_conflictMany, .ref A_t_behind, .ref A_t_placed, .ref A_t_isKept, .ref A_t_lanes, .ref A_t_lengths, .ref A_t_cells, .int t_torn])), (A_t_state, .inl (cy 1, 535, .inl t_state_v7)), (A_t_least, .inl (cy 2, 100, .inr (.inl t_least_v6))), (A_t_behind, .inl (cy 2, 110, .inr (.inl t_behind))), (A_t_conflicts, .inl (cy 1, 16, .inl t_conflicts))] := hD.sub [3, 4, 0, 1, 2] (by decide) rfl
          refine lv_aload_n hx hb dX8_adds_78 rfl (lv_at hl 1 rfl) ?_
          have hPc := hP.sub (ws' := [(A_t, .inr (8, [.ref A_t_state, .ref A_t_tape, .int t_taped, .int t_fault, .int t_broken, .int t_brokenAt, .int t_spot, .int t_here, .int t_token, .int t_value, .int t_isRealTold, .ref A_t_ends, .ref A_t_letters, .ref A_t_least, .ref A_t_conflicts, .int t_conflictMany, .ref A_t_behind, .ref A_t_placed, .ref A_t_isKept, .ref A_t_lanes, .ref A_t_lengths, .ref A_t_cells, .int t_torn])), (A_t_state, .inl (cy 1, 535, .inl t_state_v7))]) [0, 1] rfl
          refine vp_callSi (W.runV (As := []) (rest := []) CF (c_X8_many l D cy A_t A_t_state A_t_tape A_t_ends A_t_letters A_t_least A_t_conflicts A_t_behind A_t_placed A_t_isKept A_t_lanes A_t_lengths A_t_cells t_taped t_fault t_broken t_brokenAt t_spot t_here t_token t_value t_isRealTold t_conflictMany t_torn t_state_v7 _ h) (cwV 0 hts gX8_adds_X8_many rfl rfl rfl qX8_many ⟨Nat.le_of_ble_eq_true rfl, Nat.le_of_ble_eq_true rfl⟩) (mpVR hK hPc (ci := 8) (q := (RX8, TX8, 23)) (q0 := 0) rfl rfl) rfl rfl hl.1 rfl (lv_room (Nat.le_of_ble_eq_true rfl)) dX8_adds_79 ⟨Nat.zero_le _, Nat.zero_le _⟩) (fun r8 h => ?_)
          subst hQ
          subst hAe
          exact W.iret (v := r8) hx hb hr (fun t ht _ => ⟨⟨r8, (t_conflictMany, t_state_v7, t_least_v6, t_behind, t_conflicts), rfl, h, by rw [ht]; exact hP, hD⟩, hS.F ht⟩) hS.2.2 dX8_adds_82
        · replace h := h.2 hc
          refine lv_aload_n hx hb dX8_adds_55 rfl (lv_at hl 1 rfl) ?_
          refine lv_iload_n hx hb dX8_adds_56 rfl (lv_at hl 2 rfl) ?_
          refine lv_iload_n hx hb dX8_adds_57 rfl (lv_at hl 3 rfl) ?_
          refine lv_lload hx hb dX8_adds_58 (lv_at hl 0 rfl) ?_
          refine lv_bipush (v := -4) hx hb dX8_adds_60 (by decide) ?_
          have hPn : va_P D vwCl ([(A_t_least, .inl (cy 2, 100, .inr (.inl t_least_v6)))] ++ [(A_t, .inr (8, [.ref A_t_state, .ref A_t_tape, .int t_taped, .int t_fault, .int t_broken, .int t_brokenAt, .int t_spot, .int t_here, .int t_token, .int t_value, .int t_isRealTold, .ref A_t_ends, .ref A_t_letters, .ref A_t_least, .ref A_t_conflicts, .int t_conflictMany, .ref A_t_behind, .ref A_t_placed, .ref A_t_isKept, .ref A_t_lanes, .ref A_t_lengths, .ref A_t_cells, .int t_torn])), (A_t_behind, .inl (cy 2, 110, .inr (.inl t_behind))), (A_t_state, .inl (cy 1, 535, .inl t_state)), (A_t_conflicts, .inl (cy 1, 16, .inl t_conflicts))]) H := hP.sub [2, 0, 3, 1, 4] rfl
          have hDn : va_D A ([(A_t_least, .inl (cy 2, 100, .inr (.inl t_least_v6)))] ++ [(A_t, .inr (8, [.ref A_t_state, .ref A_t_tape, .int t_taped, .int t_fault, .int t_broken, .int t_brokenAt, .int t_spot, .int t_here, .int t_token, .int t_value, .int t_isRealTold, .ref A_t_ends, .ref A_t_letters, .ref A_t_least, .ref A_t_conflicts, .int t_conflictMany, .ref A_t_behind, .ref A_t_placed, .ref A_t_isKept, .ref A_t_lanes, .ref A_t_lengths, .ref A_t_cells, .int t_torn])), (A_t_behind, .inl (cy 2, 110, .inr (.inl t_behind))), (A_t_state, .inl (cy 1, 535, .inl t_state)), (A_t_conflicts, .inl (cy 1, 16, .inl t_conflicts))]) := hD.sub [2, 0, 3, 1, 4] (by decide) rfl
          have hPc := gPR hPn
          have hDc := gDR hDn
          refine mw_v (va_runV (As := [.int x1, .int x2, .long r5, .int (-4 : Int32)]) (rest := []) CF (c_X8_conflictsWith l D cy H.size A_t A_t_state A_t_tape A_t_ends A_t_letters A_t_least A_t_conflicts A_t_behind A_t_placed A_t_isKept A_t_lanes A_t_lengths A_t_cells t_taped t_fault t_broken t_brokenAt t_spot t_here t_token t_value t_isRealTold t_conflictMany t_torn t_behind t_state t_conflicts x1 x2 r5 (-4 : Int32) _ h) (cwV 4 hts gX8_adds_X8_conflictsWith rfl rfl rfl qX8_conflictsWith ⟨Nat.le_of_ble_eq_true rfl, Nat.le_of_ble_eq_true rfl⟩) (mpVW hK hPc hDc (ci := 8) (q := (RX8, TX8, 23)) (q0 := 0) rfl rfl) rfl rfl hl.1 rfl (lv_room (Nat.le_of_ble_eq_true rfl)) dX8_adds_62 ⟨Nat.zero_le _, Nat.zero_le _⟩) hPn hDn hS hA (fun u H locs h hP hD hS => ?_)
          obtain ⟨t_conflictMany_v9, t_behind_v9, t_conflicts_v9⟩ := u
          have hP : va_P D vwCl [(A_t, .inr (8, [.ref A_t_state, .ref A_t_tape, .int t_taped, .int t_fault, .int t_broken, .int t_brokenAt, .int t_spot, .int t_here, .int t_token, .int t_value, .int t_isRealTold, .ref A_t_ends, .ref A_t_letters, .ref A_t_least, .ref A_t_conflicts, .int t_conflictMany_v9, .ref A_t_behind, .ref A_t_placed, .ref A_t_isKept, .ref A_t_lanes, .ref A_t_lengths, .ref A_t_cells, .int t_torn])), (A_t_state, .inl (cy 1, 535, .inl t_state)), (A_t_least, .inl (cy 2, 100, .inr (.inl t_least_v6))), (A_t_behind, .inl (cy 2, 110, .inr (.inl t_behind_v9))), (A_t_conflicts, .inl (cy 1, 16, .inl t_conflicts_v9))] H := hP.sub [1, 3, 0, 2, 4] rfl
          have hD : va_D A [(A_t, .inr (8, [.ref A_t_state, .ref A_t_tape, .int t_taped, .int t_fault, .int t_broken, .int t_brokenAt, .int t_spot, .int t_here, .int t_token, .int t_value, .int t_isRealTold, .ref A_t_ends, .ref A_t_letters, .ref A_t_least, .ref A_t_conflicts, .int t_conflictMany_v9, .ref A_t_behind, .ref A_t_placed, .ref A_t_isKept, .ref A_t_lanes, .ref A_t_lengths, .ref A_t_cells, .int t_torn])), (A_t_state, .inl (cy 1, 535, .inl t_state)), (A_t_least, .inl (cy 2, 100, .inr (.inl t_least_v6))), (A_t_behind, .inl (cy 2, 110, .inr (.inl t_behind_v9))), (A_t_conflicts, .inl (cy 1, 16, .inl t_conflicts_v9))] := hD.sub [1, 3, 0, 2, 4] (by decide) rfl
          try dsimp only at h
          refine lv_bipush (v := -2) hx hb dX8_adds_65 (by decide) ?_
          subst hQ
          subst hAe
          exact W.iret (v := (-2 : Int32)) hx hb hr (fun t ht _ => ⟨⟨(-2 : Int32), (t_conflictMany_v9, t_state, t_least_v6, t_behind_v9, t_conflicts_v9), rfl, h, by rw [ht]; exact hP, hD⟩, hS.F ht⟩) hS.2.2 dX8_adds_67
      · replace h := h.2 hc
        refine lv_bipush (v := -3) hx hb dX8_adds_27 (by decide) ?_
        subst hQ
        subst hAe
        exact W.iret (v := (-3 : Int32)) hx hb hr (fun t ht _ => ⟨⟨(-3 : Int32), (t_conflictMany, t_state, t_least, t_behind, t_conflicts), rfl, h, by rw [ht]; exact hP, hD⟩, hS.F ht⟩) hS.2.2 dX8_adds_29
    · replace h := h.2 hc
      refine lv_iconst (v := -1) hx hb dX8_adds_16 (by decide) ?_
      subst hQ
      subst hAe
      exact W.iret (v := (-1 : Int32)) hx hb hr (fun t ht _ => ⟨⟨(-1 : Int32), (t_conflictMany, t_state, t_least, t_behind, t_conflicts), rfl, h, by rw [ht]; exact hP, hD⟩, hS.F ht⟩) hS.2.2 dX8_adds_17
theorem qX8_add : yX8_add.cls = RX8 ∧ yX8_add.cls ≠ "java/lang/invoke/MethodHandle" ∧ yX8_add.cls ≠ "java/lang/invoke/VarHandle" ∧ (parseMethodDescriptor yX8_add.desc).map (fun d => d.parameters.length) = some 4 := by decide +kernel
def P_X8_add (post : Int32 → Int32 → (Nat → Int32) → (Nat → Int64) → (Nat → Int64) → (Nat → Int32) → Prop) (t_conflictMany : Int32) (t_state : Nat → Int32) (t_least : Nat → Int64) (t_behind : Nat → Int64) (t_conflicts : Nat → Int32) (x1 : Int32) (x2 : Int32) (x3 : Int32) (x4 : Int32) : Prop :=
  P_X8_adds (fun (r1 : Int32) (t_conflictMany_v1 : Int32) (t_state_v1 : Nat → Int32) (t_least_v1 : Nat → Int64) (t_behind_v1 : Nat → Int64) (t_conflicts_v1 : Nat → Int32) => post r1 t_conflictMany_v1 t_state_v1 t_least_v1 t_behind_v1 t_conflicts_v1) t_conflictMany t_state t_least t_behind t_conflicts x1 x2 x3 x4
set_option maxHeartbeats 4000000 in
set_option maxRecDepth 100000 in
theorem c_X8_add (l : Launch) (D : va_G) (cy : Nat → ClassId) (sz : Nat) (A_t A_t_state A_t_tape A_t_ends A_t_letters A_t_least A_t_conflicts A_t_behind A_t_placed A_t_isKept A_t_lanes A_t_lengths A_t_cells : Nat) (t_taped : Int32) (t_fault : Int32) (t_broken : Int32) (t_brokenAt : Int32) (t_spot : Int32) (t_here : Int32) (t_token : Int32) (t_value : Int32) (t_isRealTold : Int32) (t_conflictMany : Int32) (t_torn : Int32) (t_state : Nat → Int32) (t_least : Nat → Int64) (t_behind : Nat → Int64) (t_conflicts : Nat → Int32) (x1 : Int32) (x2 : Int32) (x3 : Int32) (x4 : Int32) (post : Int32 → Int32 → (Nat → Int32) → (Nat → Int64) → (Nat → Int64) → (Nat → Int32) → Prop) (h : P_X8_add post t_conflictMany t_state t_least t_behind t_conflicts x1 x2 x3 x4) : Met l yX8_add wsX8_add { frames := 6, cells := 0, slots := 0, locals := 152 } (pcW D cy [(A_t, .inr (8, [.ref A_t_state, .ref A_t_tape, .int t_taped, .int t_fault, .int t_broken, .int t_brokenAt, .int t_spot, .int t_here, .int t_token, .int t_value, .int t_isRealTold, .ref A_t_ends, .ref A_t_letters, .ref A_t_least, .ref A_t_conflicts, .int t_conflictMany, .ref A_t_behind, .ref A_t_placed, .ref A_t_isKept, .ref A_t_lanes, .ref A_t_lengths, .ref A_t_cells, .int t_torn])), (A_t_state, .inl (cy 1, 535, .inl t_state)), (A_t_least, .inl (cy 2, 100, .inr (.inl t_least))), (A_t_behind, .inl (cy 2, 110, .inr (.inl t_behind))), (A_t_conflicts, .inl (cy 1, 16, .inl t_conflicts))] sz [.ref A_t, .int x1, .int x2, .int x3, .int x4]) (va_Qi (fun r (u : Int32 × (Nat → Int32) × (Nat → Int64) × (Nat → Int64) × (Nat → Int32)) => post r u.1 u.2.1 u.2.2.1 u.2.2.2.1 u.2.2.2.2) (bW D [(A_t, .inr (8, [.ref A_t_state, .ref A_t_tape, .int t_taped, .int t_fault, .int t_broken, .int t_brokenAt, .int t_spot, .int t_here, .int t_token, .int t_value, .int t_isRealTold, .ref A_t_ends, .ref A_t_letters, .ref A_t_least, .ref A_t_conflicts, .int t_conflictMany, .ref A_t_behind, .ref A_t_placed, .ref A_t_isKept, .ref A_t_lanes, .ref A_t_lengths, .ref A_t_cells, .int t_torn])), (A_t_state, .inl (cy 1, 535, .inl t_state)), (A_t_least, .inl (cy 2, 100, .inr (.inl t_least))), (A_t_behind, .inl (cy 2, 110, .inr (.inl t_behind))), (A_t_conflicts, .inl (cy 1, 16, .inl t_conflicts))] sz (fun u => [(A_t, .inr (8, [.ref A_t_state, .ref A_t_tape, .int t_taped, .int t_fault, .int t_broken, .int t_brokenAt, .int t_spot, .int t_here, .int t_token, .int t_value, .int t_isRealTold, .ref A_t_ends, .ref A_t_letters, .ref A_t_least, .ref A_t_conflicts, .int (u.1), .ref A_t_behind, .ref A_t_placed, .ref A_t_isKept, .ref A_t_lanes, .ref A_t_lengths, .ref A_t_cells, .int t_torn])), (A_t_state, .inl (cy 1, 535, .inl u.2.1)), (A_t_least, .inl (cy 2, 100, .inr (.inl u.2.2.1))), (A_t_behind, .inl (cy 2, 110, .inr (.inl u.2.2.2.1))), (A_t_conflicts, .inl (cy 1, 16, .inl u.2.2.2.2))])) (va_A [(A_t, .inr (8, [.ref A_t_state, .ref A_t_tape, .int t_taped, .int t_fault, .int t_broken, .int t_brokenAt, .int t_spot, .int t_here, .int t_token, .int t_value, .int t_isRealTold, .ref A_t_ends, .ref A_t_letters, .ref A_t_least, .ref A_t_conflicts, .int t_conflictMany, .ref A_t_behind, .ref A_t_placed, .ref A_t_isKept, .ref A_t_lanes, .ref A_t_lengths, .ref A_t_cells, .int t_torn])), (A_t_state, .inl (cy 1, 535, .inl t_state)), (A_t_least, .inl (cy 2, 100, .inr (.inl t_least))), (A_t_behind, .inl (cy 2, 110, .inr (.inl t_behind))), (A_t_conflicts, .inl (cy 1, 16, .inl t_conflicts))] sz)) 0 0 (va_A [(A_t, .inr (8, [.ref A_t_state, .ref A_t_tape, .int t_taped, .int t_fault, .int t_broken, .int t_brokenAt, .int t_spot, .int t_here, .int t_token, .int t_value, .int t_isRealTold, .ref A_t_ends, .ref A_t_letters, .ref A_t_least, .ref A_t_conflicts, .int t_conflictMany, .ref A_t_behind, .ref A_t_placed, .ref A_t_isKept, .ref A_t_lanes, .ref A_t_lengths, .ref A_t_cells, .int t_torn])), (A_t_state, .inl (cy 1, 535, .inl t_state)), (A_t_least, .inl (cy 2, 100, .inr (.inl t_least))), (A_t_behind, .inl (cy 2, 110, .inr (.inl t_behind))), (A_t_conflicts, .inl (cy 1, 16, .inl t_conflicts))] sz) := by
  refine Met.ofW (cc := cX8_add) (maxL := 5) (ret := (some .int)) (by decide) rfl ?_
  intro p e s m args below meth c s₁ B hml hv
  obtain ⟨rfl, hsz, hP, hK, hD0⟩ := hv
  have hx := B.exec
  have hb := B.bytes
  have hr := B.returns
  have hts := atoms_spec (ws := wsX8_add) B.pre
  have hown : s.vm.findClass RX8 = some m.cls := findClass_of_methodNamed B.named
  have hlocks := B.notSynchronized
  have CF : CallFix p m c cX8_add 5 s ([.ref A_t, .int x1, .int x2, .int x3, .int x4] : List Value).toArray wsX8_add RX8 := ⟨hx, hb, hml, hown, hts⟩
  subst hsz
  obtain ⟨A, hAe⟩ : ∃ A, A = va_A [(A_t, .inr (8, [.ref A_t_state, .ref A_t_tape, .int t_taped, .int t_fault, .int t_broken, .int t_brokenAt, .int t_spot, .int t_here, .int t_token, .int t_value, .int t_isRealTold, .ref A_t_ends, .ref A_t_letters, .ref A_t_least, .ref A_t_conflicts, .int t_conflictMany, .ref A_t_behind, .ref A_t_placed, .ref A_t_isKept, .ref A_t_lanes, .ref A_t_lengths, .ref A_t_cells, .int t_torn])), (A_t_state, .inl (cy 1, 535, .inl t_state)), (A_t_least, .inl (cy 2, 100, .inr (.inl t_least))), (A_t_behind, .inl (cy 2, 110, .inr (.inl t_behind))), (A_t_conflicts, .inl (cy 1, 16, .inl t_conflicts))] s.heap.size := ⟨_, rfl⟩
  have hD : va_D A [(A_t, .inr (8, [.ref A_t_state, .ref A_t_tape, .int t_taped, .int t_fault, .int t_broken, .int t_brokenAt, .int t_spot, .int t_here, .int t_token, .int t_value, .int t_isRealTold, .ref A_t_ends, .ref A_t_letters, .ref A_t_least, .ref A_t_conflicts, .int t_conflictMany, .ref A_t_behind, .ref A_t_placed, .ref A_t_isKept, .ref A_t_lanes, .ref A_t_lengths, .ref A_t_cells, .int t_torn])), (A_t_state, .inl (cy 1, 535, .inl t_state)), (A_t_least, .inl (cy 2, 100, .inr (.inl t_least))), (A_t_behind, .inl (cy 2, 110, .inr (.inl t_behind))), (A_t_conflicts, .inl (cy 1, 16, .inl t_conflicts))] := by rw [hAe]; exact hD0.self
  have hA : ∀ q : Nat, s.heap.size ≤ q → A q := fun q hq => by rw [hAe]; exact Or.inr hq
  have hS : va_S A s.heap s.heap [] := va_S.rf
  have hl := lv_entry [.ref A_t, .int x1, .int x2, .int x3, .int x4] (n := 5) (Nat.le_of_ble_eq_true rfl)
  rw [lg_entry_eq]
  generalize (lg_sl [.ref A_t, .int x1, .int x2, .int x3, .int x4] ++ List.replicate (5 - (lg_sl [.ref A_t, .int x1, .int x2, .int x3, .int x4]).length) Slot.unset).toArray = ls at hl ⊢
  have hl : lv_has ls 5 [(0, .ref A_t), (1, .int x1), (2, .int x2), (3, .int x3), (4, .int x4)] := hl
  refine W.gen (fun Q0 hQ => ?_)
  unfold P_X8_add at h
  refine lv_aload_n hx hb dX8_add_0 rfl (lv_at hl 0 rfl) ?_
  refine lv_iload_n hx hb dX8_add_1 rfl (lv_at hl 1 rfl) ?_
  refine lv_iload_n hx hb dX8_add_2 rfl (lv_at hl 2 rfl) ?_
  refine lv_iload_n hx hb dX8_add_3 rfl (lv_at hl 3 rfl) ?_
  refine lv_iload hx hb dX8_add_4 (lv_at hl 4 rfl) ?_
  have hPn : va_P D vwCl ([] ++ [(A_t, .inr (8, [.ref A_t_state, .ref A_t_tape, .int t_taped, .int t_fault, .int t_broken, .int t_brokenAt, .int t_spot, .int t_here, .int t_token, .int t_value, .int t_isRealTold, .ref A_t_ends, .ref A_t_letters, .ref A_t_least, .ref A_t_conflicts, .int t_conflictMany, .ref A_t_behind, .ref A_t_placed, .ref A_t_isKept, .ref A_t_lanes, .ref A_t_lengths, .ref A_t_cells, .int t_torn])), (A_t_state, .inl (cy 1, 535, .inl t_state)), (A_t_least, .inl (cy 2, 100, .inr (.inl t_least))), (A_t_behind, .inl (cy 2, 110, .inr (.inl t_behind))), (A_t_conflicts, .inl (cy 1, 16, .inl t_conflicts))]) s.heap := hP.sub [0, 1, 2, 3, 4] rfl
  have hDn : va_D A ([] ++ [(A_t, .inr (8, [.ref A_t_state, .ref A_t_tape, .int t_taped, .int t_fault, .int t_broken, .int t_brokenAt, .int t_spot, .int t_here, .int t_token, .int t_value, .int t_isRealTold, .ref A_t_ends, .ref A_t_letters, .ref A_t_least, .ref A_t_conflicts, .int t_conflictMany, .ref A_t_behind, .ref A_t_placed, .ref A_t_isKept, .ref A_t_lanes, .ref A_t_lengths, .ref A_t_cells, .int t_torn])), (A_t_state, .inl (cy 1, 535, .inl t_state)), (A_t_least, .inl (cy 2, 100, .inr (.inl t_least))), (A_t_behind, .inl (cy 2, 110, .inr (.inl t_behind))), (A_t_conflicts, .inl (cy 1, 16, .inl t_conflicts))]) := hD.sub [0, 1, 2, 3, 4] (by decide) rfl
  have hPc := gPR hPn
  have hDc := gDR hDn
  refine mw_i (va_runV (As := [.int x1, .int x2, .int x3, .int x4]) (rest := []) CF (c_X8_adds l D cy s.heap.size A_t A_t_state A_t_tape A_t_ends A_t_letters A_t_least A_t_conflicts A_t_behind A_t_placed A_t_isKept A_t_lanes A_t_lengths A_t_cells t_taped t_fault t_broken t_brokenAt t_spot t_here t_token t_value t_isRealTold t_conflictMany t_torn t_state t_least t_behind t_conflicts x1 x2 x3 x4 _ h) (cwV 4 hts gX8_add_X8_adds rfl rfl rfl qX8_adds ⟨Nat.le_of_ble_eq_true rfl, Nat.le_of_ble_eq_true rfl⟩) (mpVW hK hPc hDc (ci := 8) (q := (RX8, TX8, 23)) (q0 := 0) rfl rfl) rfl rfl hl.1 rfl (lv_room (Nat.le_of_ble_eq_true rfl)) dX8_add_6 ⟨Nat.zero_le _, Nat.zero_le _⟩) hPn hDn hS hA (fun r1 u H locs h hP hD hS => ?_)
  obtain ⟨t_conflictMany_v1, t_state_v1, t_least_v1, t_behind_v1, t_conflicts_v1⟩ := u
  have hP : va_P D vwCl [(A_t, .inr (8, [.ref A_t_state, .ref A_t_tape, .int t_taped, .int t_fault, .int t_broken, .int t_brokenAt, .int t_spot, .int t_here, .int t_token, .int t_value, .int t_isRealTold, .ref A_t_ends, .ref A_t_letters, .ref A_t_least, .ref A_t_conflicts, .int t_conflictMany_v1, .ref A_t_behind, .ref A_t_placed, .ref A_t_isKept, .ref A_t_lanes, .ref A_t_lengths, .ref A_t_cells, .int t_torn])), (A_t_state, .inl (cy 1, 535, .inl t_state_v1)), (A_t_least, .inl (cy 2, 100, .inr (.inl t_least_v1))), (A_t_behind, .inl (cy 2, 110, .inr (.inl t_behind_v1))), (A_t_conflicts, .inl (cy 1, 16, .inl t_conflicts_v1))] H := hP.sub [0, 1, 2, 3, 4] rfl
  have hD : va_D A [(A_t, .inr (8, [.ref A_t_state, .ref A_t_tape, .int t_taped, .int t_fault, .int t_broken, .int t_brokenAt, .int t_spot, .int t_here, .int t_token, .int t_value, .int t_isRealTold, .ref A_t_ends, .ref A_t_letters, .ref A_t_least, .ref A_t_conflicts, .int t_conflictMany_v1, .ref A_t_behind, .ref A_t_placed, .ref A_t_isKept, .ref A_t_lanes, .ref A_t_lengths, .ref A_t_cells, .int t_torn])), (A_t_state, .inl (cy 1, 535, .inl t_state_v1)), (A_t_least, .inl (cy 2, 100, .inr (.inl t_least_v1))), (A_t_behind, .inl (cy 2, 110, .inr (.inl t_behind_v1))), (A_t_conflicts, .inl (cy 1, 16, .inl t_conflicts_v1))] := hD.sub [0, 1, 2, 3, 4] (by decide) rfl
  try dsimp only at h
  subst hQ
  subst hAe
  exact W.iret (v := r1) hx hb hr (fun t ht _ => ⟨⟨r1, (t_conflictMany_v1, t_state_v1, t_least_v1, t_behind_v1, t_conflicts_v1), rfl, h, by rw [ht]; exact hP, hD⟩, hS.F ht⟩) hS.2.2 dX8_add_9
theorem qX8_may : yX8_may.cls = RX8 ∧ yX8_may.cls ≠ "java/lang/invoke/MethodHandle" ∧ yX8_may.cls ≠ "java/lang/invoke/VarHandle" ∧ (parseMethodDescriptor yX8_may.desc).map (fun d => d.parameters.length) = some 4 := by decide +kernel
def P_X8_may (post : Int32 → (Nat → Int64) → Prop) (t_state : Nat → Int32) (t_least : Nat → Int64) (x1 : Int32) (x2 : Int32) (x3 : Int32) (x4 : Int32) : Prop :=
  P_X8_isPair (fun (r1 : Int32) => ((r1 = 0 → post (-1 : Int32) t_least) ∧ (¬ r1 = 0 → P_X8_isFlag (fun (r2 : Int32) => ((¬ r2 = 0 → P_X8_isReal (fun (r3 : Int32) => P_X8_weighed (fun (r4 : Int64) => P_X8_isAllowed (fun (r5 : Int32) (t_least_v5 : Nat → Int64) => ((r5 = 0 → post (0 : Int32) t_least_v5) ∧ (¬ r5 = 0 → post (1 : Int32) t_least_v5))) t_state t_least x1 x2 (-4 : Int32) r4) r3 x3 x4) t_state) ∧ (r2 = 0 → post (-1 : Int32) t_least))) x4))) x1 x2
set_option maxHeartbeats 4000000 in
set_option maxRecDepth 100000 in
theorem c_X8_may (l : Launch) (D : va_G) (cy : Nat → ClassId) (sz : Nat) (A_t A_t_state A_t_tape A_t_ends A_t_letters A_t_least A_t_conflicts A_t_behind A_t_placed A_t_isKept A_t_lanes A_t_lengths A_t_cells : Nat) (t_taped : Int32) (t_fault : Int32) (t_broken : Int32) (t_brokenAt : Int32) (t_spot : Int32) (t_here : Int32) (t_token : Int32) (t_value : Int32) (t_isRealTold : Int32) (t_conflictMany : Int32) (t_torn : Int32) (t_state : Nat → Int32) (t_least : Nat → Int64) (x1 : Int32) (x2 : Int32) (x3 : Int32) (x4 : Int32) (post : Int32 → (Nat → Int64) → Prop) (h : P_X8_may post t_state t_least x1 x2 x3 x4) : Met l yX8_may wsX8_may { frames := 4, cells := 0, slots := 0, locals := 97 } (pcW D cy [(A_t, .inr (8, [.ref A_t_state, .ref A_t_tape, .int t_taped, .int t_fault, .int t_broken, .int t_brokenAt, .int t_spot, .int t_here, .int t_token, .int t_value, .int t_isRealTold, .ref A_t_ends, .ref A_t_letters, .ref A_t_least, .ref A_t_conflicts, .int t_conflictMany, .ref A_t_behind, .ref A_t_placed, .ref A_t_isKept, .ref A_t_lanes, .ref A_t_lengths, .ref A_t_cells, .int t_torn])), (A_t_state, .inl (cy 1, 535, .inl t_state)), (A_t_least, .inl (cy 2, 100, .inr (.inl t_least)))] sz [.ref A_t, .int x1, .int x2, .int x3, .int x4]) (va_Qi (fun r (u : (Nat → Int64)) => post r u) (bW D [(A_t, .inr (8, [.ref A_t_state, .ref A_t_tape, .int t_taped, .int t_fault, .int t_broken, .int t_brokenAt, .int t_spot, .int t_here, .int t_token, .int t_value, .int t_isRealTold, .ref A_t_ends, .ref A_t_letters, .ref A_t_least, .ref A_t_conflicts, .int t_conflictMany, .ref A_t_behind, .ref A_t_placed, .ref A_t_isKept, .ref A_t_lanes, .ref A_t_lengths, .ref A_t_cells, .int t_torn])), (A_t_state, .inl (cy 1, 535, .inl t_state)), (A_t_least, .inl (cy 2, 100, .inr (.inl t_least)))] sz (fun u => [(A_t, .inr (8, [.ref A_t_state, .ref A_t_tape, .int t_taped, .int t_fault, .int t_broken, .int t_brokenAt, .int t_spot, .int t_here, .int t_token, .int t_value, .int t_isRealTold, .ref A_t_ends, .ref A_t_letters, .ref A_t_least, .ref A_t_conflicts, .int t_conflictMany, .ref A_t_behind, .ref A_t_placed, .ref A_t_isKept, .ref A_t_lanes, .ref A_t_lengths, .ref A_t_cells, .int t_torn])), (A_t_state, .inl (cy 1, 535, .inl t_state)), (A_t_least, .inl (cy 2, 100, .inr (.inl u)))])) (va_A [(A_t, .inr (8, [.ref A_t_state, .ref A_t_tape, .int t_taped, .int t_fault, .int t_broken, .int t_brokenAt, .int t_spot, .int t_here, .int t_token, .int t_value, .int t_isRealTold, .ref A_t_ends, .ref A_t_letters, .ref A_t_least, .ref A_t_conflicts, .int t_conflictMany, .ref A_t_behind, .ref A_t_placed, .ref A_t_isKept, .ref A_t_lanes, .ref A_t_lengths, .ref A_t_cells, .int t_torn])), (A_t_state, .inl (cy 1, 535, .inl t_state)), (A_t_least, .inl (cy 2, 100, .inr (.inl t_least)))] sz)) 0 0 (va_A [(A_t, .inr (8, [.ref A_t_state, .ref A_t_tape, .int t_taped, .int t_fault, .int t_broken, .int t_brokenAt, .int t_spot, .int t_here, .int t_token, .int t_value, .int t_isRealTold, .ref A_t_ends, .ref A_t_letters, .ref A_t_least, .ref A_t_conflicts, .int t_conflictMany, .ref A_t_behind, .ref A_t_placed, .ref A_t_isKept, .ref A_t_lanes, .ref A_t_lengths, .ref A_t_cells, .int t_torn])), (A_t_state, .inl (cy 1, 535, .inl t_state)), (A_t_least, .inl (cy 2, 100, .inr (.inl t_least)))] sz) := by
  refine Met.ofW (cc := cX8_may) (maxL := 5) (ret := (some .int)) (by decide) rfl ?_
  intro p e s m args below meth c s₁ B hml hv
  obtain ⟨rfl, hsz, hP, hK, hD0⟩ := hv
  have hx := B.exec
  have hb := B.bytes
  have hr := B.returns
  have hts := atoms_spec (ws := wsX8_may) B.pre
  have hown : s.vm.findClass RX8 = some m.cls := findClass_of_methodNamed B.named
  have hlocks := B.notSynchronized
  have CF : CallFix p m c cX8_may 5 s ([.ref A_t, .int x1, .int x2, .int x3, .int x4] : List Value).toArray wsX8_may RX8 := ⟨hx, hb, hml, hown, hts⟩
  subst hsz
  obtain ⟨A, hAe⟩ : ∃ A, A = va_A [(A_t, .inr (8, [.ref A_t_state, .ref A_t_tape, .int t_taped, .int t_fault, .int t_broken, .int t_brokenAt, .int t_spot, .int t_here, .int t_token, .int t_value, .int t_isRealTold, .ref A_t_ends, .ref A_t_letters, .ref A_t_least, .ref A_t_conflicts, .int t_conflictMany, .ref A_t_behind, .ref A_t_placed, .ref A_t_isKept, .ref A_t_lanes, .ref A_t_lengths, .ref A_t_cells, .int t_torn])), (A_t_state, .inl (cy 1, 535, .inl t_state)), (A_t_least, .inl (cy 2, 100, .inr (.inl t_least)))] s.heap.size := ⟨_, rfl⟩
  have hD : va_D A [(A_t, .inr (8, [.ref A_t_state, .ref A_t_tape, .int t_taped, .int t_fault, .int t_broken, .int t_brokenAt, .int t_spot, .int t_here, .int t_token, .int t_value, .int t_isRealTold, .ref A_t_ends, .ref A_t_letters, .ref A_t_least, .ref A_t_conflicts, .int t_conflictMany, .ref A_t_behind, .ref A_t_placed, .ref A_t_isKept, .ref A_t_lanes, .ref A_t_lengths, .ref A_t_cells, .int t_torn])), (A_t_state, .inl (cy 1, 535, .inl t_state)), (A_t_least, .inl (cy 2, 100, .inr (.inl t_least)))] := by rw [hAe]; exact hD0.self
  have hA : ∀ q : Nat, s.heap.size ≤ q → A q := fun q hq => by rw [hAe]; exact Or.inr hq
  have hS : va_S A s.heap s.heap [] := va_S.rf
  have hl := lv_entry [.ref A_t, .int x1, .int x2, .int x3, .int x4] (n := 5) (Nat.le_of_ble_eq_true rfl)
  rw [lg_entry_eq]
  generalize (lg_sl [.ref A_t, .int x1, .int x2, .int x3, .int x4] ++ List.replicate (5 - (lg_sl [.ref A_t, .int x1, .int x2, .int x3, .int x4]).length) Slot.unset).toArray = ls at hl ⊢
  have hl : lv_has ls 5 [(0, .ref A_t), (1, .int x1), (2, .int x2), (3, .int x3), (4, .int x4)] := hl
  refine W.gen (fun Q0 hQ => ?_)
  unfold P_X8_may at h
  refine lv_iload_n hx hb dX8_may_0 rfl (lv_at hl 1 rfl) ?_
  refine lv_iload_n hx hb dX8_may_1 rfl (lv_at hl 2 rfl) ?_
  refine vp_callSi (W.runS (As := [.int x1, .int x2]) (rest := []) CF (c_X8_isPair l x1 x2 _ h) (va_cwS 2 hts gX8_may_X8_isPair rfl rfl rfl qX8_isPair.2 ⟨Nat.le_of_ble_eq_true rfl, Nat.le_of_ble_eq_true rfl⟩) mpSN rfl rfl hl.1 rfl (lv_room (Nat.le_of_ble_eq_true rfl)) dX8_may_2 ⟨Nat.zero_le _, Nat.zero_le _⟩) (fun r1 h => ?_)
  refine lv_if_eq (tgt := 16) hx hb dX8_may_5 (by decide) (fun hc => ?_) (fun hc => ?_)
  · replace h := h.1 hc
    refine lv_iconst (v := -1) hx hb dX8_may_16 (by decide) ?_
    subst hQ
    subst hAe
    exact W.iret (v := (-1 : Int32)) hx hb hr (fun t ht _ => ⟨⟨(-1 : Int32), t_least, rfl, h, by rw [ht]; exact hP, hD⟩, hS.F ht⟩) hS.2.2 dX8_may_17
  · replace h := h.2 hc
    refine lv_iload hx hb dX8_may_8 (lv_at hl 4 rfl) ?_
    refine vp_callSi (W.runS (As := [.int x4]) (rest := []) CF (c_X8_isFlag l x4 _ h) (va_cwS 1 hts gX8_may_X8_isFlag rfl rfl rfl qX8_isFlag.2 ⟨Nat.le_of_ble_eq_true rfl, Nat.le_of_ble_eq_true rfl⟩) mpSN rfl rfl hl.1 rfl (lv_room (Nat.le_of_ble_eq_true rfl)) dX8_may_10 ⟨Nat.zero_le _, Nat.zero_le _⟩) (fun r2 h => ?_)
    refine lv_if_ne (tgt := 18) hx hb dX8_may_13 (by decide) (fun hc => ?_) (fun hc => ?_)
    · replace h := h.1 hc
      refine lv_aload_n hx hb dX8_may_18 rfl (lv_at hl 0 rfl) ?_
      refine lv_iload_n hx hb dX8_may_19 rfl (lv_at hl 1 rfl) ?_
      refine lv_iload_n hx hb dX8_may_20 rfl (lv_at hl 2 rfl) ?_
      refine lv_aload_n hx hb dX8_may_21 rfl (lv_at hl 0 rfl) ?_
      have hPc := hP.sub (ws' := [(A_t, .inr (8, [.ref A_t_state, .ref A_t_tape, .int t_taped, .int t_fault, .int t_broken, .int t_brokenAt, .int t_spot, .int t_here, .int t_token, .int t_value, .int t_isRealTold, .ref A_t_ends, .ref A_t_letters, .ref A_t_least, .ref A_t_conflicts, .int t_conflictMany, .ref A_t_behind, .ref A_t_placed, .ref A_t_isKept, .ref A_t_lanes, .ref A_t_lengths, .ref A_t_cells, .int t_torn])), (A_t_state, .inl (cy 1, 535, .inl t_state))]) [0, 1] rfl
      refine vp_callSi (W.runV (As := []) (rest := [.int x2, .int x1, .ref A_t]) CF (c_X8_isReal l D cy A_t A_t_state A_t_tape A_t_ends A_t_letters A_t_least A_t_conflicts A_t_behind A_t_placed A_t_isKept A_t_lanes A_t_lengths A_t_cells t_taped t_fault t_broken t_brokenAt t_spot t_here t_token t_value t_isRealTold t_conflictMany t_torn t_state _ h) (cwV 0 hts gX8_may_X8_isReal rfl rfl rfl qX8_isReal ⟨Nat.le_of_ble_eq_true rfl, Nat.le_of_ble_eq_true rfl⟩) (mpVR hK hPc (ci := 8) (q := (RX8, TX8, 23)) (q0 := 0) rfl rfl) rfl rfl hl.1 rfl (lv_room (Nat.le_of_ble_eq_true rfl)) dX8_may_22 ⟨Nat.zero_le _, Nat.zero_le _⟩) (fun r3 h => ?_)
      refine lv_iload_n hx hb dX8_may_25 rfl (lv_at hl 3 rfl) ?_
      refine lv_iload hx hb dX8_may_26 (lv_at hl 4 rfl) ?_
      refine vp_callSl (W.runS (As := [.int r3, .int x3, .int x4]) (rest := [.int x2, .int x1, .ref A_t]) CF (c_X8_weighed l r3 x3 x4 _ h) (va_cwS 3 hts gX8_may_X8_weighed rfl rfl rfl qX8_weighed.2 ⟨Nat.le_of_ble_eq_true rfl, Nat.le_of_ble_eq_true rfl⟩) mpSN rfl rfl hl.1 rfl (lv_room (Nat.le_of_ble_eq_true rfl)) dX8_may_28 ⟨Nat.zero_le _, Nat.zero_le _⟩) (fun r4 h => ?_)
      refine lv_bipush (v := -4) hx hb dX8_may_31 (by decide) ?_
      have hPn : va_P D vwCl ([] ++ [(A_t, .inr (8, [.ref A_t_state, .ref A_t_tape, .int t_taped, .int t_fault, .int t_broken, .int t_brokenAt, .int t_spot, .int t_here, .int t_token, .int t_value, .int t_isRealTold, .ref A_t_ends, .ref A_t_letters, .ref A_t_least, .ref A_t_conflicts, .int t_conflictMany, .ref A_t_behind, .ref A_t_placed, .ref A_t_isKept, .ref A_t_lanes, .ref A_t_lengths, .ref A_t_cells, .int t_torn])), (A_t_state, .inl (cy 1, 535, .inl t_state)), (A_t_least, .inl (cy 2, 100, .inr (.inl t_least)))]) s.heap := hP.sub [0, 1, 2] rfl
      have hDn : va_D A ([] ++ [(A_t, .inr (8, [.ref A_t_state, .ref A_t_tape, .int t_taped, .int t_fault, .int t_broken, .int t_brokenAt, .int t_spot, .int t_here, .int t_token, .int t_value, .int t_isRealTold, .ref A_t_ends, .ref A_t_letters, .ref A_t_least, .ref A_t_conflicts, .int t_conflictMany, .ref A_t_behind, .ref A_t_placed, .ref A_t_isKept, .ref A_t_lanes, .ref A_t_lengths, .ref A_t_cells, .int t_torn])), (A_t_state, .inl (cy 1, 535, .inl t_state)), (A_t_least, .inl (cy 2, 100, .inr (.inl t_least)))]) := hD.sub [0, 1, 2] (by decide) rfl
      have hPc := gPR hPn
      have hDc := gDR hDn
      refine mw_i (va_runV (As := [.int x1, .int x2, .long r4, .int (-4 : Int32)]) (rest := []) CF (c_X8_isAllowed l D cy s.heap.size A_t A_t_state A_t_tape A_t_ends A_t_letters A_t_least A_t_conflicts A_t_behind A_t_placed A_t_isKept A_t_lanes A_t_lengths A_t_cells t_taped t_fault t_broken t_brokenAt t_spot t_here t_token t_value t_isRealTold t_conflictMany t_torn t_state t_least x1 x2 r4 (-4 : Int32) _ h) (cwV 4 hts gX8_may_X8_isAllowed rfl rfl rfl qX8_isAllowed ⟨Nat.le_of_ble_eq_true rfl, Nat.le_of_ble_eq_true rfl⟩) (mpVW hK hPc hDc (ci := 8) (q := (RX8, TX8, 23)) (q0 := 0) rfl rfl) rfl rfl hl.1 rfl (lv_room (Nat.le_of_ble_eq_true rfl)) dX8_may_33 ⟨Nat.zero_le _, Nat.zero_le _⟩) hPn hDn hS hA (fun r5 t_least_v5 H locs h hP hD hS => ?_)
      have hP : va_P D vwCl [(A_t, .inr (8, [.ref A_t_state, .ref A_t_tape, .int t_taped, .int t_fault, .int t_broken, .int t_brokenAt, .int t_spot, .int t_here, .int t_token, .int t_value, .int t_isRealTold, .ref A_t_ends, .ref A_t_letters, .ref A_t_least, .ref A_t_conflicts, .int t_conflictMany, .ref A_t_behind, .ref A_t_placed, .ref A_t_isKept, .ref A_t_lanes, .ref A_t_lengths, .ref A_t_cells, .int t_torn])), (A_t_state, .inl (cy 1, 535, .inl t_state)), (A_t_least, .inl (cy 2, 100, .inr (.inl t_least_v5)))] H := hP.sub [0, 1, 2] rfl
      have hD : va_D A [(A_t, .inr (8, [.ref A_t_state, .ref A_t_tape, .int t_taped, .int t_fault, .int t_broken, .int t_brokenAt, .int t_spot, .int t_here, .int t_token, .int t_value, .int t_isRealTold, .ref A_t_ends, .ref A_t_letters, .ref A_t_least, .ref A_t_conflicts, .int t_conflictMany, .ref A_t_behind, .ref A_t_placed, .ref A_t_isKept, .ref A_t_lanes, .ref A_t_lengths, .ref A_t_cells, .int t_torn])), (A_t_state, .inl (cy 1, 535, .inl t_state)), (A_t_least, .inl (cy 2, 100, .inr (.inl t_least_v5)))] := hD.sub [0, 1, 2] (by decide) rfl
      refine lv_if_eq (tgt := 43) hx hb dX8_may_36 (by decide) (fun hc => ?_) (fun hc => ?_)
      · replace h := h.1 hc
        refine lv_iconst (v := 0) hx hb dX8_may_43 (by decide) ?_
        subst hQ
        subst hAe
        exact W.iret (v := (0 : Int32)) hx hb hr (fun t ht _ => ⟨⟨(0 : Int32), t_least_v5, rfl, h, by rw [ht]; exact hP, hD⟩, hS.F ht⟩) hS.2.2 dX8_may_44
      · replace h := h.2 hc
        refine lv_iconst (v := 1) hx hb dX8_may_39 (by decide) ?_
        refine lv_goto (tgt := 44) hx hb dX8_may_40 (by decide) ?_
        subst hQ
        subst hAe
        exact W.iret (v := (1 : Int32)) hx hb hr (fun t ht _ => ⟨⟨(1 : Int32), t_least_v5, rfl, h, by rw [ht]; exact hP, hD⟩, hS.F ht⟩) hS.2.2 dX8_may_44
    · replace h := h.2 hc
      refine lv_iconst (v := -1) hx hb dX8_may_16 (by decide) ?_
      subst hQ
      subst hAe
      exact W.iret (v := (-1 : Int32)) hx hb hr (fun t ht _ => ⟨⟨(-1 : Int32), t_least, rfl, h, by rw [ht]; exact hP, hD⟩, hS.F ht⟩) hS.2.2 dX8_may_17
theorem qX8_conflict : yX8_conflict.cls = RX8 ∧ yX8_conflict.cls ≠ "java/lang/invoke/MethodHandle" ∧ yX8_conflict.cls ≠ "java/lang/invoke/VarHandle" ∧ (parseMethodDescriptor yX8_conflict.desc).map (fun d => d.parameters.length) = some 1 := by decide +kernel
def P_X8_conflict (post : Int32 → Prop) (t_conflictMany : Int32) (t_conflicts : Nat → Int32) (x1 : Int32) : Prop :=
  ((0 ≤ x1 → ((t_conflictMany ≤ x1 → post (-4 : Int32)) ∧ (¬ t_conflictMany ≤ x1 → (vp_in x1 16 ∧ post (t_conflicts x1.toNatClampNeg))))) ∧ (¬ 0 ≤ x1 → post (-1 : Int32)))
set_option maxHeartbeats 4000000 in
set_option maxRecDepth 100000 in
theorem c_X8_conflict (l : Launch) (D : va_G) (cy : Nat → ClassId) (A_t A_t_state A_t_tape A_t_ends A_t_letters A_t_least A_t_conflicts A_t_behind A_t_placed A_t_isKept A_t_lanes A_t_lengths A_t_cells : Nat) (t_taped : Int32) (t_fault : Int32) (t_broken : Int32) (t_brokenAt : Int32) (t_spot : Int32) (t_here : Int32) (t_token : Int32) (t_value : Int32) (t_isRealTold : Int32) (t_conflictMany : Int32) (t_torn : Int32) (t_conflicts : Nat → Int32) (x1 : Int32) (post : Int32 → Prop) (h : P_X8_conflict post t_conflictMany t_conflicts x1) : Met l yX8_conflict wsX8_conflict { frames := 0, cells := 0, slots := 0, locals := 0 } (pcR D cy [(A_t, .inr (8, [.ref A_t_state, .ref A_t_tape, .int t_taped, .int t_fault, .int t_broken, .int t_brokenAt, .int t_spot, .int t_here, .int t_token, .int t_value, .int t_isRealTold, .ref A_t_ends, .ref A_t_letters, .ref A_t_least, .ref A_t_conflicts, .int t_conflictMany, .ref A_t_behind, .ref A_t_placed, .ref A_t_isKept, .ref A_t_lanes, .ref A_t_lengths, .ref A_t_cells, .int t_torn])), (A_t_conflicts, .inl (cy 1, 16, .inl t_conflicts))] [.ref A_t, .int x1]) (vp_Si post) 0 0 (fun _ => False) := by
  refine Met.ofW (cc := cX8_conflict) (maxL := 2) (ret := (some .int)) (by decide) rfl ?_
  intro p e s m args below meth c s₁ B hml hv
  obtain ⟨rfl, hP, hK⟩ := hv
  have hx := B.exec
  have hb := B.bytes
  have hr := B.returns
  have hts := atoms_spec (ws := wsX8_conflict) B.pre
  have hown : s.vm.findClass RX8 = some m.cls := findClass_of_methodNamed B.named
  have hlocks := B.notSynchronized
  have CF : CallFix p m c cX8_conflict 2 s ([.ref A_t, .int x1] : List Value).toArray wsX8_conflict RX8 := ⟨hx, hb, hml, hown, hts⟩
  have f0 := hts (.fieldLink RX8 136 "GapBoundsModel" "conflictMany" "I") (by decide +kernel)
  have f1 := hts (.fieldLink RX8 26 "GapBoundsModel" "conflicts" "[I") (by decide +kernel)
  have iX8 : ∀ w ∈ u_ws RX8 TX8 23, w ∈ wsX8_conflict := by decide +kernel
  have hl := lv_entry [.ref A_t, .int x1] (n := 2) (Nat.le_of_ble_eq_true rfl)
  rw [lg_entry_eq]
  generalize (lg_sl [.ref A_t, .int x1] ++ List.replicate (2 - (lg_sl [.ref A_t, .int x1]).length) Slot.unset).toArray = ls at hl ⊢
  have hl : lv_has ls 2 [(0, .ref A_t), (1, .int x1)] := hl
  refine W.gen (fun Q0 hQ => ?_)
  unfold P_X8_conflict at h
  refine lv_iload_n hx hb dX8_conflict_0 rfl (lv_at hl 1 rfl) ?_
  refine lv_if_ge (tgt := 8) hx hb dX8_conflict_1 (by decide) (fun hc => ?_) (fun hc => ?_)
  · replace h := h.1 hc
    refine lv_iload_n hx hb dX8_conflict_8 rfl (lv_at hl 1 rfl) ?_
    refine lv_aload_n hx hb dX8_conflict_9 rfl (lv_at hl 0 rfl) ?_
    refine va_get (D := D) (ci := 8) (v := .int t_conflictMany) (C := RX8) (T := TX8) (N := 23) hx hb hts iX8 hown hK.1 hP 0 rfl rfl 15 (by decide) f0 (fun _ h9 => h9) rfl dX8_conflict_10 ?_
    refine lv_icmp_ge (tgt := 25) hx hb dX8_conflict_13 (by decide) (fun hc => ?_) (fun hc => ?_)
    · replace h := h.1 hc
      refine lv_bipush (v := -4) hx hb dX8_conflict_25 (by decide) ?_
      subst hQ
      exact W.iret (v := (-4 : Int32)) hx hb hr (fun t ht _ => ⟨(-4 : Int32), rfl, h, ht⟩) (fun _ hq => absurd hq List.not_mem_nil) dX8_conflict_27
    · replace h := h.2 hc
      refine lv_aload_n hx hb dX8_conflict_16 rfl (lv_at hl 0 rfl) ?_
      refine va_get (D := D) (ci := 8) (v := .ref A_t_conflicts) (C := RX8) (T := TX8) (N := 23) hx hb hts iX8 hown hK.1 hP 0 rfl rfl 14 (by decide) f1 (fun _ h9 => h9) rfl dX8_conflict_17 ?_
      refine lv_iload_n hx hb dX8_conflict_20 rfl (lv_at hl 1 rfl) ?_
      refine va_iald hx hb hK.1 hP 1 1 rfl rfl h.1 dX8_conflict_21 ?_
      replace h := h.2
      refine lv_goto (tgt := 27) hx hb dX8_conflict_22 (by decide) ?_
      subst hQ
      exact W.iret (v := t_conflicts x1.toNatClampNeg) hx hb hr (fun t ht _ => ⟨t_conflicts x1.toNatClampNeg, rfl, h, ht⟩) (fun _ hq => absurd hq List.not_mem_nil) dX8_conflict_27
  · replace h := h.2 hc
    refine lv_iconst (v := -1) hx hb dX8_conflict_4 (by decide) ?_
    refine lv_goto (tgt := 27) hx hb dX8_conflict_5 (by decide) ?_
    subst hQ
    exact W.iret (v := (-1 : Int32)) hx hb hr (fun t ht _ => ⟨(-1 : Int32), rfl, h, ht⟩) (fun _ hq => absurd hq List.not_mem_nil) dX8_conflict_27
theorem qX8_drop : yX8_drop.cls = RX8 ∧ yX8_drop.cls ≠ "java/lang/invoke/MethodHandle" ∧ yX8_drop.cls ≠ "java/lang/invoke/VarHandle" ∧ (parseMethodDescriptor yX8_drop.desc).map (fun d => d.parameters.length) = some 1 := by decide +kernel
def B_X8_drop_117 (K_78 : (Nat → Int32) → Int32 → Prop) (t_state : Nat → Int32) (k1 : Int32) (k2 : Int32) (k3 : Int32) (x2 : Int32) : Prop :=
  (vp_in k1 535 ∧ K_78 (upd t_state k1.toNatClampNeg (k2 - k3)) (x2 + (1 : Int32)))
def LB_X8_drop_78 (post : Int32 → (Nat → Int32) → Prop) (x1 : Int32) (K_78 : (Nat → Int32) → Int32 → Prop) (t_state : Nat → Int32) (x2 : Int32) : Prop :=
  (vp_in (106 : Int32) 535 ∧ ((t_state (106 : Int32).toNatClampNeg ≤ x2 → P_X8_many (fun (r3 : Int32) => post r3 t_state) t_state) ∧ (¬ t_state (106 : Int32).toNatClampNeg ≤ x2 → (vp_in ((96 : Int32) + x2) 535 ∧ (vp_in ((96 : Int32) + x2) 535 ∧ ((t_state ((96 : Int32) + x2).toNatClampNeg ≤ x1 → B_X8_drop_117 K_78 t_state ((96 : Int32) + x2) (t_state ((96 : Int32) + x2).toNatClampNeg) (0 : Int32) x2) ∧ (¬ t_state ((96 : Int32) + x2).toNatClampNeg ≤ x1 → B_X8_drop_117 K_78 t_state ((96 : Int32) + x2) (t_state ((96 : Int32) + x2).toNatClampNeg) (1 : Int32) x2)))))))
noncomputable def L_X8_drop_78 (post : Int32 → (Nat → Int32) → Prop) (x1 : Int32) (n : Nat) : (Nat → Int32) → Int32 → Prop := Nat.rec (motive := fun _ => (Nat → Int32) → Int32 → Prop) (fun _ _ => False) (fun _ K => LB_X8_drop_78 post x1 K) n
def LB_X8_drop_24 (K_12 : (Nat → Int32) → Int32 → Prop) (x2 : Int32) (K_24 : (Nat → Int32) → Int32 → Prop) (t_state : Nat → Int32) (x3 : Int32) : Prop :=
  (((4 : Int32) ≤ x3 → K_12 t_state (x2 + (1 : Int32))) ∧ (¬ (4 : Int32) ≤ x3 → (vp_in ((((24 : Int32) * x3) + x2) + (1 : Int32)) 535 ∧ (vp_in (((24 : Int32) * x3) + x2) 535 ∧ K_24 (upd t_state (((24 : Int32) * x3) + x2).toNatClampNeg (t_state ((((24 : Int32) * x3) + x2) + (1 : Int32)).toNatClampNeg)) (x3 + (1 : Int32))))))
noncomputable def L_X8_drop_24 (K_12 : (Nat → Int32) → Int32 → Prop) (x2 : Int32) (n : Nat) : (Nat → Int32) → Int32 → Prop := Nat.rec (motive := fun _ => (Nat → Int32) → Int32 → Prop) (fun _ _ => False) (fun _ K => LB_X8_drop_24 K_12 x2 K) n
def LB_X8_drop_12 (post : Int32 → (Nat → Int32) → Prop) (x1 : Int32) (K_12 : (Nat → Int32) → Int32 → Prop) (t_state : Nat → Int32) (x2 : Int32) : Prop :=
  P_X8_many (fun (r2 : Int32) => ((r2 ≤ x2 + (1 : Int32) → (vp_in (104 : Int32) 535 ∧ (vp_in (104 : Int32) 535 ∧ ∃ n : Nat, L_X8_drop_78 post x1 n (upd t_state (104 : Int32).toNatClampNeg ((t_state (104 : Int32).toNatClampNeg) - (1 : Int32))) (0 : Int32)))) ∧ (¬ r2 ≤ x2 + (1 : Int32) → ∃ n : Nat, L_X8_drop_24 K_12 x2 n t_state (0 : Int32)))) t_state
noncomputable def L_X8_drop_12 (post : Int32 → (Nat → Int32) → Prop) (x1 : Int32) (n : Nat) : (Nat → Int32) → Int32 → Prop := Nat.rec (motive := fun _ => (Nat → Int32) → Int32 → Prop) (fun _ _ => False) (fun _ K => LB_X8_drop_12 post x1 K) n
def P_X8_drop (post : Int32 → (Nat → Int32) → Prop) (t_state : Nat → Int32) (x1 : Int32) : Prop :=
  P_X8_isBound (fun (r1 : Int32) => ((¬ r1 = 0 → ∃ n : Nat, L_X8_drop_12 post x1 n t_state x1) ∧ (r1 = 0 → post (-1 : Int32) t_state))) t_state x1
set_option maxHeartbeats 4000000 in
set_option maxRecDepth 100000 in
theorem c_X8_drop (l : Launch) (D : va_G) (cy : Nat → ClassId) (sz : Nat) (A_t A_t_state A_t_tape A_t_ends A_t_letters A_t_least A_t_conflicts A_t_behind A_t_placed A_t_isKept A_t_lanes A_t_lengths A_t_cells : Nat) (t_taped : Int32) (t_fault : Int32) (t_broken : Int32) (t_brokenAt : Int32) (t_spot : Int32) (t_here : Int32) (t_token : Int32) (t_value : Int32) (t_isRealTold : Int32) (t_conflictMany : Int32) (t_torn : Int32) (t_state : Nat → Int32) (x1 : Int32) (post : Int32 → (Nat → Int32) → Prop) (h : P_X8_drop post t_state x1) : Met l yX8_drop wsX8_drop { frames := 2, cells := 0, slots := 0, locals := 46 } (pcW D cy [(A_t, .inr (8, [.ref A_t_state, .ref A_t_tape, .int t_taped, .int t_fault, .int t_broken, .int t_brokenAt, .int t_spot, .int t_here, .int t_token, .int t_value, .int t_isRealTold, .ref A_t_ends, .ref A_t_letters, .ref A_t_least, .ref A_t_conflicts, .int t_conflictMany, .ref A_t_behind, .ref A_t_placed, .ref A_t_isKept, .ref A_t_lanes, .ref A_t_lengths, .ref A_t_cells, .int t_torn])), (A_t_state, .inl (cy 1, 535, .inl t_state))] sz [.ref A_t, .int x1]) (va_Qi (fun r (u : (Nat → Int32)) => post r u) (bW D [(A_t, .inr (8, [.ref A_t_state, .ref A_t_tape, .int t_taped, .int t_fault, .int t_broken, .int t_brokenAt, .int t_spot, .int t_here, .int t_token, .int t_value, .int t_isRealTold, .ref A_t_ends, .ref A_t_letters, .ref A_t_least, .ref A_t_conflicts, .int t_conflictMany, .ref A_t_behind, .ref A_t_placed, .ref A_t_isKept, .ref A_t_lanes, .ref A_t_lengths, .ref A_t_cells, .int t_torn])), (A_t_state, .inl (cy 1, 535, .inl t_state))] sz (fun u => [(A_t, .inr (8, [.ref A_t_state, .ref A_t_tape, .int t_taped, .int t_fault, .int t_broken, .int t_brokenAt, .int t_spot, .int t_here, .int t_token, .int t_value, .int t_isRealTold, .ref A_t_ends, .ref A_t_letters, .ref A_t_least, .ref A_t_conflicts, .int t_conflictMany, .ref A_t_behind, .ref A_t_placed, .ref A_t_isKept, .ref A_t_lanes, .ref A_t_lengths, .ref A_t_cells, .int t_torn])), (A_t_state, .inl (cy 1, 535, .inl u))])) (va_A [(A_t, .inr (8, [.ref A_t_state, .ref A_t_tape, .int t_taped, .int t_fault, .int t_broken, .int t_brokenAt, .int t_spot, .int t_here, .int t_token, .int t_value, .int t_isRealTold, .ref A_t_ends, .ref A_t_letters, .ref A_t_least, .ref A_t_conflicts, .int t_conflictMany, .ref A_t_behind, .ref A_t_placed, .ref A_t_isKept, .ref A_t_lanes, .ref A_t_lengths, .ref A_t_cells, .int t_torn])), (A_t_state, .inl (cy 1, 535, .inl t_state))] sz)) 0 0 (va_A [(A_t, .inr (8, [.ref A_t_state, .ref A_t_tape, .int t_taped, .int t_fault, .int t_broken, .int t_brokenAt, .int t_spot, .int t_here, .int t_token, .int t_value, .int t_isRealTold, .ref A_t_ends, .ref A_t_letters, .ref A_t_least, .ref A_t_conflicts, .int t_conflictMany, .ref A_t_behind, .ref A_t_placed, .ref A_t_isKept, .ref A_t_lanes, .ref A_t_lengths, .ref A_t_cells, .int t_torn])), (A_t_state, .inl (cy 1, 535, .inl t_state))] sz) := by
  refine Met.ofW (cc := cX8_drop) (maxL := 4) (ret := (some .int)) (by decide) rfl ?_
  intro p e s m args below meth c s₁ B hml hv
  obtain ⟨rfl, hsz, hP, hK, hD0⟩ := hv
  have hx := B.exec
  have hb := B.bytes
  have hr := B.returns
  have hts := atoms_spec (ws := wsX8_drop) B.pre
  have hown : s.vm.findClass RX8 = some m.cls := findClass_of_methodNamed B.named
  have hlocks := B.notSynchronized
  have CF : CallFix p m c cX8_drop 4 s ([.ref A_t, .int x1] : List Value).toArray wsX8_drop RX8 := ⟨hx, hb, hml, hown, hts⟩
  have f0 := hts (.fieldLink RX8 7 "GapBoundsModel" "state" "[I") (by decide +kernel)
  have iX8 : ∀ w ∈ u_ws RX8 TX8 23, w ∈ wsX8_drop := by decide +kernel
  subst hsz
  obtain ⟨A, hAe⟩ : ∃ A, A = va_A [(A_t, .inr (8, [.ref A_t_state, .ref A_t_tape, .int t_taped, .int t_fault, .int t_broken, .int t_brokenAt, .int t_spot, .int t_here, .int t_token, .int t_value, .int t_isRealTold, .ref A_t_ends, .ref A_t_letters, .ref A_t_least, .ref A_t_conflicts, .int t_conflictMany, .ref A_t_behind, .ref A_t_placed, .ref A_t_isKept, .ref A_t_lanes, .ref A_t_lengths, .ref A_t_cells, .int t_torn])), (A_t_state, .inl (cy 1, 535, .inl t_state))] s.heap.size := ⟨_, rfl⟩
  have hD : va_D A [(A_t, .inr (8, [.ref A_t_state, .ref A_t_tape, .int t_taped, .int t_fault, .int t_broken, .int t_brokenAt, .int t_spot, .int t_here, .int t_token, .int t_value, .int t_isRealTold, .ref A_t_ends, .ref A_t_letters, .ref A_t_least, .ref A_t_conflicts, .int t_conflictMany, .ref A_t_behind, .ref A_t_placed, .ref A_t_isKept, .ref A_t_lanes, .ref A_t_lengths, .ref A_t_cells, .int t_torn])), (A_t_state, .inl (cy 1, 535, .inl t_state))] := by rw [hAe]; exact hD0.self
  have hA : ∀ q : Nat, s.heap.size ≤ q → A q := fun q hq => by rw [hAe]; exact Or.inr hq
  have hS : va_S A s.heap s.heap [] := va_S.rf
  have hl := lv_entry [.ref A_t, .int x1] (n := 4) (Nat.le_of_ble_eq_true rfl)
  rw [lg_entry_eq]
  generalize (lg_sl [.ref A_t, .int x1] ++ List.replicate (4 - (lg_sl [.ref A_t, .int x1]).length) Slot.unset).toArray = ls at hl ⊢
  have hl : lv_has ls 4 [(0, .ref A_t), (1, .int x1)] := hl
  refine W.gen (fun Q0 hQ => ?_)
  have L78 : ∀ (n78 : Nat) (t_state : Nat → Int32) (x2 : Int32) (H : Heap) (locs : List Loc) (ls : Array Slot), L_X8_drop_78 post x1 n78 t_state x2 → va_P D vwCl [(A_t, .inr (8, [.ref A_t_state, .ref A_t_tape, .int t_taped, .int t_fault, .int t_broken, .int t_brokenAt, .int t_spot, .int t_here, .int t_token, .int t_value, .int t_isRealTold, .ref A_t_ends, .ref A_t_letters, .ref A_t_least, .ref A_t_conflicts, .int t_conflictMany, .ref A_t_behind, .ref A_t_placed, .ref A_t_isKept, .ref A_t_lanes, .ref A_t_lengths, .ref A_t_cells, .int t_torn])), (A_t_state, .inl (cy 1, 535, .inl t_state))] H → va_D A [(A_t, .inr (8, [.ref A_t_state, .ref A_t_tape, .int t_taped, .int t_fault, .int t_broken, .int t_brokenAt, .int t_spot, .int t_here, .int t_token, .int t_value, .int t_isRealTold, .ref A_t_ends, .ref A_t_letters, .ref A_t_least, .ref A_t_conflicts, .int t_conflictMany, .ref A_t_behind, .ref A_t_placed, .ref A_t_isKept, .ref A_t_lanes, .ref A_t_lengths, .ref A_t_cells, .int t_torn])), (A_t_state, .inl (cy 1, 535, .inl t_state))] → va_S A s.heap H locs → lv_has ls 4 [(0, .ref A_t), (1, .int x1), (2, .int x2)] → W p l e (headSpec wsX8_drop { frames := 2, cells := 0, slots := 0, locals := 46 }).room s m ([.ref A_t, .int x1] : List Value).toArray below meth c H locs 0 0 Q0 (F0 m 78 ls []) := by
    intro n78
    induction n78 with
    | zero => intro t_state x2 H locs ls h; exact False.elim h
    | succ n78 ih78 =>
      intro t_state x2 H locs ls h hP hD hS hl
      have h : LB_X8_drop_78 post x1 (L_X8_drop_78 post x1 n78) t_state x2 := h
      unfold LB_X8_drop_78 at h
      have J117 : ∀ (t_state : Nat → Int32) (x2 : Int32) (k1 : Int32) (k2 : Int32) (k3 : Int32) (H : Heap) (locs : List Loc) (ls : Array Slot), B_X8_drop_117 (L_X8_drop_78 post x1 n78) t_state k1 k2 k3 x2 → va_P D vwCl [(A_t, .inr (8, [.ref A_t_state, .ref A_t_tape, .int t_taped, .int t_fault, .int t_broken, .int t_brokenAt, .int t_spot, .int t_here, .int t_token, .int t_value, .int t_isRealTold, .ref A_t_ends, .ref A_t_letters, .ref A_t_least, .ref A_t_conflicts, .int t_conflictMany, .ref A_t_behind, .ref A_t_placed, .ref A_t_isKept, .ref A_t_lanes, .ref A_t_lengths, .ref A_t_cells, .int t_torn])), (A_t_state, .inl (cy 1, 535, .inl t_state))] H → va_D A [(A_t, .inr (8, [.ref A_t_state, .ref A_t_tape, .int t_taped, .int t_fault, .int t_broken, .int t_brokenAt, .int t_spot, .int t_here, .int t_token, .int t_value, .int t_isRealTold, .ref A_t_ends, .ref A_t_letters, .ref A_t_least, .ref A_t_conflicts, .int t_conflictMany, .ref A_t_behind, .ref A_t_placed, .ref A_t_isKept, .ref A_t_lanes, .ref A_t_lengths, .ref A_t_cells, .int t_torn])), (A_t_state, .inl (cy 1, 535, .inl t_state))] → va_S A s.heap H locs → lv_has ls 4 [(0, .ref A_t), (1, .int x1), (2, .int x2)] → W p l e (headSpec wsX8_drop { frames := 2, cells := 0, slots := 0, locals := 46 }).room s m ([.ref A_t, .int x1] : List Value).toArray below meth c H locs 0 0 Q0 (F0 m 117 ls [.int k3, .int k2, .int k1, .ref A_t_state]) := by
        intro t_state x2 k1 k2 k3 H locs ls h hP hD hS hl
        unfold B_X8_drop_117 at h
        refine lv_isub hx hb dX8_drop_117 ?_
        refine va_iast hx hb hK.1 hP hD hS 1 1 rfl rfl h.1 dX8_drop_118 (fun H locs hP hD hS => ?_)
        replace h := h.2
        have hP : va_P D vwCl [(A_t, .inr (8, [.ref A_t_state, .ref A_t_tape, .int t_taped, .int t_fault, .int t_broken, .int t_brokenAt, .int t_spot, .int t_here, .int t_token, .int t_value, .int t_isRealTold, .ref A_t_ends, .ref A_t_letters, .ref A_t_least, .ref A_t_conflicts, .int t_conflictMany, .ref A_t_behind, .ref A_t_placed, .ref A_t_isKept, .ref A_t_lanes, .ref A_t_lengths, .ref A_t_cells, .int t_torn])), (A_t_state, .inl (cy 1, 535, .inl (upd t_state k1.toNatClampNeg (k2 - k3))))] H := hP
        have hD : va_D A [(A_t, .inr (8, [.ref A_t_state, .ref A_t_tape, .int t_taped, .int t_fault, .int t_broken, .int t_brokenAt, .int t_spot, .int t_here, .int t_token, .int t_value, .int t_isRealTold, .ref A_t_ends, .ref A_t_letters, .ref A_t_least, .ref A_t_conflicts, .int t_conflictMany, .ref A_t_behind, .ref A_t_placed, .ref A_t_isKept, .ref A_t_lanes, .ref A_t_lengths, .ref A_t_cells, .int t_torn])), (A_t_state, .inl (cy 1, 535, .inl (upd t_state k1.toNatClampNeg (k2 - k3))))] := hD
        refine lv_iinc (v := x2 + (1 : Int32)) (lv' := [(2, .int (x2 + (1 : Int32))), (0, .ref A_t), (1, .int x1)]) hx hb dX8_drop_119 hl (k := 2) rfl rfl (by decide) rfl (fun ls hl => ?_)
        refine lv_goto (tgt := 78) hx hb dX8_drop_122 (by decide) ?_
        exact ih78 (upd t_state k1.toNatClampNeg (k2 - k3)) (x2 + (1 : Int32)) H locs ls h hP hD hS (lv_sub hl [1, 2, 0] rfl)
      refine lv_iload_n hx hb dX8_drop_78 rfl (lv_at hl 2 rfl) ?_
      refine lv_aload_n hx hb dX8_drop_79 rfl (lv_at hl 0 rfl) ?_
      refine va_get (D := D) (ci := 8) (v := .ref A_t_state) (C := RX8) (T := TX8) (N := 23) hx hb hts iX8 hown hK.1 hP 0 rfl rfl 0 (by decide) f0 (fun _ h9 => h9) rfl dX8_drop_80 ?_
      refine lv_bipush (v := 106) hx hb dX8_drop_83 (by decide) ?_
      refine va_iald hx hb hK.1 hP 1 1 rfl rfl h.1 dX8_drop_85 ?_
      replace h := h.2
      refine lv_icmp_ge (tgt := 125) hx hb dX8_drop_86 (by decide) (fun hc => ?_) (fun hc => ?_)
      · replace h := h.1 hc
        refine lv_aload_n hx hb dX8_drop_125 rfl (lv_at hl 0 rfl) ?_
        have hPc := hP.sub (ws' := [(A_t, .inr (8, [.ref A_t_state, .ref A_t_tape, .int t_taped, .int t_fault, .int t_broken, .int t_brokenAt, .int t_spot, .int t_here, .int t_token, .int t_value, .int t_isRealTold, .ref A_t_ends, .ref A_t_letters, .ref A_t_least, .ref A_t_conflicts, .int t_conflictMany, .ref A_t_behind, .ref A_t_placed, .ref A_t_isKept, .ref A_t_lanes, .ref A_t_lengths, .ref A_t_cells, .int t_torn])), (A_t_state, .inl (cy 1, 535, .inl t_state))]) [0, 1] rfl
        refine vp_callSi (W.runV (As := []) (rest := []) CF (c_X8_many l D cy A_t A_t_state A_t_tape A_t_ends A_t_letters A_t_least A_t_conflicts A_t_behind A_t_placed A_t_isKept A_t_lanes A_t_lengths A_t_cells t_taped t_fault t_broken t_brokenAt t_spot t_here t_token t_value t_isRealTold t_conflictMany t_torn t_state _ h) (cwV 0 hts gX8_drop_X8_many rfl rfl rfl qX8_many ⟨Nat.le_of_ble_eq_true rfl, Nat.le_of_ble_eq_true rfl⟩) (mpVR hK hPc (ci := 8) (q := (RX8, TX8, 23)) (q0 := 0) rfl rfl) rfl rfl hl.1 rfl (lv_room (Nat.le_of_ble_eq_true rfl)) dX8_drop_126 ⟨Nat.zero_le _, Nat.zero_le _⟩) (fun r3 h => ?_)
        subst hQ
        subst hAe
        exact W.iret (v := r3) hx hb hr (fun t ht _ => ⟨⟨r3, t_state, rfl, h, by rw [ht]; exact hP, hD⟩, hS.F ht⟩) hS.2.2 dX8_drop_129
      · replace h := h.2 hc
        refine lv_aload_n hx hb dX8_drop_89 rfl (lv_at hl 0 rfl) ?_
        refine va_get (D := D) (ci := 8) (v := .ref A_t_state) (C := RX8) (T := TX8) (N := 23) hx hb hts iX8 hown hK.1 hP 0 rfl rfl 0 (by decide) f0 (fun _ h9 => h9) rfl dX8_drop_90 ?_
        refine lv_bipush (v := 96) hx hb dX8_drop_93 (by decide) ?_
        refine lv_iload_n hx hb dX8_drop_95 rfl (lv_at hl 2 rfl) ?_
        refine lv_iadd hx hb dX8_drop_96 ?_
        refine lv_dup2_11 hx hb dX8_drop_97 rfl rfl ?_
        refine va_iald hx hb hK.1 hP 1 1 rfl rfl h.1 dX8_drop_98 ?_
        replace h := h.2
        refine lv_aload_n hx hb dX8_drop_99 rfl (lv_at hl 0 rfl) ?_
        refine va_get (D := D) (ci := 8) (v := .ref A_t_state) (C := RX8) (T := TX8) (N := 23) hx hb hts iX8 hown hK.1 hP 0 rfl rfl 0 (by decide) f0 (fun _ h9 => h9) rfl dX8_drop_100 ?_
        refine lv_bipush (v := 96) hx hb dX8_drop_103 (by decide) ?_
        refine lv_iload_n hx hb dX8_drop_105 rfl (lv_at hl 2 rfl) ?_
        refine lv_iadd hx hb dX8_drop_106 ?_
        refine va_iald hx hb hK.1 hP 1 1 rfl rfl h.1 dX8_drop_107 ?_
        replace h := h.2
        refine lv_iload_n hx hb dX8_drop_108 rfl (lv_at hl 1 rfl) ?_
        refine lv_icmp_le (tgt := 116) hx hb dX8_drop_109 (by decide) (fun hc => ?_) (fun hc => ?_)
        · replace h := h.1 hc
          refine lv_iconst (v := 0) hx hb dX8_drop_116 (by decide) ?_
          exact J117 t_state x2 ((96 : Int32) + x2) (t_state ((96 : Int32) + x2).toNatClampNeg) (0 : Int32) H locs ls h hP hD hS (lv_sub hl [0, 1, 2] rfl)
        · replace h := h.2 hc
          refine lv_iconst (v := 1) hx hb dX8_drop_112 (by decide) ?_
          refine lv_goto (tgt := 117) hx hb dX8_drop_113 (by decide) ?_
          exact J117 t_state x2 ((96 : Int32) + x2) (t_state ((96 : Int32) + x2).toNatClampNeg) (1 : Int32) H locs ls h hP hD hS (lv_sub hl [0, 1, 2] rfl)
  have L12 : ∀ (n12 : Nat) (t_state : Nat → Int32) (x2 : Int32) (H : Heap) (locs : List Loc) (ls : Array Slot), L_X8_drop_12 post x1 n12 t_state x2 → va_P D vwCl [(A_t, .inr (8, [.ref A_t_state, .ref A_t_tape, .int t_taped, .int t_fault, .int t_broken, .int t_brokenAt, .int t_spot, .int t_here, .int t_token, .int t_value, .int t_isRealTold, .ref A_t_ends, .ref A_t_letters, .ref A_t_least, .ref A_t_conflicts, .int t_conflictMany, .ref A_t_behind, .ref A_t_placed, .ref A_t_isKept, .ref A_t_lanes, .ref A_t_lengths, .ref A_t_cells, .int t_torn])), (A_t_state, .inl (cy 1, 535, .inl t_state))] H → va_D A [(A_t, .inr (8, [.ref A_t_state, .ref A_t_tape, .int t_taped, .int t_fault, .int t_broken, .int t_brokenAt, .int t_spot, .int t_here, .int t_token, .int t_value, .int t_isRealTold, .ref A_t_ends, .ref A_t_letters, .ref A_t_least, .ref A_t_conflicts, .int t_conflictMany, .ref A_t_behind, .ref A_t_placed, .ref A_t_isKept, .ref A_t_lanes, .ref A_t_lengths, .ref A_t_cells, .int t_torn])), (A_t_state, .inl (cy 1, 535, .inl t_state))] → va_S A s.heap H locs → lv_has ls 4 [(0, .ref A_t), (1, .int x1), (2, .int x2)] → W p l e (headSpec wsX8_drop { frames := 2, cells := 0, slots := 0, locals := 46 }).room s m ([.ref A_t, .int x1] : List Value).toArray below meth c H locs 0 0 Q0 (F0 m 12 ls []) := by
    intro n12
    induction n12 with
    | zero => intro t_state x2 H locs ls h; exact False.elim h
    | succ n12 ih12 =>
      intro t_state x2 H locs ls h hP hD hS hl
      have h : LB_X8_drop_12 post x1 (L_X8_drop_12 post x1 n12) t_state x2 := h
      unfold LB_X8_drop_12 at h
      have L24 : ∀ (n24 : Nat) (t_state : Nat → Int32) (x2 : Int32) (x3 : Int32) (H : Heap) (locs : List Loc) (ls : Array Slot), L_X8_drop_24 (L_X8_drop_12 post x1 n12) x2 n24 t_state x3 → va_P D vwCl [(A_t, .inr (8, [.ref A_t_state, .ref A_t_tape, .int t_taped, .int t_fault, .int t_broken, .int t_brokenAt, .int t_spot, .int t_here, .int t_token, .int t_value, .int t_isRealTold, .ref A_t_ends, .ref A_t_letters, .ref A_t_least, .ref A_t_conflicts, .int t_conflictMany, .ref A_t_behind, .ref A_t_placed, .ref A_t_isKept, .ref A_t_lanes, .ref A_t_lengths, .ref A_t_cells, .int t_torn])), (A_t_state, .inl (cy 1, 535, .inl t_state))] H → va_D A [(A_t, .inr (8, [.ref A_t_state, .ref A_t_tape, .int t_taped, .int t_fault, .int t_broken, .int t_brokenAt, .int t_spot, .int t_here, .int t_token, .int t_value, .int t_isRealTold, .ref A_t_ends, .ref A_t_letters, .ref A_t_least, .ref A_t_conflicts, .int t_conflictMany, .ref A_t_behind, .ref A_t_placed, .ref A_t_isKept, .ref A_t_lanes, .ref A_t_lengths, .ref A_t_cells, .int t_torn])), (A_t_state, .inl (cy 1, 535, .inl t_state))] → va_S A s.heap H locs → lv_has ls 4 [(0, .ref A_t), (1, .int x1), (2, .int x2), (3, .int x3)] → W p l e (headSpec wsX8_drop { frames := 2, cells := 0, slots := 0, locals := 46 }).room s m ([.ref A_t, .int x1] : List Value).toArray below meth c H locs 0 0 Q0 (F0 m 24 ls []) := by
        intro n24
        induction n24 with
        | zero => intro t_state x2 x3 H locs ls h; exact False.elim h
        | succ n24 ih24 =>
          intro t_state x2 x3 H locs ls h hP hD hS hl
          have h : LB_X8_drop_24 (L_X8_drop_12 post x1 n12) x2 (L_X8_drop_24 (L_X8_drop_12 post x1 n12) x2 n24) t_state x3 := h
          unfold LB_X8_drop_24 at h
          refine lv_iload_n hx hb dX8_drop_24 rfl (lv_at hl 3 rfl) ?_
          refine lv_iconst (v := 4) hx hb dX8_drop_25 (by decide) ?_
          refine lv_icmp_ge (tgt := 59) hx hb dX8_drop_26 (by decide) (fun hc => ?_) (fun hc => ?_)
          · replace h := h.1 hc
            refine lv_iinc (v := x2 + (1 : Int32)) (lv' := [(2, .int (x2 + (1 : Int32))), (0, .ref A_t), (1, .int x1), (3, .int x3)]) hx hb dX8_drop_59 hl (k := 2) rfl rfl (by decide) rfl (fun ls hl => ?_)
            refine lv_goto (tgt := 12) hx hb dX8_drop_62 (by decide) ?_
            exact ih12 t_state (x2 + (1 : Int32)) H locs ls h hP hD hS (lv_sub hl [1, 2, 0] rfl)
          · replace h := h.2 hc
            refine lv_aload_n hx hb dX8_drop_29 rfl (lv_at hl 0 rfl) ?_
            refine va_get (D := D) (ci := 8) (v := .ref A_t_state) (C := RX8) (T := TX8) (N := 23) hx hb hts iX8 hown hK.1 hP 0 rfl rfl 0 (by decide) f0 (fun _ h9 => h9) rfl dX8_drop_30 ?_
            refine lv_bipush (v := 24) hx hb dX8_drop_33 (by decide) ?_
            refine lv_iload_n hx hb dX8_drop_35 rfl (lv_at hl 3 rfl) ?_
            refine lv_imul hx hb dX8_drop_36 ?_
            refine lv_iload_n hx hb dX8_drop_37 rfl (lv_at hl 2 rfl) ?_
            refine lv_iadd hx hb dX8_drop_38 ?_
            refine lv_aload_n hx hb dX8_drop_39 rfl (lv_at hl 0 rfl) ?_
            refine va_get (D := D) (ci := 8) (v := .ref A_t_state) (C := RX8) (T := TX8) (N := 23) hx hb hts iX8 hown hK.1 hP 0 rfl rfl 0 (by decide) f0 (fun _ h9 => h9) rfl dX8_drop_40 ?_
            refine lv_bipush (v := 24) hx hb dX8_drop_43 (by decide) ?_
            refine lv_iload_n hx hb dX8_drop_45 rfl (lv_at hl 3 rfl) ?_
            refine lv_imul hx hb dX8_drop_46 ?_
            refine lv_iload_n hx hb dX8_drop_47 rfl (lv_at hl 2 rfl) ?_
            refine lv_iadd hx hb dX8_drop_48 ?_
            refine lv_iconst (v := 1) hx hb dX8_drop_49 (by decide) ?_
            refine lv_iadd hx hb dX8_drop_50 ?_
            refine va_iald hx hb hK.1 hP 1 1 rfl rfl h.1 dX8_drop_51 ?_
            replace h := h.2
            refine va_iast hx hb hK.1 hP hD hS 1 1 rfl rfl h.1 dX8_drop_52 (fun H locs hP hD hS => ?_)
            replace h := h.2
            have hP : va_P D vwCl [(A_t, .inr (8, [.ref A_t_state, .ref A_t_tape, .int t_taped, .int t_fault, .int t_broken, .int t_brokenAt, .int t_spot, .int t_here, .int t_token, .int t_value, .int t_isRealTold, .ref A_t_ends, .ref A_t_letters, .ref A_t_least, .ref A_t_conflicts, .int t_conflictMany, .ref A_t_behind, .ref A_t_placed, .ref A_t_isKept, .ref A_t_lanes, .ref A_t_lengths, .ref A_t_cells, .int t_torn])), (A_t_state, .inl (cy 1, 535, .inl (upd t_state (((24 : Int32) * x3) + x2).toNatClampNeg (t_state ((((24 : Int32) * x3) + x2) + (1 : Int32)).toNatClampNeg))))] H := hP
            have hD : va_D A [(A_t, .inr (8, [.ref A_t_state, .ref A_t_tape, .int t_taped, .int t_fault, .int t_broken, .int t_brokenAt, .int t_spot, .int t_here, .int t_token, .int t_value, .int t_isRealTold, .ref A_t_ends, .ref A_t_letters, .ref A_t_least, .ref A_t_conflicts, .int t_conflictMany, .ref A_t_behind, .ref A_t_placed, .ref A_t_isKept, .ref A_t_lanes, .ref A_t_lengths, .ref A_t_cells, .int t_torn])), (A_t_state, .inl (cy 1, 535, .inl (upd t_state (((24 : Int32) * x3) + x2).toNatClampNeg (t_state ((((24 : Int32) * x3) + x2) + (1 : Int32)).toNatClampNeg))))] := hD
            refine lv_iinc (v := x3 + (1 : Int32)) (lv' := [(3, .int (x3 + (1 : Int32))), (0, .ref A_t), (1, .int x1), (2, .int x2)]) hx hb dX8_drop_53 hl (k := 3) rfl rfl (by decide) rfl (fun ls hl => ?_)
            refine lv_goto (tgt := 24) hx hb dX8_drop_56 (by decide) ?_
            exact ih24 (upd t_state (((24 : Int32) * x3) + x2).toNatClampNeg (t_state ((((24 : Int32) * x3) + x2) + (1 : Int32)).toNatClampNeg)) x2 (x3 + (1 : Int32)) H locs ls h hP hD hS (lv_sub hl [1, 2, 3, 0] rfl)
      refine lv_iload_n hx hb dX8_drop_12 rfl (lv_at hl 2 rfl) ?_
      refine lv_iconst (v := 1) hx hb dX8_drop_13 (by decide) ?_
      refine lv_iadd hx hb dX8_drop_14 ?_
      refine lv_aload_n hx hb dX8_drop_15 rfl (lv_at hl 0 rfl) ?_
      have hPc := hP.sub (ws' := [(A_t, .inr (8, [.ref A_t_state, .ref A_t_tape, .int t_taped, .int t_fault, .int t_broken, .int t_brokenAt, .int t_spot, .int t_here, .int t_token, .int t_value, .int t_isRealTold, .ref A_t_ends, .ref A_t_letters, .ref A_t_least, .ref A_t_conflicts, .int t_conflictMany, .ref A_t_behind, .ref A_t_placed, .ref A_t_isKept, .ref A_t_lanes, .ref A_t_lengths, .ref A_t_cells, .int t_torn])), (A_t_state, .inl (cy 1, 535, .inl t_state))]) [0, 1] rfl
      refine vp_callSi (W.runV (As := []) (rest := [.int (x2 + (1 : Int32))]) CF (c_X8_many l D cy A_t A_t_state A_t_tape A_t_ends A_t_letters A_t_least A_t_conflicts A_t_behind A_t_placed A_t_isKept A_t_lanes A_t_lengths A_t_cells t_taped t_fault t_broken t_brokenAt t_spot t_here t_token t_value t_isRealTold t_conflictMany t_torn t_state _ h) (cwV 0 hts gX8_drop_X8_many rfl rfl rfl qX8_many ⟨Nat.le_of_ble_eq_true rfl, Nat.le_of_ble_eq_true rfl⟩) (mpVR hK hPc (ci := 8) (q := (RX8, TX8, 23)) (q0 := 0) rfl rfl) rfl rfl hl.1 rfl (lv_room (Nat.le_of_ble_eq_true rfl)) dX8_drop_16 ⟨Nat.zero_le _, Nat.zero_le _⟩) (fun r2 h => ?_)
      refine lv_icmp_ge (tgt := 65) hx hb dX8_drop_19 (by decide) (fun hc => ?_) (fun hc => ?_)
      · replace h := h.1 hc
        refine lv_aload_n hx hb dX8_drop_65 rfl (lv_at hl 0 rfl) ?_
        refine va_get (D := D) (ci := 8) (v := .ref A_t_state) (C := RX8) (T := TX8) (N := 23) hx hb hts iX8 hown hK.1 hP 0 rfl rfl 0 (by decide) f0 (fun _ h9 => h9) rfl dX8_drop_66 ?_
        refine lv_bipush (v := 104) hx hb dX8_drop_69 (by decide) ?_
        refine lv_dup2_11 hx hb dX8_drop_71 rfl rfl ?_
        refine va_iald hx hb hK.1 hP 1 1 rfl rfl h.1 dX8_drop_72 ?_
        replace h := h.2
        refine lv_iconst (v := 1) hx hb dX8_drop_73 (by decide) ?_
        refine lv_isub hx hb dX8_drop_74 ?_
        refine va_iast hx hb hK.1 hP hD hS 1 1 rfl rfl h.1 dX8_drop_75 (fun H locs hP hD hS => ?_)
        replace h := h.2
        have hP : va_P D vwCl [(A_t, .inr (8, [.ref A_t_state, .ref A_t_tape, .int t_taped, .int t_fault, .int t_broken, .int t_brokenAt, .int t_spot, .int t_here, .int t_token, .int t_value, .int t_isRealTold, .ref A_t_ends, .ref A_t_letters, .ref A_t_least, .ref A_t_conflicts, .int t_conflictMany, .ref A_t_behind, .ref A_t_placed, .ref A_t_isKept, .ref A_t_lanes, .ref A_t_lengths, .ref A_t_cells, .int t_torn])), (A_t_state, .inl (cy 1, 535, .inl (upd t_state (104 : Int32).toNatClampNeg ((t_state (104 : Int32).toNatClampNeg) - (1 : Int32)))))] H := hP
        have hD : va_D A [(A_t, .inr (8, [.ref A_t_state, .ref A_t_tape, .int t_taped, .int t_fault, .int t_broken, .int t_brokenAt, .int t_spot, .int t_here, .int t_token, .int t_value, .int t_isRealTold, .ref A_t_ends, .ref A_t_letters, .ref A_t_least, .ref A_t_conflicts, .int t_conflictMany, .ref A_t_behind, .ref A_t_placed, .ref A_t_isKept, .ref A_t_lanes, .ref A_t_lengths, .ref A_t_cells, .int t_torn])), (A_t_state, .inl (cy 1, 535, .inl (upd t_state (104 : Int32).toNatClampNeg ((t_state (104 : Int32).toNatClampNeg) - (1 : Int32)))))] := hD
        refine lv_iconst (v := 0) hx hb dX8_drop_76 (by decide) ?_
        refine lv_istore_n (lv' := [(2, .int (0 : Int32)), (0, .ref A_t), (1, .int x1)]) hx hb dX8_drop_77 rfl hl (by decide) rfl (fun ls hl => ?_)
        obtain ⟨nn, h⟩ := h
        exact L78 nn (upd t_state (104 : Int32).toNatClampNeg ((t_state (104 : Int32).toNatClampNeg) - (1 : Int32))) (0 : Int32) H locs ls h hP hD hS (lv_sub hl [1, 2, 0] rfl)
      · replace h := h.2 hc
        refine lv_iconst (v := 0) hx hb dX8_drop_22 (by decide) ?_
        refine lv_istore_n (lv' := [(3, .int (0 : Int32)), (0, .ref A_t), (1, .int x1), (2, .int x2)]) hx hb dX8_drop_23 rfl hl (by decide) rfl (fun ls hl => ?_)
        obtain ⟨nn, h⟩ := h
        exact L24 nn t_state x2 (0 : Int32) H locs ls h hP hD hS (lv_sub hl [1, 2, 3, 0] rfl)
  unfold P_X8_drop at h
  refine lv_aload_n hx hb dX8_drop_0 rfl (lv_at hl 0 rfl) ?_
  refine lv_iload_n hx hb dX8_drop_1 rfl (lv_at hl 1 rfl) ?_
  have hPc := hP.sub (ws' := [(A_t, .inr (8, [.ref A_t_state, .ref A_t_tape, .int t_taped, .int t_fault, .int t_broken, .int t_brokenAt, .int t_spot, .int t_here, .int t_token, .int t_value, .int t_isRealTold, .ref A_t_ends, .ref A_t_letters, .ref A_t_least, .ref A_t_conflicts, .int t_conflictMany, .ref A_t_behind, .ref A_t_placed, .ref A_t_isKept, .ref A_t_lanes, .ref A_t_lengths, .ref A_t_cells, .int t_torn])), (A_t_state, .inl (cy 1, 535, .inl t_state))]) [0, 1] rfl
  refine vp_callSi (W.runV (As := [.int x1]) (rest := []) CF (c_X8_isBound l D cy A_t A_t_state A_t_tape A_t_ends A_t_letters A_t_least A_t_conflicts A_t_behind A_t_placed A_t_isKept A_t_lanes A_t_lengths A_t_cells t_taped t_fault t_broken t_brokenAt t_spot t_here t_token t_value t_isRealTold t_conflictMany t_torn t_state x1 _ h) (cwV 1 hts gX8_drop_X8_isBound rfl rfl rfl qX8_isBound ⟨Nat.le_of_ble_eq_true rfl, Nat.le_of_ble_eq_true rfl⟩) (mpVR hK hPc (ci := 8) (q := (RX8, TX8, 23)) (q0 := 0) rfl rfl) rfl rfl hl.1 rfl (lv_room (Nat.le_of_ble_eq_true rfl)) dX8_drop_2 ⟨Nat.zero_le _, Nat.zero_le _⟩) (fun r1 h => ?_)
  refine lv_if_ne (tgt := 10) hx hb dX8_drop_5 (by decide) (fun hc => ?_) (fun hc => ?_)
  · replace h := h.1 hc
    refine lv_iload_n hx hb dX8_drop_10 rfl (lv_at hl 1 rfl) ?_
    refine lv_istore_n (lv' := [(2, .int x1), (0, .ref A_t), (1, .int x1)]) hx hb dX8_drop_11 rfl hl (by decide) rfl (fun ls hl => ?_)
    obtain ⟨nn, h⟩ := h
    exact L12 nn t_state x1 s.heap [] ls h hP hD hS (lv_sub hl [1, 2, 0] rfl)
  · replace h := h.2 hc
    refine lv_iconst (v := -1) hx hb dX8_drop_8 (by decide) ?_
    subst hQ
    subst hAe
    exact W.iret (v := (-1 : Int32)) hx hb hr (fun t ht _ => ⟨⟨(-1 : Int32), t_state, rfl, h, by rw [ht]; exact hP, hD⟩, hS.F ht⟩) hS.2.2 dX8_drop_9
theorem qX8_change : yX8_change.cls = RX8 ∧ yX8_change.cls ≠ "java/lang/invoke/MethodHandle" ∧ yX8_change.cls ≠ "java/lang/invoke/VarHandle" ∧ (parseMethodDescriptor yX8_change.desc).map (fun d => d.parameters.length) = some 2 := by decide +kernel
def P_X8_change (post : Int32 → Int32 → (Nat → Int32) → (Nat → Int64) → (Nat → Int64) → (Nat → Int32) → Prop) (t_conflictMany : Int32) (t_state : Nat → Int32) (t_least : Nat → Int64) (t_behind : Nat → Int64) (t_conflicts : Nat → Int32) (x1 : Int32) (x2 : Int32) : Prop :=
  P_X8_isBound (fun (r1 : Int32) => ((¬ r1 = 0 → P_X8_isReal (fun (r2 : Int32) => (vp_in ((72 : Int32) + x1) 535 ∧ P_X8_weighed (fun (r3 : Int64) => (vp_in x1 535 ∧ (vp_in ((24 : Int32) + x1) 535 ∧ P_X8_isAllowed (fun (r4 : Int32) (t_least_v4 : Nat → Int64) => ((¬ r4 = 0 → (vp_in ((48 : Int32) + x1) 535 ∧ post (1 : Int32) t_conflictMany (upd t_state ((48 : Int32) + x1).toNatClampNeg x2) t_least_v4 t_behind t_conflicts)) ∧ (r4 = 0 → (vp_in x1 535 ∧ (vp_in ((24 : Int32) + x1) 535 ∧ P_X8_conflictsWith (fun (t_conflictMany_v5 : Int32) (t_behind_v5 : Nat → Int64) (t_conflicts_v5 : Nat → Int32) => post (-2 : Int32) t_conflictMany_v5 t_state t_least_v4 t_behind_v5 t_conflicts_v5) t_behind t_state t_conflicts (t_state x1.toNatClampNeg) (t_state ((24 : Int32) + x1).toNatClampNeg) x1 r3))))) t_state t_least (t_state x1.toNatClampNeg) (t_state ((24 : Int32) + x1).toNatClampNeg) x1 r3))) r2 x2 (t_state ((72 : Int32) + x1).toNatClampNeg))) t_state) ∧ (r1 = 0 → post (-1 : Int32) t_conflictMany t_state t_least t_behind t_conflicts))) t_state x1
set_option maxHeartbeats 4000000 in
set_option maxRecDepth 100000 in
theorem c_X8_change (l : Launch) (D : va_G) (cy : Nat → ClassId) (sz : Nat) (A_t A_t_state A_t_tape A_t_ends A_t_letters A_t_least A_t_conflicts A_t_behind A_t_placed A_t_isKept A_t_lanes A_t_lengths A_t_cells : Nat) (t_taped : Int32) (t_fault : Int32) (t_broken : Int32) (t_brokenAt : Int32) (t_spot : Int32) (t_here : Int32) (t_token : Int32) (t_value : Int32) (t_isRealTold : Int32) (t_conflictMany : Int32) (t_torn : Int32) (t_state : Nat → Int32) (t_least : Nat → Int64) (t_behind : Nat → Int64) (t_conflicts : Nat → Int32) (x1 : Int32) (x2 : Int32) (post : Int32 → Int32 → (Nat → Int32) → (Nat → Int64) → (Nat → Int64) → (Nat → Int32) → Prop) (h : P_X8_change post t_conflictMany t_state t_least t_behind t_conflicts x1 x2) : Met l yX8_change wsX8_change { frames := 5, cells := 0, slots := 0, locals := 126 } (pcW D cy [(A_t, .inr (8, [.ref A_t_state, .ref A_t_tape, .int t_taped, .int t_fault, .int t_broken, .int t_brokenAt, .int t_spot, .int t_here, .int t_token, .int t_value, .int t_isRealTold, .ref A_t_ends, .ref A_t_letters, .ref A_t_least, .ref A_t_conflicts, .int t_conflictMany, .ref A_t_behind, .ref A_t_placed, .ref A_t_isKept, .ref A_t_lanes, .ref A_t_lengths, .ref A_t_cells, .int t_torn])), (A_t_state, .inl (cy 1, 535, .inl t_state)), (A_t_least, .inl (cy 2, 100, .inr (.inl t_least))), (A_t_behind, .inl (cy 2, 110, .inr (.inl t_behind))), (A_t_conflicts, .inl (cy 1, 16, .inl t_conflicts))] sz [.ref A_t, .int x1, .int x2]) (va_Qi (fun r (u : Int32 × (Nat → Int32) × (Nat → Int64) × (Nat → Int64) × (Nat → Int32)) => post r u.1 u.2.1 u.2.2.1 u.2.2.2.1 u.2.2.2.2) (bW D [(A_t, .inr (8, [.ref A_t_state, .ref A_t_tape, .int t_taped, .int t_fault, .int t_broken, .int t_brokenAt, .int t_spot, .int t_here, .int t_token, .int t_value, .int t_isRealTold, .ref A_t_ends, .ref A_t_letters, .ref A_t_least, .ref A_t_conflicts, .int t_conflictMany, .ref A_t_behind, .ref A_t_placed, .ref A_t_isKept, .ref A_t_lanes, .ref A_t_lengths, .ref A_t_cells, .int t_torn])), (A_t_state, .inl (cy 1, 535, .inl t_state)), (A_t_least, .inl (cy 2, 100, .inr (.inl t_least))), (A_t_behind, .inl (cy 2, 110, .inr (.inl t_behind))), (A_t_conflicts, .inl (cy 1, 16, .inl t_conflicts))] sz (fun u => [(A_t, .inr (8, [.ref A_t_state, .ref A_t_tape, .int t_taped, .int t_fault, .int t_broken, .int t_brokenAt, .int t_spot, .int t_here, .int t_token, .int t_value, .int t_isRealTold, .ref A_t_ends, .ref A_t_letters, .ref A_t_least, .ref A_t_conflicts, .int (u.1), .ref A_t_behind, .ref A_t_placed, .ref A_t_isKept, .ref A_t_lanes, .ref A_t_lengths, .ref A_t_cells, .int t_torn])), (A_t_state, .inl (cy 1, 535, .inl u.2.1)), (A_t_least, .inl (cy 2, 100, .inr (.inl u.2.2.1))), (A_t_behind, .inl (cy 2, 110, .inr (.inl u.2.2.2.1))), (A_t_conflicts, .inl (cy 1, 16, .inl u.2.2.2.2))])) (va_A [(A_t, .inr (8, [.ref A_t_state, .ref A_t_tape, .int t_taped, .int t_fault, .int t_broken, .int t_brokenAt, .int t_spot, .int t_here, .int t_token, .int t_value, .int t_isRealTold, .ref A_t_ends, .ref A_t_letters, .ref A_t_least, .ref A_t_conflicts, .int t_conflictMany, .ref A_t_behind, .ref A_t_placed, .ref A_t_isKept, .ref A_t_lanes, .ref A_t_lengths, .ref A_t_cells, .int t_torn])), (A_t_state, .inl (cy 1, 535, .inl t_state)), (A_t_least, .inl (cy 2, 100, .inr (.inl t_least))), (A_t_behind, .inl (cy 2, 110, .inr (.inl t_behind))), (A_t_conflicts, .inl (cy 1, 16, .inl t_conflicts))] sz)) 0 0 (va_A [(A_t, .inr (8, [.ref A_t_state, .ref A_t_tape, .int t_taped, .int t_fault, .int t_broken, .int t_brokenAt, .int t_spot, .int t_here, .int t_token, .int t_value, .int t_isRealTold, .ref A_t_ends, .ref A_t_letters, .ref A_t_least, .ref A_t_conflicts, .int t_conflictMany, .ref A_t_behind, .ref A_t_placed, .ref A_t_isKept, .ref A_t_lanes, .ref A_t_lengths, .ref A_t_cells, .int t_torn])), (A_t_state, .inl (cy 1, 535, .inl t_state)), (A_t_least, .inl (cy 2, 100, .inr (.inl t_least))), (A_t_behind, .inl (cy 2, 110, .inr (.inl t_behind))), (A_t_conflicts, .inl (cy 1, 16, .inl t_conflicts))] sz) := by
  refine Met.ofW (cc := cX8_change) (maxL := 5) (ret := (some .int)) (by decide) rfl ?_
  intro p e s m args below meth c s₁ B hml hv
  obtain ⟨rfl, hsz, hP, hK, hD0⟩ := hv
  have hx := B.exec
  have hb := B.bytes
  have hr := B.returns
  have hts := atoms_spec (ws := wsX8_change) B.pre
  have hown : s.vm.findClass RX8 = some m.cls := findClass_of_methodNamed B.named
  have hlocks := B.notSynchronized
  have CF : CallFix p m c cX8_change 5 s ([.ref A_t, .int x1, .int x2] : List Value).toArray wsX8_change RX8 := ⟨hx, hb, hml, hown, hts⟩
  have f0 := hts (.fieldLink RX8 7 "GapBoundsModel" "state" "[I") (by decide +kernel)
  have iX8 : ∀ w ∈ u_ws RX8 TX8 23, w ∈ wsX8_change := by decide +kernel
  subst hsz
  obtain ⟨A, hAe⟩ : ∃ A, A = va_A [(A_t, .inr (8, [.ref A_t_state, .ref A_t_tape, .int t_taped, .int t_fault, .int t_broken, .int t_brokenAt, .int t_spot, .int t_here, .int t_token, .int t_value, .int t_isRealTold, .ref A_t_ends, .ref A_t_letters, .ref A_t_least, .ref A_t_conflicts, .int t_conflictMany, .ref A_t_behind, .ref A_t_placed, .ref A_t_isKept, .ref A_t_lanes, .ref A_t_lengths, .ref A_t_cells, .int t_torn])), (A_t_state, .inl (cy 1, 535, .inl t_state)), (A_t_least, .inl (cy 2, 100, .inr (.inl t_least))), (A_t_behind, .inl (cy 2, 110, .inr (.inl t_behind))), (A_t_conflicts, .inl (cy 1, 16, .inl t_conflicts))] s.heap.size := ⟨_, rfl⟩
  have hD : va_D A [(A_t, .inr (8, [.ref A_t_state, .ref A_t_tape, .int t_taped, .int t_fault, .int t_broken, .int t_brokenAt, .int t_spot, .int t_here, .int t_token, .int t_value, .int t_isRealTold, .ref A_t_ends, .ref A_t_letters, .ref A_t_least, .ref A_t_conflicts, .int t_conflictMany, .ref A_t_behind, .ref A_t_placed, .ref A_t_isKept, .ref A_t_lanes, .ref A_t_lengths, .ref A_t_cells, .int t_torn])), (A_t_state, .inl (cy 1, 535, .inl t_state)), (A_t_least, .inl (cy 2, 100, .inr (.inl t_least))), (A_t_behind, .inl (cy 2, 110, .inr (.inl t_behind))), (A_t_conflicts, .inl (cy 1, 16, .inl t_conflicts))] := by rw [hAe]; exact hD0.self
  have hA : ∀ q : Nat, s.heap.size ≤ q → A q := fun q hq => by rw [hAe]; exact Or.inr hq
  have hS : va_S A s.heap s.heap [] := va_S.rf
  have hl := lv_entry [.ref A_t, .int x1, .int x2] (n := 5) (Nat.le_of_ble_eq_true rfl)
  rw [lg_entry_eq]
  generalize (lg_sl [.ref A_t, .int x1, .int x2] ++ List.replicate (5 - (lg_sl [.ref A_t, .int x1, .int x2]).length) Slot.unset).toArray = ls at hl ⊢
  have hl : lv_has ls 5 [(0, .ref A_t), (1, .int x1), (2, .int x2)] := hl
  refine W.gen (fun Q0 hQ => ?_)
  unfold P_X8_change at h
  refine lv_aload_n hx hb dX8_change_0 rfl (lv_at hl 0 rfl) ?_
  refine lv_iload_n hx hb dX8_change_1 rfl (lv_at hl 1 rfl) ?_
  have hPc := hP.sub (ws' := [(A_t, .inr (8, [.ref A_t_state, .ref A_t_tape, .int t_taped, .int t_fault, .int t_broken, .int t_brokenAt, .int t_spot, .int t_here, .int t_token, .int t_value, .int t_isRealTold, .ref A_t_ends, .ref A_t_letters, .ref A_t_least, .ref A_t_conflicts, .int t_conflictMany, .ref A_t_behind, .ref A_t_placed, .ref A_t_isKept, .ref A_t_lanes, .ref A_t_lengths, .ref A_t_cells, .int t_torn])), (A_t_state, .inl (cy 1, 535, .inl t_state))]) [0, 1] rfl
  refine vp_callSi (W.runV (As := [.int x1]) (rest := []) CF (c_X8_isBound l D cy A_t A_t_state A_t_tape A_t_ends A_t_letters A_t_least A_t_conflicts A_t_behind A_t_placed A_t_isKept A_t_lanes A_t_lengths A_t_cells t_taped t_fault t_broken t_brokenAt t_spot t_here t_token t_value t_isRealTold t_conflictMany t_torn t_state x1 _ h) (cwV 1 hts gX8_change_X8_isBound rfl rfl rfl qX8_isBound ⟨Nat.le_of_ble_eq_true rfl, Nat.le_of_ble_eq_true rfl⟩) (mpVR hK hPc (ci := 8) (q := (RX8, TX8, 23)) (q0 := 0) rfl rfl) rfl rfl hl.1 rfl (lv_room (Nat.le_of_ble_eq_true rfl)) dX8_change_2 ⟨Nat.zero_le _, Nat.zero_le _⟩) (fun r1 h => ?_)
  refine lv_if_ne (tgt := 10) hx hb dX8_change_5 (by decide) (fun hc => ?_) (fun hc => ?_)
  · replace h := h.1 hc
    refine lv_aload_n hx hb dX8_change_10 rfl (lv_at hl 0 rfl) ?_
    have hPc := hP.sub (ws' := [(A_t, .inr (8, [.ref A_t_state, .ref A_t_tape, .int t_taped, .int t_fault, .int t_broken, .int t_brokenAt, .int t_spot, .int t_here, .int t_token, .int t_value, .int t_isRealTold, .ref A_t_ends, .ref A_t_letters, .ref A_t_least, .ref A_t_conflicts, .int t_conflictMany, .ref A_t_behind, .ref A_t_placed, .ref A_t_isKept, .ref A_t_lanes, .ref A_t_lengths, .ref A_t_cells, .int t_torn])), (A_t_state, .inl (cy 1, 535, .inl t_state))]) [0, 1] rfl
    refine vp_callSi (W.runV (As := []) (rest := []) CF (c_X8_isReal l D cy A_t A_t_state A_t_tape A_t_ends A_t_letters A_t_least A_t_conflicts A_t_behind A_t_placed A_t_isKept A_t_lanes A_t_lengths A_t_cells t_taped t_fault t_broken t_brokenAt t_spot t_here t_token t_value t_isRealTold t_conflictMany t_torn t_state _ h) (cwV 0 hts gX8_change_X8_isReal rfl rfl rfl qX8_isReal ⟨Nat.le_of_ble_eq_true rfl, Nat.le_of_ble_eq_true rfl⟩) (mpVR hK hPc (ci := 8) (q := (RX8, TX8, 23)) (q0 := 0) rfl rfl) rfl rfl hl.1 rfl (lv_room (Nat.le_of_ble_eq_true rfl)) dX8_change_11 ⟨Nat.zero_le _, Nat.zero_le _⟩) (fun r2 h => ?_)
    refine lv_iload_n hx hb dX8_change_14 rfl (lv_at hl 2 rfl) ?_
    refine lv_aload_n hx hb dX8_change_15 rfl (lv_at hl 0 rfl) ?_
    refine va_get (D := D) (ci := 8) (v := .ref A_t_state) (C := RX8) (T := TX8) (N := 23) hx hb hts iX8 hown hK.1 hP 0 rfl rfl 0 (by decide) f0 (fun _ h9 => h9) rfl dX8_change_16 ?_
    refine lv_bipush (v := 72) hx hb dX8_change_19 (by decide) ?_
    refine lv_iload_n hx hb dX8_change_21 rfl (lv_at hl 1 rfl) ?_
    refine lv_iadd hx hb dX8_change_22 ?_
    refine va_iald hx hb hK.1 hP 1 1 rfl rfl h.1 dX8_change_23 ?_
    replace h := h.2
    refine vp_callSl (W.runS (As := [.int r2, .int x2, .int (t_state ((72 : Int32) + x1).toNatClampNeg)]) (rest := []) CF (c_X8_weighed l r2 x2 (t_state ((72 : Int32) + x1).toNatClampNeg) _ h) (va_cwS 3 hts gX8_change_X8_weighed rfl rfl rfl qX8_weighed.2 ⟨Nat.le_of_ble_eq_true rfl, Nat.le_of_ble_eq_true rfl⟩) mpSN rfl rfl hl.1 rfl (lv_room (Nat.le_of_ble_eq_true rfl)) dX8_change_24 ⟨Nat.zero_le _, Nat.zero_le _⟩) (fun r3 h => ?_)
    refine lv_lstore_n (lv' := [(3, .long r3), (0, .ref A_t), (1, .int x1), (2, .int x2)]) hx hb dX8_change_27 rfl hl (by decide) rfl (fun ls hl => ?_)
    refine lv_aload_n hx hb dX8_change_28 rfl (lv_at hl 1 rfl) ?_
    refine lv_aload_n hx hb dX8_change_29 rfl (lv_at hl 1 rfl) ?_
    refine va_get (D := D) (ci := 8) (v := .ref A_t_state) (C := RX8) (T := TX8) (N := 23) hx hb hts iX8 hown hK.1 hP 0 rfl rfl 0 (by decide) f0 (fun _ h9 => h9) rfl dX8_change_30 ?_
    refine lv_iload_n hx hb dX8_change_33 rfl (lv_at hl 2 rfl) ?_
    refine va_iald hx hb hK.1 hP 1 1 rfl rfl h.1 dX8_change_34 ?_
    replace h := h.2
    refine lv_aload_n hx hb dX8_change_35 rfl (lv_at hl 1 rfl) ?_
    refine va_get (D := D) (ci := 8) (v := .ref A_t_state) (C := RX8) (T := TX8) (N := 23) hx hb hts iX8 hown hK.1 hP 0 rfl rfl 0 (by decide) f0 (fun _ h9 => h9) rfl dX8_change_36 ?_
    refine lv_bipush (v := 24) hx hb dX8_change_39 (by decide) ?_
    refine lv_iload_n hx hb dX8_change_41 rfl (lv_at hl 2 rfl) ?_
    refine lv_iadd hx hb dX8_change_42 ?_
    refine va_iald hx hb hK.1 hP 1 1 rfl rfl h.1 dX8_change_43 ?_
    replace h := h.2
    refine lv_lload_n hx hb dX8_change_44 rfl (lv_at hl 0 rfl) ?_
    refine lv_iload_n hx hb dX8_change_45 rfl (lv_at hl 2 rfl) ?_
    have hPn : va_P D vwCl ([(A_t_behind, .inl (cy 2, 110, .inr (.inl t_behind))), (A_t_conflicts, .inl (cy 1, 16, .inl t_conflicts))] ++ [(A_t, .inr (8, [.ref A_t_state, .ref A_t_tape, .int t_taped, .int t_fault, .int t_broken, .int t_brokenAt, .int t_spot, .int t_here, .int t_token, .int t_value, .int t_isRealTold, .ref A_t_ends, .ref A_t_letters, .ref A_t_least, .ref A_t_conflicts, .int t_conflictMany, .ref A_t_behind, .ref A_t_placed, .ref A_t_isKept, .ref A_t_lanes, .ref A_t_lengths, .ref A_t_cells, .int t_torn])), (A_t_state, .inl (cy 1, 535, .inl t_state)), (A_t_least, .inl (cy 2, 100, .inr (.inl t_least)))]) s.heap := hP.sub [3, 4, 0, 1, 2] rfl
    have hDn : va_D A ([(A_t_behind, .inl (cy 2, 110, .inr (.inl t_behind))), (A_t_conflicts, .inl (cy 1, 16, .inl t_conflicts))] ++ [(A_t, .inr (8, [.ref A_t_state, .ref A_t_tape, .int t_taped, .int t_fault, .int t_broken, .int t_brokenAt, .int t_spot, .int t_here, .int t_token, .int t_value, .int t_isRealTold, .ref A_t_ends, .ref A_t_letters, .ref A_t_least, .ref A_t_conflicts, .int t_conflictMany, .ref A_t_behind, .ref A_t_placed, .ref A_t_isKept, .ref A_t_lanes, .ref A_t_lengths, .ref A_t_cells, .int t_torn])), (A_t_state, .inl (cy 1, 535, .inl t_state)), (A_t_least, .inl (cy 2, 100, .inr (.inl t_least)))]) := hD.sub [3, 4, 0, 1, 2] (by decide) rfl
    have hPc := gPR hPn
    have hDc := gDR hDn
    refine mw_i (va_runV (As := [.int (t_state x1.toNatClampNeg), .int (t_state ((24 : Int32) + x1).toNatClampNeg), .long r3, .int x1]) (rest := []) CF (c_X8_isAllowed l D cy s.heap.size A_t A_t_state A_t_tape A_t_ends A_t_letters A_t_least A_t_conflicts A_t_behind A_t_placed A_t_isKept A_t_lanes A_t_lengths A_t_cells t_taped t_fault t_broken t_brokenAt t_spot t_here t_token t_value t_isRealTold t_conflictMany t_torn t_state t_least (t_state x1.toNatClampNeg) (t_state ((24 : Int32) + x1).toNatClampNeg) r3 x1 _ h) (cwV 4 hts gX8_change_X8_isAllowed rfl rfl rfl qX8_isAllowed ⟨Nat.le_of_ble_eq_true rfl, Nat.le_of_ble_eq_true rfl⟩) (mpVW hK hPc hDc (ci := 8) (q := (RX8, TX8, 23)) (q0 := 0) rfl rfl) rfl rfl hl.1 rfl (lv_room (Nat.le_of_ble_eq_true rfl)) dX8_change_46 ⟨Nat.zero_le _, Nat.zero_le _⟩) hPn hDn hS hA (fun r4 t_least_v4 H locs h hP hD hS => ?_)
    have hP : va_P D vwCl [(A_t, .inr (8, [.ref A_t_state, .ref A_t_tape, .int t_taped, .int t_fault, .int t_broken, .int t_brokenAt, .int t_spot, .int t_here, .int t_token, .int t_value, .int t_isRealTold, .ref A_t_ends, .ref A_t_letters, .ref A_t_least, .ref A_t_conflicts, .int t_conflictMany, .ref A_t_behind, .ref A_t_placed, .ref A_t_isKept, .ref A_t_lanes, .ref A_t_lengths, .ref A_t_cells, .int t_torn])), (A_t_state, .inl (cy 1, 535, .inl t_state)), (A_t_least, .inl (cy 2, 100, .inr (.inl t_least_v4))), (A_t_behind, .inl (cy 2, 110, .inr (.inl t_behind))), (A_t_conflicts, .inl (cy 1, 16, .inl t_conflicts))] H := hP.sub [2, 3, 4, 0, 1] rfl
    have hD : va_D A [(A_t, .inr (8, [.ref A_t_state, .ref A_t_tape, .int t_taped, .int t_fault, .int t_broken, .int t_brokenAt, .int t_spot, .int t_here, .int t_token, .int t_value, .int t_isRealTold, .ref A_t_ends, .ref A_t_letters, .ref A_t_least, .ref A_t_conflicts, .int t_conflictMany, .ref A_t_behind, .ref A_t_placed, .ref A_t_isKept, .ref A_t_lanes, .ref A_t_lengths, .ref A_t_cells, .int t_torn])), (A_t_state, .inl (cy 1, 535, .inl t_state)), (A_t_least, .inl (cy 2, 100, .inr (.inl t_least_v4))), (A_t_behind, .inl (cy 2, 110, .inr (.inl t_behind))), (A_t_conflicts, .inl (cy 1, 16, .inl t_conflicts))] := hD.sub [2, 3, 4, 0, 1] (by decide) rfl
    refine lv_if_ne (tgt := 76) hx hb dX8_change_49 (by decide) (fun hc => ?_) (fun hc => ?_)
    · replace h := h.1 hc
      refine lv_aload_n hx hb dX8_change_76 rfl (lv_at hl 1 rfl) ?_
      refine va_get (D := D) (ci := 8) (v := .ref A_t_state) (C := RX8) (T := TX8) (N := 23) hx hb hts iX8 hown hK.1 hP 0 rfl rfl 0 (by decide) f0 (fun _ h9 => h9) rfl dX8_change_77 ?_
      refine lv_bipush (v := 48) hx hb dX8_change_80 (by decide) ?_
      refine lv_iload_n hx hb dX8_change_82 rfl (lv_at hl 2 rfl) ?_
      refine lv_iadd hx hb dX8_change_83 ?_
      refine lv_iload_n hx hb dX8_change_84 rfl (lv_at hl 3 rfl) ?_
      refine va_iast hx hb hK.1 hP hD hS 1 1 rfl rfl h.1 dX8_change_85 (fun H locs hP hD hS => ?_)
      replace h := h.2
      have hP : va_P D vwCl [(A_t, .inr (8, [.ref A_t_state, .ref A_t_tape, .int t_taped, .int t_fault, .int t_broken, .int t_brokenAt, .int t_spot, .int t_here, .int t_token, .int t_value, .int t_isRealTold, .ref A_t_ends, .ref A_t_letters, .ref A_t_least, .ref A_t_conflicts, .int t_conflictMany, .ref A_t_behind, .ref A_t_placed, .ref A_t_isKept, .ref A_t_lanes, .ref A_t_lengths, .ref A_t_cells, .int t_torn])), (A_t_state, .inl (cy 1, 535, .inl (upd t_state ((48 : Int32) + x1).toNatClampNeg x2))), (A_t_least, .inl (cy 2, 100, .inr (.inl t_least_v4))), (A_t_behind, .inl (cy 2, 110, .inr (.inl t_behind))), (A_t_conflicts, .inl (cy 1, 16, .inl t_conflicts))] H := hP
      have hD : va_D A [(A_t, .inr (8, [.ref A_t_state, .ref A_t_tape, .int t_taped, .int t_fault, .int t_broken, .int t_brokenAt, .int t_spot, .int t_here, .int t_token, .int t_value, .int t_isRealTold, .ref A_t_ends, .ref A_t_letters, .ref A_t_least, .ref A_t_conflicts, .int t_conflictMany, .ref A_t_behind, .ref A_t_placed, .ref A_t_isKept, .ref A_t_lanes, .ref A_t_lengths, .ref A_t_cells, .int t_torn])), (A_t_state, .inl (cy 1, 535, .inl (upd t_state ((48 : Int32) + x1).toNatClampNeg x2))), (A_t_least, .inl (cy 2, 100, .inr (.inl t_least_v4))), (A_t_behind, .inl (cy 2, 110, .inr (.inl t_behind))), (A_t_conflicts, .inl (cy 1, 16, .inl t_conflicts))] := hD
      refine lv_iconst (v := 1) hx hb dX8_change_86 (by decide) ?_
      subst hQ
      subst hAe
      exact W.iret (v := (1 : Int32)) hx hb hr (fun t ht _ => ⟨⟨(1 : Int32), (t_conflictMany, upd t_state ((48 : Int32) + x1).toNatClampNeg x2, t_least_v4, t_behind, t_conflicts), rfl, h, by rw [ht]; exact hP, hD⟩, hS.F ht⟩) hS.2.2 dX8_change_87
    · replace h := h.2 hc
      refine lv_aload_n hx hb dX8_change_52 rfl (lv_at hl 1 rfl) ?_
      refine lv_aload_n hx hb dX8_change_53 rfl (lv_at hl 1 rfl) ?_
      refine va_get (D := D) (ci := 8) (v := .ref A_t_state) (C := RX8) (T := TX8) (N := 23) hx hb hts iX8 hown hK.1 hP 0 rfl rfl 0 (by decide) f0 (fun _ h9 => h9) rfl dX8_change_54 ?_
      refine lv_iload_n hx hb dX8_change_57 rfl (lv_at hl 2 rfl) ?_
      refine va_iald hx hb hK.1 hP 1 1 rfl rfl h.1 dX8_change_58 ?_
      replace h := h.2
      refine lv_aload_n hx hb dX8_change_59 rfl (lv_at hl 1 rfl) ?_
      refine va_get (D := D) (ci := 8) (v := .ref A_t_state) (C := RX8) (T := TX8) (N := 23) hx hb hts iX8 hown hK.1 hP 0 rfl rfl 0 (by decide) f0 (fun _ h9 => h9) rfl dX8_change_60 ?_
      refine lv_bipush (v := 24) hx hb dX8_change_63 (by decide) ?_
      refine lv_iload_n hx hb dX8_change_65 rfl (lv_at hl 2 rfl) ?_
      refine lv_iadd hx hb dX8_change_66 ?_
      refine va_iald hx hb hK.1 hP 1 1 rfl rfl h.1 dX8_change_67 ?_
      replace h := h.2
      refine lv_lload_n hx hb dX8_change_68 rfl (lv_at hl 0 rfl) ?_
      refine lv_iload_n hx hb dX8_change_69 rfl (lv_at hl 2 rfl) ?_
      have hPn : va_P D vwCl ([(A_t_least, .inl (cy 2, 100, .inr (.inl t_least_v4)))] ++ [(A_t, .inr (8, [.ref A_t_state, .ref A_t_tape, .int t_taped, .int t_fault, .int t_broken, .int t_brokenAt, .int t_spot, .int t_here, .int t_token, .int t_value, .int t_isRealTold, .ref A_t_ends, .ref A_t_letters, .ref A_t_least, .ref A_t_conflicts, .int t_conflictMany, .ref A_t_behind, .ref A_t_placed, .ref A_t_isKept, .ref A_t_lanes, .ref A_t_lengths, .ref A_t_cells, .int t_torn])), (A_t_behind, .inl (cy 2, 110, .inr (.inl t_behind))), (A_t_state, .inl (cy 1, 535, .inl t_state)), (A_t_conflicts, .inl (cy 1, 16, .inl t_conflicts))]) H := hP.sub [2, 0, 3, 1, 4] rfl
      have hDn : va_D A ([(A_t_least, .inl (cy 2, 100, .inr (.inl t_least_v4)))] ++ [(A_t, .inr (8, [.ref A_t_state, .ref A_t_tape, .int t_taped, .int t_fault, .int t_broken, .int t_brokenAt, .int t_spot, .int t_here, .int t_token, .int t_value, .int t_isRealTold, .ref A_t_ends, .ref A_t_letters, .ref A_t_least, .ref A_t_conflicts, .int t_conflictMany, .ref A_t_behind, .ref A_t_placed, .ref A_t_isKept, .ref A_t_lanes, .ref A_t_lengths, .ref A_t_cells, .int t_torn])), (A_t_behind, .inl (cy 2, 110, .inr (.inl t_behind))), (A_t_state, .inl (cy 1, 535, .inl t_state)), (A_t_conflicts, .inl (cy 1, 16, .inl t_conflicts))]) := hD.sub [2, 0, 3, 1, 4] (by decide) rfl
      have hPc := gPR hPn
      have hDc := gDR hDn
      refine mw_v (va_runV (As := [.int (t_state x1.toNatClampNeg), .int (t_state ((24 : Int32) + x1).toNatClampNeg), .long r3, .int x1]) (rest := []) CF (c_X8_conflictsWith l D cy H.size A_t A_t_state A_t_tape A_t_ends A_t_letters A_t_least A_t_conflicts A_t_behind A_t_placed A_t_isKept A_t_lanes A_t_lengths A_t_cells t_taped t_fault t_broken t_brokenAt t_spot t_here t_token t_value t_isRealTold t_conflictMany t_torn t_behind t_state t_conflicts (t_state x1.toNatClampNeg) (t_state ((24 : Int32) + x1).toNatClampNeg) r3 x1 _ h) (cwV 4 hts gX8_change_X8_conflictsWith rfl rfl rfl qX8_conflictsWith ⟨Nat.le_of_ble_eq_true rfl, Nat.le_of_ble_eq_true rfl⟩) (mpVW hK hPc hDc (ci := 8) (q := (RX8, TX8, 23)) (q0 := 0) rfl rfl) rfl rfl hl.1 rfl (lv_room (Nat.le_of_ble_eq_true rfl)) dX8_change_70 ⟨Nat.zero_le _, Nat.zero_le _⟩) hPn hDn hS hA (fun u H locs h hP hD hS => ?_)
      obtain ⟨t_conflictMany_v5, t_behind_v5, t_conflicts_v5⟩ := u
      have hP : va_P D vwCl [(A_t, .inr (8, [.ref A_t_state, .ref A_t_tape, .int t_taped, .int t_fault, .int t_broken, .int t_brokenAt, .int t_spot, .int t_here, .int t_token, .int t_value, .int t_isRealTold, .ref A_t_ends, .ref A_t_letters, .ref A_t_least, .ref A_t_conflicts, .int t_conflictMany_v5, .ref A_t_behind, .ref A_t_placed, .ref A_t_isKept, .ref A_t_lanes, .ref A_t_lengths, .ref A_t_cells, .int t_torn])), (A_t_state, .inl (cy 1, 535, .inl t_state)), (A_t_least, .inl (cy 2, 100, .inr (.inl t_least_v4))), (A_t_behind, .inl (cy 2, 110, .inr (.inl t_behind_v5))), (A_t_conflicts, .inl (cy 1, 16, .inl t_conflicts_v5))] H := hP.sub [1, 3, 0, 2, 4] rfl
      have hD : va_D A [(A_t, .inr (8, [.ref A_t_state, .ref A_t_tape, .int t_taped, .int t_fault, .int t_broken, .int t_brokenAt, .int t_spot, .int t_here, .int t_token, .int t_value, .int t_isRealTold, .ref A_t_ends, .ref A_t_letters, .ref A_t_least, .ref A_t_conflicts, .int t_conflictMany_v5, .ref A_t_behind, .ref A_t_placed, .ref A_t_isKept, .ref A_t_lanes, .ref A_t_lengths, .ref A_t_cells, .int t_torn])), (A_t_state, .inl (cy 1, 535, .inl t_state)), (A_t_least, .inl (cy 2, 100, .inr (.inl t_least_v4))), (A_t_behind, .inl (cy 2, 110, .inr (.inl t_behind_v5))), (A_t_conflicts, .inl (cy 1, 16, .inl t_conflicts_v5))] := hD.sub [1, 3, 0, 2, 4] (by decide) rfl
      try dsimp only at h
      refine lv_bipush (v := -2) hx hb dX8_change_73 (by decide) ?_
      subst hQ
      subst hAe
      exact W.iret (v := (-2 : Int32)) hx hb hr (fun t ht _ => ⟨⟨(-2 : Int32), (t_conflictMany_v5, t_state, t_least_v4, t_behind_v5, t_conflicts_v5), rfl, h, by rw [ht]; exact hP, hD⟩, hS.F ht⟩) hS.2.2 dX8_change_75
  · replace h := h.2 hc
    refine lv_iconst (v := -1) hx hb dX8_change_8 (by decide) ?_
    subst hQ
    subst hAe
    exact W.iret (v := (-1 : Int32)) hx hb hr (fun t ht _ => ⟨⟨(-1 : Int32), (t_conflictMany, t_state, t_least, t_behind, t_conflicts), rfl, h, by rw [ht]; exact hP, hD⟩, hS.F ht⟩) hS.2.2 dX8_change_9
theorem qX8_shift : yX8_shift.cls = RX8 ∧ yX8_shift.cls ≠ "java/lang/invoke/MethodHandle" ∧ yX8_shift.cls ≠ "java/lang/invoke/VarHandle" ∧ (parseMethodDescriptor yX8_shift.desc).map (fun d => d.parameters.length) = some 2 := by decide +kernel
def B_X8_shift_225 (post : Int32 → (Nat → Int32) → Prop) (t_state : Nat → Int32) (x3 : Int32) (x4 : Int32) : Prop :=
  ((x4 = 0 → post x3 t_state) ∧ (¬ x4 = 0 → post (-5 : Int32) t_state))
def B_X8_shift_217 (K_112 : (Nat → Int32) → Int32 → Int32 → Prop) (t_state : Nat → Int32) (k0 : Int32) (k1 : Int32) (x5 : Int32) : Prop :=
  K_112 t_state (k0 + k1) (x5 + (1 : Int32))
def B_X8_shift_204 (K_112 : (Nat → Int32) → Int32 → Int32 → Prop) (t_state : Nat → Int32) (k1 : Int32) (k2 : Int32) (k3 : Int32) (x3 : Int32) (x5 : Int32) (x6 : Int32) : Prop :=
  (vp_in k1 535 ∧ ((x6 = 0 → B_X8_shift_217 K_112 (upd t_state k1.toNatClampNeg (k2 + k3)) x3 (0 : Int32) x5) ∧ (¬ x6 = 0 → B_X8_shift_217 K_112 (upd t_state k1.toNatClampNeg (k2 + k3)) x3 (1 : Int32) x5)))
def B_X8_shift_156 (K_112 : (Nat → Int32) → Int32 → Int32 → Prop) (t_state : Nat → Int32) (k0 : Int32) (x1 : Int32) (x2 : Int32) (x3 : Int32) (x5 : Int32) : Prop :=
  (vp_in ((48 : Int32) + x5) 535 ∧ (vp_in x5 535 ∧ ((¬ t_state x5.toNatClampNeg = x1 → (vp_in ((24 : Int32) + x5) 535 ∧ ((¬ t_state ((24 : Int32) + x5).toNatClampNeg = x1 → B_X8_shift_204 K_112 t_state ((48 : Int32) + x5) (t_state ((48 : Int32) + x5).toNatClampNeg) (0 : Int32) x3 x5 k0) ∧ (t_state ((24 : Int32) + x5).toNatClampNeg = x1 → B_X8_shift_204 K_112 t_state ((48 : Int32) + x5) (t_state ((48 : Int32) + x5).toNatClampNeg) (-x2) x3 x5 k0)))) ∧ (t_state x5.toNatClampNeg = x1 → B_X8_shift_204 K_112 t_state ((48 : Int32) + x5) (t_state ((48 : Int32) + x5).toNatClampNeg) x2 x3 x5 k0))))
def B_X8_shift_151 (K_112 : (Nat → Int32) → Int32 → Int32 → Prop) (t_state : Nat → Int32) (x1 : Int32) (x2 : Int32) (x3 : Int32) (x5 : Int32) : Prop :=
  B_X8_shift_156 K_112 t_state (1 : Int32) x1 x2 x3 x5
def LB_X8_shift_112 (post : Int32 → (Nat → Int32) → Prop) (x1 : Int32) (x2 : Int32) (x4 : Int32) (K_112 : (Nat → Int32) → Int32 → Int32 → Prop) (t_state : Nat → Int32) (x3 : Int32) (x5 : Int32) : Prop :=
  P_X8_many (fun (r3 : Int32) => ((r3 ≤ x5 → B_X8_shift_225 post t_state x3 x4) ∧ (¬ r3 ≤ x5 → ((¬ x4 = 0 → B_X8_shift_225 post t_state x3 x4) ∧ (x4 = 0 → (vp_in x5 535 ∧ ((t_state x5.toNatClampNeg = x1 → B_X8_shift_151 K_112 t_state x1 x2 x3 x5) ∧ (¬ t_state x5.toNatClampNeg = x1 → (vp_in ((24 : Int32) + x5) 535 ∧ ((¬ t_state ((24 : Int32) + x5).toNatClampNeg = x1 → B_X8_shift_156 K_112 t_state (0 : Int32) x1 x2 x3 x5) ∧ (t_state ((24 : Int32) + x5).toNatClampNeg = x1 → B_X8_shift_151 K_112 t_state x1 x2 x3 x5))))))))))) t_state
noncomputable def L_X8_shift_112 (post : Int32 → (Nat → Int32) → Prop) (x1 : Int32) (x2 : Int32) (x4 : Int32) (n : Nat) : (Nat → Int32) → Int32 → Int32 → Prop := Nat.rec (motive := fun _ => (Nat → Int32) → Int32 → Int32 → Prop) (fun _ _ _ => False) (fun _ K => LB_X8_shift_112 post x1 x2 x4 K) n
def B_X8_shift_101 (K_17 : Int32 → Int32 → Prop) (k0 : Int32) (x5 : Int32) : Prop :=
  K_17 k0 (x5 + (1 : Int32))
def B_X8_shift_96 (K_17 : Int32 → Int32 → Prop) (x5 : Int32) : Prop :=
  B_X8_shift_101 K_17 (1 : Int32) x5
def B_X8_shift_63 (K_17 : Int32 → Int32 → Prop) (t_state : Nat → Int32) (l0 : Int64) (x4 : Int32) (x5 : Int32) : Prop :=
  ((¬ x4 = 0 → B_X8_shift_96 K_17 x5) ∧ (x4 = 0 → (vp_in ((48 : Int32) + x5) 535 ∧ P_X8_in (fun (r4 : Int32) => ((¬ r4 = 0 → B_X8_shift_101 K_17 (0 : Int32) x5) ∧ (r4 = 0 → B_X8_shift_96 K_17 x5))) (((t_state ((48 : Int32) + x5).toNatClampNeg).toInt64) + l0) (-2147483648 : Int64) (2147483647 : Int64))))
def LB_X8_shift_17 (post : Int32 → (Nat → Int32) → Prop) (t_state : Nat → Int32) (x1 : Int32) (x2 : Int32) (x3 : Int32) (K_17 : Int32 → Int32 → Prop) (x4 : Int32) (x5 : Int32) : Prop :=
  P_X8_many (fun (r2 : Int32) => ((r2 ≤ x5 → ∃ n : Nat, L_X8_shift_112 post x1 x2 x4 n t_state x3 (0 : Int32)) ∧ (¬ r2 ≤ x5 → (vp_in x5 535 ∧ ((¬ t_state x5.toNatClampNeg = x1 → (vp_in ((24 : Int32) + x5) 535 ∧ ((¬ t_state ((24 : Int32) + x5).toNatClampNeg = x1 → B_X8_shift_63 K_17 t_state (0 : Int64) x4 x5) ∧ (t_state ((24 : Int32) + x5).toNatClampNeg = x1 → B_X8_shift_63 K_17 t_state (-x2.toInt64) x4 x5)))) ∧ (t_state x5.toNatClampNeg = x1 → B_X8_shift_63 K_17 t_state x2.toInt64 x4 x5)))))) t_state
noncomputable def L_X8_shift_17 (post : Int32 → (Nat → Int32) → Prop) (t_state : Nat → Int32) (x1 : Int32) (x2 : Int32) (x3 : Int32) (n : Nat) : Int32 → Int32 → Prop := Nat.rec (motive := fun _ => Int32 → Int32 → Prop) (fun _ _ => False) (fun _ K => LB_X8_shift_17 post t_state x1 x2 x3 K) n
def P_X8_shift (post : Int32 → (Nat → Int32) → Prop) (t_state : Nat → Int32) (x1 : Int32) (x2 : Int32) : Prop :=
  P_X8_isThing (fun (r1 : Int32) => ((¬ r1 = 0 → ∃ n : Nat, L_X8_shift_17 post t_state x1 x2 (0 : Int32) n (0 : Int32) (0 : Int32)) ∧ (r1 = 0 → post (-1 : Int32) t_state))) x1
set_option maxHeartbeats 4000000 in
set_option maxRecDepth 100000 in
theorem c_X8_shift (l : Launch) (D : va_G) (cy : Nat → ClassId) (sz : Nat) (A_t A_t_state A_t_tape A_t_ends A_t_letters A_t_least A_t_conflicts A_t_behind A_t_placed A_t_isKept A_t_lanes A_t_lengths A_t_cells : Nat) (t_taped : Int32) (t_fault : Int32) (t_broken : Int32) (t_brokenAt : Int32) (t_spot : Int32) (t_here : Int32) (t_token : Int32) (t_value : Int32) (t_isRealTold : Int32) (t_conflictMany : Int32) (t_torn : Int32) (t_state : Nat → Int32) (x1 : Int32) (x2 : Int32) (post : Int32 → (Nat → Int32) → Prop) (h : P_X8_shift post t_state x1 x2) : Met l yX8_shift wsX8_shift { frames := 2, cells := 0, slots := 0, locals := 45 } (pcW D cy [(A_t, .inr (8, [.ref A_t_state, .ref A_t_tape, .int t_taped, .int t_fault, .int t_broken, .int t_brokenAt, .int t_spot, .int t_here, .int t_token, .int t_value, .int t_isRealTold, .ref A_t_ends, .ref A_t_letters, .ref A_t_least, .ref A_t_conflicts, .int t_conflictMany, .ref A_t_behind, .ref A_t_placed, .ref A_t_isKept, .ref A_t_lanes, .ref A_t_lengths, .ref A_t_cells, .int t_torn])), (A_t_state, .inl (cy 1, 535, .inl t_state))] sz [.ref A_t, .int x1, .int x2]) (va_Qi (fun r (u : (Nat → Int32)) => post r u) (bW D [(A_t, .inr (8, [.ref A_t_state, .ref A_t_tape, .int t_taped, .int t_fault, .int t_broken, .int t_brokenAt, .int t_spot, .int t_here, .int t_token, .int t_value, .int t_isRealTold, .ref A_t_ends, .ref A_t_letters, .ref A_t_least, .ref A_t_conflicts, .int t_conflictMany, .ref A_t_behind, .ref A_t_placed, .ref A_t_isKept, .ref A_t_lanes, .ref A_t_lengths, .ref A_t_cells, .int t_torn])), (A_t_state, .inl (cy 1, 535, .inl t_state))] sz (fun u => [(A_t, .inr (8, [.ref A_t_state, .ref A_t_tape, .int t_taped, .int t_fault, .int t_broken, .int t_brokenAt, .int t_spot, .int t_here, .int t_token, .int t_value, .int t_isRealTold, .ref A_t_ends, .ref A_t_letters, .ref A_t_least, .ref A_t_conflicts, .int t_conflictMany, .ref A_t_behind, .ref A_t_placed, .ref A_t_isKept, .ref A_t_lanes, .ref A_t_lengths, .ref A_t_cells, .int t_torn])), (A_t_state, .inl (cy 1, 535, .inl u))])) (va_A [(A_t, .inr (8, [.ref A_t_state, .ref A_t_tape, .int t_taped, .int t_fault, .int t_broken, .int t_brokenAt, .int t_spot, .int t_here, .int t_token, .int t_value, .int t_isRealTold, .ref A_t_ends, .ref A_t_letters, .ref A_t_least, .ref A_t_conflicts, .int t_conflictMany, .ref A_t_behind, .ref A_t_placed, .ref A_t_isKept, .ref A_t_lanes, .ref A_t_lengths, .ref A_t_cells, .int t_torn])), (A_t_state, .inl (cy 1, 535, .inl t_state))] sz)) 0 0 (va_A [(A_t, .inr (8, [.ref A_t_state, .ref A_t_tape, .int t_taped, .int t_fault, .int t_broken, .int t_brokenAt, .int t_spot, .int t_here, .int t_token, .int t_value, .int t_isRealTold, .ref A_t_ends, .ref A_t_letters, .ref A_t_least, .ref A_t_conflicts, .int t_conflictMany, .ref A_t_behind, .ref A_t_placed, .ref A_t_isKept, .ref A_t_lanes, .ref A_t_lengths, .ref A_t_cells, .int t_torn])), (A_t_state, .inl (cy 1, 535, .inl t_state))] sz) := by
  refine Met.ofW (cc := cX8_shift) (maxL := 8) (ret := (some .int)) (by decide) rfl ?_
  intro p e s m args below meth c s₁ B hml hv
  obtain ⟨rfl, hsz, hP, hK, hD0⟩ := hv
  have hx := B.exec
  have hb := B.bytes
  have hr := B.returns
  have hts := atoms_spec (ws := wsX8_shift) B.pre
  have hown : s.vm.findClass RX8 = some m.cls := findClass_of_methodNamed B.named
  have hlocks := B.notSynchronized
  have CF : CallFix p m c cX8_shift 8 s ([.ref A_t, .int x1, .int x2] : List Value).toArray wsX8_shift RX8 := ⟨hx, hb, hml, hown, hts⟩
  have f0 := hts (.fieldLink RX8 7 "GapBoundsModel" "state" "[I") (by decide +kernel)
  have f1 := hts (.constantLong RX8 226 (-2147483648)) (by decide +kernel)
  have f2 := hts (.constantLong RX8 228 (2147483647)) (by decide +kernel)
  have iX8 : ∀ w ∈ u_ws RX8 TX8 23, w ∈ wsX8_shift := by decide +kernel
  subst hsz
  obtain ⟨A, hAe⟩ : ∃ A, A = va_A [(A_t, .inr (8, [.ref A_t_state, .ref A_t_tape, .int t_taped, .int t_fault, .int t_broken, .int t_brokenAt, .int t_spot, .int t_here, .int t_token, .int t_value, .int t_isRealTold, .ref A_t_ends, .ref A_t_letters, .ref A_t_least, .ref A_t_conflicts, .int t_conflictMany, .ref A_t_behind, .ref A_t_placed, .ref A_t_isKept, .ref A_t_lanes, .ref A_t_lengths, .ref A_t_cells, .int t_torn])), (A_t_state, .inl (cy 1, 535, .inl t_state))] s.heap.size := ⟨_, rfl⟩
  have hD : va_D A [(A_t, .inr (8, [.ref A_t_state, .ref A_t_tape, .int t_taped, .int t_fault, .int t_broken, .int t_brokenAt, .int t_spot, .int t_here, .int t_token, .int t_value, .int t_isRealTold, .ref A_t_ends, .ref A_t_letters, .ref A_t_least, .ref A_t_conflicts, .int t_conflictMany, .ref A_t_behind, .ref A_t_placed, .ref A_t_isKept, .ref A_t_lanes, .ref A_t_lengths, .ref A_t_cells, .int t_torn])), (A_t_state, .inl (cy 1, 535, .inl t_state))] := by rw [hAe]; exact hD0.self
  have hA : ∀ q : Nat, s.heap.size ≤ q → A q := fun q hq => by rw [hAe]; exact Or.inr hq
  have hS : va_S A s.heap s.heap [] := va_S.rf
  have hl := lv_entry [.ref A_t, .int x1, .int x2] (n := 8) (Nat.le_of_ble_eq_true rfl)
  rw [lg_entry_eq]
  generalize (lg_sl [.ref A_t, .int x1, .int x2] ++ List.replicate (8 - (lg_sl [.ref A_t, .int x1, .int x2]).length) Slot.unset).toArray = ls at hl ⊢
  have hl : lv_has ls 8 [(0, .ref A_t), (1, .int x1), (2, .int x2)] := hl
  refine W.gen (fun Q0 hQ => ?_)
  have J225 : ∀ (t_state : Nat → Int32) (x3 : Int32) (x4 : Int32) (H : Heap) (locs : List Loc) (ls : Array Slot), B_X8_shift_225 post t_state x3 x4 → va_P D vwCl [(A_t, .inr (8, [.ref A_t_state, .ref A_t_tape, .int t_taped, .int t_fault, .int t_broken, .int t_brokenAt, .int t_spot, .int t_here, .int t_token, .int t_value, .int t_isRealTold, .ref A_t_ends, .ref A_t_letters, .ref A_t_least, .ref A_t_conflicts, .int t_conflictMany, .ref A_t_behind, .ref A_t_placed, .ref A_t_isKept, .ref A_t_lanes, .ref A_t_lengths, .ref A_t_cells, .int t_torn])), (A_t_state, .inl (cy 1, 535, .inl t_state))] H → va_D A [(A_t, .inr (8, [.ref A_t_state, .ref A_t_tape, .int t_taped, .int t_fault, .int t_broken, .int t_brokenAt, .int t_spot, .int t_here, .int t_token, .int t_value, .int t_isRealTold, .ref A_t_ends, .ref A_t_letters, .ref A_t_least, .ref A_t_conflicts, .int t_conflictMany, .ref A_t_behind, .ref A_t_placed, .ref A_t_isKept, .ref A_t_lanes, .ref A_t_lengths, .ref A_t_cells, .int t_torn])), (A_t_state, .inl (cy 1, 535, .inl t_state))] → va_S A s.heap H locs → lv_has ls 8 [(3, .int x3), (4, .int x4)] → W p l e (headSpec wsX8_shift { frames := 2, cells := 0, slots := 0, locals := 45 }).room s m ([.ref A_t, .int x1, .int x2] : List Value).toArray below meth c H locs 0 0 Q0 (F0 m 225 ls []) := by
    intro t_state x3 x4 H locs ls h hP hD hS hl
    unfold B_X8_shift_225 at h
    refine lv_iload hx hb dX8_shift_225 (lv_at hl 1 rfl) ?_
    refine lv_if_eq (tgt := 235) hx hb dX8_shift_227 (by decide) (fun hc => ?_) (fun hc => ?_)
    · replace h := h.1 hc
      refine lv_iload_n hx hb dX8_shift_235 rfl (lv_at hl 0 rfl) ?_
      subst hQ
      subst hAe
      exact W.iret (v := x3) hx hb hr (fun t ht _ => ⟨⟨x3, t_state, rfl, h, by rw [ht]; exact hP, hD⟩, hS.F ht⟩) hS.2.2 dX8_shift_236
    · replace h := h.2 hc
      refine lv_bipush (v := -5) hx hb dX8_shift_230 (by decide) ?_
      refine lv_goto (tgt := 236) hx hb dX8_shift_232 (by decide) ?_
      subst hQ
      subst hAe
      exact W.iret (v := (-5 : Int32)) hx hb hr (fun t ht _ => ⟨⟨(-5 : Int32), t_state, rfl, h, by rw [ht]; exact hP, hD⟩, hS.F ht⟩) hS.2.2 dX8_shift_236
  have L112 : ∀ (n112 : Nat) (t_state : Nat → Int32) (x3 : Int32) (x4 : Int32) (x5 : Int32) (H : Heap) (locs : List Loc) (ls : Array Slot), L_X8_shift_112 post x1 x2 x4 n112 t_state x3 x5 → va_P D vwCl [(A_t, .inr (8, [.ref A_t_state, .ref A_t_tape, .int t_taped, .int t_fault, .int t_broken, .int t_brokenAt, .int t_spot, .int t_here, .int t_token, .int t_value, .int t_isRealTold, .ref A_t_ends, .ref A_t_letters, .ref A_t_least, .ref A_t_conflicts, .int t_conflictMany, .ref A_t_behind, .ref A_t_placed, .ref A_t_isKept, .ref A_t_lanes, .ref A_t_lengths, .ref A_t_cells, .int t_torn])), (A_t_state, .inl (cy 1, 535, .inl t_state))] H → va_D A [(A_t, .inr (8, [.ref A_t_state, .ref A_t_tape, .int t_taped, .int t_fault, .int t_broken, .int t_brokenAt, .int t_spot, .int t_here, .int t_token, .int t_value, .int t_isRealTold, .ref A_t_ends, .ref A_t_letters, .ref A_t_least, .ref A_t_conflicts, .int t_conflictMany, .ref A_t_behind, .ref A_t_placed, .ref A_t_isKept, .ref A_t_lanes, .ref A_t_lengths, .ref A_t_cells, .int t_torn])), (A_t_state, .inl (cy 1, 535, .inl t_state))] → va_S A s.heap H locs → lv_has ls 8 [(0, .ref A_t), (1, .int x1), (2, .int x2), (3, .int x3), (4, .int x4), (5, .int x5)] → W p l e (headSpec wsX8_shift { frames := 2, cells := 0, slots := 0, locals := 45 }).room s m ([.ref A_t, .int x1, .int x2] : List Value).toArray below meth c H locs 0 0 Q0 (F0 m 112 ls []) := by
    intro n112
    induction n112 with
    | zero => intro t_state x3 x4 x5 H locs ls h; exact False.elim h
    | succ n112 ih112 =>
      intro t_state x3 x4 x5 H locs ls h hP hD hS hl
      have h : LB_X8_shift_112 post x1 x2 x4 (L_X8_shift_112 post x1 x2 x4 n112) t_state x3 x5 := h
      unfold LB_X8_shift_112 at h
      have J217 : ∀ (t_state : Nat → Int32) (x4 : Int32) (x5 : Int32) (k0 : Int32) (k1 : Int32) (H : Heap) (locs : List Loc) (ls : Array Slot), B_X8_shift_217 (L_X8_shift_112 post x1 x2 x4 n112) t_state k0 k1 x5 → va_P D vwCl [(A_t, .inr (8, [.ref A_t_state, .ref A_t_tape, .int t_taped, .int t_fault, .int t_broken, .int t_brokenAt, .int t_spot, .int t_here, .int t_token, .int t_value, .int t_isRealTold, .ref A_t_ends, .ref A_t_letters, .ref A_t_least, .ref A_t_conflicts, .int t_conflictMany, .ref A_t_behind, .ref A_t_placed, .ref A_t_isKept, .ref A_t_lanes, .ref A_t_lengths, .ref A_t_cells, .int t_torn])), (A_t_state, .inl (cy 1, 535, .inl t_state))] H → va_D A [(A_t, .inr (8, [.ref A_t_state, .ref A_t_tape, .int t_taped, .int t_fault, .int t_broken, .int t_brokenAt, .int t_spot, .int t_here, .int t_token, .int t_value, .int t_isRealTold, .ref A_t_ends, .ref A_t_letters, .ref A_t_least, .ref A_t_conflicts, .int t_conflictMany, .ref A_t_behind, .ref A_t_placed, .ref A_t_isKept, .ref A_t_lanes, .ref A_t_lengths, .ref A_t_cells, .int t_torn])), (A_t_state, .inl (cy 1, 535, .inl t_state))] → va_S A s.heap H locs → lv_has ls 8 [(0, .ref A_t), (1, .int x1), (2, .int x2), (4, .int x4), (5, .int x5)] → W p l e (headSpec wsX8_shift { frames := 2, cells := 0, slots := 0, locals := 45 }).room s m ([.ref A_t, .int x1, .int x2] : List Value).toArray below meth c H locs 0 0 Q0 (F0 m 217 ls [.int k1, .int k0]) := by
        intro t_state x4 x5 k0 k1 H locs ls h hP hD hS hl
        unfold B_X8_shift_217 at h
        refine lv_iadd hx hb dX8_shift_217 ?_
        refine lv_istore_n (lv' := [(3, .int (k0 + k1)), (0, .ref A_t), (1, .int x1), (2, .int x2), (4, .int x4), (5, .int x5)]) hx hb dX8_shift_218 rfl hl (by decide) rfl (fun ls hl => ?_)
        refine lv_iinc (v := x5 + (1 : Int32)) (lv' := [(5, .int (x5 + (1 : Int32))), (3, .int (k0 + k1)), (0, .ref A_t), (1, .int x1), (2, .int x2), (4, .int x4)]) hx hb dX8_shift_219 hl (k := 5) rfl rfl (by decide) rfl (fun ls hl => ?_)
        refine lv_goto (tgt := 112) hx hb dX8_shift_222 (by decide) ?_
        exact ih112 t_state (k0 + k1) x4 (x5 + (1 : Int32)) H locs ls h hP hD hS (lv_sub hl [2, 3, 4, 1, 5, 0] rfl)
      have J204 : ∀ (t_state : Nat → Int32) (x3 : Int32) (x4 : Int32) (x5 : Int32) (x6 : Int32) (k1 : Int32) (k2 : Int32) (k3 : Int32) (H : Heap) (locs : List Loc) (ls : Array Slot), B_X8_shift_204 (L_X8_shift_112 post x1 x2 x4 n112) t_state k1 k2 k3 x3 x5 x6 → va_P D vwCl [(A_t, .inr (8, [.ref A_t_state, .ref A_t_tape, .int t_taped, .int t_fault, .int t_broken, .int t_brokenAt, .int t_spot, .int t_here, .int t_token, .int t_value, .int t_isRealTold, .ref A_t_ends, .ref A_t_letters, .ref A_t_least, .ref A_t_conflicts, .int t_conflictMany, .ref A_t_behind, .ref A_t_placed, .ref A_t_isKept, .ref A_t_lanes, .ref A_t_lengths, .ref A_t_cells, .int t_torn])), (A_t_state, .inl (cy 1, 535, .inl t_state))] H → va_D A [(A_t, .inr (8, [.ref A_t_state, .ref A_t_tape, .int t_taped, .int t_fault, .int t_broken, .int t_brokenAt, .int t_spot, .int t_here, .int t_token, .int t_value, .int t_isRealTold, .ref A_t_ends, .ref A_t_letters, .ref A_t_least, .ref A_t_conflicts, .int t_conflictMany, .ref A_t_behind, .ref A_t_placed, .ref A_t_isKept, .ref A_t_lanes, .ref A_t_lengths, .ref A_t_cells, .int t_torn])), (A_t_state, .inl (cy 1, 535, .inl t_state))] → va_S A s.heap H locs → lv_has ls 8 [(0, .ref A_t), (1, .int x1), (2, .int x2), (3, .int x3), (4, .int x4), (5, .int x5), (6, .int x6)] → W p l e (headSpec wsX8_shift { frames := 2, cells := 0, slots := 0, locals := 45 }).room s m ([.ref A_t, .int x1, .int x2] : List Value).toArray below meth c H locs 0 0 Q0 (F0 m 204 ls [.int k3, .int k2, .int k1, .ref A_t_state]) := by
        intro t_state x3 x4 x5 x6 k1 k2 k3 H locs ls h hP hD hS hl
        unfold B_X8_shift_204 at h
        refine lv_iadd hx hb dX8_shift_204 ?_
        refine va_iast hx hb hK.1 hP hD hS 1 1 rfl rfl h.1 dX8_shift_205 (fun H locs hP hD hS => ?_)
        replace h := h.2
        have hP : va_P D vwCl [(A_t, .inr (8, [.ref A_t_state, .ref A_t_tape, .int t_taped, .int t_fault, .int t_broken, .int t_brokenAt, .int t_spot, .int t_here, .int t_token, .int t_value, .int t_isRealTold, .ref A_t_ends, .ref A_t_letters, .ref A_t_least, .ref A_t_conflicts, .int t_conflictMany, .ref A_t_behind, .ref A_t_placed, .ref A_t_isKept, .ref A_t_lanes, .ref A_t_lengths, .ref A_t_cells, .int t_torn])), (A_t_state, .inl (cy 1, 535, .inl (upd t_state k1.toNatClampNeg (k2 + k3))))] H := hP
        have hD : va_D A [(A_t, .inr (8, [.ref A_t_state, .ref A_t_tape, .int t_taped, .int t_fault, .int t_broken, .int t_brokenAt, .int t_spot, .int t_here, .int t_token, .int t_value, .int t_isRealTold, .ref A_t_ends, .ref A_t_letters, .ref A_t_least, .ref A_t_conflicts, .int t_conflictMany, .ref A_t_behind, .ref A_t_placed, .ref A_t_isKept, .ref A_t_lanes, .ref A_t_lengths, .ref A_t_cells, .int t_torn])), (A_t_state, .inl (cy 1, 535, .inl (upd t_state k1.toNatClampNeg (k2 + k3))))] := hD
        refine lv_iload_n hx hb dX8_shift_206 rfl (lv_at hl 3 rfl) ?_
        refine lv_iload hx hb dX8_shift_207 (lv_at hl 6 rfl) ?_
        refine lv_if_eq (tgt := 216) hx hb dX8_shift_209 (by decide) (fun hc => ?_) (fun hc => ?_)
        · replace h := h.1 hc
          refine lv_iconst (v := 0) hx hb dX8_shift_216 (by decide) ?_
          exact J217 (upd t_state k1.toNatClampNeg (k2 + k3)) x4 x5 x3 (0 : Int32) H locs ls h hP hD hS (lv_sub hl [0, 1, 2, 4, 5] rfl)
        · replace h := h.2 hc
          refine lv_iconst (v := 1) hx hb dX8_shift_212 (by decide) ?_
          refine lv_goto (tgt := 217) hx hb dX8_shift_213 (by decide) ?_
          exact J217 (upd t_state k1.toNatClampNeg (k2 + k3)) x4 x5 x3 (1 : Int32) H locs ls h hP hD hS (lv_sub hl [0, 1, 2, 4, 5] rfl)
      have J156 : ∀ (t_state : Nat → Int32) (x3 : Int32) (x4 : Int32) (x5 : Int32) (k0 : Int32) (H : Heap) (locs : List Loc) (ls : Array Slot), B_X8_shift_156 (L_X8_shift_112 post x1 x2 x4 n112) t_state k0 x1 x2 x3 x5 → va_P D vwCl [(A_t, .inr (8, [.ref A_t_state, .ref A_t_tape, .int t_taped, .int t_fault, .int t_broken, .int t_brokenAt, .int t_spot, .int t_here, .int t_token, .int t_value, .int t_isRealTold, .ref A_t_ends, .ref A_t_letters, .ref A_t_least, .ref A_t_conflicts, .int t_conflictMany, .ref A_t_behind, .ref A_t_placed, .ref A_t_isKept, .ref A_t_lanes, .ref A_t_lengths, .ref A_t_cells, .int t_torn])), (A_t_state, .inl (cy 1, 535, .inl t_state))] H → va_D A [(A_t, .inr (8, [.ref A_t_state, .ref A_t_tape, .int t_taped, .int t_fault, .int t_broken, .int t_brokenAt, .int t_spot, .int t_here, .int t_token, .int t_value, .int t_isRealTold, .ref A_t_ends, .ref A_t_letters, .ref A_t_least, .ref A_t_conflicts, .int t_conflictMany, .ref A_t_behind, .ref A_t_placed, .ref A_t_isKept, .ref A_t_lanes, .ref A_t_lengths, .ref A_t_cells, .int t_torn])), (A_t_state, .inl (cy 1, 535, .inl t_state))] → va_S A s.heap H locs → lv_has ls 8 [(0, .ref A_t), (1, .int x1), (2, .int x2), (3, .int x3), (4, .int x4), (5, .int x5)] → W p l e (headSpec wsX8_shift { frames := 2, cells := 0, slots := 0, locals := 45 }).room s m ([.ref A_t, .int x1, .int x2] : List Value).toArray below meth c H locs 0 0 Q0 (F0 m 156 ls [.int k0]) := by
        intro t_state x3 x4 x5 k0 H locs ls h hP hD hS hl
        unfold B_X8_shift_156 at h
        refine lv_istore (lv' := [(6, .int k0), (0, .ref A_t), (1, .int x1), (2, .int x2), (3, .int x3), (4, .int x4), (5, .int x5)]) hx hb dX8_shift_156 hl (by decide) rfl (fun ls hl => ?_)
        refine lv_aload_n hx hb dX8_shift_158 rfl (lv_at hl 1 rfl) ?_
        refine va_get (D := D) (ci := 8) (v := .ref A_t_state) (C := RX8) (T := TX8) (N := 23) hx hb hts iX8 hown hK.1 hP 0 rfl rfl 0 (by decide) f0 (fun _ h9 => h9) rfl dX8_shift_159 ?_
        refine lv_bipush (v := 48) hx hb dX8_shift_162 (by decide) ?_
        refine lv_iload hx hb dX8_shift_164 (lv_at hl 6 rfl) ?_
        refine lv_iadd hx hb dX8_shift_166 ?_
        refine lv_dup2_11 hx hb dX8_shift_167 rfl rfl ?_
        refine va_iald hx hb hK.1 hP 1 1 rfl rfl h.1 dX8_shift_168 ?_
        replace h := h.2
        refine lv_aload_n hx hb dX8_shift_169 rfl (lv_at hl 1 rfl) ?_
        refine va_get (D := D) (ci := 8) (v := .ref A_t_state) (C := RX8) (T := TX8) (N := 23) hx hb hts iX8 hown hK.1 hP 0 rfl rfl 0 (by decide) f0 (fun _ h9 => h9) rfl dX8_shift_170 ?_
        refine lv_iload hx hb dX8_shift_173 (lv_at hl 6 rfl) ?_
        refine va_iald hx hb hK.1 hP 1 1 rfl rfl h.1 dX8_shift_175 ?_
        replace h := h.2
        refine lv_iload_n hx hb dX8_shift_176 rfl (lv_at hl 2 rfl) ?_
        refine lv_icmp_ne (tgt := 184) hx hb dX8_shift_177 (by decide) (fun hc => ?_) (fun hc => ?_)
        · replace h := h.1 hc
          refine lv_aload_n hx hb dX8_shift_184 rfl (lv_at hl 1 rfl) ?_
          refine va_get (D := D) (ci := 8) (v := .ref A_t_state) (C := RX8) (T := TX8) (N := 23) hx hb hts iX8 hown hK.1 hP 0 rfl rfl 0 (by decide) f0 (fun _ h9 => h9) rfl dX8_shift_185 ?_
          refine lv_bipush (v := 24) hx hb dX8_shift_188 (by decide) ?_
          refine lv_iload hx hb dX8_shift_190 (lv_at hl 6 rfl) ?_
          refine lv_iadd hx hb dX8_shift_192 ?_
          refine va_iald hx hb hK.1 hP 1 1 rfl rfl h.1 dX8_shift_193 ?_
          replace h := h.2
          refine lv_iload_n hx hb dX8_shift_194 rfl (lv_at hl 2 rfl) ?_
          refine lv_icmp_ne (tgt := 203) hx hb dX8_shift_195 (by decide) (fun hc => ?_) (fun hc => ?_)
          · replace h := h.1 hc
            refine lv_iconst (v := 0) hx hb dX8_shift_203 (by decide) ?_
            exact J204 t_state x3 x4 x5 k0 ((48 : Int32) + x5) (t_state ((48 : Int32) + x5).toNatClampNeg) (0 : Int32) H locs ls h hP hD hS (lv_sub hl [1, 2, 3, 4, 5, 6, 0] rfl)
          · replace h := h.2 hc
            refine lv_iload_n hx hb dX8_shift_198 rfl (lv_at hl 3 rfl) ?_
            refine lv_ineg hx hb dX8_shift_199 ?_
            refine lv_goto (tgt := 204) hx hb dX8_shift_200 (by decide) ?_
            exact J204 t_state x3 x4 x5 k0 ((48 : Int32) + x5) (t_state ((48 : Int32) + x5).toNatClampNeg) (-x2) H locs ls h hP hD hS (lv_sub hl [1, 2, 3, 4, 5, 6, 0] rfl)
        · replace h := h.2 hc
          refine lv_iload_n hx hb dX8_shift_180 rfl (lv_at hl 3 rfl) ?_
          refine lv_goto (tgt := 204) hx hb dX8_shift_181 (by decide) ?_
          exact J204 t_state x3 x4 x5 k0 ((48 : Int32) + x5) (t_state ((48 : Int32) + x5).toNatClampNeg) x2 H locs ls h hP hD hS (lv_sub hl [1, 2, 3, 4, 5, 6, 0] rfl)
      have J151 : ∀ (t_state : Nat → Int32) (x3 : Int32) (x4 : Int32) (x5 : Int32) (H : Heap) (locs : List Loc) (ls : Array Slot), B_X8_shift_151 (L_X8_shift_112 post x1 x2 x4 n112) t_state x1 x2 x3 x5 → va_P D vwCl [(A_t, .inr (8, [.ref A_t_state, .ref A_t_tape, .int t_taped, .int t_fault, .int t_broken, .int t_brokenAt, .int t_spot, .int t_here, .int t_token, .int t_value, .int t_isRealTold, .ref A_t_ends, .ref A_t_letters, .ref A_t_least, .ref A_t_conflicts, .int t_conflictMany, .ref A_t_behind, .ref A_t_placed, .ref A_t_isKept, .ref A_t_lanes, .ref A_t_lengths, .ref A_t_cells, .int t_torn])), (A_t_state, .inl (cy 1, 535, .inl t_state))] H → va_D A [(A_t, .inr (8, [.ref A_t_state, .ref A_t_tape, .int t_taped, .int t_fault, .int t_broken, .int t_brokenAt, .int t_spot, .int t_here, .int t_token, .int t_value, .int t_isRealTold, .ref A_t_ends, .ref A_t_letters, .ref A_t_least, .ref A_t_conflicts, .int t_conflictMany, .ref A_t_behind, .ref A_t_placed, .ref A_t_isKept, .ref A_t_lanes, .ref A_t_lengths, .ref A_t_cells, .int t_torn])), (A_t_state, .inl (cy 1, 535, .inl t_state))] → va_S A s.heap H locs → lv_has ls 8 [(0, .ref A_t), (1, .int x1), (2, .int x2), (3, .int x3), (4, .int x4), (5, .int x5)] → W p l e (headSpec wsX8_shift { frames := 2, cells := 0, slots := 0, locals := 45 }).room s m ([.ref A_t, .int x1, .int x2] : List Value).toArray below meth c H locs 0 0 Q0 (F0 m 151 ls []) := by
        intro t_state x3 x4 x5 H locs ls h hP hD hS hl
        unfold B_X8_shift_151 at h
        refine lv_iconst (v := 1) hx hb dX8_shift_151 (by decide) ?_
        refine lv_goto (tgt := 156) hx hb dX8_shift_152 (by decide) ?_
        exact J156 t_state x3 x4 x5 (1 : Int32) H locs ls h hP hD hS (lv_sub hl [0, 1, 2, 3, 4, 5] rfl)
      refine lv_iload hx hb dX8_shift_112 (lv_at hl 5 rfl) ?_
      refine lv_aload_n hx hb dX8_shift_114 rfl (lv_at hl 0 rfl) ?_
      have hPc := hP.sub (ws' := [(A_t, .inr (8, [.ref A_t_state, .ref A_t_tape, .int t_taped, .int t_fault, .int t_broken, .int t_brokenAt, .int t_spot, .int t_here, .int t_token, .int t_value, .int t_isRealTold, .ref A_t_ends, .ref A_t_letters, .ref A_t_least, .ref A_t_conflicts, .int t_conflictMany, .ref A_t_behind, .ref A_t_placed, .ref A_t_isKept, .ref A_t_lanes, .ref A_t_lengths, .ref A_t_cells, .int t_torn])), (A_t_state, .inl (cy 1, 535, .inl t_state))]) [0, 1] rfl
      refine vp_callSi (W.runV (As := []) (rest := [.int x5]) CF (c_X8_many l D cy A_t A_t_state A_t_tape A_t_ends A_t_letters A_t_least A_t_conflicts A_t_behind A_t_placed A_t_isKept A_t_lanes A_t_lengths A_t_cells t_taped t_fault t_broken t_brokenAt t_spot t_here t_token t_value t_isRealTold t_conflictMany t_torn t_state _ h) (cwV 0 hts gX8_shift_X8_many rfl rfl rfl qX8_many ⟨Nat.le_of_ble_eq_true rfl, Nat.le_of_ble_eq_true rfl⟩) (mpVR hK hPc (ci := 8) (q := (RX8, TX8, 23)) (q0 := 0) rfl rfl) rfl rfl hl.1 rfl (lv_room (Nat.le_of_ble_eq_true rfl)) dX8_shift_115 ⟨Nat.zero_le _, Nat.zero_le _⟩) (fun r3 h => ?_)
      refine lv_icmp_ge (tgt := 225) hx hb dX8_shift_118 (by decide) (fun hc => ?_) (fun hc => ?_)
      · replace h := h.1 hc
        exact J225 t_state x3 x4 H locs ls h hP hD hS (lv_sub hl [3, 4] rfl)
      · replace h := h.2 hc
        refine lv_iload hx hb dX8_shift_121 (lv_at hl 4 rfl) ?_
        refine lv_if_ne (tgt := 225) hx hb dX8_shift_123 (by decide) (fun hc => ?_) (fun hc => ?_)
        · replace h := h.1 hc
          exact J225 t_state x3 x4 H locs ls h hP hD hS (lv_sub hl [3, 4] rfl)
        · replace h := h.2 hc
          refine lv_aload_n hx hb dX8_shift_126 rfl (lv_at hl 0 rfl) ?_
          refine va_get (D := D) (ci := 8) (v := .ref A_t_state) (C := RX8) (T := TX8) (N := 23) hx hb hts iX8 hown hK.1 hP 0 rfl rfl 0 (by decide) f0 (fun _ h9 => h9) rfl dX8_shift_127 ?_
          refine lv_iload hx hb dX8_shift_130 (lv_at hl 5 rfl) ?_
          refine va_iald hx hb hK.1 hP 1 1 rfl rfl h.1 dX8_shift_132 ?_
          replace h := h.2
          refine lv_iload_n hx hb dX8_shift_133 rfl (lv_at hl 1 rfl) ?_
          refine lv_icmp_eq (tgt := 151) hx hb dX8_shift_134 (by decide) (fun hc => ?_) (fun hc => ?_)
          · replace h := h.1 hc
            exact J151 t_state x3 x4 x5 H locs ls h hP hD hS (lv_sub hl [0, 1, 2, 3, 4, 5] rfl)
          · replace h := h.2 hc
            refine lv_aload_n hx hb dX8_shift_137 rfl (lv_at hl 0 rfl) ?_
            refine va_get (D := D) (ci := 8) (v := .ref A_t_state) (C := RX8) (T := TX8) (N := 23) hx hb hts iX8 hown hK.1 hP 0 rfl rfl 0 (by decide) f0 (fun _ h9 => h9) rfl dX8_shift_138 ?_
            refine lv_bipush (v := 24) hx hb dX8_shift_141 (by decide) ?_
            refine lv_iload hx hb dX8_shift_143 (lv_at hl 5 rfl) ?_
            refine lv_iadd hx hb dX8_shift_145 ?_
            refine va_iald hx hb hK.1 hP 1 1 rfl rfl h.1 dX8_shift_146 ?_
            replace h := h.2
            refine lv_iload_n hx hb dX8_shift_147 rfl (lv_at hl 1 rfl) ?_
            refine lv_icmp_ne (tgt := 155) hx hb dX8_shift_148 (by decide) (fun hc => ?_) (fun hc => ?_)
            · replace h := h.1 hc
              refine lv_iconst (v := 0) hx hb dX8_shift_155 (by decide) ?_
              exact J156 t_state x3 x4 x5 (0 : Int32) H locs ls h hP hD hS (lv_sub hl [0, 1, 2, 3, 4, 5] rfl)
            · replace h := h.2 hc
              exact J151 t_state x3 x4 x5 H locs ls h hP hD hS (lv_sub hl [0, 1, 2, 3, 4, 5] rfl)
  have L17 : ∀ (n17 : Nat) (t_state : Nat → Int32) (x3 : Int32) (x4 : Int32) (x5 : Int32) (H : Heap) (locs : List Loc) (ls : Array Slot), L_X8_shift_17 post t_state x1 x2 x3 n17 x4 x5 → va_P D vwCl [(A_t, .inr (8, [.ref A_t_state, .ref A_t_tape, .int t_taped, .int t_fault, .int t_broken, .int t_brokenAt, .int t_spot, .int t_here, .int t_token, .int t_value, .int t_isRealTold, .ref A_t_ends, .ref A_t_letters, .ref A_t_least, .ref A_t_conflicts, .int t_conflictMany, .ref A_t_behind, .ref A_t_placed, .ref A_t_isKept, .ref A_t_lanes, .ref A_t_lengths, .ref A_t_cells, .int t_torn])), (A_t_state, .inl (cy 1, 535, .inl t_state))] H → va_D A [(A_t, .inr (8, [.ref A_t_state, .ref A_t_tape, .int t_taped, .int t_fault, .int t_broken, .int t_brokenAt, .int t_spot, .int t_here, .int t_token, .int t_value, .int t_isRealTold, .ref A_t_ends, .ref A_t_letters, .ref A_t_least, .ref A_t_conflicts, .int t_conflictMany, .ref A_t_behind, .ref A_t_placed, .ref A_t_isKept, .ref A_t_lanes, .ref A_t_lengths, .ref A_t_cells, .int t_torn])), (A_t_state, .inl (cy 1, 535, .inl t_state))] → va_S A s.heap H locs → lv_has ls 8 [(0, .ref A_t), (1, .int x1), (2, .int x2), (3, .int x3), (4, .int x4), (5, .int x5)] → W p l e (headSpec wsX8_shift { frames := 2, cells := 0, slots := 0, locals := 45 }).room s m ([.ref A_t, .int x1, .int x2] : List Value).toArray below meth c H locs 0 0 Q0 (F0 m 17 ls []) := by
    intro n17
    induction n17 with
    | zero => intro t_state x3 x4 x5 H locs ls h; exact False.elim h
    | succ n17 ih17 =>
      intro t_state x3 x4 x5 H locs ls h hP hD hS hl
      have h : LB_X8_shift_17 post t_state x1 x2 x3 (L_X8_shift_17 post t_state x1 x2 x3 n17) x4 x5 := h
      unfold LB_X8_shift_17 at h
      have J101 : ∀ (t_state : Nat → Int32) (x3 : Int32) (x5 : Int32) (k0 : Int32) (H : Heap) (locs : List Loc) (ls : Array Slot), B_X8_shift_101 (L_X8_shift_17 post t_state x1 x2 x3 n17) k0 x5 → va_P D vwCl [(A_t, .inr (8, [.ref A_t_state, .ref A_t_tape, .int t_taped, .int t_fault, .int t_broken, .int t_brokenAt, .int t_spot, .int t_here, .int t_token, .int t_value, .int t_isRealTold, .ref A_t_ends, .ref A_t_letters, .ref A_t_least, .ref A_t_conflicts, .int t_conflictMany, .ref A_t_behind, .ref A_t_placed, .ref A_t_isKept, .ref A_t_lanes, .ref A_t_lengths, .ref A_t_cells, .int t_torn])), (A_t_state, .inl (cy 1, 535, .inl t_state))] H → va_D A [(A_t, .inr (8, [.ref A_t_state, .ref A_t_tape, .int t_taped, .int t_fault, .int t_broken, .int t_brokenAt, .int t_spot, .int t_here, .int t_token, .int t_value, .int t_isRealTold, .ref A_t_ends, .ref A_t_letters, .ref A_t_least, .ref A_t_conflicts, .int t_conflictMany, .ref A_t_behind, .ref A_t_placed, .ref A_t_isKept, .ref A_t_lanes, .ref A_t_lengths, .ref A_t_cells, .int t_torn])), (A_t_state, .inl (cy 1, 535, .inl t_state))] → va_S A s.heap H locs → lv_has ls 8 [(0, .ref A_t), (1, .int x1), (2, .int x2), (3, .int x3), (5, .int x5)] → W p l e (headSpec wsX8_shift { frames := 2, cells := 0, slots := 0, locals := 45 }).room s m ([.ref A_t, .int x1, .int x2] : List Value).toArray below meth c H locs 0 0 Q0 (F0 m 101 ls [.int k0]) := by
        intro t_state x3 x5 k0 H locs ls h hP hD hS hl
        unfold B_X8_shift_101 at h
        refine lv_istore (lv' := [(4, .int k0), (0, .ref A_t), (1, .int x1), (2, .int x2), (3, .int x3), (5, .int x5)]) hx hb dX8_shift_101 hl (by decide) rfl (fun ls hl => ?_)
        refine lv_iinc (v := x5 + (1 : Int32)) (lv' := [(5, .int (x5 + (1 : Int32))), (4, .int k0), (0, .ref A_t), (1, .int x1), (2, .int x2), (3, .int x3)]) hx hb dX8_shift_103 hl (k := 5) rfl rfl (by decide) rfl (fun ls hl => ?_)
        refine lv_goto (tgt := 17) hx hb dX8_shift_106 (by decide) ?_
        exact ih17 t_state x3 k0 (x5 + (1 : Int32)) H locs ls h hP hD hS (lv_sub hl [2, 3, 4, 5, 1, 0] rfl)
      have J96 : ∀ (t_state : Nat → Int32) (x3 : Int32) (x5 : Int32) (H : Heap) (locs : List Loc) (ls : Array Slot), B_X8_shift_96 (L_X8_shift_17 post t_state x1 x2 x3 n17) x5 → va_P D vwCl [(A_t, .inr (8, [.ref A_t_state, .ref A_t_tape, .int t_taped, .int t_fault, .int t_broken, .int t_brokenAt, .int t_spot, .int t_here, .int t_token, .int t_value, .int t_isRealTold, .ref A_t_ends, .ref A_t_letters, .ref A_t_least, .ref A_t_conflicts, .int t_conflictMany, .ref A_t_behind, .ref A_t_placed, .ref A_t_isKept, .ref A_t_lanes, .ref A_t_lengths, .ref A_t_cells, .int t_torn])), (A_t_state, .inl (cy 1, 535, .inl t_state))] H → va_D A [(A_t, .inr (8, [.ref A_t_state, .ref A_t_tape, .int t_taped, .int t_fault, .int t_broken, .int t_brokenAt, .int t_spot, .int t_here, .int t_token, .int t_value, .int t_isRealTold, .ref A_t_ends, .ref A_t_letters, .ref A_t_least, .ref A_t_conflicts, .int t_conflictMany, .ref A_t_behind, .ref A_t_placed, .ref A_t_isKept, .ref A_t_lanes, .ref A_t_lengths, .ref A_t_cells, .int t_torn])), (A_t_state, .inl (cy 1, 535, .inl t_state))] → va_S A s.heap H locs → lv_has ls 8 [(0, .ref A_t), (1, .int x1), (2, .int x2), (3, .int x3), (5, .int x5)] → W p l e (headSpec wsX8_shift { frames := 2, cells := 0, slots := 0, locals := 45 }).room s m ([.ref A_t, .int x1, .int x2] : List Value).toArray below meth c H locs 0 0 Q0 (F0 m 96 ls []) := by
        intro t_state x3 x5 H locs ls h hP hD hS hl
        unfold B_X8_shift_96 at h
        refine lv_iconst (v := 1) hx hb dX8_shift_96 (by decide) ?_
        refine lv_goto (tgt := 101) hx hb dX8_shift_97 (by decide) ?_
        exact J101 t_state x3 x5 (1 : Int32) H locs ls h hP hD hS (lv_sub hl [0, 1, 2, 3, 4] rfl)
      have J63 : ∀ (t_state : Nat → Int32) (x3 : Int32) (x4 : Int32) (x5 : Int32) (l0 : Int64) (H : Heap) (locs : List Loc) (ls : Array Slot), B_X8_shift_63 (L_X8_shift_17 post t_state x1 x2 x3 n17) t_state l0 x4 x5 → va_P D vwCl [(A_t, .inr (8, [.ref A_t_state, .ref A_t_tape, .int t_taped, .int t_fault, .int t_broken, .int t_brokenAt, .int t_spot, .int t_here, .int t_token, .int t_value, .int t_isRealTold, .ref A_t_ends, .ref A_t_letters, .ref A_t_least, .ref A_t_conflicts, .int t_conflictMany, .ref A_t_behind, .ref A_t_placed, .ref A_t_isKept, .ref A_t_lanes, .ref A_t_lengths, .ref A_t_cells, .int t_torn])), (A_t_state, .inl (cy 1, 535, .inl t_state))] H → va_D A [(A_t, .inr (8, [.ref A_t_state, .ref A_t_tape, .int t_taped, .int t_fault, .int t_broken, .int t_brokenAt, .int t_spot, .int t_here, .int t_token, .int t_value, .int t_isRealTold, .ref A_t_ends, .ref A_t_letters, .ref A_t_least, .ref A_t_conflicts, .int t_conflictMany, .ref A_t_behind, .ref A_t_placed, .ref A_t_isKept, .ref A_t_lanes, .ref A_t_lengths, .ref A_t_cells, .int t_torn])), (A_t_state, .inl (cy 1, 535, .inl t_state))] → va_S A s.heap H locs → lv_has ls 8 [(0, .ref A_t), (1, .int x1), (2, .int x2), (3, .int x3), (4, .int x4), (5, .int x5)] → W p l e (headSpec wsX8_shift { frames := 2, cells := 0, slots := 0, locals := 45 }).room s m ([.ref A_t, .int x1, .int x2] : List Value).toArray below meth c H locs 0 0 Q0 (F0 m 63 ls [.long l0]) := by
        intro t_state x3 x4 x5 l0 H locs ls h hP hD hS hl
        unfold B_X8_shift_63 at h
        refine lv_lstore (lv' := [(6, .long l0), (0, .ref A_t), (1, .int x1), (2, .int x2), (3, .int x3), (4, .int x4), (5, .int x5)]) hx hb dX8_shift_63 hl (by decide) rfl (fun ls hl => ?_)
        refine lv_iload hx hb dX8_shift_65 (lv_at hl 5 rfl) ?_
        refine lv_if_ne (tgt := 96) hx hb dX8_shift_67 (by decide) (fun hc => ?_) (fun hc => ?_)
        · replace h := h.1 hc
          exact J96 t_state x3 x5 H locs ls h hP hD hS (lv_sub hl [1, 2, 3, 4, 6] rfl)
        · replace h := h.2 hc
          refine lv_aload_n hx hb dX8_shift_70 rfl (lv_at hl 1 rfl) ?_
          refine va_get (D := D) (ci := 8) (v := .ref A_t_state) (C := RX8) (T := TX8) (N := 23) hx hb hts iX8 hown hK.1 hP 0 rfl rfl 0 (by decide) f0 (fun _ h9 => h9) rfl dX8_shift_71 ?_
          refine lv_bipush (v := 48) hx hb dX8_shift_74 (by decide) ?_
          refine lv_iload hx hb dX8_shift_76 (lv_at hl 6 rfl) ?_
          refine lv_iadd hx hb dX8_shift_78 ?_
          refine va_iald hx hb hK.1 hP 1 1 rfl rfl h.1 dX8_shift_79 ?_
          replace h := h.2
          refine lv_i2l (v := (t_state ((48 : Int32) + x5).toNatClampNeg).toInt64) hx hb dX8_shift_80 rfl ?_
          refine lv_lload hx hb dX8_shift_81 (lv_at hl 0 rfl) ?_
          refine lv_ladd hx hb dX8_shift_83 ?_
          refine lv_ldc2 (v := -2147483648) hx hb hown f1 dX8_shift_84 ?_
          refine lv_ldc2 (v := 2147483647) hx hb hown f2 dX8_shift_87 ?_
          refine vp_callSi (W.runS (As := [.long (((t_state ((48 : Int32) + x5).toNatClampNeg).toInt64) + l0), .long (-2147483648 : Int64), .long (2147483647 : Int64)]) (rest := []) CF (c_X8_in l (((t_state ((48 : Int32) + x5).toNatClampNeg).toInt64) + l0) (-2147483648 : Int64) (2147483647 : Int64) _ h) (va_cwS 3 hts gX8_shift_X8_in rfl rfl rfl qX8_in.2 ⟨Nat.le_of_ble_eq_true rfl, Nat.le_of_ble_eq_true rfl⟩) mpSN rfl rfl hl.1 rfl (lv_room (Nat.le_of_ble_eq_true rfl)) dX8_shift_90 ⟨Nat.zero_le _, Nat.zero_le _⟩) (fun r4 h => ?_)
          refine lv_if_ne (tgt := 100) hx hb dX8_shift_93 (by decide) (fun hc => ?_) (fun hc => ?_)
          · replace h := h.1 hc
            refine lv_iconst (v := 0) hx hb dX8_shift_100 (by decide) ?_
            exact J101 t_state x3 x5 (0 : Int32) H locs ls h hP hD hS (lv_sub hl [1, 2, 3, 4, 6] rfl)
          · replace h := h.2 hc
            exact J96 t_state x3 x5 H locs ls h hP hD hS (lv_sub hl [1, 2, 3, 4, 6] rfl)
      refine lv_iload hx hb dX8_shift_17 (lv_at hl 5 rfl) ?_
      refine lv_aload_n hx hb dX8_shift_19 rfl (lv_at hl 0 rfl) ?_
      have hPc := hP.sub (ws' := [(A_t, .inr (8, [.ref A_t_state, .ref A_t_tape, .int t_taped, .int t_fault, .int t_broken, .int t_brokenAt, .int t_spot, .int t_here, .int t_token, .int t_value, .int t_isRealTold, .ref A_t_ends, .ref A_t_letters, .ref A_t_least, .ref A_t_conflicts, .int t_conflictMany, .ref A_t_behind, .ref A_t_placed, .ref A_t_isKept, .ref A_t_lanes, .ref A_t_lengths, .ref A_t_cells, .int t_torn])), (A_t_state, .inl (cy 1, 535, .inl t_state))]) [0, 1] rfl
      refine vp_callSi (W.runV (As := []) (rest := [.int x5]) CF (c_X8_many l D cy A_t A_t_state A_t_tape A_t_ends A_t_letters A_t_least A_t_conflicts A_t_behind A_t_placed A_t_isKept A_t_lanes A_t_lengths A_t_cells t_taped t_fault t_broken t_brokenAt t_spot t_here t_token t_value t_isRealTold t_conflictMany t_torn t_state _ h) (cwV 0 hts gX8_shift_X8_many rfl rfl rfl qX8_many ⟨Nat.le_of_ble_eq_true rfl, Nat.le_of_ble_eq_true rfl⟩) (mpVR hK hPc (ci := 8) (q := (RX8, TX8, 23)) (q0 := 0) rfl rfl) rfl rfl hl.1 rfl (lv_room (Nat.le_of_ble_eq_true rfl)) dX8_shift_20 ⟨Nat.zero_le _, Nat.zero_le _⟩) (fun r2 h => ?_)
      refine lv_icmp_ge (tgt := 109) hx hb dX8_shift_23 (by decide) (fun hc => ?_) (fun hc => ?_)
      · replace h := h.1 hc
        refine lv_iconst (v := 0) hx hb dX8_shift_109 (by decide) ?_
        refine lv_istore (lv' := [(5, .int (0 : Int32)), (0, .ref A_t), (1, .int x1), (2, .int x2), (3, .int x3), (4, .int x4)]) hx hb dX8_shift_110 hl (by decide) rfl (fun ls hl => ?_)
        obtain ⟨nn, h⟩ := h
        exact L112 nn t_state x3 x4 (0 : Int32) H locs ls h hP hD hS (lv_sub hl [1, 2, 3, 4, 5, 0] rfl)
      · replace h := h.2 hc
        refine lv_aload_n hx hb dX8_shift_26 rfl (lv_at hl 0 rfl) ?_
        refine va_get (D := D) (ci := 8) (v := .ref A_t_state) (C := RX8) (T := TX8) (N := 23) hx hb hts iX8 hown hK.1 hP 0 rfl rfl 0 (by decide) f0 (fun _ h9 => h9) rfl dX8_shift_27 ?_
        refine lv_iload hx hb dX8_shift_30 (lv_at hl 5 rfl) ?_
        refine va_iald hx hb hK.1 hP 1 1 rfl rfl h.1 dX8_shift_32 ?_
        replace h := h.2
        refine lv_iload_n hx hb dX8_shift_33 rfl (lv_at hl 1 rfl) ?_
        refine lv_icmp_ne (tgt := 42) hx hb dX8_shift_34 (by decide) (fun hc => ?_) (fun hc => ?_)
        · replace h := h.1 hc
          refine lv_aload_n hx hb dX8_shift_42 rfl (lv_at hl 0 rfl) ?_
          refine va_get (D := D) (ci := 8) (v := .ref A_t_state) (C := RX8) (T := TX8) (N := 23) hx hb hts iX8 hown hK.1 hP 0 rfl rfl 0 (by decide) f0 (fun _ h9 => h9) rfl dX8_shift_43 ?_
          refine lv_bipush (v := 24) hx hb dX8_shift_46 (by decide) ?_
          refine lv_iload hx hb dX8_shift_48 (lv_at hl 5 rfl) ?_
          refine lv_iadd hx hb dX8_shift_50 ?_
          refine va_iald hx hb hK.1 hP 1 1 rfl rfl h.1 dX8_shift_51 ?_
          replace h := h.2
          refine lv_iload_n hx hb dX8_shift_52 rfl (lv_at hl 1 rfl) ?_
          refine lv_icmp_ne (tgt := 62) hx hb dX8_shift_53 (by decide) (fun hc => ?_) (fun hc => ?_)
          · replace h := h.1 hc
            refine lv_lconst (v := 0) hx hb dX8_shift_62 (by decide) ?_
            exact J63 t_state x3 x4 x5 (0 : Int64) H locs ls h hP hD hS (lv_sub hl [0, 1, 2, 3, 4, 5] rfl)
          · replace h := h.2 hc
            refine lv_iload_n hx hb dX8_shift_56 rfl (lv_at hl 2 rfl) ?_
            refine lv_i2l (v := x2.toInt64) hx hb dX8_shift_57 rfl ?_
            refine lv_lneg hx hb dX8_shift_58 ?_
            refine lv_goto (tgt := 63) hx hb dX8_shift_59 (by decide) ?_
            exact J63 t_state x3 x4 x5 (-x2.toInt64) H locs ls h hP hD hS (lv_sub hl [0, 1, 2, 3, 4, 5] rfl)
        · replace h := h.2 hc
          refine lv_iload_n hx hb dX8_shift_37 rfl (lv_at hl 2 rfl) ?_
          refine lv_i2l (v := x2.toInt64) hx hb dX8_shift_38 rfl ?_
          refine lv_goto (tgt := 63) hx hb dX8_shift_39 (by decide) ?_
          exact J63 t_state x3 x4 x5 x2.toInt64 H locs ls h hP hD hS (lv_sub hl [0, 1, 2, 3, 4, 5] rfl)
  unfold P_X8_shift at h
  refine lv_iload_n hx hb dX8_shift_0 rfl (lv_at hl 1 rfl) ?_
  refine vp_callSi (W.runS (As := [.int x1]) (rest := []) CF (c_X8_isThing l x1 _ h) (va_cwS 1 hts gX8_shift_X8_isThing rfl rfl rfl qX8_isThing.2 ⟨Nat.le_of_ble_eq_true rfl, Nat.le_of_ble_eq_true rfl⟩) mpSN rfl rfl hl.1 rfl (lv_room (Nat.le_of_ble_eq_true rfl)) dX8_shift_1 ⟨Nat.zero_le _, Nat.zero_le _⟩) (fun r1 h => ?_)
  refine lv_if_ne (tgt := 9) hx hb dX8_shift_4 (by decide) (fun hc => ?_) (fun hc => ?_)
  · replace h := h.1 hc
    refine lv_iconst (v := 0) hx hb dX8_shift_9 (by decide) ?_
    refine lv_istore_n (lv' := [(3, .int (0 : Int32)), (0, .ref A_t), (1, .int x1), (2, .int x2)]) hx hb dX8_shift_10 rfl hl (by decide) rfl (fun ls hl => ?_)
    refine lv_iconst (v := 0) hx hb dX8_shift_11 (by decide) ?_
    refine lv_istore (lv' := [(4, .int (0 : Int32)), (3, .int (0 : Int32)), (0, .ref A_t), (1, .int x1), (2, .int x2)]) hx hb dX8_shift_12 hl (by decide) rfl (fun ls hl => ?_)
    refine lv_iconst (v := 0) hx hb dX8_shift_14 (by decide) ?_
    refine lv_istore (lv' := [(5, .int (0 : Int32)), (4, .int (0 : Int32)), (3, .int (0 : Int32)), (0, .ref A_t), (1, .int x1), (2, .int x2)]) hx hb dX8_shift_15 hl (by decide) rfl (fun ls hl => ?_)
    obtain ⟨nn, h⟩ := h
    exact L17 nn t_state (0 : Int32) (0 : Int32) (0 : Int32) s.heap [] ls h hP hD hS (lv_sub hl [3, 4, 5, 2, 1, 0] rfl)
  · replace h := h.2 hc
    refine lv_iconst (v := -1) hx hb dX8_shift_7 (by decide) ?_
    subst hQ
    subst hAe
    exact W.iret (v := (-1 : Int32)) hx hb hr (fun t ht _ => ⟨⟨(-1 : Int32), t_state, rfl, h, by rw [ht]; exact hP, hD⟩, hS.F ht⟩) hS.2.2 dX8_shift_8
theorem qX8_whole : yX8_whole.cls = RX8 ∧ yX8_whole.cls ≠ "java/lang/invoke/MethodHandle" ∧ yX8_whole.cls ≠ "java/lang/invoke/VarHandle" ∧ (parseMethodDescriptor yX8_whole.desc).map (fun d => d.parameters.length) = some 1 := by decide +kernel
def P_X8_whole (post : Int32 → (Nat → Int32) → (Nat → Int64) → Prop) (t_state : Nat → Int32) (t_least : Nat → Int64) (x1 : Int32) : Prop :=
  P_X8_isFlag (fun (r1 : Int32) => ((¬ r1 = 0 → (vp_in (105 : Int32) 535 ∧ (vp_in (105 : Int32) 535 ∧ P_X8_isHolding (fun (r2 : Int32) (t_least_v2 : Nat → Int64) => ((¬ r2 = 0 → post ((1 : Int32) - (t_state (105 : Int32).toNatClampNeg)) (upd t_state (105 : Int32).toNatClampNeg ((1 : Int32) - x1)) t_least_v2) ∧ (r2 = 0 → (vp_in (105 : Int32) 535 ∧ post (-2 : Int32) (upd (upd t_state (105 : Int32).toNatClampNeg ((1 : Int32) - x1)) (105 : Int32).toNatClampNeg ((1 : Int32) - ((1 : Int32) - (t_state (105 : Int32).toNatClampNeg)))) t_least_v2)))) (upd t_state (105 : Int32).toNatClampNeg ((1 : Int32) - x1)) t_least (0 : Int32)))) ∧ (r1 = 0 → post (-1 : Int32) t_state t_least))) x1
set_option maxHeartbeats 4000000 in
set_option maxRecDepth 100000 in
theorem c_X8_whole (l : Launch) (D : va_G) (cy : Nat → ClassId) (sz : Nat) (A_t A_t_state A_t_tape A_t_ends A_t_letters A_t_least A_t_conflicts A_t_behind A_t_placed A_t_isKept A_t_lanes A_t_lengths A_t_cells : Nat) (t_taped : Int32) (t_fault : Int32) (t_broken : Int32) (t_brokenAt : Int32) (t_spot : Int32) (t_here : Int32) (t_token : Int32) (t_value : Int32) (t_isRealTold : Int32) (t_conflictMany : Int32) (t_torn : Int32) (t_state : Nat → Int32) (t_least : Nat → Int64) (x1 : Int32) (post : Int32 → (Nat → Int32) → (Nat → Int64) → Prop) (h : P_X8_whole post t_state t_least x1) : Met l yX8_whole wsX8_whole { frames := 4, cells := 0, slots := 0, locals := 95 } (pcW D cy [(A_t, .inr (8, [.ref A_t_state, .ref A_t_tape, .int t_taped, .int t_fault, .int t_broken, .int t_brokenAt, .int t_spot, .int t_here, .int t_token, .int t_value, .int t_isRealTold, .ref A_t_ends, .ref A_t_letters, .ref A_t_least, .ref A_t_conflicts, .int t_conflictMany, .ref A_t_behind, .ref A_t_placed, .ref A_t_isKept, .ref A_t_lanes, .ref A_t_lengths, .ref A_t_cells, .int t_torn])), (A_t_state, .inl (cy 1, 535, .inl t_state)), (A_t_least, .inl (cy 2, 100, .inr (.inl t_least)))] sz [.ref A_t, .int x1]) (va_Qi (fun r (u : (Nat → Int32) × (Nat → Int64)) => post r u.1 u.2) (bW D [(A_t, .inr (8, [.ref A_t_state, .ref A_t_tape, .int t_taped, .int t_fault, .int t_broken, .int t_brokenAt, .int t_spot, .int t_here, .int t_token, .int t_value, .int t_isRealTold, .ref A_t_ends, .ref A_t_letters, .ref A_t_least, .ref A_t_conflicts, .int t_conflictMany, .ref A_t_behind, .ref A_t_placed, .ref A_t_isKept, .ref A_t_lanes, .ref A_t_lengths, .ref A_t_cells, .int t_torn])), (A_t_state, .inl (cy 1, 535, .inl t_state)), (A_t_least, .inl (cy 2, 100, .inr (.inl t_least)))] sz (fun u => [(A_t, .inr (8, [.ref A_t_state, .ref A_t_tape, .int t_taped, .int t_fault, .int t_broken, .int t_brokenAt, .int t_spot, .int t_here, .int t_token, .int t_value, .int t_isRealTold, .ref A_t_ends, .ref A_t_letters, .ref A_t_least, .ref A_t_conflicts, .int t_conflictMany, .ref A_t_behind, .ref A_t_placed, .ref A_t_isKept, .ref A_t_lanes, .ref A_t_lengths, .ref A_t_cells, .int t_torn])), (A_t_state, .inl (cy 1, 535, .inl u.1)), (A_t_least, .inl (cy 2, 100, .inr (.inl u.2)))])) (va_A [(A_t, .inr (8, [.ref A_t_state, .ref A_t_tape, .int t_taped, .int t_fault, .int t_broken, .int t_brokenAt, .int t_spot, .int t_here, .int t_token, .int t_value, .int t_isRealTold, .ref A_t_ends, .ref A_t_letters, .ref A_t_least, .ref A_t_conflicts, .int t_conflictMany, .ref A_t_behind, .ref A_t_placed, .ref A_t_isKept, .ref A_t_lanes, .ref A_t_lengths, .ref A_t_cells, .int t_torn])), (A_t_state, .inl (cy 1, 535, .inl t_state)), (A_t_least, .inl (cy 2, 100, .inr (.inl t_least)))] sz)) 0 0 (va_A [(A_t, .inr (8, [.ref A_t_state, .ref A_t_tape, .int t_taped, .int t_fault, .int t_broken, .int t_brokenAt, .int t_spot, .int t_here, .int t_token, .int t_value, .int t_isRealTold, .ref A_t_ends, .ref A_t_letters, .ref A_t_least, .ref A_t_conflicts, .int t_conflictMany, .ref A_t_behind, .ref A_t_placed, .ref A_t_isKept, .ref A_t_lanes, .ref A_t_lengths, .ref A_t_cells, .int t_torn])), (A_t_state, .inl (cy 1, 535, .inl t_state)), (A_t_least, .inl (cy 2, 100, .inr (.inl t_least)))] sz) := by
  refine Met.ofW (cc := cX8_whole) (maxL := 3) (ret := (some .int)) (by decide) rfl ?_
  intro p e s m args below meth c s₁ B hml hv
  obtain ⟨rfl, hsz, hP, hK, hD0⟩ := hv
  have hx := B.exec
  have hb := B.bytes
  have hr := B.returns
  have hts := atoms_spec (ws := wsX8_whole) B.pre
  have hown : s.vm.findClass RX8 = some m.cls := findClass_of_methodNamed B.named
  have hlocks := B.notSynchronized
  have CF : CallFix p m c cX8_whole 3 s ([.ref A_t, .int x1] : List Value).toArray wsX8_whole RX8 := ⟨hx, hb, hml, hown, hts⟩
  have f0 := hts (.fieldLink RX8 7 "GapBoundsModel" "state" "[I") (by decide +kernel)
  have iX8 : ∀ w ∈ u_ws RX8 TX8 23, w ∈ wsX8_whole := by decide +kernel
  subst hsz
  obtain ⟨A, hAe⟩ : ∃ A, A = va_A [(A_t, .inr (8, [.ref A_t_state, .ref A_t_tape, .int t_taped, .int t_fault, .int t_broken, .int t_brokenAt, .int t_spot, .int t_here, .int t_token, .int t_value, .int t_isRealTold, .ref A_t_ends, .ref A_t_letters, .ref A_t_least, .ref A_t_conflicts, .int t_conflictMany, .ref A_t_behind, .ref A_t_placed, .ref A_t_isKept, .ref A_t_lanes, .ref A_t_lengths, .ref A_t_cells, .int t_torn])), (A_t_state, .inl (cy 1, 535, .inl t_state)), (A_t_least, .inl (cy 2, 100, .inr (.inl t_least)))] s.heap.size := ⟨_, rfl⟩
  have hD : va_D A [(A_t, .inr (8, [.ref A_t_state, .ref A_t_tape, .int t_taped, .int t_fault, .int t_broken, .int t_brokenAt, .int t_spot, .int t_here, .int t_token, .int t_value, .int t_isRealTold, .ref A_t_ends, .ref A_t_letters, .ref A_t_least, .ref A_t_conflicts, .int t_conflictMany, .ref A_t_behind, .ref A_t_placed, .ref A_t_isKept, .ref A_t_lanes, .ref A_t_lengths, .ref A_t_cells, .int t_torn])), (A_t_state, .inl (cy 1, 535, .inl t_state)), (A_t_least, .inl (cy 2, 100, .inr (.inl t_least)))] := by rw [hAe]; exact hD0.self
  have hA : ∀ q : Nat, s.heap.size ≤ q → A q := fun q hq => by rw [hAe]; exact Or.inr hq
  have hS : va_S A s.heap s.heap [] := va_S.rf
  have hl := lv_entry [.ref A_t, .int x1] (n := 3) (Nat.le_of_ble_eq_true rfl)
  rw [lg_entry_eq]
  generalize (lg_sl [.ref A_t, .int x1] ++ List.replicate (3 - (lg_sl [.ref A_t, .int x1]).length) Slot.unset).toArray = ls at hl ⊢
  have hl : lv_has ls 3 [(0, .ref A_t), (1, .int x1)] := hl
  refine W.gen (fun Q0 hQ => ?_)
  unfold P_X8_whole at h
  refine lv_iload_n hx hb dX8_whole_0 rfl (lv_at hl 1 rfl) ?_
  refine vp_callSi (W.runS (As := [.int x1]) (rest := []) CF (c_X8_isFlag l x1 _ h) (va_cwS 1 hts gX8_whole_X8_isFlag rfl rfl rfl qX8_isFlag.2 ⟨Nat.le_of_ble_eq_true rfl, Nat.le_of_ble_eq_true rfl⟩) mpSN rfl rfl hl.1 rfl (lv_room (Nat.le_of_ble_eq_true rfl)) dX8_whole_1 ⟨Nat.zero_le _, Nat.zero_le _⟩) (fun r1 h => ?_)
  refine lv_if_ne (tgt := 9) hx hb dX8_whole_4 (by decide) (fun hc => ?_) (fun hc => ?_)
  · replace h := h.1 hc
    refine lv_iconst (v := 1) hx hb dX8_whole_9 (by decide) ?_
    refine lv_aload_n hx hb dX8_whole_10 rfl (lv_at hl 0 rfl) ?_
    refine va_get (D := D) (ci := 8) (v := .ref A_t_state) (C := RX8) (T := TX8) (N := 23) hx hb hts iX8 hown hK.1 hP 0 rfl rfl 0 (by decide) f0 (fun _ h9 => h9) rfl dX8_whole_11 ?_
    refine lv_bipush (v := 105) hx hb dX8_whole_14 (by decide) ?_
    refine va_iald hx hb hK.1 hP 1 1 rfl rfl h.1 dX8_whole_16 ?_
    replace h := h.2
    refine lv_isub hx hb dX8_whole_17 ?_
    refine lv_istore_n (lv' := [(2, .int ((1 : Int32) - (t_state (105 : Int32).toNatClampNeg))), (0, .ref A_t), (1, .int x1)]) hx hb dX8_whole_18 rfl hl (by decide) rfl (fun ls hl => ?_)
    refine lv_aload_n hx hb dX8_whole_19 rfl (lv_at hl 1 rfl) ?_
    refine va_get (D := D) (ci := 8) (v := .ref A_t_state) (C := RX8) (T := TX8) (N := 23) hx hb hts iX8 hown hK.1 hP 0 rfl rfl 0 (by decide) f0 (fun _ h9 => h9) rfl dX8_whole_20 ?_
    refine lv_bipush (v := 105) hx hb dX8_whole_23 (by decide) ?_
    refine lv_iconst (v := 1) hx hb dX8_whole_25 (by decide) ?_
    refine lv_iload_n hx hb dX8_whole_26 rfl (lv_at hl 2 rfl) ?_
    refine lv_isub hx hb dX8_whole_27 ?_
    refine va_iast hx hb hK.1 hP hD hS 1 1 rfl rfl h.1 dX8_whole_28 (fun H locs hP hD hS => ?_)
    replace h := h.2
    have hP : va_P D vwCl [(A_t, .inr (8, [.ref A_t_state, .ref A_t_tape, .int t_taped, .int t_fault, .int t_broken, .int t_brokenAt, .int t_spot, .int t_here, .int t_token, .int t_value, .int t_isRealTold, .ref A_t_ends, .ref A_t_letters, .ref A_t_least, .ref A_t_conflicts, .int t_conflictMany, .ref A_t_behind, .ref A_t_placed, .ref A_t_isKept, .ref A_t_lanes, .ref A_t_lengths, .ref A_t_cells, .int t_torn])), (A_t_state, .inl (cy 1, 535, .inl (upd t_state (105 : Int32).toNatClampNeg ((1 : Int32) - x1)))), (A_t_least, .inl (cy 2, 100, .inr (.inl t_least)))] H := hP
    have hD : va_D A [(A_t, .inr (8, [.ref A_t_state, .ref A_t_tape, .int t_taped, .int t_fault, .int t_broken, .int t_brokenAt, .int t_spot, .int t_here, .int t_token, .int t_value, .int t_isRealTold, .ref A_t_ends, .ref A_t_letters, .ref A_t_least, .ref A_t_conflicts, .int t_conflictMany, .ref A_t_behind, .ref A_t_placed, .ref A_t_isKept, .ref A_t_lanes, .ref A_t_lengths, .ref A_t_cells, .int t_torn])), (A_t_state, .inl (cy 1, 535, .inl (upd t_state (105 : Int32).toNatClampNeg ((1 : Int32) - x1)))), (A_t_least, .inl (cy 2, 100, .inr (.inl t_least)))] := hD
    refine lv_aload_n hx hb dX8_whole_29 rfl (lv_at hl 1 rfl) ?_
    refine lv_iconst (v := 0) hx hb dX8_whole_30 (by decide) ?_
    have hPn : va_P D vwCl ([] ++ [(A_t, .inr (8, [.ref A_t_state, .ref A_t_tape, .int t_taped, .int t_fault, .int t_broken, .int t_brokenAt, .int t_spot, .int t_here, .int t_token, .int t_value, .int t_isRealTold, .ref A_t_ends, .ref A_t_letters, .ref A_t_least, .ref A_t_conflicts, .int t_conflictMany, .ref A_t_behind, .ref A_t_placed, .ref A_t_isKept, .ref A_t_lanes, .ref A_t_lengths, .ref A_t_cells, .int t_torn])), (A_t_state, .inl (cy 1, 535, .inl (upd t_state (105 : Int32).toNatClampNeg ((1 : Int32) - x1)))), (A_t_least, .inl (cy 2, 100, .inr (.inl t_least)))]) H := hP.sub [0, 1, 2] rfl
    have hDn : va_D A ([] ++ [(A_t, .inr (8, [.ref A_t_state, .ref A_t_tape, .int t_taped, .int t_fault, .int t_broken, .int t_brokenAt, .int t_spot, .int t_here, .int t_token, .int t_value, .int t_isRealTold, .ref A_t_ends, .ref A_t_letters, .ref A_t_least, .ref A_t_conflicts, .int t_conflictMany, .ref A_t_behind, .ref A_t_placed, .ref A_t_isKept, .ref A_t_lanes, .ref A_t_lengths, .ref A_t_cells, .int t_torn])), (A_t_state, .inl (cy 1, 535, .inl (upd t_state (105 : Int32).toNatClampNeg ((1 : Int32) - x1)))), (A_t_least, .inl (cy 2, 100, .inr (.inl t_least)))]) := hD.sub [0, 1, 2] (by decide) rfl
    have hPc := gPR hPn
    have hDc := gDR hDn
    refine mw_i (va_runV (As := [.int (0 : Int32)]) (rest := []) CF (c_X8_isHolding l D cy H.size A_t A_t_state A_t_tape A_t_ends A_t_letters A_t_least A_t_conflicts A_t_behind A_t_placed A_t_isKept A_t_lanes A_t_lengths A_t_cells t_taped t_fault t_broken t_brokenAt t_spot t_here t_token t_value t_isRealTold t_conflictMany t_torn (upd t_state (105 : Int32).toNatClampNeg ((1 : Int32) - x1)) t_least (0 : Int32) _ h) (cwV 1 hts gX8_whole_X8_isHolding rfl rfl rfl qX8_isHolding ⟨Nat.le_of_ble_eq_true rfl, Nat.le_of_ble_eq_true rfl⟩) (mpVW hK hPc hDc (ci := 8) (q := (RX8, TX8, 23)) (q0 := 0) rfl rfl) rfl rfl hl.1 rfl (lv_room (Nat.le_of_ble_eq_true rfl)) dX8_whole_31 ⟨Nat.zero_le _, Nat.zero_le _⟩) hPn hDn hS hA (fun r2 t_least_v2 H locs h hP hD hS => ?_)
    have hP : va_P D vwCl [(A_t, .inr (8, [.ref A_t_state, .ref A_t_tape, .int t_taped, .int t_fault, .int t_broken, .int t_brokenAt, .int t_spot, .int t_here, .int t_token, .int t_value, .int t_isRealTold, .ref A_t_ends, .ref A_t_letters, .ref A_t_least, .ref A_t_conflicts, .int t_conflictMany, .ref A_t_behind, .ref A_t_placed, .ref A_t_isKept, .ref A_t_lanes, .ref A_t_lengths, .ref A_t_cells, .int t_torn])), (A_t_state, .inl (cy 1, 535, .inl (upd t_state (105 : Int32).toNatClampNeg ((1 : Int32) - x1)))), (A_t_least, .inl (cy 2, 100, .inr (.inl t_least_v2)))] H := hP.sub [0, 1, 2] rfl
    have hD : va_D A [(A_t, .inr (8, [.ref A_t_state, .ref A_t_tape, .int t_taped, .int t_fault, .int t_broken, .int t_brokenAt, .int t_spot, .int t_here, .int t_token, .int t_value, .int t_isRealTold, .ref A_t_ends, .ref A_t_letters, .ref A_t_least, .ref A_t_conflicts, .int t_conflictMany, .ref A_t_behind, .ref A_t_placed, .ref A_t_isKept, .ref A_t_lanes, .ref A_t_lengths, .ref A_t_cells, .int t_torn])), (A_t_state, .inl (cy 1, 535, .inl (upd t_state (105 : Int32).toNatClampNeg ((1 : Int32) - x1)))), (A_t_least, .inl (cy 2, 100, .inr (.inl t_least_v2)))] := hD.sub [0, 1, 2] (by decide) rfl
    refine lv_if_ne (tgt := 50) hx hb dX8_whole_34 (by decide) (fun hc => ?_) (fun hc => ?_)
    · replace h := h.1 hc
      refine lv_iload_n hx hb dX8_whole_50 rfl (lv_at hl 0 rfl) ?_
      subst hQ
      subst hAe
      exact W.iret (v := (1 : Int32) - (t_state (105 : Int32).toNatClampNeg)) hx hb hr (fun t ht _ => ⟨⟨(1 : Int32) - (t_state (105 : Int32).toNatClampNeg), (upd t_state (105 : Int32).toNatClampNeg ((1 : Int32) - x1), t_least_v2), rfl, h, by rw [ht]; exact hP, hD⟩, hS.F ht⟩) hS.2.2 dX8_whole_51
    · replace h := h.2 hc
      refine lv_aload_n hx hb dX8_whole_37 rfl (lv_at hl 1 rfl) ?_
      refine va_get (D := D) (ci := 8) (v := .ref A_t_state) (C := RX8) (T := TX8) (N := 23) hx hb hts iX8 hown hK.1 hP 0 rfl rfl 0 (by decide) f0 (fun _ h9 => h9) rfl dX8_whole_38 ?_
      refine lv_bipush (v := 105) hx hb dX8_whole_41 (by decide) ?_
      refine lv_iconst (v := 1) hx hb dX8_whole_43 (by decide) ?_
      refine lv_iload_n hx hb dX8_whole_44 rfl (lv_at hl 0 rfl) ?_
      refine lv_isub hx hb dX8_whole_45 ?_
      refine va_iast hx hb hK.1 hP hD hS 1 1 rfl rfl h.1 dX8_whole_46 (fun H locs hP hD hS => ?_)
      replace h := h.2
      have hP : va_P D vwCl [(A_t, .inr (8, [.ref A_t_state, .ref A_t_tape, .int t_taped, .int t_fault, .int t_broken, .int t_brokenAt, .int t_spot, .int t_here, .int t_token, .int t_value, .int t_isRealTold, .ref A_t_ends, .ref A_t_letters, .ref A_t_least, .ref A_t_conflicts, .int t_conflictMany, .ref A_t_behind, .ref A_t_placed, .ref A_t_isKept, .ref A_t_lanes, .ref A_t_lengths, .ref A_t_cells, .int t_torn])), (A_t_state, .inl (cy 1, 535, .inl (upd (upd t_state (105 : Int32).toNatClampNeg ((1 : Int32) - x1)) (105 : Int32).toNatClampNeg ((1 : Int32) - ((1 : Int32) - (t_state (105 : Int32).toNatClampNeg)))))), (A_t_least, .inl (cy 2, 100, .inr (.inl t_least_v2)))] H := hP
      have hD : va_D A [(A_t, .inr (8, [.ref A_t_state, .ref A_t_tape, .int t_taped, .int t_fault, .int t_broken, .int t_brokenAt, .int t_spot, .int t_here, .int t_token, .int t_value, .int t_isRealTold, .ref A_t_ends, .ref A_t_letters, .ref A_t_least, .ref A_t_conflicts, .int t_conflictMany, .ref A_t_behind, .ref A_t_placed, .ref A_t_isKept, .ref A_t_lanes, .ref A_t_lengths, .ref A_t_cells, .int t_torn])), (A_t_state, .inl (cy 1, 535, .inl (upd (upd t_state (105 : Int32).toNatClampNeg ((1 : Int32) - x1)) (105 : Int32).toNatClampNeg ((1 : Int32) - ((1 : Int32) - (t_state (105 : Int32).toNatClampNeg)))))), (A_t_least, .inl (cy 2, 100, .inr (.inl t_least_v2)))] := hD
      refine lv_bipush (v := -2) hx hb dX8_whole_47 (by decide) ?_
      subst hQ
      subst hAe
      exact W.iret (v := (-2 : Int32)) hx hb hr (fun t ht _ => ⟨⟨(-2 : Int32), (upd (upd t_state (105 : Int32).toNatClampNeg ((1 : Int32) - x1)) (105 : Int32).toNatClampNeg ((1 : Int32) - ((1 : Int32) - (t_state (105 : Int32).toNatClampNeg))), t_least_v2), rfl, h, by rw [ht]; exact hP, hD⟩, hS.F ht⟩) hS.2.2 dX8_whole_49
  · replace h := h.2 hc
    refine lv_iconst (v := -1) hx hb dX8_whole_7 (by decide) ?_
    subst hQ
    subst hAe
    exact W.iret (v := (-1 : Int32)) hx hb hr (fun t ht _ => ⟨⟨(-1 : Int32), (t_state, t_least), rfl, h, by rw [ht]; exact hP, hD⟩, hS.F ht⟩) hS.2.2 dX8_whole_8
theorem qX8_push : yX8_push.cls = RX8 ∧ yX8_push.cls ≠ "java/lang/invoke/MethodHandle" ∧ yX8_push.cls ≠ "java/lang/invoke/VarHandle" ∧ (parseMethodDescriptor yX8_push.desc).map (fun d => d.parameters.length) = some 0 := by decide +kernel
def P_X8_push (post : Int32 → (Nat → Int32) → Prop) (t_state : Nat → Int32) : Prop :=
  (vp_in (106 : Int32) 535 ∧ ((¬ t_state (106 : Int32).toNatClampNeg = (8 : Int32) → (vp_in (106 : Int32) 535 ∧ P_X8_many (fun (r1 : Int32) => (vp_in ((96 : Int32) + (t_state (106 : Int32).toNatClampNeg)) 535 ∧ (vp_in (106 : Int32) 535 ∧ (vp_in (106 : Int32) 535 ∧ (vp_in (106 : Int32) 535 ∧ post ((upd (upd t_state ((96 : Int32) + (t_state (106 : Int32).toNatClampNeg)).toNatClampNeg r1) (106 : Int32).toNatClampNeg (((upd t_state ((96 : Int32) + (t_state (106 : Int32).toNatClampNeg)).toNatClampNeg r1) (106 : Int32).toNatClampNeg) + (1 : Int32))) (106 : Int32).toNatClampNeg) (upd (upd t_state ((96 : Int32) + (t_state (106 : Int32).toNatClampNeg)).toNatClampNeg r1) (106 : Int32).toNatClampNeg (((upd t_state ((96 : Int32) + (t_state (106 : Int32).toNatClampNeg)).toNatClampNeg r1) (106 : Int32).toNatClampNeg) + (1 : Int32)))))))) t_state)) ∧ (t_state (106 : Int32).toNatClampNeg = (8 : Int32) → post (-3 : Int32) t_state)))
set_option maxHeartbeats 4000000 in
set_option maxRecDepth 100000 in
theorem c_X8_push (l : Launch) (D : va_G) (cy : Nat → ClassId) (sz : Nat) (A_t A_t_state A_t_tape A_t_ends A_t_letters A_t_least A_t_conflicts A_t_behind A_t_placed A_t_isKept A_t_lanes A_t_lengths A_t_cells : Nat) (t_taped : Int32) (t_fault : Int32) (t_broken : Int32) (t_brokenAt : Int32) (t_spot : Int32) (t_here : Int32) (t_token : Int32) (t_value : Int32) (t_isRealTold : Int32) (t_conflictMany : Int32) (t_torn : Int32) (t_state : Nat → Int32) (post : Int32 → (Nat → Int32) → Prop) (h : P_X8_push post t_state) : Met l yX8_push wsX8_push { frames := 1, cells := 0, slots := 0, locals := 20 } (pcW D cy [(A_t, .inr (8, [.ref A_t_state, .ref A_t_tape, .int t_taped, .int t_fault, .int t_broken, .int t_brokenAt, .int t_spot, .int t_here, .int t_token, .int t_value, .int t_isRealTold, .ref A_t_ends, .ref A_t_letters, .ref A_t_least, .ref A_t_conflicts, .int t_conflictMany, .ref A_t_behind, .ref A_t_placed, .ref A_t_isKept, .ref A_t_lanes, .ref A_t_lengths, .ref A_t_cells, .int t_torn])), (A_t_state, .inl (cy 1, 535, .inl t_state))] sz [.ref A_t]) (va_Qi (fun r (u : (Nat → Int32)) => post r u) (bW D [(A_t, .inr (8, [.ref A_t_state, .ref A_t_tape, .int t_taped, .int t_fault, .int t_broken, .int t_brokenAt, .int t_spot, .int t_here, .int t_token, .int t_value, .int t_isRealTold, .ref A_t_ends, .ref A_t_letters, .ref A_t_least, .ref A_t_conflicts, .int t_conflictMany, .ref A_t_behind, .ref A_t_placed, .ref A_t_isKept, .ref A_t_lanes, .ref A_t_lengths, .ref A_t_cells, .int t_torn])), (A_t_state, .inl (cy 1, 535, .inl t_state))] sz (fun u => [(A_t, .inr (8, [.ref A_t_state, .ref A_t_tape, .int t_taped, .int t_fault, .int t_broken, .int t_brokenAt, .int t_spot, .int t_here, .int t_token, .int t_value, .int t_isRealTold, .ref A_t_ends, .ref A_t_letters, .ref A_t_least, .ref A_t_conflicts, .int t_conflictMany, .ref A_t_behind, .ref A_t_placed, .ref A_t_isKept, .ref A_t_lanes, .ref A_t_lengths, .ref A_t_cells, .int t_torn])), (A_t_state, .inl (cy 1, 535, .inl u))])) (va_A [(A_t, .inr (8, [.ref A_t_state, .ref A_t_tape, .int t_taped, .int t_fault, .int t_broken, .int t_brokenAt, .int t_spot, .int t_here, .int t_token, .int t_value, .int t_isRealTold, .ref A_t_ends, .ref A_t_letters, .ref A_t_least, .ref A_t_conflicts, .int t_conflictMany, .ref A_t_behind, .ref A_t_placed, .ref A_t_isKept, .ref A_t_lanes, .ref A_t_lengths, .ref A_t_cells, .int t_torn])), (A_t_state, .inl (cy 1, 535, .inl t_state))] sz)) 0 0 (va_A [(A_t, .inr (8, [.ref A_t_state, .ref A_t_tape, .int t_taped, .int t_fault, .int t_broken, .int t_brokenAt, .int t_spot, .int t_here, .int t_token, .int t_value, .int t_isRealTold, .ref A_t_ends, .ref A_t_letters, .ref A_t_least, .ref A_t_conflicts, .int t_conflictMany, .ref A_t_behind, .ref A_t_placed, .ref A_t_isKept, .ref A_t_lanes, .ref A_t_lengths, .ref A_t_cells, .int t_torn])), (A_t_state, .inl (cy 1, 535, .inl t_state))] sz) := by
  refine Met.ofW (cc := cX8_push) (maxL := 1) (ret := (some .int)) (by decide) rfl ?_
  intro p e s m args below meth c s₁ B hml hv
  obtain ⟨rfl, hsz, hP, hK, hD0⟩ := hv
  have hx := B.exec
  have hb := B.bytes
  have hr := B.returns
  have hts := atoms_spec (ws := wsX8_push) B.pre
  have hown : s.vm.findClass RX8 = some m.cls := findClass_of_methodNamed B.named
  have hlocks := B.notSynchronized
  have CF : CallFix p m c cX8_push 1 s ([.ref A_t] : List Value).toArray wsX8_push RX8 := ⟨hx, hb, hml, hown, hts⟩
  have f0 := hts (.fieldLink RX8 7 "GapBoundsModel" "state" "[I") (by decide +kernel)
  have iX8 : ∀ w ∈ u_ws RX8 TX8 23, w ∈ wsX8_push := by decide +kernel
  subst hsz
  obtain ⟨A, hAe⟩ : ∃ A, A = va_A [(A_t, .inr (8, [.ref A_t_state, .ref A_t_tape, .int t_taped, .int t_fault, .int t_broken, .int t_brokenAt, .int t_spot, .int t_here, .int t_token, .int t_value, .int t_isRealTold, .ref A_t_ends, .ref A_t_letters, .ref A_t_least, .ref A_t_conflicts, .int t_conflictMany, .ref A_t_behind, .ref A_t_placed, .ref A_t_isKept, .ref A_t_lanes, .ref A_t_lengths, .ref A_t_cells, .int t_torn])), (A_t_state, .inl (cy 1, 535, .inl t_state))] s.heap.size := ⟨_, rfl⟩
  have hD : va_D A [(A_t, .inr (8, [.ref A_t_state, .ref A_t_tape, .int t_taped, .int t_fault, .int t_broken, .int t_brokenAt, .int t_spot, .int t_here, .int t_token, .int t_value, .int t_isRealTold, .ref A_t_ends, .ref A_t_letters, .ref A_t_least, .ref A_t_conflicts, .int t_conflictMany, .ref A_t_behind, .ref A_t_placed, .ref A_t_isKept, .ref A_t_lanes, .ref A_t_lengths, .ref A_t_cells, .int t_torn])), (A_t_state, .inl (cy 1, 535, .inl t_state))] := by rw [hAe]; exact hD0.self
  have hA : ∀ q : Nat, s.heap.size ≤ q → A q := fun q hq => by rw [hAe]; exact Or.inr hq
  have hS : va_S A s.heap s.heap [] := va_S.rf
  have hl := lv_entry [.ref A_t] (n := 1) (Nat.le_of_ble_eq_true rfl)
  rw [lg_entry_eq]
  generalize (lg_sl [.ref A_t] ++ List.replicate (1 - (lg_sl [.ref A_t]).length) Slot.unset).toArray = ls at hl ⊢
  have hl : lv_has ls 1 [(0, .ref A_t)] := hl
  refine W.gen (fun Q0 hQ => ?_)
  unfold P_X8_push at h
  refine lv_aload_n hx hb dX8_push_0 rfl (lv_at hl 0 rfl) ?_
  refine va_get (D := D) (ci := 8) (v := .ref A_t_state) (C := RX8) (T := TX8) (N := 23) hx hb hts iX8 hown hK.1 hP 0 rfl rfl 0 (by decide) f0 (fun _ h9 => h9) rfl dX8_push_1 ?_
  refine lv_bipush (v := 106) hx hb dX8_push_4 (by decide) ?_
  refine va_iald hx hb hK.1 hP 1 1 rfl rfl h.1 dX8_push_6 ?_
  replace h := h.2
  refine lv_bipush (v := 8) hx hb dX8_push_7 (by decide) ?_
  refine lv_icmp_ne (tgt := 15) hx hb dX8_push_9 (by decide) (fun hc => ?_) (fun hc => ?_)
  · replace h := h.1 hc
    refine lv_aload_n hx hb dX8_push_15 rfl (lv_at hl 0 rfl) ?_
    refine va_get (D := D) (ci := 8) (v := .ref A_t_state) (C := RX8) (T := TX8) (N := 23) hx hb hts iX8 hown hK.1 hP 0 rfl rfl 0 (by decide) f0 (fun _ h9 => h9) rfl dX8_push_16 ?_
    refine lv_bipush (v := 96) hx hb dX8_push_19 (by decide) ?_
    refine lv_aload_n hx hb dX8_push_21 rfl (lv_at hl 0 rfl) ?_
    refine va_get (D := D) (ci := 8) (v := .ref A_t_state) (C := RX8) (T := TX8) (N := 23) hx hb hts iX8 hown hK.1 hP 0 rfl rfl 0 (by decide) f0 (fun _ h9 => h9) rfl dX8_push_22 ?_
    refine lv_bipush (v := 106) hx hb dX8_push_25 (by decide) ?_
    refine va_iald hx hb hK.1 hP 1 1 rfl rfl h.1 dX8_push_27 ?_
    replace h := h.2
    refine lv_iadd hx hb dX8_push_28 ?_
    refine lv_aload_n hx hb dX8_push_29 rfl (lv_at hl 0 rfl) ?_
    have hPc := hP.sub (ws' := [(A_t, .inr (8, [.ref A_t_state, .ref A_t_tape, .int t_taped, .int t_fault, .int t_broken, .int t_brokenAt, .int t_spot, .int t_here, .int t_token, .int t_value, .int t_isRealTold, .ref A_t_ends, .ref A_t_letters, .ref A_t_least, .ref A_t_conflicts, .int t_conflictMany, .ref A_t_behind, .ref A_t_placed, .ref A_t_isKept, .ref A_t_lanes, .ref A_t_lengths, .ref A_t_cells, .int t_torn])), (A_t_state, .inl (cy 1, 535, .inl t_state))]) [0, 1] rfl
    refine vp_callSi (W.runV (As := []) (rest := [.int ((96 : Int32) + (t_state (106 : Int32).toNatClampNeg)), .ref A_t_state]) CF (c_X8_many l D cy A_t A_t_state A_t_tape A_t_ends A_t_letters A_t_least A_t_conflicts A_t_behind A_t_placed A_t_isKept A_t_lanes A_t_lengths A_t_cells t_taped t_fault t_broken t_brokenAt t_spot t_here t_token t_value t_isRealTold t_conflictMany t_torn t_state _ h) (cwV 0 hts gX8_push_X8_many rfl rfl rfl qX8_many ⟨Nat.le_of_ble_eq_true rfl, Nat.le_of_ble_eq_true rfl⟩) (mpVR hK hPc (ci := 8) (q := (RX8, TX8, 23)) (q0 := 0) rfl rfl) rfl rfl hl.1 rfl (lv_room (Nat.le_of_ble_eq_true rfl)) dX8_push_30 ⟨Nat.zero_le _, Nat.zero_le _⟩) (fun r1 h => ?_)
    refine va_iast hx hb hK.1 hP hD hS 1 1 rfl rfl h.1 dX8_push_33 (fun H locs hP hD hS => ?_)
    replace h := h.2
    have hP : va_P D vwCl [(A_t, .inr (8, [.ref A_t_state, .ref A_t_tape, .int t_taped, .int t_fault, .int t_broken, .int t_brokenAt, .int t_spot, .int t_here, .int t_token, .int t_value, .int t_isRealTold, .ref A_t_ends, .ref A_t_letters, .ref A_t_least, .ref A_t_conflicts, .int t_conflictMany, .ref A_t_behind, .ref A_t_placed, .ref A_t_isKept, .ref A_t_lanes, .ref A_t_lengths, .ref A_t_cells, .int t_torn])), (A_t_state, .inl (cy 1, 535, .inl (upd t_state ((96 : Int32) + (t_state (106 : Int32).toNatClampNeg)).toNatClampNeg r1)))] H := hP
    have hD : va_D A [(A_t, .inr (8, [.ref A_t_state, .ref A_t_tape, .int t_taped, .int t_fault, .int t_broken, .int t_brokenAt, .int t_spot, .int t_here, .int t_token, .int t_value, .int t_isRealTold, .ref A_t_ends, .ref A_t_letters, .ref A_t_least, .ref A_t_conflicts, .int t_conflictMany, .ref A_t_behind, .ref A_t_placed, .ref A_t_isKept, .ref A_t_lanes, .ref A_t_lengths, .ref A_t_cells, .int t_torn])), (A_t_state, .inl (cy 1, 535, .inl (upd t_state ((96 : Int32) + (t_state (106 : Int32).toNatClampNeg)).toNatClampNeg r1)))] := hD
    refine lv_aload_n hx hb dX8_push_34 rfl (lv_at hl 0 rfl) ?_
    refine va_get (D := D) (ci := 8) (v := .ref A_t_state) (C := RX8) (T := TX8) (N := 23) hx hb hts iX8 hown hK.1 hP 0 rfl rfl 0 (by decide) f0 (fun _ h9 => h9) rfl dX8_push_35 ?_
    refine lv_bipush (v := 106) hx hb dX8_push_38 (by decide) ?_
    refine lv_dup2_11 hx hb dX8_push_40 rfl rfl ?_
    refine va_iald hx hb hK.1 hP 1 1 rfl rfl h.1 dX8_push_41 ?_
    replace h := h.2
    refine lv_iconst (v := 1) hx hb dX8_push_42 (by decide) ?_
    refine lv_iadd hx hb dX8_push_43 ?_
    refine va_iast hx hb hK.1 hP hD hS 1 1 rfl rfl h.1 dX8_push_44 (fun H locs hP hD hS => ?_)
    replace h := h.2
    have hP : va_P D vwCl [(A_t, .inr (8, [.ref A_t_state, .ref A_t_tape, .int t_taped, .int t_fault, .int t_broken, .int t_brokenAt, .int t_spot, .int t_here, .int t_token, .int t_value, .int t_isRealTold, .ref A_t_ends, .ref A_t_letters, .ref A_t_least, .ref A_t_conflicts, .int t_conflictMany, .ref A_t_behind, .ref A_t_placed, .ref A_t_isKept, .ref A_t_lanes, .ref A_t_lengths, .ref A_t_cells, .int t_torn])), (A_t_state, .inl (cy 1, 535, .inl (upd (upd t_state ((96 : Int32) + (t_state (106 : Int32).toNatClampNeg)).toNatClampNeg r1) (106 : Int32).toNatClampNeg (((upd t_state ((96 : Int32) + (t_state (106 : Int32).toNatClampNeg)).toNatClampNeg r1) (106 : Int32).toNatClampNeg) + (1 : Int32)))))] H := hP
    have hD : va_D A [(A_t, .inr (8, [.ref A_t_state, .ref A_t_tape, .int t_taped, .int t_fault, .int t_broken, .int t_brokenAt, .int t_spot, .int t_here, .int t_token, .int t_value, .int t_isRealTold, .ref A_t_ends, .ref A_t_letters, .ref A_t_least, .ref A_t_conflicts, .int t_conflictMany, .ref A_t_behind, .ref A_t_placed, .ref A_t_isKept, .ref A_t_lanes, .ref A_t_lengths, .ref A_t_cells, .int t_torn])), (A_t_state, .inl (cy 1, 535, .inl (upd (upd t_state ((96 : Int32) + (t_state (106 : Int32).toNatClampNeg)).toNatClampNeg r1) (106 : Int32).toNatClampNeg (((upd t_state ((96 : Int32) + (t_state (106 : Int32).toNatClampNeg)).toNatClampNeg r1) (106 : Int32).toNatClampNeg) + (1 : Int32)))))] := hD
    refine lv_aload_n hx hb dX8_push_45 rfl (lv_at hl 0 rfl) ?_
    refine va_get (D := D) (ci := 8) (v := .ref A_t_state) (C := RX8) (T := TX8) (N := 23) hx hb hts iX8 hown hK.1 hP 0 rfl rfl 0 (by decide) f0 (fun _ h9 => h9) rfl dX8_push_46 ?_
    refine lv_bipush (v := 106) hx hb dX8_push_49 (by decide) ?_
    refine va_iald hx hb hK.1 hP 1 1 rfl rfl h.1 dX8_push_51 ?_
    replace h := h.2
    subst hQ
    subst hAe
    exact W.iret (v := (upd (upd t_state ((96 : Int32) + (t_state (106 : Int32).toNatClampNeg)).toNatClampNeg r1) (106 : Int32).toNatClampNeg (((upd t_state ((96 : Int32) + (t_state (106 : Int32).toNatClampNeg)).toNatClampNeg r1) (106 : Int32).toNatClampNeg) + (1 : Int32))) (106 : Int32).toNatClampNeg) hx hb hr (fun t ht _ => ⟨⟨(upd (upd t_state ((96 : Int32) + (t_state (106 : Int32).toNatClampNeg)).toNatClampNeg r1) (106 : Int32).toNatClampNeg (((upd t_state ((96 : Int32) + (t_state (106 : Int32).toNatClampNeg)).toNatClampNeg r1) (106 : Int32).toNatClampNeg) + (1 : Int32))) (106 : Int32).toNatClampNeg, upd (upd t_state ((96 : Int32) + (t_state (106 : Int32).toNatClampNeg)).toNatClampNeg r1) (106 : Int32).toNatClampNeg (((upd t_state ((96 : Int32) + (t_state (106 : Int32).toNatClampNeg)).toNatClampNeg r1) (106 : Int32).toNatClampNeg) + (1 : Int32)), rfl, h, by rw [ht]; exact hP, hD⟩, hS.F ht⟩) hS.2.2 dX8_push_52
  · replace h := h.2 hc
    refine lv_bipush (v := -3) hx hb dX8_push_12 (by decide) ?_
    subst hQ
    subst hAe
    exact W.iret (v := (-3 : Int32)) hx hb hr (fun t ht _ => ⟨⟨(-3 : Int32), t_state, rfl, h, by rw [ht]; exact hP, hD⟩, hS.F ht⟩) hS.2.2 dX8_push_14
theorem qX8_pop : yX8_pop.cls = RX8 ∧ yX8_pop.cls ≠ "java/lang/invoke/MethodHandle" ∧ yX8_pop.cls ≠ "java/lang/invoke/VarHandle" ∧ (parseMethodDescriptor yX8_pop.desc).map (fun d => d.parameters.length) = some 1 := by decide +kernel
def P_X8_pop (post : Int32 → (Nat → Int32) → Prop) (t_state : Nat → Int32) (x1 : Int32) : Prop :=
  (vp_in (106 : Int32) 535 ∧ P_X8_in (fun (r1 : Int32) => ((¬ r1 = 0 → P_X8_many (fun (r2 : Int32) => (vp_in ((96 : Int32) + x1) 535 ∧ (vp_in (104 : Int32) 535 ∧ (vp_in (106 : Int32) 535 ∧ P_X8_many (fun (r3 : Int32) => post (r2 - r3) (upd (upd t_state (104 : Int32).toNatClampNeg (t_state ((96 : Int32) + x1).toNatClampNeg)) (106 : Int32).toNatClampNeg x1)) (upd (upd t_state (104 : Int32).toNatClampNeg (t_state ((96 : Int32) + x1).toNatClampNeg)) (106 : Int32).toNatClampNeg x1))))) t_state) ∧ (r1 = 0 → post (-1 : Int32) t_state))) x1.toInt64 (0 : Int64) (((t_state (106 : Int32).toNatClampNeg) - (1 : Int32)).toInt64))
set_option maxHeartbeats 4000000 in
set_option maxRecDepth 100000 in
theorem c_X8_pop (l : Launch) (D : va_G) (cy : Nat → ClassId) (sz : Nat) (A_t A_t_state A_t_tape A_t_ends A_t_letters A_t_least A_t_conflicts A_t_behind A_t_placed A_t_isKept A_t_lanes A_t_lengths A_t_cells : Nat) (t_taped : Int32) (t_fault : Int32) (t_broken : Int32) (t_brokenAt : Int32) (t_spot : Int32) (t_here : Int32) (t_token : Int32) (t_value : Int32) (t_isRealTold : Int32) (t_conflictMany : Int32) (t_torn : Int32) (t_state : Nat → Int32) (x1 : Int32) (post : Int32 → (Nat → Int32) → Prop) (h : P_X8_pop post t_state x1) : Met l yX8_pop wsX8_pop { frames := 1, cells := 0, slots := 0, locals := 25 } (pcW D cy [(A_t, .inr (8, [.ref A_t_state, .ref A_t_tape, .int t_taped, .int t_fault, .int t_broken, .int t_brokenAt, .int t_spot, .int t_here, .int t_token, .int t_value, .int t_isRealTold, .ref A_t_ends, .ref A_t_letters, .ref A_t_least, .ref A_t_conflicts, .int t_conflictMany, .ref A_t_behind, .ref A_t_placed, .ref A_t_isKept, .ref A_t_lanes, .ref A_t_lengths, .ref A_t_cells, .int t_torn])), (A_t_state, .inl (cy 1, 535, .inl t_state))] sz [.ref A_t, .int x1]) (va_Qi (fun r (u : (Nat → Int32)) => post r u) (bW D [(A_t, .inr (8, [.ref A_t_state, .ref A_t_tape, .int t_taped, .int t_fault, .int t_broken, .int t_brokenAt, .int t_spot, .int t_here, .int t_token, .int t_value, .int t_isRealTold, .ref A_t_ends, .ref A_t_letters, .ref A_t_least, .ref A_t_conflicts, .int t_conflictMany, .ref A_t_behind, .ref A_t_placed, .ref A_t_isKept, .ref A_t_lanes, .ref A_t_lengths, .ref A_t_cells, .int t_torn])), (A_t_state, .inl (cy 1, 535, .inl t_state))] sz (fun u => [(A_t, .inr (8, [.ref A_t_state, .ref A_t_tape, .int t_taped, .int t_fault, .int t_broken, .int t_brokenAt, .int t_spot, .int t_here, .int t_token, .int t_value, .int t_isRealTold, .ref A_t_ends, .ref A_t_letters, .ref A_t_least, .ref A_t_conflicts, .int t_conflictMany, .ref A_t_behind, .ref A_t_placed, .ref A_t_isKept, .ref A_t_lanes, .ref A_t_lengths, .ref A_t_cells, .int t_torn])), (A_t_state, .inl (cy 1, 535, .inl u))])) (va_A [(A_t, .inr (8, [.ref A_t_state, .ref A_t_tape, .int t_taped, .int t_fault, .int t_broken, .int t_brokenAt, .int t_spot, .int t_here, .int t_token, .int t_value, .int t_isRealTold, .ref A_t_ends, .ref A_t_letters, .ref A_t_least, .ref A_t_conflicts, .int t_conflictMany, .ref A_t_behind, .ref A_t_placed, .ref A_t_isKept, .ref A_t_lanes, .ref A_t_lengths, .ref A_t_cells, .int t_torn])), (A_t_state, .inl (cy 1, 535, .inl t_state))] sz)) 0 0 (va_A [(A_t, .inr (8, [.ref A_t_state, .ref A_t_tape, .int t_taped, .int t_fault, .int t_broken, .int t_brokenAt, .int t_spot, .int t_here, .int t_token, .int t_value, .int t_isRealTold, .ref A_t_ends, .ref A_t_letters, .ref A_t_least, .ref A_t_conflicts, .int t_conflictMany, .ref A_t_behind, .ref A_t_placed, .ref A_t_isKept, .ref A_t_lanes, .ref A_t_lengths, .ref A_t_cells, .int t_torn])), (A_t_state, .inl (cy 1, 535, .inl t_state))] sz) := by
  refine Met.ofW (cc := cX8_pop) (maxL := 3) (ret := (some .int)) (by decide) rfl ?_
  intro p e s m args below meth c s₁ B hml hv
  obtain ⟨rfl, hsz, hP, hK, hD0⟩ := hv
  have hx := B.exec
  have hb := B.bytes
  have hr := B.returns
  have hts := atoms_spec (ws := wsX8_pop) B.pre
  have hown : s.vm.findClass RX8 = some m.cls := findClass_of_methodNamed B.named
  have hlocks := B.notSynchronized
  have CF : CallFix p m c cX8_pop 3 s ([.ref A_t, .int x1] : List Value).toArray wsX8_pop RX8 := ⟨hx, hb, hml, hown, hts⟩
  have f0 := hts (.fieldLink RX8 7 "GapBoundsModel" "state" "[I") (by decide +kernel)
  have iX8 : ∀ w ∈ u_ws RX8 TX8 23, w ∈ wsX8_pop := by decide +kernel
  subst hsz
  obtain ⟨A, hAe⟩ : ∃ A, A = va_A [(A_t, .inr (8, [.ref A_t_state, .ref A_t_tape, .int t_taped, .int t_fault, .int t_broken, .int t_brokenAt, .int t_spot, .int t_here, .int t_token, .int t_value, .int t_isRealTold, .ref A_t_ends, .ref A_t_letters, .ref A_t_least, .ref A_t_conflicts, .int t_conflictMany, .ref A_t_behind, .ref A_t_placed, .ref A_t_isKept, .ref A_t_lanes, .ref A_t_lengths, .ref A_t_cells, .int t_torn])), (A_t_state, .inl (cy 1, 535, .inl t_state))] s.heap.size := ⟨_, rfl⟩
  have hD : va_D A [(A_t, .inr (8, [.ref A_t_state, .ref A_t_tape, .int t_taped, .int t_fault, .int t_broken, .int t_brokenAt, .int t_spot, .int t_here, .int t_token, .int t_value, .int t_isRealTold, .ref A_t_ends, .ref A_t_letters, .ref A_t_least, .ref A_t_conflicts, .int t_conflictMany, .ref A_t_behind, .ref A_t_placed, .ref A_t_isKept, .ref A_t_lanes, .ref A_t_lengths, .ref A_t_cells, .int t_torn])), (A_t_state, .inl (cy 1, 535, .inl t_state))] := by rw [hAe]; exact hD0.self
  have hA : ∀ q : Nat, s.heap.size ≤ q → A q := fun q hq => by rw [hAe]; exact Or.inr hq
  have hS : va_S A s.heap s.heap [] := va_S.rf
  have hl := lv_entry [.ref A_t, .int x1] (n := 3) (Nat.le_of_ble_eq_true rfl)
  rw [lg_entry_eq]
  generalize (lg_sl [.ref A_t, .int x1] ++ List.replicate (3 - (lg_sl [.ref A_t, .int x1]).length) Slot.unset).toArray = ls at hl ⊢
  have hl : lv_has ls 3 [(0, .ref A_t), (1, .int x1)] := hl
  refine W.gen (fun Q0 hQ => ?_)
  unfold P_X8_pop at h
  refine lv_iload_n hx hb dX8_pop_0 rfl (lv_at hl 1 rfl) ?_
  refine lv_i2l (v := x1.toInt64) hx hb dX8_pop_1 rfl ?_
  refine lv_lconst (v := 0) hx hb dX8_pop_2 (by decide) ?_
  refine lv_aload_n hx hb dX8_pop_3 rfl (lv_at hl 0 rfl) ?_
  refine va_get (D := D) (ci := 8) (v := .ref A_t_state) (C := RX8) (T := TX8) (N := 23) hx hb hts iX8 hown hK.1 hP 0 rfl rfl 0 (by decide) f0 (fun _ h9 => h9) rfl dX8_pop_4 ?_
  refine lv_bipush (v := 106) hx hb dX8_pop_7 (by decide) ?_
  refine va_iald hx hb hK.1 hP 1 1 rfl rfl h.1 dX8_pop_9 ?_
  replace h := h.2
  refine lv_iconst (v := 1) hx hb dX8_pop_10 (by decide) ?_
  refine lv_isub hx hb dX8_pop_11 ?_
  refine lv_i2l (v := ((t_state (106 : Int32).toNatClampNeg) - (1 : Int32)).toInt64) hx hb dX8_pop_12 rfl ?_
  refine vp_callSi (W.runS (As := [.long x1.toInt64, .long (0 : Int64), .long (((t_state (106 : Int32).toNatClampNeg) - (1 : Int32)).toInt64)]) (rest := []) CF (c_X8_in l x1.toInt64 (0 : Int64) (((t_state (106 : Int32).toNatClampNeg) - (1 : Int32)).toInt64) _ h) (va_cwS 3 hts gX8_pop_X8_in rfl rfl rfl qX8_in.2 ⟨Nat.le_of_ble_eq_true rfl, Nat.le_of_ble_eq_true rfl⟩) mpSN rfl rfl hl.1 rfl (lv_room (Nat.le_of_ble_eq_true rfl)) dX8_pop_13 ⟨Nat.zero_le _, Nat.zero_le _⟩) (fun r1 h => ?_)
  refine lv_if_ne (tgt := 21) hx hb dX8_pop_16 (by decide) (fun hc => ?_) (fun hc => ?_)
  · replace h := h.1 hc
    refine lv_aload_n hx hb dX8_pop_21 rfl (lv_at hl 0 rfl) ?_
    have hPc := hP.sub (ws' := [(A_t, .inr (8, [.ref A_t_state, .ref A_t_tape, .int t_taped, .int t_fault, .int t_broken, .int t_brokenAt, .int t_spot, .int t_here, .int t_token, .int t_value, .int t_isRealTold, .ref A_t_ends, .ref A_t_letters, .ref A_t_least, .ref A_t_conflicts, .int t_conflictMany, .ref A_t_behind, .ref A_t_placed, .ref A_t_isKept, .ref A_t_lanes, .ref A_t_lengths, .ref A_t_cells, .int t_torn])), (A_t_state, .inl (cy 1, 535, .inl t_state))]) [0, 1] rfl
    refine vp_callSi (W.runV (As := []) (rest := []) CF (c_X8_many l D cy A_t A_t_state A_t_tape A_t_ends A_t_letters A_t_least A_t_conflicts A_t_behind A_t_placed A_t_isKept A_t_lanes A_t_lengths A_t_cells t_taped t_fault t_broken t_brokenAt t_spot t_here t_token t_value t_isRealTold t_conflictMany t_torn t_state _ h) (cwV 0 hts gX8_pop_X8_many rfl rfl rfl qX8_many ⟨Nat.le_of_ble_eq_true rfl, Nat.le_of_ble_eq_true rfl⟩) (mpVR hK hPc (ci := 8) (q := (RX8, TX8, 23)) (q0 := 0) rfl rfl) rfl rfl hl.1 rfl (lv_room (Nat.le_of_ble_eq_true rfl)) dX8_pop_22 ⟨Nat.zero_le _, Nat.zero_le _⟩) (fun r2 h => ?_)
    refine lv_istore_n (lv' := [(2, .int r2), (0, .ref A_t), (1, .int x1)]) hx hb dX8_pop_25 rfl hl (by decide) rfl (fun ls hl => ?_)
    refine lv_aload_n hx hb dX8_pop_26 rfl (lv_at hl 1 rfl) ?_
    refine va_get (D := D) (ci := 8) (v := .ref A_t_state) (C := RX8) (T := TX8) (N := 23) hx hb hts iX8 hown hK.1 hP 0 rfl rfl 0 (by decide) f0 (fun _ h9 => h9) rfl dX8_pop_27 ?_
    refine lv_bipush (v := 104) hx hb dX8_pop_30 (by decide) ?_
    refine lv_aload_n hx hb dX8_pop_32 rfl (lv_at hl 1 rfl) ?_
    refine va_get (D := D) (ci := 8) (v := .ref A_t_state) (C := RX8) (T := TX8) (N := 23) hx hb hts iX8 hown hK.1 hP 0 rfl rfl 0 (by decide) f0 (fun _ h9 => h9) rfl dX8_pop_33 ?_
    refine lv_bipush (v := 96) hx hb dX8_pop_36 (by decide) ?_
    refine lv_iload_n hx hb dX8_pop_38 rfl (lv_at hl 2 rfl) ?_
    refine lv_iadd hx hb dX8_pop_39 ?_
    refine va_iald hx hb hK.1 hP 1 1 rfl rfl h.1 dX8_pop_40 ?_
    replace h := h.2
    refine va_iast hx hb hK.1 hP hD hS 1 1 rfl rfl h.1 dX8_pop_41 (fun H locs hP hD hS => ?_)
    replace h := h.2
    have hP : va_P D vwCl [(A_t, .inr (8, [.ref A_t_state, .ref A_t_tape, .int t_taped, .int t_fault, .int t_broken, .int t_brokenAt, .int t_spot, .int t_here, .int t_token, .int t_value, .int t_isRealTold, .ref A_t_ends, .ref A_t_letters, .ref A_t_least, .ref A_t_conflicts, .int t_conflictMany, .ref A_t_behind, .ref A_t_placed, .ref A_t_isKept, .ref A_t_lanes, .ref A_t_lengths, .ref A_t_cells, .int t_torn])), (A_t_state, .inl (cy 1, 535, .inl (upd t_state (104 : Int32).toNatClampNeg (t_state ((96 : Int32) + x1).toNatClampNeg))))] H := hP
    have hD : va_D A [(A_t, .inr (8, [.ref A_t_state, .ref A_t_tape, .int t_taped, .int t_fault, .int t_broken, .int t_brokenAt, .int t_spot, .int t_here, .int t_token, .int t_value, .int t_isRealTold, .ref A_t_ends, .ref A_t_letters, .ref A_t_least, .ref A_t_conflicts, .int t_conflictMany, .ref A_t_behind, .ref A_t_placed, .ref A_t_isKept, .ref A_t_lanes, .ref A_t_lengths, .ref A_t_cells, .int t_torn])), (A_t_state, .inl (cy 1, 535, .inl (upd t_state (104 : Int32).toNatClampNeg (t_state ((96 : Int32) + x1).toNatClampNeg))))] := hD
    refine lv_aload_n hx hb dX8_pop_42 rfl (lv_at hl 1 rfl) ?_
    refine va_get (D := D) (ci := 8) (v := .ref A_t_state) (C := RX8) (T := TX8) (N := 23) hx hb hts iX8 hown hK.1 hP 0 rfl rfl 0 (by decide) f0 (fun _ h9 => h9) rfl dX8_pop_43 ?_
    refine lv_bipush (v := 106) hx hb dX8_pop_46 (by decide) ?_
    refine lv_iload_n hx hb dX8_pop_48 rfl (lv_at hl 2 rfl) ?_
    refine va_iast hx hb hK.1 hP hD hS 1 1 rfl rfl h.1 dX8_pop_49 (fun H locs hP hD hS => ?_)
    replace h := h.2
    have hP : va_P D vwCl [(A_t, .inr (8, [.ref A_t_state, .ref A_t_tape, .int t_taped, .int t_fault, .int t_broken, .int t_brokenAt, .int t_spot, .int t_here, .int t_token, .int t_value, .int t_isRealTold, .ref A_t_ends, .ref A_t_letters, .ref A_t_least, .ref A_t_conflicts, .int t_conflictMany, .ref A_t_behind, .ref A_t_placed, .ref A_t_isKept, .ref A_t_lanes, .ref A_t_lengths, .ref A_t_cells, .int t_torn])), (A_t_state, .inl (cy 1, 535, .inl (upd (upd t_state (104 : Int32).toNatClampNeg (t_state ((96 : Int32) + x1).toNatClampNeg)) (106 : Int32).toNatClampNeg x1)))] H := hP
    have hD : va_D A [(A_t, .inr (8, [.ref A_t_state, .ref A_t_tape, .int t_taped, .int t_fault, .int t_broken, .int t_brokenAt, .int t_spot, .int t_here, .int t_token, .int t_value, .int t_isRealTold, .ref A_t_ends, .ref A_t_letters, .ref A_t_least, .ref A_t_conflicts, .int t_conflictMany, .ref A_t_behind, .ref A_t_placed, .ref A_t_isKept, .ref A_t_lanes, .ref A_t_lengths, .ref A_t_cells, .int t_torn])), (A_t_state, .inl (cy 1, 535, .inl (upd (upd t_state (104 : Int32).toNatClampNeg (t_state ((96 : Int32) + x1).toNatClampNeg)) (106 : Int32).toNatClampNeg x1)))] := hD
    refine lv_iload_n hx hb dX8_pop_50 rfl (lv_at hl 0 rfl) ?_
    refine lv_aload_n hx hb dX8_pop_51 rfl (lv_at hl 1 rfl) ?_
    have hPc := hP.sub (ws' := [(A_t, .inr (8, [.ref A_t_state, .ref A_t_tape, .int t_taped, .int t_fault, .int t_broken, .int t_brokenAt, .int t_spot, .int t_here, .int t_token, .int t_value, .int t_isRealTold, .ref A_t_ends, .ref A_t_letters, .ref A_t_least, .ref A_t_conflicts, .int t_conflictMany, .ref A_t_behind, .ref A_t_placed, .ref A_t_isKept, .ref A_t_lanes, .ref A_t_lengths, .ref A_t_cells, .int t_torn])), (A_t_state, .inl (cy 1, 535, .inl (upd (upd t_state (104 : Int32).toNatClampNeg (t_state ((96 : Int32) + x1).toNatClampNeg)) (106 : Int32).toNatClampNeg x1)))]) [0, 1] rfl
    refine vp_callSi (W.runV (As := []) (rest := [.int r2]) CF (c_X8_many l D cy A_t A_t_state A_t_tape A_t_ends A_t_letters A_t_least A_t_conflicts A_t_behind A_t_placed A_t_isKept A_t_lanes A_t_lengths A_t_cells t_taped t_fault t_broken t_brokenAt t_spot t_here t_token t_value t_isRealTold t_conflictMany t_torn (upd (upd t_state (104 : Int32).toNatClampNeg (t_state ((96 : Int32) + x1).toNatClampNeg)) (106 : Int32).toNatClampNeg x1) _ h) (cwV 0 hts gX8_pop_X8_many rfl rfl rfl qX8_many ⟨Nat.le_of_ble_eq_true rfl, Nat.le_of_ble_eq_true rfl⟩) (mpVR hK hPc (ci := 8) (q := (RX8, TX8, 23)) (q0 := 0) rfl rfl) rfl rfl hl.1 rfl (lv_room (Nat.le_of_ble_eq_true rfl)) dX8_pop_52 ⟨Nat.zero_le _, Nat.zero_le _⟩) (fun r3 h => ?_)
    refine lv_isub hx hb dX8_pop_55 ?_
    subst hQ
    subst hAe
    exact W.iret (v := r2 - r3) hx hb hr (fun t ht _ => ⟨⟨r2 - r3, upd (upd t_state (104 : Int32).toNatClampNeg (t_state ((96 : Int32) + x1).toNatClampNeg)) (106 : Int32).toNatClampNeg x1, rfl, h, by rw [ht]; exact hP, hD⟩, hS.F ht⟩) hS.2.2 dX8_pop_56
  · replace h := h.2 hc
    refine lv_iconst (v := -1) hx hb dX8_pop_19 (by decide) ?_
    subst hQ
    subst hAe
    exact W.iret (v := (-1 : Int32)) hx hb hr (fun t ht _ => ⟨⟨(-1 : Int32), t_state, rfl, h, by rw [ht]; exact hP, hD⟩, hS.F ht⟩) hS.2.2 dX8_pop_20
theorem qX8_level : yX8_level.cls = RX8 ∧ yX8_level.cls ≠ "java/lang/invoke/MethodHandle" ∧ yX8_level.cls ≠ "java/lang/invoke/VarHandle" ∧ (parseMethodDescriptor yX8_level.desc).map (fun d => d.parameters.length) = some 1 := by decide +kernel
def P_X8_level (post : Int32 → Prop) (t_state : Nat → Int32) (x1 : Int32) : Prop :=
  (vp_in (106 : Int32) 535 ∧ P_X8_in (fun (r1 : Int32) => ((r1 = 0 → post (-1 : Int32)) ∧ (¬ r1 = 0 → (vp_in ((96 : Int32) + x1) 535 ∧ post (t_state ((96 : Int32) + x1).toNatClampNeg))))) x1.toInt64 (0 : Int64) (((t_state (106 : Int32).toNatClampNeg) - (1 : Int32)).toInt64))
set_option maxHeartbeats 4000000 in
set_option maxRecDepth 100000 in
theorem c_X8_level (l : Launch) (D : va_G) (cy : Nat → ClassId) (A_t A_t_state A_t_tape A_t_ends A_t_letters A_t_least A_t_conflicts A_t_behind A_t_placed A_t_isKept A_t_lanes A_t_lengths A_t_cells : Nat) (t_taped : Int32) (t_fault : Int32) (t_broken : Int32) (t_brokenAt : Int32) (t_spot : Int32) (t_here : Int32) (t_token : Int32) (t_value : Int32) (t_isRealTold : Int32) (t_conflictMany : Int32) (t_torn : Int32) (t_state : Nat → Int32) (x1 : Int32) (post : Int32 → Prop) (h : P_X8_level post t_state x1) : Met l yX8_level wsX8_level { frames := 1, cells := 0, slots := 0, locals := 25 } (pcR D cy [(A_t, .inr (8, [.ref A_t_state, .ref A_t_tape, .int t_taped, .int t_fault, .int t_broken, .int t_brokenAt, .int t_spot, .int t_here, .int t_token, .int t_value, .int t_isRealTold, .ref A_t_ends, .ref A_t_letters, .ref A_t_least, .ref A_t_conflicts, .int t_conflictMany, .ref A_t_behind, .ref A_t_placed, .ref A_t_isKept, .ref A_t_lanes, .ref A_t_lengths, .ref A_t_cells, .int t_torn])), (A_t_state, .inl (cy 1, 535, .inl t_state))] [.ref A_t, .int x1]) (vp_Si post) 0 0 (fun _ => False) := by
  refine Met.ofW (cc := cX8_level) (maxL := 2) (ret := (some .int)) (by decide) rfl ?_
  intro p e s m args below meth c s₁ B hml hv
  obtain ⟨rfl, hP, hK⟩ := hv
  have hx := B.exec
  have hb := B.bytes
  have hr := B.returns
  have hts := atoms_spec (ws := wsX8_level) B.pre
  have hown : s.vm.findClass RX8 = some m.cls := findClass_of_methodNamed B.named
  have hlocks := B.notSynchronized
  have CF : CallFix p m c cX8_level 2 s ([.ref A_t, .int x1] : List Value).toArray wsX8_level RX8 := ⟨hx, hb, hml, hown, hts⟩
  have f0 := hts (.fieldLink RX8 7 "GapBoundsModel" "state" "[I") (by decide +kernel)
  have iX8 : ∀ w ∈ u_ws RX8 TX8 23, w ∈ wsX8_level := by decide +kernel
  have hl := lv_entry [.ref A_t, .int x1] (n := 2) (Nat.le_of_ble_eq_true rfl)
  rw [lg_entry_eq]
  generalize (lg_sl [.ref A_t, .int x1] ++ List.replicate (2 - (lg_sl [.ref A_t, .int x1]).length) Slot.unset).toArray = ls at hl ⊢
  have hl : lv_has ls 2 [(0, .ref A_t), (1, .int x1)] := hl
  refine W.gen (fun Q0 hQ => ?_)
  unfold P_X8_level at h
  refine lv_iload_n hx hb dX8_level_0 rfl (lv_at hl 1 rfl) ?_
  refine lv_i2l (v := x1.toInt64) hx hb dX8_level_1 rfl ?_
  refine lv_lconst (v := 0) hx hb dX8_level_2 (by decide) ?_
  refine lv_aload_n hx hb dX8_level_3 rfl (lv_at hl 0 rfl) ?_
  refine va_get (D := D) (ci := 8) (v := .ref A_t_state) (C := RX8) (T := TX8) (N := 23) hx hb hts iX8 hown hK.1 hP 0 rfl rfl 0 (by decide) f0 (fun _ h9 => h9) rfl dX8_level_4 ?_
  refine lv_bipush (v := 106) hx hb dX8_level_7 (by decide) ?_
  refine va_iald hx hb hK.1 hP 1 1 rfl rfl h.1 dX8_level_9 ?_
  replace h := h.2
  refine lv_iconst (v := 1) hx hb dX8_level_10 (by decide) ?_
  refine lv_isub hx hb dX8_level_11 ?_
  refine lv_i2l (v := ((t_state (106 : Int32).toNatClampNeg) - (1 : Int32)).toInt64) hx hb dX8_level_12 rfl ?_
  refine vp_callSi (W.runS (As := [.long x1.toInt64, .long (0 : Int64), .long (((t_state (106 : Int32).toNatClampNeg) - (1 : Int32)).toInt64)]) (rest := []) CF (c_X8_in l x1.toInt64 (0 : Int64) (((t_state (106 : Int32).toNatClampNeg) - (1 : Int32)).toInt64) _ h) (va_cwS 3 hts gX8_level_X8_in rfl rfl rfl qX8_in.2 ⟨Nat.le_of_ble_eq_true rfl, Nat.le_of_ble_eq_true rfl⟩) mpSN rfl rfl hl.1 rfl (lv_room (Nat.le_of_ble_eq_true rfl)) dX8_level_13 ⟨Nat.zero_le _, Nat.zero_le _⟩) (fun r1 h => ?_)
  refine lv_if_eq (tgt := 31) hx hb dX8_level_16 (by decide) (fun hc => ?_) (fun hc => ?_)
  · replace h := h.1 hc
    refine lv_iconst (v := -1) hx hb dX8_level_31 (by decide) ?_
    subst hQ
    exact W.iret (v := (-1 : Int32)) hx hb hr (fun t ht _ => ⟨(-1 : Int32), rfl, h, ht⟩) (fun _ hq => absurd hq List.not_mem_nil) dX8_level_32
  · replace h := h.2 hc
    refine lv_aload_n hx hb dX8_level_19 rfl (lv_at hl 0 rfl) ?_
    refine va_get (D := D) (ci := 8) (v := .ref A_t_state) (C := RX8) (T := TX8) (N := 23) hx hb hts iX8 hown hK.1 hP 0 rfl rfl 0 (by decide) f0 (fun _ h9 => h9) rfl dX8_level_20 ?_
    refine lv_bipush (v := 96) hx hb dX8_level_23 (by decide) ?_
    refine lv_iload_n hx hb dX8_level_25 rfl (lv_at hl 1 rfl) ?_
    refine lv_iadd hx hb dX8_level_26 ?_
    refine va_iald hx hb hK.1 hP 1 1 rfl rfl h.1 dX8_level_27 ?_
    replace h := h.2
    refine lv_goto (tgt := 32) hx hb dX8_level_28 (by decide) ?_
    subst hQ
    exact W.iret (v := t_state ((96 : Int32) + x1).toNatClampNeg) hx hb hr (fun t ht _ => ⟨t_state ((96 : Int32) + x1).toNatClampNeg, rfl, h, ht⟩) (fun _ hq => absurd hq List.not_mem_nil) dX8_level_32
theorem qX8_told : yX8_told.cls = RX8 ∧ yX8_told.cls ≠ "java/lang/invoke/MethodHandle" ∧ yX8_told.cls ≠ "java/lang/invoke/VarHandle" ∧ (parseMethodDescriptor yX8_told.desc).map (fun d => d.parameters.length) = some 2 := by decide +kernel
def P_X8_told (post : Int64 → Prop) (x2 : Int32) (y0 : Int64) : Prop :=
  ((y0 < (1000000000000000000 : Int64) → ((¬ x2 = 0 → P_X8_edgesOf (fun (r1 : Int64) => post r1) y0) ∧ (x2 = 0 → P_X8_limitOf (fun (r2 : Int64) => post r2) y0))) ∧ (¬ y0 < (1000000000000000000 : Int64) → post (1000000000000 : Int64)))
set_option maxHeartbeats 4000000 in
set_option maxRecDepth 100000 in
theorem c_X8_told (l : Launch) (y0 : Int64) (x2 : Int32) (post : Int64 → Prop) (h : P_X8_told post x2 y0) : Met l yX8_told wsX8_told { frames := 2, cells := 0, slots := 0, locals := 44 } (pcN [.long y0, .int x2]) (vp_Sl post) 0 0 (fun _ => False) := by
  refine Met.ofW (cc := cX8_told) (maxL := 3) (ret := (some .long)) (by decide) rfl ?_
  intro p e s m args below meth c s₁ B hml hv
  obtain ⟨rfl, -⟩ := hv
  have hx := B.exec
  have hb := B.bytes
  have hr := B.returns
  have hts := atoms_spec (ws := wsX8_told) B.pre
  have hown : s.vm.findClass RX8 = some m.cls := findClass_of_methodNamed B.named
  have hlocks := B.notSynchronized
  have CF : CallFix p m c cX8_told 3 s ([.long y0, .int x2] : List Value).toArray wsX8_told RX8 := ⟨hx, hb, hml, hown, hts⟩
  have f0 := hts (.constantLong RX8 151 (1000000000000000000)) (by decide +kernel)
  have f1 := hts (.constantLong RX8 196 (1000000000000)) (by decide +kernel)
  have hl := lv_entry [.long y0, .int x2] (n := 3) (Nat.le_of_ble_eq_true rfl)
  rw [lg_entry_eq]
  generalize (lg_sl [.long y0, .int x2] ++ List.replicate (3 - (lg_sl [.long y0, .int x2]).length) Slot.unset).toArray = ls at hl ⊢
  have hl : lv_has ls 3 [(0, .long y0), (2, .int x2)] := hl
  refine W.gen (fun Q0 hQ => ?_)
  unfold P_X8_told at h
  refine lv_lload_n hx hb dX8_told_0 rfl (lv_at hl 0 rfl) ?_
  refine lv_ldc2 (v := 1000000000000000000) hx hb hown f0 dX8_told_1 ?_
  refine lx_lt (tgt := 14) hx hb dX8_told_4 dX8_told_5 (by decide) (fun hc => ?_) (fun hc => ?_)
  · replace h := h.1 hc
    refine lv_iload_n hx hb dX8_told_14 rfl (lv_at hl 1 rfl) ?_
    refine lv_if_ne (tgt := 25) hx hb dX8_told_15 (by decide) (fun hc => ?_) (fun hc => ?_)
    · replace h := h.1 hc
      refine lv_lload_n hx hb dX8_told_25 rfl (lv_at hl 0 rfl) ?_
      refine vp_callSl (W.runS (As := [.long y0]) (rest := []) CF (c_X8_edgesOf l y0 _ h) (va_cwS 1 hts gX8_told_X8_edgesOf rfl rfl rfl qX8_edgesOf.2 ⟨Nat.le_of_ble_eq_true rfl, Nat.le_of_ble_eq_true rfl⟩) mpSN rfl rfl hl.1 rfl (lv_room (Nat.le_of_ble_eq_true rfl)) dX8_told_26 ⟨Nat.zero_le _, Nat.zero_le _⟩) (fun r1 h => ?_)
      subst hQ
      exact W.lret (v := r1) hx hb hr (fun t ht _ => ⟨r1, rfl, h, ht⟩) (fun _ hq => absurd hq List.not_mem_nil) dX8_told_29
    · replace h := h.2 hc
      refine lv_lload_n hx hb dX8_told_18 rfl (lv_at hl 0 rfl) ?_
      refine vp_callSl (W.runS (As := [.long y0]) (rest := []) CF (c_X8_limitOf l y0 _ h) (va_cwS 1 hts gX8_told_X8_limitOf rfl rfl rfl qX8_limitOf.2 ⟨Nat.le_of_ble_eq_true rfl, Nat.le_of_ble_eq_true rfl⟩) mpSN rfl rfl hl.1 rfl (lv_room (Nat.le_of_ble_eq_true rfl)) dX8_told_19 ⟨Nat.zero_le _, Nat.zero_le _⟩) (fun r2 h => ?_)
      refine lv_goto (tgt := 29) hx hb dX8_told_22 (by decide) ?_
      subst hQ
      exact W.lret (v := r2) hx hb hr (fun t ht _ => ⟨r2, rfl, h, ht⟩) (fun _ hq => absurd hq List.not_mem_nil) dX8_told_29
  · replace h := h.2 hc
    refine lv_ldc2 (v := 1000000000000) hx hb hown f1 dX8_told_8 ?_
    refine lv_goto (tgt := 29) hx hb dX8_told_11 (by decide) ?_
    subst hQ
    exact W.lret (v := (1000000000000 : Int64)) hx hb hr (fun t ht _ => ⟨(1000000000000 : Int64), rfl, h, ht⟩) (fun _ hq => absurd hq List.not_mem_nil) dX8_told_29
theorem qX8_implied : yX8_implied.cls = RX8 ∧ yX8_implied.cls ≠ "java/lang/invoke/MethodHandle" ∧ yX8_implied.cls ≠ "java/lang/invoke/VarHandle" ∧ (parseMethodDescriptor yX8_implied.desc).map (fun d => d.parameters.length) = some 3 := by decide +kernel
def P_X8_implied (post : Int64 → (Nat → Int64) → Prop) (t_state : Nat → Int32) (t_least : Nat → Int64) (x1 : Int32) (x2 : Int32) (x3 : Int32) : Prop :=
  P_X8_isThing (fun (r1 : Int32) => ((r1 = 0 → post (-1 : Int64) t_least) ∧ (¬ r1 = 0 → P_X8_isThing (fun (r2 : Int32) => ((r2 = 0 → post (-1 : Int64) t_least) ∧ (¬ r2 = 0 → P_X8_isFlag (fun (r3 : Int32) => ((¬ r3 = 0 → P_X8_reckons (fun (t_least_v4 : Nat → Int64) => (vp_in (((10 : Int32) * x2) + x1) 100 ∧ P_X8_told (fun (r5 : Int64) => post r5 t_least_v4) x3 (t_least_v4 (((10 : Int32) * x2) + x1).toNatClampNeg))) t_state t_least (0 : Int32) (-4 : Int32)) ∧ (r3 = 0 → post (-1 : Int64) t_least))) x3))) x2))) x1
set_option maxHeartbeats 4000000 in
set_option maxRecDepth 100000 in
theorem c_X8_implied (l : Launch) (D : va_G) (cy : Nat → ClassId) (sz : Nat) (A_t A_t_state A_t_tape A_t_ends A_t_letters A_t_least A_t_conflicts A_t_behind A_t_placed A_t_isKept A_t_lanes A_t_lengths A_t_cells : Nat) (t_taped : Int32) (t_fault : Int32) (t_broken : Int32) (t_brokenAt : Int32) (t_spot : Int32) (t_here : Int32) (t_token : Int32) (t_value : Int32) (t_isRealTold : Int32) (t_conflictMany : Int32) (t_torn : Int32) (t_state : Nat → Int32) (t_least : Nat → Int64) (x1 : Int32) (x2 : Int32) (x3 : Int32) (post : Int64 → (Nat → Int64) → Prop) (h : P_X8_implied post t_state t_least x1 x2 x3) : Met l yX8_implied wsX8_implied { frames := 3, cells := 0, slots := 0, locals := 72 } (pcW D cy [(A_t, .inr (8, [.ref A_t_state, .ref A_t_tape, .int t_taped, .int t_fault, .int t_broken, .int t_brokenAt, .int t_spot, .int t_here, .int t_token, .int t_value, .int t_isRealTold, .ref A_t_ends, .ref A_t_letters, .ref A_t_least, .ref A_t_conflicts, .int t_conflictMany, .ref A_t_behind, .ref A_t_placed, .ref A_t_isKept, .ref A_t_lanes, .ref A_t_lengths, .ref A_t_cells, .int t_torn])), (A_t_state, .inl (cy 1, 535, .inl t_state)), (A_t_least, .inl (cy 2, 100, .inr (.inl t_least)))] sz [.ref A_t, .int x1, .int x2, .int x3]) (va_Ql (fun r (u : (Nat → Int64)) => post r u) (bW D [(A_t, .inr (8, [.ref A_t_state, .ref A_t_tape, .int t_taped, .int t_fault, .int t_broken, .int t_brokenAt, .int t_spot, .int t_here, .int t_token, .int t_value, .int t_isRealTold, .ref A_t_ends, .ref A_t_letters, .ref A_t_least, .ref A_t_conflicts, .int t_conflictMany, .ref A_t_behind, .ref A_t_placed, .ref A_t_isKept, .ref A_t_lanes, .ref A_t_lengths, .ref A_t_cells, .int t_torn])), (A_t_state, .inl (cy 1, 535, .inl t_state)), (A_t_least, .inl (cy 2, 100, .inr (.inl t_least)))] sz (fun u => [(A_t, .inr (8, [.ref A_t_state, .ref A_t_tape, .int t_taped, .int t_fault, .int t_broken, .int t_brokenAt, .int t_spot, .int t_here, .int t_token, .int t_value, .int t_isRealTold, .ref A_t_ends, .ref A_t_letters, .ref A_t_least, .ref A_t_conflicts, .int t_conflictMany, .ref A_t_behind, .ref A_t_placed, .ref A_t_isKept, .ref A_t_lanes, .ref A_t_lengths, .ref A_t_cells, .int t_torn])), (A_t_state, .inl (cy 1, 535, .inl t_state)), (A_t_least, .inl (cy 2, 100, .inr (.inl u)))])) (va_A [(A_t, .inr (8, [.ref A_t_state, .ref A_t_tape, .int t_taped, .int t_fault, .int t_broken, .int t_brokenAt, .int t_spot, .int t_here, .int t_token, .int t_value, .int t_isRealTold, .ref A_t_ends, .ref A_t_letters, .ref A_t_least, .ref A_t_conflicts, .int t_conflictMany, .ref A_t_behind, .ref A_t_placed, .ref A_t_isKept, .ref A_t_lanes, .ref A_t_lengths, .ref A_t_cells, .int t_torn])), (A_t_state, .inl (cy 1, 535, .inl t_state)), (A_t_least, .inl (cy 2, 100, .inr (.inl t_least)))] sz)) 0 0 (va_A [(A_t, .inr (8, [.ref A_t_state, .ref A_t_tape, .int t_taped, .int t_fault, .int t_broken, .int t_brokenAt, .int t_spot, .int t_here, .int t_token, .int t_value, .int t_isRealTold, .ref A_t_ends, .ref A_t_letters, .ref A_t_least, .ref A_t_conflicts, .int t_conflictMany, .ref A_t_behind, .ref A_t_placed, .ref A_t_isKept, .ref A_t_lanes, .ref A_t_lengths, .ref A_t_cells, .int t_torn])), (A_t_state, .inl (cy 1, 535, .inl t_state)), (A_t_least, .inl (cy 2, 100, .inr (.inl t_least)))] sz) := by
  refine Met.ofW (cc := cX8_implied) (maxL := 4) (ret := (some .long)) (by decide) rfl ?_
  intro p e s m args below meth c s₁ B hml hv
  obtain ⟨rfl, hsz, hP, hK, hD0⟩ := hv
  have hx := B.exec
  have hb := B.bytes
  have hr := B.returns
  have hts := atoms_spec (ws := wsX8_implied) B.pre
  have hown : s.vm.findClass RX8 = some m.cls := findClass_of_methodNamed B.named
  have hlocks := B.notSynchronized
  have CF : CallFix p m c cX8_implied 4 s ([.ref A_t, .int x1, .int x2, .int x3] : List Value).toArray wsX8_implied RX8 := ⟨hx, hb, hml, hown, hts⟩
  have f0 := hts (.constantLong RX8 233 (-1)) (by decide +kernel)
  have f1 := hts (.fieldLink RX8 22 "GapBoundsModel" "least" "[J") (by decide +kernel)
  have iX8 : ∀ w ∈ u_ws RX8 TX8 23, w ∈ wsX8_implied := by decide +kernel
  subst hsz
  obtain ⟨A, hAe⟩ : ∃ A, A = va_A [(A_t, .inr (8, [.ref A_t_state, .ref A_t_tape, .int t_taped, .int t_fault, .int t_broken, .int t_brokenAt, .int t_spot, .int t_here, .int t_token, .int t_value, .int t_isRealTold, .ref A_t_ends, .ref A_t_letters, .ref A_t_least, .ref A_t_conflicts, .int t_conflictMany, .ref A_t_behind, .ref A_t_placed, .ref A_t_isKept, .ref A_t_lanes, .ref A_t_lengths, .ref A_t_cells, .int t_torn])), (A_t_state, .inl (cy 1, 535, .inl t_state)), (A_t_least, .inl (cy 2, 100, .inr (.inl t_least)))] s.heap.size := ⟨_, rfl⟩
  have hD : va_D A [(A_t, .inr (8, [.ref A_t_state, .ref A_t_tape, .int t_taped, .int t_fault, .int t_broken, .int t_brokenAt, .int t_spot, .int t_here, .int t_token, .int t_value, .int t_isRealTold, .ref A_t_ends, .ref A_t_letters, .ref A_t_least, .ref A_t_conflicts, .int t_conflictMany, .ref A_t_behind, .ref A_t_placed, .ref A_t_isKept, .ref A_t_lanes, .ref A_t_lengths, .ref A_t_cells, .int t_torn])), (A_t_state, .inl (cy 1, 535, .inl t_state)), (A_t_least, .inl (cy 2, 100, .inr (.inl t_least)))] := by rw [hAe]; exact hD0.self
  have hA : ∀ q : Nat, s.heap.size ≤ q → A q := fun q hq => by rw [hAe]; exact Or.inr hq
  have hS : va_S A s.heap s.heap [] := va_S.rf
  have hl := lv_entry [.ref A_t, .int x1, .int x2, .int x3] (n := 4) (Nat.le_of_ble_eq_true rfl)
  rw [lg_entry_eq]
  generalize (lg_sl [.ref A_t, .int x1, .int x2, .int x3] ++ List.replicate (4 - (lg_sl [.ref A_t, .int x1, .int x2, .int x3]).length) Slot.unset).toArray = ls at hl ⊢
  have hl : lv_has ls 4 [(0, .ref A_t), (1, .int x1), (2, .int x2), (3, .int x3)] := hl
  refine W.gen (fun Q0 hQ => ?_)
  unfold P_X8_implied at h
  refine lv_iload_n hx hb dX8_implied_0 rfl (lv_at hl 1 rfl) ?_
  refine vp_callSi (W.runS (As := [.int x1]) (rest := []) CF (c_X8_isThing l x1 _ h) (va_cwS 1 hts gX8_implied_X8_isThing rfl rfl rfl qX8_isThing.2 ⟨Nat.le_of_ble_eq_true rfl, Nat.le_of_ble_eq_true rfl⟩) mpSN rfl rfl hl.1 rfl (lv_room (Nat.le_of_ble_eq_true rfl)) dX8_implied_1 ⟨Nat.zero_le _, Nat.zero_le _⟩) (fun r1 h => ?_)
  refine lv_if_eq (tgt := 21) hx hb dX8_implied_4 (by decide) (fun hc => ?_) (fun hc => ?_)
  · replace h := h.1 hc
    refine lv_ldc2 (v := -1) hx hb hown f0 dX8_implied_21 ?_
    subst hQ
    subst hAe
    exact W.lret (v := (-1 : Int64)) hx hb hr (fun t ht _ => ⟨⟨(-1 : Int64), t_least, rfl, h, by rw [ht]; exact hP, hD⟩, hS.F ht⟩) hS.2.2 dX8_implied_24
  · replace h := h.2 hc
    refine lv_iload_n hx hb dX8_implied_7 rfl (lv_at hl 2 rfl) ?_
    refine vp_callSi (W.runS (As := [.int x2]) (rest := []) CF (c_X8_isThing l x2 _ h) (va_cwS 1 hts gX8_implied_X8_isThing rfl rfl rfl qX8_isThing.2 ⟨Nat.le_of_ble_eq_true rfl, Nat.le_of_ble_eq_true rfl⟩) mpSN rfl rfl hl.1 rfl (lv_room (Nat.le_of_ble_eq_true rfl)) dX8_implied_8 ⟨Nat.zero_le _, Nat.zero_le _⟩) (fun r2 h => ?_)
    refine lv_if_eq (tgt := 21) hx hb dX8_implied_11 (by decide) (fun hc => ?_) (fun hc => ?_)
    · replace h := h.1 hc
      refine lv_ldc2 (v := -1) hx hb hown f0 dX8_implied_21 ?_
      subst hQ
      subst hAe
      exact W.lret (v := (-1 : Int64)) hx hb hr (fun t ht _ => ⟨⟨(-1 : Int64), t_least, rfl, h, by rw [ht]; exact hP, hD⟩, hS.F ht⟩) hS.2.2 dX8_implied_24
    · replace h := h.2 hc
      refine lv_iload_n hx hb dX8_implied_14 rfl (lv_at hl 3 rfl) ?_
      refine vp_callSi (W.runS (As := [.int x3]) (rest := []) CF (c_X8_isFlag l x3 _ h) (va_cwS 1 hts gX8_implied_X8_isFlag rfl rfl rfl qX8_isFlag.2 ⟨Nat.le_of_ble_eq_true rfl, Nat.le_of_ble_eq_true rfl⟩) mpSN rfl rfl hl.1 rfl (lv_room (Nat.le_of_ble_eq_true rfl)) dX8_implied_15 ⟨Nat.zero_le _, Nat.zero_le _⟩) (fun r3 h => ?_)
      refine lv_if_ne (tgt := 25) hx hb dX8_implied_18 (by decide) (fun hc => ?_) (fun hc => ?_)
      · replace h := h.1 hc
        refine lv_aload_n hx hb dX8_implied_25 rfl (lv_at hl 0 rfl) ?_
        refine lv_iconst (v := 0) hx hb dX8_implied_26 (by decide) ?_
        refine lv_bipush (v := -4) hx hb dX8_implied_27 (by decide) ?_
        have hPn : va_P D vwCl ([] ++ [(A_t, .inr (8, [.ref A_t_state, .ref A_t_tape, .int t_taped, .int t_fault, .int t_broken, .int t_brokenAt, .int t_spot, .int t_here, .int t_token, .int t_value, .int t_isRealTold, .ref A_t_ends, .ref A_t_letters, .ref A_t_least, .ref A_t_conflicts, .int t_conflictMany, .ref A_t_behind, .ref A_t_placed, .ref A_t_isKept, .ref A_t_lanes, .ref A_t_lengths, .ref A_t_cells, .int t_torn])), (A_t_state, .inl (cy 1, 535, .inl t_state)), (A_t_least, .inl (cy 2, 100, .inr (.inl t_least)))]) s.heap := hP.sub [0, 1, 2] rfl
        have hDn : va_D A ([] ++ [(A_t, .inr (8, [.ref A_t_state, .ref A_t_tape, .int t_taped, .int t_fault, .int t_broken, .int t_brokenAt, .int t_spot, .int t_here, .int t_token, .int t_value, .int t_isRealTold, .ref A_t_ends, .ref A_t_letters, .ref A_t_least, .ref A_t_conflicts, .int t_conflictMany, .ref A_t_behind, .ref A_t_placed, .ref A_t_isKept, .ref A_t_lanes, .ref A_t_lengths, .ref A_t_cells, .int t_torn])), (A_t_state, .inl (cy 1, 535, .inl t_state)), (A_t_least, .inl (cy 2, 100, .inr (.inl t_least)))]) := hD.sub [0, 1, 2] (by decide) rfl
        have hPc := gPR hPn
        have hDc := gDR hDn
        refine mw_v (va_runV (As := [.int (0 : Int32), .int (-4 : Int32)]) (rest := []) CF (c_X8_reckons l D cy s.heap.size A_t A_t_state A_t_tape A_t_ends A_t_letters A_t_least A_t_conflicts A_t_behind A_t_placed A_t_isKept A_t_lanes A_t_lengths A_t_cells t_taped t_fault t_broken t_brokenAt t_spot t_here t_token t_value t_isRealTold t_conflictMany t_torn t_state t_least (0 : Int32) (-4 : Int32) _ h) (cwV 2 hts gX8_implied_X8_reckons rfl rfl rfl qX8_reckons ⟨Nat.le_of_ble_eq_true rfl, Nat.le_of_ble_eq_true rfl⟩) (mpVW hK hPc hDc (ci := 8) (q := (RX8, TX8, 23)) (q0 := 0) rfl rfl) rfl rfl hl.1 rfl (lv_room (Nat.le_of_ble_eq_true rfl)) dX8_implied_29 ⟨Nat.zero_le _, Nat.zero_le _⟩) hPn hDn hS hA (fun t_least_v4 H locs h hP hD hS => ?_)
        have hP : va_P D vwCl [(A_t, .inr (8, [.ref A_t_state, .ref A_t_tape, .int t_taped, .int t_fault, .int t_broken, .int t_brokenAt, .int t_spot, .int t_here, .int t_token, .int t_value, .int t_isRealTold, .ref A_t_ends, .ref A_t_letters, .ref A_t_least, .ref A_t_conflicts, .int t_conflictMany, .ref A_t_behind, .ref A_t_placed, .ref A_t_isKept, .ref A_t_lanes, .ref A_t_lengths, .ref A_t_cells, .int t_torn])), (A_t_state, .inl (cy 1, 535, .inl t_state)), (A_t_least, .inl (cy 2, 100, .inr (.inl t_least_v4)))] H := hP.sub [0, 1, 2] rfl
        have hD : va_D A [(A_t, .inr (8, [.ref A_t_state, .ref A_t_tape, .int t_taped, .int t_fault, .int t_broken, .int t_brokenAt, .int t_spot, .int t_here, .int t_token, .int t_value, .int t_isRealTold, .ref A_t_ends, .ref A_t_letters, .ref A_t_least, .ref A_t_conflicts, .int t_conflictMany, .ref A_t_behind, .ref A_t_placed, .ref A_t_isKept, .ref A_t_lanes, .ref A_t_lengths, .ref A_t_cells, .int t_torn])), (A_t_state, .inl (cy 1, 535, .inl t_state)), (A_t_least, .inl (cy 2, 100, .inr (.inl t_least_v4)))] := hD.sub [0, 1, 2] (by decide) rfl
        refine lv_aload_n hx hb dX8_implied_32 rfl (lv_at hl 0 rfl) ?_
        refine va_get (D := D) (ci := 8) (v := .ref A_t_least) (C := RX8) (T := TX8) (N := 23) hx hb hts iX8 hown hK.1 hP 0 rfl rfl 13 (by decide) f1 (fun _ h9 => h9) rfl dX8_implied_33 ?_
        refine lv_bipush (v := 10) hx hb dX8_implied_36 (by decide) ?_
        refine lv_iload_n hx hb dX8_implied_38 rfl (lv_at hl 2 rfl) ?_
        refine lv_imul hx hb dX8_implied_39 ?_
        refine lv_iload_n hx hb dX8_implied_40 rfl (lv_at hl 1 rfl) ?_
        refine lv_iadd hx hb dX8_implied_41 ?_
        refine va_lald hx hb hK.1 hP 2 2 rfl rfl h.1 dX8_implied_42 ?_
        replace h := h.2
        refine lv_iload_n hx hb dX8_implied_43 rfl (lv_at hl 3 rfl) ?_
        refine vp_callSl (W.runS (As := [.long (t_least_v4 (((10 : Int32) * x2) + x1).toNatClampNeg), .int x3]) (rest := []) CF (c_X8_told l (t_least_v4 (((10 : Int32) * x2) + x1).toNatClampNeg) x3 _ h) (va_cwS 2 hts gX8_implied_X8_told rfl rfl rfl qX8_told.2 ⟨Nat.le_of_ble_eq_true rfl, Nat.le_of_ble_eq_true rfl⟩) mpSN rfl rfl hl.1 rfl (lv_room (Nat.le_of_ble_eq_true rfl)) dX8_implied_44 ⟨Nat.zero_le _, Nat.zero_le _⟩) (fun r5 h => ?_)
        subst hQ
        subst hAe
        exact W.lret (v := r5) hx hb hr (fun t ht _ => ⟨⟨r5, t_least_v4, rfl, h, by rw [ht]; exact hP, hD⟩, hS.F ht⟩) hS.2.2 dX8_implied_47
      · replace h := h.2 hc
        refine lv_ldc2 (v := -1) hx hb hown f0 dX8_implied_21 ?_
        subst hQ
        subst hAe
        exact W.lret (v := (-1 : Int64)) hx hb hr (fun t ht _ => ⟨⟨(-1 : Int64), t_least, rfl, h, by rw [ht]; exact hP, hD⟩, hS.F ht⟩) hS.2.2 dX8_implied_24
theorem qX8_fixed : yX8_fixed.cls = RX8 ∧ yX8_fixed.cls ≠ "java/lang/invoke/MethodHandle" ∧ yX8_fixed.cls ≠ "java/lang/invoke/VarHandle" ∧ (parseMethodDescriptor yX8_fixed.desc).map (fun d => d.parameters.length) = some 2 := by decide +kernel
def P_X8_fixed (post : Int32 → (Nat → Int64) → Prop) (t_state : Nat → Int32) (t_least : Nat → Int64) (x1 : Int32) (x2 : Int32) : Prop :=
  P_X8_isThing (fun (r1 : Int32) => ((r1 = 0 → post (-1 : Int32) t_least) ∧ (¬ r1 = 0 → P_X8_isThing (fun (r2 : Int32) => ((¬ r2 = 0 → P_X8_reckons (fun (t_least_v3 : Nat → Int64) => P_X8_isFixed (fun (r4 : Int32) => ((r4 = 0 → post (0 : Int32) t_least_v3) ∧ (¬ r4 = 0 → post (1 : Int32) t_least_v3))) t_least_v3 x1 x2) t_state t_least (0 : Int32) (-4 : Int32)) ∧ (r2 = 0 → post (-1 : Int32) t_least))) x2))) x1
set_option maxHeartbeats 4000000 in
set_option maxRecDepth 100000 in
theorem c_X8_fixed (l : Launch) (D : va_G) (cy : Nat → ClassId) (sz : Nat) (A_t A_t_state A_t_tape A_t_ends A_t_letters A_t_least A_t_conflicts A_t_behind A_t_placed A_t_isKept A_t_lanes A_t_lengths A_t_cells : Nat) (t_taped : Int32) (t_fault : Int32) (t_broken : Int32) (t_brokenAt : Int32) (t_spot : Int32) (t_here : Int32) (t_token : Int32) (t_value : Int32) (t_isRealTold : Int32) (t_conflictMany : Int32) (t_torn : Int32) (t_state : Nat → Int32) (t_least : Nat → Int64) (x1 : Int32) (x2 : Int32) (post : Int32 → (Nat → Int64) → Prop) (h : P_X8_fixed post t_state t_least x1 x2) : Met l yX8_fixed wsX8_fixed { frames := 3, cells := 0, slots := 0, locals := 72 } (pcW D cy [(A_t, .inr (8, [.ref A_t_state, .ref A_t_tape, .int t_taped, .int t_fault, .int t_broken, .int t_brokenAt, .int t_spot, .int t_here, .int t_token, .int t_value, .int t_isRealTold, .ref A_t_ends, .ref A_t_letters, .ref A_t_least, .ref A_t_conflicts, .int t_conflictMany, .ref A_t_behind, .ref A_t_placed, .ref A_t_isKept, .ref A_t_lanes, .ref A_t_lengths, .ref A_t_cells, .int t_torn])), (A_t_state, .inl (cy 1, 535, .inl t_state)), (A_t_least, .inl (cy 2, 100, .inr (.inl t_least)))] sz [.ref A_t, .int x1, .int x2]) (va_Qi (fun r (u : (Nat → Int64)) => post r u) (bW D [(A_t, .inr (8, [.ref A_t_state, .ref A_t_tape, .int t_taped, .int t_fault, .int t_broken, .int t_brokenAt, .int t_spot, .int t_here, .int t_token, .int t_value, .int t_isRealTold, .ref A_t_ends, .ref A_t_letters, .ref A_t_least, .ref A_t_conflicts, .int t_conflictMany, .ref A_t_behind, .ref A_t_placed, .ref A_t_isKept, .ref A_t_lanes, .ref A_t_lengths, .ref A_t_cells, .int t_torn])), (A_t_state, .inl (cy 1, 535, .inl t_state)), (A_t_least, .inl (cy 2, 100, .inr (.inl t_least)))] sz (fun u => [(A_t, .inr (8, [.ref A_t_state, .ref A_t_tape, .int t_taped, .int t_fault, .int t_broken, .int t_brokenAt, .int t_spot, .int t_here, .int t_token, .int t_value, .int t_isRealTold, .ref A_t_ends, .ref A_t_letters, .ref A_t_least, .ref A_t_conflicts, .int t_conflictMany, .ref A_t_behind, .ref A_t_placed, .ref A_t_isKept, .ref A_t_lanes, .ref A_t_lengths, .ref A_t_cells, .int t_torn])), (A_t_state, .inl (cy 1, 535, .inl t_state)), (A_t_least, .inl (cy 2, 100, .inr (.inl u)))])) (va_A [(A_t, .inr (8, [.ref A_t_state, .ref A_t_tape, .int t_taped, .int t_fault, .int t_broken, .int t_brokenAt, .int t_spot, .int t_here, .int t_token, .int t_value, .int t_isRealTold, .ref A_t_ends, .ref A_t_letters, .ref A_t_least, .ref A_t_conflicts, .int t_conflictMany, .ref A_t_behind, .ref A_t_placed, .ref A_t_isKept, .ref A_t_lanes, .ref A_t_lengths, .ref A_t_cells, .int t_torn])), (A_t_state, .inl (cy 1, 535, .inl t_state)), (A_t_least, .inl (cy 2, 100, .inr (.inl t_least)))] sz)) 0 0 (va_A [(A_t, .inr (8, [.ref A_t_state, .ref A_t_tape, .int t_taped, .int t_fault, .int t_broken, .int t_brokenAt, .int t_spot, .int t_here, .int t_token, .int t_value, .int t_isRealTold, .ref A_t_ends, .ref A_t_letters, .ref A_t_least, .ref A_t_conflicts, .int t_conflictMany, .ref A_t_behind, .ref A_t_placed, .ref A_t_isKept, .ref A_t_lanes, .ref A_t_lengths, .ref A_t_cells, .int t_torn])), (A_t_state, .inl (cy 1, 535, .inl t_state)), (A_t_least, .inl (cy 2, 100, .inr (.inl t_least)))] sz) := by
  refine Met.ofW (cc := cX8_fixed) (maxL := 3) (ret := (some .int)) (by decide) rfl ?_
  intro p e s m args below meth c s₁ B hml hv
  obtain ⟨rfl, hsz, hP, hK, hD0⟩ := hv
  have hx := B.exec
  have hb := B.bytes
  have hr := B.returns
  have hts := atoms_spec (ws := wsX8_fixed) B.pre
  have hown : s.vm.findClass RX8 = some m.cls := findClass_of_methodNamed B.named
  have hlocks := B.notSynchronized
  have CF : CallFix p m c cX8_fixed 3 s ([.ref A_t, .int x1, .int x2] : List Value).toArray wsX8_fixed RX8 := ⟨hx, hb, hml, hown, hts⟩
  subst hsz
  obtain ⟨A, hAe⟩ : ∃ A, A = va_A [(A_t, .inr (8, [.ref A_t_state, .ref A_t_tape, .int t_taped, .int t_fault, .int t_broken, .int t_brokenAt, .int t_spot, .int t_here, .int t_token, .int t_value, .int t_isRealTold, .ref A_t_ends, .ref A_t_letters, .ref A_t_least, .ref A_t_conflicts, .int t_conflictMany, .ref A_t_behind, .ref A_t_placed, .ref A_t_isKept, .ref A_t_lanes, .ref A_t_lengths, .ref A_t_cells, .int t_torn])), (A_t_state, .inl (cy 1, 535, .inl t_state)), (A_t_least, .inl (cy 2, 100, .inr (.inl t_least)))] s.heap.size := ⟨_, rfl⟩
  have hD : va_D A [(A_t, .inr (8, [.ref A_t_state, .ref A_t_tape, .int t_taped, .int t_fault, .int t_broken, .int t_brokenAt, .int t_spot, .int t_here, .int t_token, .int t_value, .int t_isRealTold, .ref A_t_ends, .ref A_t_letters, .ref A_t_least, .ref A_t_conflicts, .int t_conflictMany, .ref A_t_behind, .ref A_t_placed, .ref A_t_isKept, .ref A_t_lanes, .ref A_t_lengths, .ref A_t_cells, .int t_torn])), (A_t_state, .inl (cy 1, 535, .inl t_state)), (A_t_least, .inl (cy 2, 100, .inr (.inl t_least)))] := by rw [hAe]; exact hD0.self
  have hA : ∀ q : Nat, s.heap.size ≤ q → A q := fun q hq => by rw [hAe]; exact Or.inr hq
  have hS : va_S A s.heap s.heap [] := va_S.rf
  have hl := lv_entry [.ref A_t, .int x1, .int x2] (n := 3) (Nat.le_of_ble_eq_true rfl)
  rw [lg_entry_eq]
  generalize (lg_sl [.ref A_t, .int x1, .int x2] ++ List.replicate (3 - (lg_sl [.ref A_t, .int x1, .int x2]).length) Slot.unset).toArray = ls at hl ⊢
  have hl : lv_has ls 3 [(0, .ref A_t), (1, .int x1), (2, .int x2)] := hl
  refine W.gen (fun Q0 hQ => ?_)
  unfold P_X8_fixed at h
  refine lv_iload_n hx hb dX8_fixed_0 rfl (lv_at hl 1 rfl) ?_
  refine vp_callSi (W.runS (As := [.int x1]) (rest := []) CF (c_X8_isThing l x1 _ h) (va_cwS 1 hts gX8_fixed_X8_isThing rfl rfl rfl qX8_isThing.2 ⟨Nat.le_of_ble_eq_true rfl, Nat.le_of_ble_eq_true rfl⟩) mpSN rfl rfl hl.1 rfl (lv_room (Nat.le_of_ble_eq_true rfl)) dX8_fixed_1 ⟨Nat.zero_le _, Nat.zero_le _⟩) (fun r1 h => ?_)
  refine lv_if_eq (tgt := 14) hx hb dX8_fixed_4 (by decide) (fun hc => ?_) (fun hc => ?_)
  · replace h := h.1 hc
    refine lv_iconst (v := -1) hx hb dX8_fixed_14 (by decide) ?_
    subst hQ
    subst hAe
    exact W.iret (v := (-1 : Int32)) hx hb hr (fun t ht _ => ⟨⟨(-1 : Int32), t_least, rfl, h, by rw [ht]; exact hP, hD⟩, hS.F ht⟩) hS.2.2 dX8_fixed_15
  · replace h := h.2 hc
    refine lv_iload_n hx hb dX8_fixed_7 rfl (lv_at hl 2 rfl) ?_
    refine vp_callSi (W.runS (As := [.int x2]) (rest := []) CF (c_X8_isThing l x2 _ h) (va_cwS 1 hts gX8_fixed_X8_isThing rfl rfl rfl qX8_isThing.2 ⟨Nat.le_of_ble_eq_true rfl, Nat.le_of_ble_eq_true rfl⟩) mpSN rfl rfl hl.1 rfl (lv_room (Nat.le_of_ble_eq_true rfl)) dX8_fixed_8 ⟨Nat.zero_le _, Nat.zero_le _⟩) (fun r2 h => ?_)
    refine lv_if_ne (tgt := 16) hx hb dX8_fixed_11 (by decide) (fun hc => ?_) (fun hc => ?_)
    · replace h := h.1 hc
      refine lv_aload_n hx hb dX8_fixed_16 rfl (lv_at hl 0 rfl) ?_
      refine lv_iconst (v := 0) hx hb dX8_fixed_17 (by decide) ?_
      refine lv_bipush (v := -4) hx hb dX8_fixed_18 (by decide) ?_
      have hPn : va_P D vwCl ([] ++ [(A_t, .inr (8, [.ref A_t_state, .ref A_t_tape, .int t_taped, .int t_fault, .int t_broken, .int t_brokenAt, .int t_spot, .int t_here, .int t_token, .int t_value, .int t_isRealTold, .ref A_t_ends, .ref A_t_letters, .ref A_t_least, .ref A_t_conflicts, .int t_conflictMany, .ref A_t_behind, .ref A_t_placed, .ref A_t_isKept, .ref A_t_lanes, .ref A_t_lengths, .ref A_t_cells, .int t_torn])), (A_t_state, .inl (cy 1, 535, .inl t_state)), (A_t_least, .inl (cy 2, 100, .inr (.inl t_least)))]) s.heap := hP.sub [0, 1, 2] rfl
      have hDn : va_D A ([] ++ [(A_t, .inr (8, [.ref A_t_state, .ref A_t_tape, .int t_taped, .int t_fault, .int t_broken, .int t_brokenAt, .int t_spot, .int t_here, .int t_token, .int t_value, .int t_isRealTold, .ref A_t_ends, .ref A_t_letters, .ref A_t_least, .ref A_t_conflicts, .int t_conflictMany, .ref A_t_behind, .ref A_t_placed, .ref A_t_isKept, .ref A_t_lanes, .ref A_t_lengths, .ref A_t_cells, .int t_torn])), (A_t_state, .inl (cy 1, 535, .inl t_state)), (A_t_least, .inl (cy 2, 100, .inr (.inl t_least)))]) := hD.sub [0, 1, 2] (by decide) rfl
      have hPc := gPR hPn
      have hDc := gDR hDn
      refine mw_v (va_runV (As := [.int (0 : Int32), .int (-4 : Int32)]) (rest := []) CF (c_X8_reckons l D cy s.heap.size A_t A_t_state A_t_tape A_t_ends A_t_letters A_t_least A_t_conflicts A_t_behind A_t_placed A_t_isKept A_t_lanes A_t_lengths A_t_cells t_taped t_fault t_broken t_brokenAt t_spot t_here t_token t_value t_isRealTold t_conflictMany t_torn t_state t_least (0 : Int32) (-4 : Int32) _ h) (cwV 2 hts gX8_fixed_X8_reckons rfl rfl rfl qX8_reckons ⟨Nat.le_of_ble_eq_true rfl, Nat.le_of_ble_eq_true rfl⟩) (mpVW hK hPc hDc (ci := 8) (q := (RX8, TX8, 23)) (q0 := 0) rfl rfl) rfl rfl hl.1 rfl (lv_room (Nat.le_of_ble_eq_true rfl)) dX8_fixed_20 ⟨Nat.zero_le _, Nat.zero_le _⟩) hPn hDn hS hA (fun t_least_v3 H locs h hP hD hS => ?_)
      have hP : va_P D vwCl [(A_t, .inr (8, [.ref A_t_state, .ref A_t_tape, .int t_taped, .int t_fault, .int t_broken, .int t_brokenAt, .int t_spot, .int t_here, .int t_token, .int t_value, .int t_isRealTold, .ref A_t_ends, .ref A_t_letters, .ref A_t_least, .ref A_t_conflicts, .int t_conflictMany, .ref A_t_behind, .ref A_t_placed, .ref A_t_isKept, .ref A_t_lanes, .ref A_t_lengths, .ref A_t_cells, .int t_torn])), (A_t_state, .inl (cy 1, 535, .inl t_state)), (A_t_least, .inl (cy 2, 100, .inr (.inl t_least_v3)))] H := hP.sub [0, 1, 2] rfl
      have hD : va_D A [(A_t, .inr (8, [.ref A_t_state, .ref A_t_tape, .int t_taped, .int t_fault, .int t_broken, .int t_brokenAt, .int t_spot, .int t_here, .int t_token, .int t_value, .int t_isRealTold, .ref A_t_ends, .ref A_t_letters, .ref A_t_least, .ref A_t_conflicts, .int t_conflictMany, .ref A_t_behind, .ref A_t_placed, .ref A_t_isKept, .ref A_t_lanes, .ref A_t_lengths, .ref A_t_cells, .int t_torn])), (A_t_state, .inl (cy 1, 535, .inl t_state)), (A_t_least, .inl (cy 2, 100, .inr (.inl t_least_v3)))] := hD.sub [0, 1, 2] (by decide) rfl
      refine lv_aload_n hx hb dX8_fixed_23 rfl (lv_at hl 0 rfl) ?_
      refine lv_iload_n hx hb dX8_fixed_24 rfl (lv_at hl 1 rfl) ?_
      refine lv_iload_n hx hb dX8_fixed_25 rfl (lv_at hl 2 rfl) ?_
      have hPc := hP.sub (ws' := [(A_t, .inr (8, [.ref A_t_state, .ref A_t_tape, .int t_taped, .int t_fault, .int t_broken, .int t_brokenAt, .int t_spot, .int t_here, .int t_token, .int t_value, .int t_isRealTold, .ref A_t_ends, .ref A_t_letters, .ref A_t_least, .ref A_t_conflicts, .int t_conflictMany, .ref A_t_behind, .ref A_t_placed, .ref A_t_isKept, .ref A_t_lanes, .ref A_t_lengths, .ref A_t_cells, .int t_torn])), (A_t_least, .inl (cy 2, 100, .inr (.inl t_least_v3)))]) [0, 2] rfl
      refine vp_callSi (W.runV (As := [.int x1, .int x2]) (rest := []) CF (c_X8_isFixed l D cy A_t A_t_state A_t_tape A_t_ends A_t_letters A_t_least A_t_conflicts A_t_behind A_t_placed A_t_isKept A_t_lanes A_t_lengths A_t_cells t_taped t_fault t_broken t_brokenAt t_spot t_here t_token t_value t_isRealTold t_conflictMany t_torn t_least_v3 x1 x2 _ h) (cwV 2 hts gX8_fixed_X8_isFixed rfl rfl rfl qX8_isFixed ⟨Nat.le_of_ble_eq_true rfl, Nat.le_of_ble_eq_true rfl⟩) (mpVR hK hPc (ci := 8) (q := (RX8, TX8, 23)) (q0 := 0) rfl rfl) rfl rfl hl.1 rfl (lv_room (Nat.le_of_ble_eq_true rfl)) dX8_fixed_26 ⟨Nat.zero_le _, Nat.zero_le _⟩) (fun r4 h => ?_)
      refine lv_if_eq (tgt := 36) hx hb dX8_fixed_29 (by decide) (fun hc => ?_) (fun hc => ?_)
      · replace h := h.1 hc
        refine lv_iconst (v := 0) hx hb dX8_fixed_36 (by decide) ?_
        subst hQ
        subst hAe
        exact W.iret (v := (0 : Int32)) hx hb hr (fun t ht _ => ⟨⟨(0 : Int32), t_least_v3, rfl, h, by rw [ht]; exact hP, hD⟩, hS.F ht⟩) hS.2.2 dX8_fixed_37
      · replace h := h.2 hc
        refine lv_iconst (v := 1) hx hb dX8_fixed_32 (by decide) ?_
        refine lv_goto (tgt := 37) hx hb dX8_fixed_33 (by decide) ?_
        subst hQ
        subst hAe
        exact W.iret (v := (1 : Int32)) hx hb hr (fun t ht _ => ⟨⟨(1 : Int32), t_least_v3, rfl, h, by rw [ht]; exact hP, hD⟩, hS.F ht⟩) hS.2.2 dX8_fixed_37
    · replace h := h.2 hc
      refine lv_iconst (v := -1) hx hb dX8_fixed_14 (by decide) ?_
      subst hQ
      subst hAe
      exact W.iret (v := (-1 : Int32)) hx hb hr (fun t ht _ => ⟨⟨(-1 : Int32), t_least, rfl, h, by rw [ht]; exact hP, hD⟩, hS.F ht⟩) hS.2.2 dX8_fixed_15
theorem qX8_high : yX8_high.cls = RX8 ∧ yX8_high.cls ≠ "java/lang/invoke/MethodHandle" ∧ yX8_high.cls ≠ "java/lang/invoke/VarHandle" ∧ (parseMethodDescriptor yX8_high.desc).map (fun d => d.parameters.length) = some 2 := by decide +kernel
def B_X8_high_70 (K_30 : Int64 → Int32 → Prop) (l0 : Int64) (x5 : Int32) : Prop :=
  K_30 l0 (x5 + (1 : Int32))
def LB_X8_high_30 (post : Int64 → (Nat → Int64) → Prop) (t_least : Nat → Int64) (x1 : Int32) (x2 : Int32) (K_30 : Int64 → Int32 → Prop) (y3 : Int64) (x5 : Int32) : Prop :=
  (((10 : Int32) ≤ x5 → P_X8_told (fun (r4 : Int64) => post r4 t_least) x2 y3) ∧ (¬ (10 : Int32) ≤ x5 → (vp_in (((10 : Int32) * x5) + x1) 100 ∧ ((y3 ≤ t_least (((10 : Int32) * x5) + x1).toNatClampNeg → B_X8_high_70 K_30 y3 x5) ∧ (¬ y3 ≤ t_least (((10 : Int32) * x5) + x1).toNatClampNeg → (vp_in (((10 : Int32) * x5) + x1) 100 ∧ B_X8_high_70 K_30 (t_least (((10 : Int32) * x5) + x1).toNatClampNeg) x5))))))
noncomputable def L_X8_high_30 (post : Int64 → (Nat → Int64) → Prop) (t_least : Nat → Int64) (x1 : Int32) (x2 : Int32) (n : Nat) : Int64 → Int32 → Prop := Nat.rec (motive := fun _ => Int64 → Int32 → Prop) (fun _ _ => False) (fun _ K => LB_X8_high_30 post t_least x1 x2 K) n
def P_X8_high (post : Int64 → (Nat → Int64) → Prop) (t_state : Nat → Int32) (t_least : Nat → Int64) (x1 : Int32) (x2 : Int32) : Prop :=
  P_X8_isThing (fun (r1 : Int32) => ((r1 = 0 → post (-1 : Int64) t_least) ∧ (¬ r1 = 0 → P_X8_isFlag (fun (r2 : Int32) => ((¬ r2 = 0 → P_X8_reckons (fun (t_least_v3 : Nat → Int64) => ∃ n : Nat, L_X8_high_30 post t_least_v3 x1 x2 n (0 : Int64) (0 : Int32)) t_state t_least (0 : Int32) (-4 : Int32)) ∧ (r2 = 0 → post (-1 : Int64) t_least))) x2))) x1
set_option maxHeartbeats 4000000 in
set_option maxRecDepth 100000 in
theorem c_X8_high (l : Launch) (D : va_G) (cy : Nat → ClassId) (sz : Nat) (A_t A_t_state A_t_tape A_t_ends A_t_letters A_t_least A_t_conflicts A_t_behind A_t_placed A_t_isKept A_t_lanes A_t_lengths A_t_cells : Nat) (t_taped : Int32) (t_fault : Int32) (t_broken : Int32) (t_brokenAt : Int32) (t_spot : Int32) (t_here : Int32) (t_token : Int32) (t_value : Int32) (t_isRealTold : Int32) (t_conflictMany : Int32) (t_torn : Int32) (t_state : Nat → Int32) (t_least : Nat → Int64) (x1 : Int32) (x2 : Int32) (post : Int64 → (Nat → Int64) → Prop) (h : P_X8_high post t_state t_least x1 x2) : Met l yX8_high wsX8_high { frames := 3, cells := 0, slots := 0, locals := 72 } (pcW D cy [(A_t, .inr (8, [.ref A_t_state, .ref A_t_tape, .int t_taped, .int t_fault, .int t_broken, .int t_brokenAt, .int t_spot, .int t_here, .int t_token, .int t_value, .int t_isRealTold, .ref A_t_ends, .ref A_t_letters, .ref A_t_least, .ref A_t_conflicts, .int t_conflictMany, .ref A_t_behind, .ref A_t_placed, .ref A_t_isKept, .ref A_t_lanes, .ref A_t_lengths, .ref A_t_cells, .int t_torn])), (A_t_state, .inl (cy 1, 535, .inl t_state)), (A_t_least, .inl (cy 2, 100, .inr (.inl t_least)))] sz [.ref A_t, .int x1, .int x2]) (va_Ql (fun r (u : (Nat → Int64)) => post r u) (bW D [(A_t, .inr (8, [.ref A_t_state, .ref A_t_tape, .int t_taped, .int t_fault, .int t_broken, .int t_brokenAt, .int t_spot, .int t_here, .int t_token, .int t_value, .int t_isRealTold, .ref A_t_ends, .ref A_t_letters, .ref A_t_least, .ref A_t_conflicts, .int t_conflictMany, .ref A_t_behind, .ref A_t_placed, .ref A_t_isKept, .ref A_t_lanes, .ref A_t_lengths, .ref A_t_cells, .int t_torn])), (A_t_state, .inl (cy 1, 535, .inl t_state)), (A_t_least, .inl (cy 2, 100, .inr (.inl t_least)))] sz (fun u => [(A_t, .inr (8, [.ref A_t_state, .ref A_t_tape, .int t_taped, .int t_fault, .int t_broken, .int t_brokenAt, .int t_spot, .int t_here, .int t_token, .int t_value, .int t_isRealTold, .ref A_t_ends, .ref A_t_letters, .ref A_t_least, .ref A_t_conflicts, .int t_conflictMany, .ref A_t_behind, .ref A_t_placed, .ref A_t_isKept, .ref A_t_lanes, .ref A_t_lengths, .ref A_t_cells, .int t_torn])), (A_t_state, .inl (cy 1, 535, .inl t_state)), (A_t_least, .inl (cy 2, 100, .inr (.inl u)))])) (va_A [(A_t, .inr (8, [.ref A_t_state, .ref A_t_tape, .int t_taped, .int t_fault, .int t_broken, .int t_brokenAt, .int t_spot, .int t_here, .int t_token, .int t_value, .int t_isRealTold, .ref A_t_ends, .ref A_t_letters, .ref A_t_least, .ref A_t_conflicts, .int t_conflictMany, .ref A_t_behind, .ref A_t_placed, .ref A_t_isKept, .ref A_t_lanes, .ref A_t_lengths, .ref A_t_cells, .int t_torn])), (A_t_state, .inl (cy 1, 535, .inl t_state)), (A_t_least, .inl (cy 2, 100, .inr (.inl t_least)))] sz)) 0 0 (va_A [(A_t, .inr (8, [.ref A_t_state, .ref A_t_tape, .int t_taped, .int t_fault, .int t_broken, .int t_brokenAt, .int t_spot, .int t_here, .int t_token, .int t_value, .int t_isRealTold, .ref A_t_ends, .ref A_t_letters, .ref A_t_least, .ref A_t_conflicts, .int t_conflictMany, .ref A_t_behind, .ref A_t_placed, .ref A_t_isKept, .ref A_t_lanes, .ref A_t_lengths, .ref A_t_cells, .int t_torn])), (A_t_state, .inl (cy 1, 535, .inl t_state)), (A_t_least, .inl (cy 2, 100, .inr (.inl t_least)))] sz) := by
  refine Met.ofW (cc := cX8_high) (maxL := 6) (ret := (some .long)) (by decide) rfl ?_
  intro p e s m args below meth c s₁ B hml hv
  obtain ⟨rfl, hsz, hP, hK, hD0⟩ := hv
  have hx := B.exec
  have hb := B.bytes
  have hr := B.returns
  have hts := atoms_spec (ws := wsX8_high) B.pre
  have hown : s.vm.findClass RX8 = some m.cls := findClass_of_methodNamed B.named
  have hlocks := B.notSynchronized
  have CF : CallFix p m c cX8_high 6 s ([.ref A_t, .int x1, .int x2] : List Value).toArray wsX8_high RX8 := ⟨hx, hb, hml, hown, hts⟩
  have f0 := hts (.constantLong RX8 233 (-1)) (by decide +kernel)
  have f1 := hts (.fieldLink RX8 22 "GapBoundsModel" "least" "[J") (by decide +kernel)
  have iX8 : ∀ w ∈ u_ws RX8 TX8 23, w ∈ wsX8_high := by decide +kernel
  subst hsz
  obtain ⟨A, hAe⟩ : ∃ A, A = va_A [(A_t, .inr (8, [.ref A_t_state, .ref A_t_tape, .int t_taped, .int t_fault, .int t_broken, .int t_brokenAt, .int t_spot, .int t_here, .int t_token, .int t_value, .int t_isRealTold, .ref A_t_ends, .ref A_t_letters, .ref A_t_least, .ref A_t_conflicts, .int t_conflictMany, .ref A_t_behind, .ref A_t_placed, .ref A_t_isKept, .ref A_t_lanes, .ref A_t_lengths, .ref A_t_cells, .int t_torn])), (A_t_state, .inl (cy 1, 535, .inl t_state)), (A_t_least, .inl (cy 2, 100, .inr (.inl t_least)))] s.heap.size := ⟨_, rfl⟩
  have hD : va_D A [(A_t, .inr (8, [.ref A_t_state, .ref A_t_tape, .int t_taped, .int t_fault, .int t_broken, .int t_brokenAt, .int t_spot, .int t_here, .int t_token, .int t_value, .int t_isRealTold, .ref A_t_ends, .ref A_t_letters, .ref A_t_least, .ref A_t_conflicts, .int t_conflictMany, .ref A_t_behind, .ref A_t_placed, .ref A_t_isKept, .ref A_t_lanes, .ref A_t_lengths, .ref A_t_cells, .int t_torn])), (A_t_state, .inl (cy 1, 535, .inl t_state)), (A_t_least, .inl (cy 2, 100, .inr (.inl t_least)))] := by rw [hAe]; exact hD0.self
  have hA : ∀ q : Nat, s.heap.size ≤ q → A q := fun q hq => by rw [hAe]; exact Or.inr hq
  have hS : va_S A s.heap s.heap [] := va_S.rf
  have hl := lv_entry [.ref A_t, .int x1, .int x2] (n := 6) (Nat.le_of_ble_eq_true rfl)
  rw [lg_entry_eq]
  generalize (lg_sl [.ref A_t, .int x1, .int x2] ++ List.replicate (6 - (lg_sl [.ref A_t, .int x1, .int x2]).length) Slot.unset).toArray = ls at hl ⊢
  have hl : lv_has ls 6 [(0, .ref A_t), (1, .int x1), (2, .int x2)] := hl
  refine W.gen (fun Q0 hQ => ?_)
  have L30 : ∀ (n30 : Nat) (t_least : Nat → Int64) (y3 : Int64) (x5 : Int32) (H : Heap) (locs : List Loc) (ls : Array Slot), L_X8_high_30 post t_least x1 x2 n30 y3 x5 → va_P D vwCl [(A_t, .inr (8, [.ref A_t_state, .ref A_t_tape, .int t_taped, .int t_fault, .int t_broken, .int t_brokenAt, .int t_spot, .int t_here, .int t_token, .int t_value, .int t_isRealTold, .ref A_t_ends, .ref A_t_letters, .ref A_t_least, .ref A_t_conflicts, .int t_conflictMany, .ref A_t_behind, .ref A_t_placed, .ref A_t_isKept, .ref A_t_lanes, .ref A_t_lengths, .ref A_t_cells, .int t_torn])), (A_t_state, .inl (cy 1, 535, .inl t_state)), (A_t_least, .inl (cy 2, 100, .inr (.inl t_least)))] H → va_D A [(A_t, .inr (8, [.ref A_t_state, .ref A_t_tape, .int t_taped, .int t_fault, .int t_broken, .int t_brokenAt, .int t_spot, .int t_here, .int t_token, .int t_value, .int t_isRealTold, .ref A_t_ends, .ref A_t_letters, .ref A_t_least, .ref A_t_conflicts, .int t_conflictMany, .ref A_t_behind, .ref A_t_placed, .ref A_t_isKept, .ref A_t_lanes, .ref A_t_lengths, .ref A_t_cells, .int t_torn])), (A_t_state, .inl (cy 1, 535, .inl t_state)), (A_t_least, .inl (cy 2, 100, .inr (.inl t_least)))] → va_S A s.heap H locs → lv_has ls 6 [(0, .ref A_t), (1, .int x1), (2, .int x2), (3, .long y3), (5, .int x5)] → W p l e (headSpec wsX8_high { frames := 3, cells := 0, slots := 0, locals := 72 }).room s m ([.ref A_t, .int x1, .int x2] : List Value).toArray below meth c H locs 0 0 Q0 (F0 m 30 ls []) := by
    intro n30
    induction n30 with
    | zero => intro t_least y3 x5 H locs ls h; exact False.elim h
    | succ n30 ih30 =>
      intro t_least y3 x5 H locs ls h hP hD hS hl
      have h : LB_X8_high_30 post t_least x1 x2 (L_X8_high_30 post t_least x1 x2 n30) y3 x5 := h
      unfold LB_X8_high_30 at h
      have J70 : ∀ (t_least : Nat → Int64) (x5 : Int32) (l0 : Int64) (H : Heap) (locs : List Loc) (ls : Array Slot), B_X8_high_70 (L_X8_high_30 post t_least x1 x2 n30) l0 x5 → va_P D vwCl [(A_t, .inr (8, [.ref A_t_state, .ref A_t_tape, .int t_taped, .int t_fault, .int t_broken, .int t_brokenAt, .int t_spot, .int t_here, .int t_token, .int t_value, .int t_isRealTold, .ref A_t_ends, .ref A_t_letters, .ref A_t_least, .ref A_t_conflicts, .int t_conflictMany, .ref A_t_behind, .ref A_t_placed, .ref A_t_isKept, .ref A_t_lanes, .ref A_t_lengths, .ref A_t_cells, .int t_torn])), (A_t_state, .inl (cy 1, 535, .inl t_state)), (A_t_least, .inl (cy 2, 100, .inr (.inl t_least)))] H → va_D A [(A_t, .inr (8, [.ref A_t_state, .ref A_t_tape, .int t_taped, .int t_fault, .int t_broken, .int t_brokenAt, .int t_spot, .int t_here, .int t_token, .int t_value, .int t_isRealTold, .ref A_t_ends, .ref A_t_letters, .ref A_t_least, .ref A_t_conflicts, .int t_conflictMany, .ref A_t_behind, .ref A_t_placed, .ref A_t_isKept, .ref A_t_lanes, .ref A_t_lengths, .ref A_t_cells, .int t_torn])), (A_t_state, .inl (cy 1, 535, .inl t_state)), (A_t_least, .inl (cy 2, 100, .inr (.inl t_least)))] → va_S A s.heap H locs → lv_has ls 6 [(0, .ref A_t), (1, .int x1), (2, .int x2), (5, .int x5)] → W p l e (headSpec wsX8_high { frames := 3, cells := 0, slots := 0, locals := 72 }).room s m ([.ref A_t, .int x1, .int x2] : List Value).toArray below meth c H locs 0 0 Q0 (F0 m 70 ls [.long l0]) := by
        intro t_least x5 l0 H locs ls h hP hD hS hl
        unfold B_X8_high_70 at h
        refine lv_lstore_n (lv' := [(3, .long l0), (0, .ref A_t), (1, .int x1), (2, .int x2), (5, .int x5)]) hx hb dX8_high_70 rfl hl (by decide) rfl (fun ls hl => ?_)
        refine lv_iinc (v := x5 + (1 : Int32)) (lv' := [(5, .int (x5 + (1 : Int32))), (3, .long l0), (0, .ref A_t), (1, .int x1), (2, .int x2)]) hx hb dX8_high_71 hl (k := 4) rfl rfl (by decide) rfl (fun ls hl => ?_)
        refine lv_goto (tgt := 30) hx hb dX8_high_74 (by decide) ?_
        exact ih30 t_least l0 (x5 + (1 : Int32)) H locs ls h hP hD hS (lv_sub hl [2, 3, 4, 1, 0] rfl)
      refine lv_iload hx hb dX8_high_30 (lv_at hl 4 rfl) ?_
      refine lv_bipush (v := 10) hx hb dX8_high_32 (by decide) ?_
      refine lv_icmp_ge (tgt := 77) hx hb dX8_high_34 (by decide) (fun hc => ?_) (fun hc => ?_)
      · replace h := h.1 hc
        refine lv_lload_n hx hb dX8_high_77 rfl (lv_at hl 3 rfl) ?_
        refine lv_iload_n hx hb dX8_high_78 rfl (lv_at hl 2 rfl) ?_
        refine vp_callSl (W.runS (As := [.long y3, .int x2]) (rest := []) CF (c_X8_told l y3 x2 _ h) (va_cwS 2 hts gX8_high_X8_told rfl rfl rfl qX8_told.2 ⟨Nat.le_of_ble_eq_true rfl, Nat.le_of_ble_eq_true rfl⟩) mpSN rfl rfl hl.1 rfl (lv_room (Nat.le_of_ble_eq_true rfl)) dX8_high_79 ⟨Nat.zero_le _, Nat.zero_le _⟩) (fun r4 h => ?_)
        subst hQ
        subst hAe
        exact W.lret (v := r4) hx hb hr (fun t ht _ => ⟨⟨r4, t_least, rfl, h, by rw [ht]; exact hP, hD⟩, hS.F ht⟩) hS.2.2 dX8_high_82
      · replace h := h.2 hc
        refine lv_aload_n hx hb dX8_high_37 rfl (lv_at hl 0 rfl) ?_
        refine va_get (D := D) (ci := 8) (v := .ref A_t_least) (C := RX8) (T := TX8) (N := 23) hx hb hts iX8 hown hK.1 hP 0 rfl rfl 13 (by decide) f1 (fun _ h9 => h9) rfl dX8_high_38 ?_
        refine lv_bipush (v := 10) hx hb dX8_high_41 (by decide) ?_
        refine lv_iload hx hb dX8_high_43 (lv_at hl 4 rfl) ?_
        refine lv_imul hx hb dX8_high_45 ?_
        refine lv_iload_n hx hb dX8_high_46 rfl (lv_at hl 1 rfl) ?_
        refine lv_iadd hx hb dX8_high_47 ?_
        refine va_lald hx hb hK.1 hP 2 2 rfl rfl h.1 dX8_high_48 ?_
        replace h := h.2
        refine lv_lload_n hx hb dX8_high_49 rfl (lv_at hl 3 rfl) ?_
        refine lx_ge (tgt := 69) hx hb dX8_high_50 dX8_high_51 (by decide) (fun hc => ?_) (fun hc => ?_)
        · replace h := h.1 hc
          refine lv_lload_n hx hb dX8_high_69 rfl (lv_at hl 3 rfl) ?_
          exact J70 t_least x5 y3 H locs ls h hP hD hS (lv_sub hl [0, 1, 2, 4] rfl)
        · replace h := h.2 hc
          refine lv_aload_n hx hb dX8_high_54 rfl (lv_at hl 0 rfl) ?_
          refine va_get (D := D) (ci := 8) (v := .ref A_t_least) (C := RX8) (T := TX8) (N := 23) hx hb hts iX8 hown hK.1 hP 0 rfl rfl 13 (by decide) f1 (fun _ h9 => h9) rfl dX8_high_55 ?_
          refine lv_bipush (v := 10) hx hb dX8_high_58 (by decide) ?_
          refine lv_iload hx hb dX8_high_60 (lv_at hl 4 rfl) ?_
          refine lv_imul hx hb dX8_high_62 ?_
          refine lv_iload_n hx hb dX8_high_63 rfl (lv_at hl 1 rfl) ?_
          refine lv_iadd hx hb dX8_high_64 ?_
          refine va_lald hx hb hK.1 hP 2 2 rfl rfl h.1 dX8_high_65 ?_
          replace h := h.2
          refine lv_goto (tgt := 70) hx hb dX8_high_66 (by decide) ?_
          exact J70 t_least x5 (t_least (((10 : Int32) * x5) + x1).toNatClampNeg) H locs ls h hP hD hS (lv_sub hl [0, 1, 2, 4] rfl)
  unfold P_X8_high at h
  refine lv_iload_n hx hb dX8_high_0 rfl (lv_at hl 1 rfl) ?_
  refine vp_callSi (W.runS (As := [.int x1]) (rest := []) CF (c_X8_isThing l x1 _ h) (va_cwS 1 hts gX8_high_X8_isThing rfl rfl rfl qX8_isThing.2 ⟨Nat.le_of_ble_eq_true rfl, Nat.le_of_ble_eq_true rfl⟩) mpSN rfl rfl hl.1 rfl (lv_room (Nat.le_of_ble_eq_true rfl)) dX8_high_1 ⟨Nat.zero_le _, Nat.zero_le _⟩) (fun r1 h => ?_)
  refine lv_if_eq (tgt := 14) hx hb dX8_high_4 (by decide) (fun hc => ?_) (fun hc => ?_)
  · replace h := h.1 hc
    refine lv_ldc2 (v := -1) hx hb hown f0 dX8_high_14 ?_
    subst hQ
    subst hAe
    exact W.lret (v := (-1 : Int64)) hx hb hr (fun t ht _ => ⟨⟨(-1 : Int64), t_least, rfl, h, by rw [ht]; exact hP, hD⟩, hS.F ht⟩) hS.2.2 dX8_high_17
  · replace h := h.2 hc
    refine lv_iload_n hx hb dX8_high_7 rfl (lv_at hl 2 rfl) ?_
    refine vp_callSi (W.runS (As := [.int x2]) (rest := []) CF (c_X8_isFlag l x2 _ h) (va_cwS 1 hts gX8_high_X8_isFlag rfl rfl rfl qX8_isFlag.2 ⟨Nat.le_of_ble_eq_true rfl, Nat.le_of_ble_eq_true rfl⟩) mpSN rfl rfl hl.1 rfl (lv_room (Nat.le_of_ble_eq_true rfl)) dX8_high_8 ⟨Nat.zero_le _, Nat.zero_le _⟩) (fun r2 h => ?_)
    refine lv_if_ne (tgt := 18) hx hb dX8_high_11 (by decide) (fun hc => ?_) (fun hc => ?_)
    · replace h := h.1 hc
      refine lv_aload_n hx hb dX8_high_18 rfl (lv_at hl 0 rfl) ?_
      refine lv_iconst (v := 0) hx hb dX8_high_19 (by decide) ?_
      refine lv_bipush (v := -4) hx hb dX8_high_20 (by decide) ?_
      have hPn : va_P D vwCl ([] ++ [(A_t, .inr (8, [.ref A_t_state, .ref A_t_tape, .int t_taped, .int t_fault, .int t_broken, .int t_brokenAt, .int t_spot, .int t_here, .int t_token, .int t_value, .int t_isRealTold, .ref A_t_ends, .ref A_t_letters, .ref A_t_least, .ref A_t_conflicts, .int t_conflictMany, .ref A_t_behind, .ref A_t_placed, .ref A_t_isKept, .ref A_t_lanes, .ref A_t_lengths, .ref A_t_cells, .int t_torn])), (A_t_state, .inl (cy 1, 535, .inl t_state)), (A_t_least, .inl (cy 2, 100, .inr (.inl t_least)))]) s.heap := hP.sub [0, 1, 2] rfl
      have hDn : va_D A ([] ++ [(A_t, .inr (8, [.ref A_t_state, .ref A_t_tape, .int t_taped, .int t_fault, .int t_broken, .int t_brokenAt, .int t_spot, .int t_here, .int t_token, .int t_value, .int t_isRealTold, .ref A_t_ends, .ref A_t_letters, .ref A_t_least, .ref A_t_conflicts, .int t_conflictMany, .ref A_t_behind, .ref A_t_placed, .ref A_t_isKept, .ref A_t_lanes, .ref A_t_lengths, .ref A_t_cells, .int t_torn])), (A_t_state, .inl (cy 1, 535, .inl t_state)), (A_t_least, .inl (cy 2, 100, .inr (.inl t_least)))]) := hD.sub [0, 1, 2] (by decide) rfl
      have hPc := gPR hPn
      have hDc := gDR hDn
      refine mw_v (va_runV (As := [.int (0 : Int32), .int (-4 : Int32)]) (rest := []) CF (c_X8_reckons l D cy s.heap.size A_t A_t_state A_t_tape A_t_ends A_t_letters A_t_least A_t_conflicts A_t_behind A_t_placed A_t_isKept A_t_lanes A_t_lengths A_t_cells t_taped t_fault t_broken t_brokenAt t_spot t_here t_token t_value t_isRealTold t_conflictMany t_torn t_state t_least (0 : Int32) (-4 : Int32) _ h) (cwV 2 hts gX8_high_X8_reckons rfl rfl rfl qX8_reckons ⟨Nat.le_of_ble_eq_true rfl, Nat.le_of_ble_eq_true rfl⟩) (mpVW hK hPc hDc (ci := 8) (q := (RX8, TX8, 23)) (q0 := 0) rfl rfl) rfl rfl hl.1 rfl (lv_room (Nat.le_of_ble_eq_true rfl)) dX8_high_22 ⟨Nat.zero_le _, Nat.zero_le _⟩) hPn hDn hS hA (fun t_least_v3 H locs h hP hD hS => ?_)
      have hP : va_P D vwCl [(A_t, .inr (8, [.ref A_t_state, .ref A_t_tape, .int t_taped, .int t_fault, .int t_broken, .int t_brokenAt, .int t_spot, .int t_here, .int t_token, .int t_value, .int t_isRealTold, .ref A_t_ends, .ref A_t_letters, .ref A_t_least, .ref A_t_conflicts, .int t_conflictMany, .ref A_t_behind, .ref A_t_placed, .ref A_t_isKept, .ref A_t_lanes, .ref A_t_lengths, .ref A_t_cells, .int t_torn])), (A_t_state, .inl (cy 1, 535, .inl t_state)), (A_t_least, .inl (cy 2, 100, .inr (.inl t_least_v3)))] H := hP.sub [0, 1, 2] rfl
      have hD : va_D A [(A_t, .inr (8, [.ref A_t_state, .ref A_t_tape, .int t_taped, .int t_fault, .int t_broken, .int t_brokenAt, .int t_spot, .int t_here, .int t_token, .int t_value, .int t_isRealTold, .ref A_t_ends, .ref A_t_letters, .ref A_t_least, .ref A_t_conflicts, .int t_conflictMany, .ref A_t_behind, .ref A_t_placed, .ref A_t_isKept, .ref A_t_lanes, .ref A_t_lengths, .ref A_t_cells, .int t_torn])), (A_t_state, .inl (cy 1, 535, .inl t_state)), (A_t_least, .inl (cy 2, 100, .inr (.inl t_least_v3)))] := hD.sub [0, 1, 2] (by decide) rfl
      refine lv_lconst (v := 0) hx hb dX8_high_25 (by decide) ?_
      refine lv_lstore_n (lv' := [(3, .long (0 : Int64)), (0, .ref A_t), (1, .int x1), (2, .int x2)]) hx hb dX8_high_26 rfl hl (by decide) rfl (fun ls hl => ?_)
      refine lv_iconst (v := 0) hx hb dX8_high_27 (by decide) ?_
      refine lv_istore (lv' := [(5, .int (0 : Int32)), (3, .long (0 : Int64)), (0, .ref A_t), (1, .int x1), (2, .int x2)]) hx hb dX8_high_28 hl (by decide) rfl (fun ls hl => ?_)
      obtain ⟨nn, h⟩ := h
      exact L30 nn t_least_v3 (0 : Int64) (0 : Int32) H locs ls h hP hD hS (lv_sub hl [2, 3, 4, 1, 0] rfl)
    · replace h := h.2 hc
      refine lv_ldc2 (v := -1) hx hb hown f0 dX8_high_14 ?_
      subst hQ
      subst hAe
      exact W.lret (v := (-1 : Int64)) hx hb hr (fun t ht _ => ⟨⟨(-1 : Int64), t_least, rfl, h, by rw [ht]; exact hP, hD⟩, hS.F ht⟩) hS.2.2 dX8_high_17
theorem qX8_reach : yX8_reach.cls = RX8 ∧ yX8_reach.cls ≠ "java/lang/invoke/MethodHandle" ∧ yX8_reach.cls ≠ "java/lang/invoke/VarHandle" ∧ (parseMethodDescriptor yX8_reach.desc).map (fun d => d.parameters.length) = some 4 := by decide +kernel
def B_X8_reach_87 (post : Int64 → (Nat → Int64) → Prop) (t_least : Nat → Int64) (y5 : Int64) : Prop :=
  P_X8_told (fun (r5 : Int64) => post r5 t_least) (1 : Int32) y5
def B_X8_reach_70 (post : Int64 → (Nat → Int64) → Prop) (t_least : Nat → Int64) (l0 : Int64) (x3 : Int32) (x4 : Int32) : Prop :=
  (((1000000000000000000 : Int64) ≤ l0 → B_X8_reach_87 post t_least l0) ∧ (¬ (1000000000000000000 : Int64) ≤ l0 → ((x4 ≤ (1 : Int32) → ((¬ x4 = 0 → P_X8_limitOf (fun (r6 : Int64) => post (x3.toInt64 - r6) t_least) l0) ∧ (x4 = 0 → P_X8_limitOf (fun (r7 : Int64) => post (x3.toInt64 + r7) t_least) l0))) ∧ (¬ x4 ≤ (1 : Int32) → B_X8_reach_87 post t_least l0))))
def P_X8_reach (post : Int64 → (Nat → Int64) → Prop) (t_state : Nat → Int32) (t_least : Nat → Int64) (x1 : Int32) (x2 : Int32) (x3 : Int32) (x4 : Int32) : Prop :=
  P_X8_isThing (fun (r1 : Int32) => ((r1 = 0 → post (-1 : Int64) t_least) ∧ (¬ r1 = 0 → P_X8_isThing (fun (r2 : Int32) => ((r2 = 0 → post (-1 : Int64) t_least) ∧ (¬ r2 = 0 → P_X8_in (fun (r3 : Int32) => ((¬ r3 = 0 → P_X8_reckons (fun (t_least_v4 : Nat → Int64) => ((¬ x4 - x4 / (2 : Int32) * (2 : Int32) = 0 → (vp_in (((10 : Int32) * x1) + x2) 100 ∧ B_X8_reach_70 post t_least_v4 (t_least_v4 (((10 : Int32) * x1) + x2).toNatClampNeg) x3 x4)) ∧ (x4 - x4 / (2 : Int32) * (2 : Int32) = 0 → (vp_in (((10 : Int32) * x2) + x1) 100 ∧ B_X8_reach_70 post t_least_v4 (t_least_v4 (((10 : Int32) * x2) + x1).toNatClampNeg) x3 x4)))) t_state t_least (0 : Int32) (-4 : Int32)) ∧ (r3 = 0 → post (-1 : Int64) t_least))) x4.toInt64 (0 : Int64) (3 : Int64)))) x2))) x1
set_option maxHeartbeats 4000000 in
set_option maxRecDepth 100000 in
theorem c_X8_reach (l : Launch) (D : va_G) (cy : Nat → ClassId) (sz : Nat) (A_t A_t_state A_t_tape A_t_ends A_t_letters A_t_least A_t_conflicts A_t_behind A_t_placed A_t_isKept A_t_lanes A_t_lengths A_t_cells : Nat) (t_taped : Int32) (t_fault : Int32) (t_broken : Int32) (t_brokenAt : Int32) (t_spot : Int32) (t_here : Int32) (t_token : Int32) (t_value : Int32) (t_isRealTold : Int32) (t_conflictMany : Int32) (t_torn : Int32) (t_state : Nat → Int32) (t_least : Nat → Int64) (x1 : Int32) (x2 : Int32) (x3 : Int32) (x4 : Int32) (post : Int64 → (Nat → Int64) → Prop) (h : P_X8_reach post t_state t_least x1 x2 x3 x4) : Met l yX8_reach wsX8_reach { frames := 3, cells := 0, slots := 0, locals := 72 } (pcW D cy [(A_t, .inr (8, [.ref A_t_state, .ref A_t_tape, .int t_taped, .int t_fault, .int t_broken, .int t_brokenAt, .int t_spot, .int t_here, .int t_token, .int t_value, .int t_isRealTold, .ref A_t_ends, .ref A_t_letters, .ref A_t_least, .ref A_t_conflicts, .int t_conflictMany, .ref A_t_behind, .ref A_t_placed, .ref A_t_isKept, .ref A_t_lanes, .ref A_t_lengths, .ref A_t_cells, .int t_torn])), (A_t_state, .inl (cy 1, 535, .inl t_state)), (A_t_least, .inl (cy 2, 100, .inr (.inl t_least)))] sz [.ref A_t, .int x1, .int x2, .int x3, .int x4]) (va_Ql (fun r (u : (Nat → Int64)) => post r u) (bW D [(A_t, .inr (8, [.ref A_t_state, .ref A_t_tape, .int t_taped, .int t_fault, .int t_broken, .int t_brokenAt, .int t_spot, .int t_here, .int t_token, .int t_value, .int t_isRealTold, .ref A_t_ends, .ref A_t_letters, .ref A_t_least, .ref A_t_conflicts, .int t_conflictMany, .ref A_t_behind, .ref A_t_placed, .ref A_t_isKept, .ref A_t_lanes, .ref A_t_lengths, .ref A_t_cells, .int t_torn])), (A_t_state, .inl (cy 1, 535, .inl t_state)), (A_t_least, .inl (cy 2, 100, .inr (.inl t_least)))] sz (fun u => [(A_t, .inr (8, [.ref A_t_state, .ref A_t_tape, .int t_taped, .int t_fault, .int t_broken, .int t_brokenAt, .int t_spot, .int t_here, .int t_token, .int t_value, .int t_isRealTold, .ref A_t_ends, .ref A_t_letters, .ref A_t_least, .ref A_t_conflicts, .int t_conflictMany, .ref A_t_behind, .ref A_t_placed, .ref A_t_isKept, .ref A_t_lanes, .ref A_t_lengths, .ref A_t_cells, .int t_torn])), (A_t_state, .inl (cy 1, 535, .inl t_state)), (A_t_least, .inl (cy 2, 100, .inr (.inl u)))])) (va_A [(A_t, .inr (8, [.ref A_t_state, .ref A_t_tape, .int t_taped, .int t_fault, .int t_broken, .int t_brokenAt, .int t_spot, .int t_here, .int t_token, .int t_value, .int t_isRealTold, .ref A_t_ends, .ref A_t_letters, .ref A_t_least, .ref A_t_conflicts, .int t_conflictMany, .ref A_t_behind, .ref A_t_placed, .ref A_t_isKept, .ref A_t_lanes, .ref A_t_lengths, .ref A_t_cells, .int t_torn])), (A_t_state, .inl (cy 1, 535, .inl t_state)), (A_t_least, .inl (cy 2, 100, .inr (.inl t_least)))] sz)) 0 0 (va_A [(A_t, .inr (8, [.ref A_t_state, .ref A_t_tape, .int t_taped, .int t_fault, .int t_broken, .int t_brokenAt, .int t_spot, .int t_here, .int t_token, .int t_value, .int t_isRealTold, .ref A_t_ends, .ref A_t_letters, .ref A_t_least, .ref A_t_conflicts, .int t_conflictMany, .ref A_t_behind, .ref A_t_placed, .ref A_t_isKept, .ref A_t_lanes, .ref A_t_lengths, .ref A_t_cells, .int t_torn])), (A_t_state, .inl (cy 1, 535, .inl t_state)), (A_t_least, .inl (cy 2, 100, .inr (.inl t_least)))] sz) := by
  refine Met.ofW (cc := cX8_reach) (maxL := 7) (ret := (some .long)) (by decide) rfl ?_
  intro p e s m args below meth c s₁ B hml hv
  obtain ⟨rfl, hsz, hP, hK, hD0⟩ := hv
  have hx := B.exec
  have hb := B.bytes
  have hr := B.returns
  have hts := atoms_spec (ws := wsX8_reach) B.pre
  have hown : s.vm.findClass RX8 = some m.cls := findClass_of_methodNamed B.named
  have hlocks := B.notSynchronized
  have CF : CallFix p m c cX8_reach 7 s ([.ref A_t, .int x1, .int x2, .int x3, .int x4] : List Value).toArray wsX8_reach RX8 := ⟨hx, hb, hml, hown, hts⟩
  have f0 := hts (.constantLong RX8 233 (-1)) (by decide +kernel)
  have f1 := hts (.constantLong RX8 108 (3)) (by decide +kernel)
  have f2 := hts (.fieldLink RX8 22 "GapBoundsModel" "least" "[J") (by decide +kernel)
  have f3 := hts (.constantLong RX8 151 (1000000000000000000)) (by decide +kernel)
  have iX8 : ∀ w ∈ u_ws RX8 TX8 23, w ∈ wsX8_reach := by decide +kernel
  subst hsz
  obtain ⟨A, hAe⟩ : ∃ A, A = va_A [(A_t, .inr (8, [.ref A_t_state, .ref A_t_tape, .int t_taped, .int t_fault, .int t_broken, .int t_brokenAt, .int t_spot, .int t_here, .int t_token, .int t_value, .int t_isRealTold, .ref A_t_ends, .ref A_t_letters, .ref A_t_least, .ref A_t_conflicts, .int t_conflictMany, .ref A_t_behind, .ref A_t_placed, .ref A_t_isKept, .ref A_t_lanes, .ref A_t_lengths, .ref A_t_cells, .int t_torn])), (A_t_state, .inl (cy 1, 535, .inl t_state)), (A_t_least, .inl (cy 2, 100, .inr (.inl t_least)))] s.heap.size := ⟨_, rfl⟩
  have hD : va_D A [(A_t, .inr (8, [.ref A_t_state, .ref A_t_tape, .int t_taped, .int t_fault, .int t_broken, .int t_brokenAt, .int t_spot, .int t_here, .int t_token, .int t_value, .int t_isRealTold, .ref A_t_ends, .ref A_t_letters, .ref A_t_least, .ref A_t_conflicts, .int t_conflictMany, .ref A_t_behind, .ref A_t_placed, .ref A_t_isKept, .ref A_t_lanes, .ref A_t_lengths, .ref A_t_cells, .int t_torn])), (A_t_state, .inl (cy 1, 535, .inl t_state)), (A_t_least, .inl (cy 2, 100, .inr (.inl t_least)))] := by rw [hAe]; exact hD0.self
  have hA : ∀ q : Nat, s.heap.size ≤ q → A q := fun q hq => by rw [hAe]; exact Or.inr hq
  have hS : va_S A s.heap s.heap [] := va_S.rf
  have hl := lv_entry [.ref A_t, .int x1, .int x2, .int x3, .int x4] (n := 7) (Nat.le_of_ble_eq_true rfl)
  rw [lg_entry_eq]
  generalize (lg_sl [.ref A_t, .int x1, .int x2, .int x3, .int x4] ++ List.replicate (7 - (lg_sl [.ref A_t, .int x1, .int x2, .int x3, .int x4]).length) Slot.unset).toArray = ls at hl ⊢
  have hl : lv_has ls 7 [(0, .ref A_t), (1, .int x1), (2, .int x2), (3, .int x3), (4, .int x4)] := hl
  refine W.gen (fun Q0 hQ => ?_)
  have J87 : ∀ (t_least : Nat → Int64) (y5 : Int64) (H : Heap) (locs : List Loc) (ls : Array Slot), B_X8_reach_87 post t_least y5 → va_P D vwCl [(A_t, .inr (8, [.ref A_t_state, .ref A_t_tape, .int t_taped, .int t_fault, .int t_broken, .int t_brokenAt, .int t_spot, .int t_here, .int t_token, .int t_value, .int t_isRealTold, .ref A_t_ends, .ref A_t_letters, .ref A_t_least, .ref A_t_conflicts, .int t_conflictMany, .ref A_t_behind, .ref A_t_placed, .ref A_t_isKept, .ref A_t_lanes, .ref A_t_lengths, .ref A_t_cells, .int t_torn])), (A_t_state, .inl (cy 1, 535, .inl t_state)), (A_t_least, .inl (cy 2, 100, .inr (.inl t_least)))] H → va_D A [(A_t, .inr (8, [.ref A_t_state, .ref A_t_tape, .int t_taped, .int t_fault, .int t_broken, .int t_brokenAt, .int t_spot, .int t_here, .int t_token, .int t_value, .int t_isRealTold, .ref A_t_ends, .ref A_t_letters, .ref A_t_least, .ref A_t_conflicts, .int t_conflictMany, .ref A_t_behind, .ref A_t_placed, .ref A_t_isKept, .ref A_t_lanes, .ref A_t_lengths, .ref A_t_cells, .int t_torn])), (A_t_state, .inl (cy 1, 535, .inl t_state)), (A_t_least, .inl (cy 2, 100, .inr (.inl t_least)))] → va_S A s.heap H locs → lv_has ls 7 [(5, .long y5)] → W p l e (headSpec wsX8_reach { frames := 3, cells := 0, slots := 0, locals := 72 }).room s m ([.ref A_t, .int x1, .int x2, .int x3, .int x4] : List Value).toArray below meth c H locs 0 0 Q0 (F0 m 87 ls []) := by
    intro t_least y5 H locs ls h hP hD hS hl
    unfold B_X8_reach_87 at h
    refine lv_lload hx hb dX8_reach_87 (lv_at hl 0 rfl) ?_
    refine lv_iconst (v := 1) hx hb dX8_reach_89 (by decide) ?_
    refine vp_callSl (W.runS (As := [.long y5, .int (1 : Int32)]) (rest := []) CF (c_X8_told l y5 (1 : Int32) _ h) (va_cwS 2 hts gX8_reach_X8_told rfl rfl rfl qX8_told.2 ⟨Nat.le_of_ble_eq_true rfl, Nat.le_of_ble_eq_true rfl⟩) mpSN rfl rfl hl.1 rfl (lv_room (Nat.le_of_ble_eq_true rfl)) dX8_reach_90 ⟨Nat.zero_le _, Nat.zero_le _⟩) (fun r5 h => ?_)
    subst hQ
    subst hAe
    exact W.lret (v := r5) hx hb hr (fun t ht _ => ⟨⟨r5, t_least, rfl, h, by rw [ht]; exact hP, hD⟩, hS.F ht⟩) hS.2.2 dX8_reach_93
  have J70 : ∀ (t_least : Nat → Int64) (l0 : Int64) (H : Heap) (locs : List Loc) (ls : Array Slot), B_X8_reach_70 post t_least l0 x3 x4 → va_P D vwCl [(A_t, .inr (8, [.ref A_t_state, .ref A_t_tape, .int t_taped, .int t_fault, .int t_broken, .int t_brokenAt, .int t_spot, .int t_here, .int t_token, .int t_value, .int t_isRealTold, .ref A_t_ends, .ref A_t_letters, .ref A_t_least, .ref A_t_conflicts, .int t_conflictMany, .ref A_t_behind, .ref A_t_placed, .ref A_t_isKept, .ref A_t_lanes, .ref A_t_lengths, .ref A_t_cells, .int t_torn])), (A_t_state, .inl (cy 1, 535, .inl t_state)), (A_t_least, .inl (cy 2, 100, .inr (.inl t_least)))] H → va_D A [(A_t, .inr (8, [.ref A_t_state, .ref A_t_tape, .int t_taped, .int t_fault, .int t_broken, .int t_brokenAt, .int t_spot, .int t_here, .int t_token, .int t_value, .int t_isRealTold, .ref A_t_ends, .ref A_t_letters, .ref A_t_least, .ref A_t_conflicts, .int t_conflictMany, .ref A_t_behind, .ref A_t_placed, .ref A_t_isKept, .ref A_t_lanes, .ref A_t_lengths, .ref A_t_cells, .int t_torn])), (A_t_state, .inl (cy 1, 535, .inl t_state)), (A_t_least, .inl (cy 2, 100, .inr (.inl t_least)))] → va_S A s.heap H locs → lv_has ls 7 [(3, .int x3), (4, .int x4)] → W p l e (headSpec wsX8_reach { frames := 3, cells := 0, slots := 0, locals := 72 }).room s m ([.ref A_t, .int x1, .int x2, .int x3, .int x4] : List Value).toArray below meth c H locs 0 0 Q0 (F0 m 70 ls [.long l0]) := by
    intro t_least l0 H locs ls h hP hD hS hl
    unfold B_X8_reach_70 at h
    refine lv_lstore (lv' := [(5, .long l0), (3, .int x3), (4, .int x4)]) hx hb dX8_reach_70 hl (by decide) rfl (fun ls hl => ?_)
    refine lv_lload hx hb dX8_reach_72 (lv_at hl 0 rfl) ?_
    refine lv_ldc2 (v := 1000000000000000000) hx hb hown f3 dX8_reach_74 ?_
    refine lx_ge (tgt := 87) hx hb dX8_reach_77 dX8_reach_78 (by decide) (fun hc => ?_) (fun hc => ?_)
    · replace h := h.1 hc
      exact J87 t_least l0 H locs ls h hP hD hS (lv_sub hl [0] rfl)
    · replace h := h.2 hc
      refine lv_iload hx hb dX8_reach_81 (lv_at hl 2 rfl) ?_
      refine lv_iconst (v := 1) hx hb dX8_reach_83 (by decide) ?_
      refine lv_icmp_le (tgt := 94) hx hb dX8_reach_84 (by decide) (fun hc => ?_) (fun hc => ?_)
      · replace h := h.1 hc
        refine lv_iload hx hb dX8_reach_94 (lv_at hl 2 rfl) ?_
        refine lv_if_ne (tgt := 110) hx hb dX8_reach_96 (by decide) (fun hc => ?_) (fun hc => ?_)
        · replace h := h.1 hc
          refine lv_iload_n hx hb dX8_reach_110 rfl (lv_at hl 1 rfl) ?_
          refine lv_i2l (v := x3.toInt64) hx hb dX8_reach_111 rfl ?_
          refine lv_lload hx hb dX8_reach_112 (lv_at hl 0 rfl) ?_
          refine vp_callSl (W.runS (As := [.long l0]) (rest := [.long x3.toInt64]) CF (c_X8_limitOf l l0 _ h) (va_cwS 1 hts gX8_reach_X8_limitOf rfl rfl rfl qX8_limitOf.2 ⟨Nat.le_of_ble_eq_true rfl, Nat.le_of_ble_eq_true rfl⟩) mpSN rfl rfl hl.1 rfl (lv_room (Nat.le_of_ble_eq_true rfl)) dX8_reach_114 ⟨Nat.zero_le _, Nat.zero_le _⟩) (fun r6 h => ?_)
          refine lv_lsub hx hb dX8_reach_117 ?_
          subst hQ
          subst hAe
          exact W.lret (v := x3.toInt64 - r6) hx hb hr (fun t ht _ => ⟨⟨x3.toInt64 - r6, t_least, rfl, h, by rw [ht]; exact hP, hD⟩, hS.F ht⟩) hS.2.2 dX8_reach_118
        · replace h := h.2 hc
          refine lv_iload_n hx hb dX8_reach_99 rfl (lv_at hl 1 rfl) ?_
          refine lv_i2l (v := x3.toInt64) hx hb dX8_reach_100 rfl ?_
          refine lv_lload hx hb dX8_reach_101 (lv_at hl 0 rfl) ?_
          refine vp_callSl (W.runS (As := [.long l0]) (rest := [.long x3.toInt64]) CF (c_X8_limitOf l l0 _ h) (va_cwS 1 hts gX8_reach_X8_limitOf rfl rfl rfl qX8_limitOf.2 ⟨Nat.le_of_ble_eq_true rfl, Nat.le_of_ble_eq_true rfl⟩) mpSN rfl rfl hl.1 rfl (lv_room (Nat.le_of_ble_eq_true rfl)) dX8_reach_103 ⟨Nat.zero_le _, Nat.zero_le _⟩) (fun r7 h => ?_)
          refine lv_ladd hx hb dX8_reach_106 ?_
          refine lv_goto (tgt := 118) hx hb dX8_reach_107 (by decide) ?_
          subst hQ
          subst hAe
          exact W.lret (v := x3.toInt64 + r7) hx hb hr (fun t ht _ => ⟨⟨x3.toInt64 + r7, t_least, rfl, h, by rw [ht]; exact hP, hD⟩, hS.F ht⟩) hS.2.2 dX8_reach_118
      · replace h := h.2 hc
        exact J87 t_least l0 H locs ls h hP hD hS (lv_sub hl [0] rfl)
  unfold P_X8_reach at h
  refine lv_iload_n hx hb dX8_reach_0 rfl (lv_at hl 1 rfl) ?_
  refine vp_callSi (W.runS (As := [.int x1]) (rest := []) CF (c_X8_isThing l x1 _ h) (va_cwS 1 hts gX8_reach_X8_isThing rfl rfl rfl qX8_isThing.2 ⟨Nat.le_of_ble_eq_true rfl, Nat.le_of_ble_eq_true rfl⟩) mpSN rfl rfl hl.1 rfl (lv_room (Nat.le_of_ble_eq_true rfl)) dX8_reach_1 ⟨Nat.zero_le _, Nat.zero_le _⟩) (fun r1 h => ?_)
  refine lv_if_eq (tgt := 27) hx hb dX8_reach_4 (by decide) (fun hc => ?_) (fun hc => ?_)
  · replace h := h.1 hc
    refine lv_ldc2 (v := -1) hx hb hown f0 dX8_reach_27 ?_
    subst hQ
    subst hAe
    exact W.lret (v := (-1 : Int64)) hx hb hr (fun t ht _ => ⟨⟨(-1 : Int64), t_least, rfl, h, by rw [ht]; exact hP, hD⟩, hS.F ht⟩) hS.2.2 dX8_reach_30
  · replace h := h.2 hc
    refine lv_iload_n hx hb dX8_reach_7 rfl (lv_at hl 2 rfl) ?_
    refine vp_callSi (W.runS (As := [.int x2]) (rest := []) CF (c_X8_isThing l x2 _ h) (va_cwS 1 hts gX8_reach_X8_isThing rfl rfl rfl qX8_isThing.2 ⟨Nat.le_of_ble_eq_true rfl, Nat.le_of_ble_eq_true rfl⟩) mpSN rfl rfl hl.1 rfl (lv_room (Nat.le_of_ble_eq_true rfl)) dX8_reach_8 ⟨Nat.zero_le _, Nat.zero_le _⟩) (fun r2 h => ?_)
    refine lv_if_eq (tgt := 27) hx hb dX8_reach_11 (by decide) (fun hc => ?_) (fun hc => ?_)
    · replace h := h.1 hc
      refine lv_ldc2 (v := -1) hx hb hown f0 dX8_reach_27 ?_
      subst hQ
      subst hAe
      exact W.lret (v := (-1 : Int64)) hx hb hr (fun t ht _ => ⟨⟨(-1 : Int64), t_least, rfl, h, by rw [ht]; exact hP, hD⟩, hS.F ht⟩) hS.2.2 dX8_reach_30
    · replace h := h.2 hc
      refine lv_iload hx hb dX8_reach_14 (lv_at hl 4 rfl) ?_
      refine lv_i2l (v := x4.toInt64) hx hb dX8_reach_16 rfl ?_
      refine lv_lconst (v := 0) hx hb dX8_reach_17 (by decide) ?_
      refine lv_ldc2 (v := 3) hx hb hown f1 dX8_reach_18 ?_
      refine vp_callSi (W.runS (As := [.long x4.toInt64, .long (0 : Int64), .long (3 : Int64)]) (rest := []) CF (c_X8_in l x4.toInt64 (0 : Int64) (3 : Int64) _ h) (va_cwS 3 hts gX8_reach_X8_in rfl rfl rfl qX8_in.2 ⟨Nat.le_of_ble_eq_true rfl, Nat.le_of_ble_eq_true rfl⟩) mpSN rfl rfl hl.1 rfl (lv_room (Nat.le_of_ble_eq_true rfl)) dX8_reach_21 ⟨Nat.zero_le _, Nat.zero_le _⟩) (fun r3 h => ?_)
      refine lv_if_ne (tgt := 31) hx hb dX8_reach_24 (by decide) (fun hc => ?_) (fun hc => ?_)
      · replace h := h.1 hc
        refine lv_aload_n hx hb dX8_reach_31 rfl (lv_at hl 0 rfl) ?_
        refine lv_iconst (v := 0) hx hb dX8_reach_32 (by decide) ?_
        refine lv_bipush (v := -4) hx hb dX8_reach_33 (by decide) ?_
        have hPn : va_P D vwCl ([] ++ [(A_t, .inr (8, [.ref A_t_state, .ref A_t_tape, .int t_taped, .int t_fault, .int t_broken, .int t_brokenAt, .int t_spot, .int t_here, .int t_token, .int t_value, .int t_isRealTold, .ref A_t_ends, .ref A_t_letters, .ref A_t_least, .ref A_t_conflicts, .int t_conflictMany, .ref A_t_behind, .ref A_t_placed, .ref A_t_isKept, .ref A_t_lanes, .ref A_t_lengths, .ref A_t_cells, .int t_torn])), (A_t_state, .inl (cy 1, 535, .inl t_state)), (A_t_least, .inl (cy 2, 100, .inr (.inl t_least)))]) s.heap := hP.sub [0, 1, 2] rfl
        have hDn : va_D A ([] ++ [(A_t, .inr (8, [.ref A_t_state, .ref A_t_tape, .int t_taped, .int t_fault, .int t_broken, .int t_brokenAt, .int t_spot, .int t_here, .int t_token, .int t_value, .int t_isRealTold, .ref A_t_ends, .ref A_t_letters, .ref A_t_least, .ref A_t_conflicts, .int t_conflictMany, .ref A_t_behind, .ref A_t_placed, .ref A_t_isKept, .ref A_t_lanes, .ref A_t_lengths, .ref A_t_cells, .int t_torn])), (A_t_state, .inl (cy 1, 535, .inl t_state)), (A_t_least, .inl (cy 2, 100, .inr (.inl t_least)))]) := hD.sub [0, 1, 2] (by decide) rfl
        have hPc := gPR hPn
        have hDc := gDR hDn
        refine mw_v (va_runV (As := [.int (0 : Int32), .int (-4 : Int32)]) (rest := []) CF (c_X8_reckons l D cy s.heap.size A_t A_t_state A_t_tape A_t_ends A_t_letters A_t_least A_t_conflicts A_t_behind A_t_placed A_t_isKept A_t_lanes A_t_lengths A_t_cells t_taped t_fault t_broken t_brokenAt t_spot t_here t_token t_value t_isRealTold t_conflictMany t_torn t_state t_least (0 : Int32) (-4 : Int32) _ h) (cwV 2 hts gX8_reach_X8_reckons rfl rfl rfl qX8_reckons ⟨Nat.le_of_ble_eq_true rfl, Nat.le_of_ble_eq_true rfl⟩) (mpVW hK hPc hDc (ci := 8) (q := (RX8, TX8, 23)) (q0 := 0) rfl rfl) rfl rfl hl.1 rfl (lv_room (Nat.le_of_ble_eq_true rfl)) dX8_reach_35 ⟨Nat.zero_le _, Nat.zero_le _⟩) hPn hDn hS hA (fun t_least_v4 H locs h hP hD hS => ?_)
        have hP : va_P D vwCl [(A_t, .inr (8, [.ref A_t_state, .ref A_t_tape, .int t_taped, .int t_fault, .int t_broken, .int t_brokenAt, .int t_spot, .int t_here, .int t_token, .int t_value, .int t_isRealTold, .ref A_t_ends, .ref A_t_letters, .ref A_t_least, .ref A_t_conflicts, .int t_conflictMany, .ref A_t_behind, .ref A_t_placed, .ref A_t_isKept, .ref A_t_lanes, .ref A_t_lengths, .ref A_t_cells, .int t_torn])), (A_t_state, .inl (cy 1, 535, .inl t_state)), (A_t_least, .inl (cy 2, 100, .inr (.inl t_least_v4)))] H := hP.sub [0, 1, 2] rfl
        have hD : va_D A [(A_t, .inr (8, [.ref A_t_state, .ref A_t_tape, .int t_taped, .int t_fault, .int t_broken, .int t_brokenAt, .int t_spot, .int t_here, .int t_token, .int t_value, .int t_isRealTold, .ref A_t_ends, .ref A_t_letters, .ref A_t_least, .ref A_t_conflicts, .int t_conflictMany, .ref A_t_behind, .ref A_t_placed, .ref A_t_isKept, .ref A_t_lanes, .ref A_t_lengths, .ref A_t_cells, .int t_torn])), (A_t_state, .inl (cy 1, 535, .inl t_state)), (A_t_least, .inl (cy 2, 100, .inr (.inl t_least_v4)))] := hD.sub [0, 1, 2] (by decide) rfl
        refine lv_iload hx hb dX8_reach_38 (lv_at hl 4 rfl) ?_
        refine lv_iconst (v := 2) hx hb dX8_reach_40 (by decide) ?_
        refine lv_irem hx hb dX8_reach_41 (by decide) ?_
        refine lv_if_ne (tgt := 59) hx hb dX8_reach_42 (by decide) (fun hc => ?_) (fun hc => ?_)
        · replace h := h.1 hc
          refine lv_aload_n hx hb dX8_reach_59 rfl (lv_at hl 0 rfl) ?_
          refine va_get (D := D) (ci := 8) (v := .ref A_t_least) (C := RX8) (T := TX8) (N := 23) hx hb hts iX8 hown hK.1 hP 0 rfl rfl 13 (by decide) f2 (fun _ h9 => h9) rfl dX8_reach_60 ?_
          refine lv_bipush (v := 10) hx hb dX8_reach_63 (by decide) ?_
          refine lv_iload_n hx hb dX8_reach_65 rfl (lv_at hl 1 rfl) ?_
          refine lv_imul hx hb dX8_reach_66 ?_
          refine lv_iload_n hx hb dX8_reach_67 rfl (lv_at hl 2 rfl) ?_
          refine lv_iadd hx hb dX8_reach_68 ?_
          refine va_lald hx hb hK.1 hP 2 2 rfl rfl h.1 dX8_reach_69 ?_
          replace h := h.2
          exact J70 t_least_v4 (t_least_v4 (((10 : Int32) * x1) + x2).toNatClampNeg) H locs ls h hP hD hS (lv_sub hl [3, 4] rfl)
        · replace h := h.2 hc
          refine lv_aload_n hx hb dX8_reach_45 rfl (lv_at hl 0 rfl) ?_
          refine va_get (D := D) (ci := 8) (v := .ref A_t_least) (C := RX8) (T := TX8) (N := 23) hx hb hts iX8 hown hK.1 hP 0 rfl rfl 13 (by decide) f2 (fun _ h9 => h9) rfl dX8_reach_46 ?_
          refine lv_bipush (v := 10) hx hb dX8_reach_49 (by decide) ?_
          refine lv_iload_n hx hb dX8_reach_51 rfl (lv_at hl 2 rfl) ?_
          refine lv_imul hx hb dX8_reach_52 ?_
          refine lv_iload_n hx hb dX8_reach_53 rfl (lv_at hl 1 rfl) ?_
          refine lv_iadd hx hb dX8_reach_54 ?_
          refine va_lald hx hb hK.1 hP 2 2 rfl rfl h.1 dX8_reach_55 ?_
          replace h := h.2
          refine lv_goto (tgt := 70) hx hb dX8_reach_56 (by decide) ?_
          exact J70 t_least_v4 (t_least_v4 (((10 : Int32) * x2) + x1).toNatClampNeg) H locs ls h hP hD hS (lv_sub hl [3, 4] rfl)
      · replace h := h.2 hc
        refine lv_ldc2 (v := -1) hx hb hown f0 dX8_reach_27 ?_
        subst hQ
        subst hAe
        exact W.lret (v := (-1 : Int64)) hx hb hr (fun t ht _ => ⟨⟨(-1 : Int64), t_least, rfl, h, by rw [ht]; exact hP, hD⟩, hS.F ht⟩) hS.2.2 dX8_reach_30
theorem qX8_room : yX8_room.cls = RX8 ∧ yX8_room.cls ≠ "java/lang/invoke/MethodHandle" ∧ yX8_room.cls ≠ "java/lang/invoke/VarHandle" ∧ (parseMethodDescriptor yX8_room.desc).map (fun d => d.parameters.length) = some 3 := by decide +kernel
def P_X8_room (post : Int64 → (Nat → Int64) → Prop) (t_state : Nat → Int32) (t_least : Nat → Int64) (x1 : Int32) (x2 : Int32) (x3 : Int32) : Prop :=
  P_X8_isPair (fun (r1 : Int32) => ((r1 = 0 → post (-1 : Int64) t_least) ∧ (¬ r1 = 0 → P_X8_isFlag (fun (r2 : Int32) => ((¬ r2 = 0 → P_X8_reckons (fun (t_least_v3 : Nat → Int64) => (vp_in (((10 : Int32) * x1) + x2) 100 ∧ ((t_least_v3 (((10 : Int32) * x1) + x2).toNatClampNeg < (1000000000000000000 : Int64) → ((¬ x3 = 0 → P_X8_edgesOf (fun (r4 : Int64) => ((r4 ≤ (0 : Int64) → post (0 : Int64) t_least_v3) ∧ (¬ r4 ≤ (0 : Int64) → post (1 : Int64) t_least_v3))) (t_least_v3 (((10 : Int32) * x1) + x2).toNatClampNeg)) ∧ (x3 = 0 → P_X8_limitOf (fun (r5 : Int64) => post (-r5) t_least_v3) (t_least_v3 (((10 : Int32) * x1) + x2).toNatClampNeg)))) ∧ (¬ t_least_v3 (((10 : Int32) * x1) + x2).toNatClampNeg < (1000000000000000000 : Int64) → post (1000000000000 : Int64) t_least_v3)))) t_state t_least (0 : Int32) (-4 : Int32)) ∧ (r2 = 0 → post (-1 : Int64) t_least))) x3))) x1 x2
set_option maxHeartbeats 4000000 in
set_option maxRecDepth 100000 in
theorem c_X8_room (l : Launch) (D : va_G) (cy : Nat → ClassId) (sz : Nat) (A_t A_t_state A_t_tape A_t_ends A_t_letters A_t_least A_t_conflicts A_t_behind A_t_placed A_t_isKept A_t_lanes A_t_lengths A_t_cells : Nat) (t_taped : Int32) (t_fault : Int32) (t_broken : Int32) (t_brokenAt : Int32) (t_spot : Int32) (t_here : Int32) (t_token : Int32) (t_value : Int32) (t_isRealTold : Int32) (t_conflictMany : Int32) (t_torn : Int32) (t_state : Nat → Int32) (t_least : Nat → Int64) (x1 : Int32) (x2 : Int32) (x3 : Int32) (post : Int64 → (Nat → Int64) → Prop) (h : P_X8_room post t_state t_least x1 x2 x3) : Met l yX8_room wsX8_room { frames := 3, cells := 0, slots := 0, locals := 72 } (pcW D cy [(A_t, .inr (8, [.ref A_t_state, .ref A_t_tape, .int t_taped, .int t_fault, .int t_broken, .int t_brokenAt, .int t_spot, .int t_here, .int t_token, .int t_value, .int t_isRealTold, .ref A_t_ends, .ref A_t_letters, .ref A_t_least, .ref A_t_conflicts, .int t_conflictMany, .ref A_t_behind, .ref A_t_placed, .ref A_t_isKept, .ref A_t_lanes, .ref A_t_lengths, .ref A_t_cells, .int t_torn])), (A_t_state, .inl (cy 1, 535, .inl t_state)), (A_t_least, .inl (cy 2, 100, .inr (.inl t_least)))] sz [.ref A_t, .int x1, .int x2, .int x3]) (va_Ql (fun r (u : (Nat → Int64)) => post r u) (bW D [(A_t, .inr (8, [.ref A_t_state, .ref A_t_tape, .int t_taped, .int t_fault, .int t_broken, .int t_brokenAt, .int t_spot, .int t_here, .int t_token, .int t_value, .int t_isRealTold, .ref A_t_ends, .ref A_t_letters, .ref A_t_least, .ref A_t_conflicts, .int t_conflictMany, .ref A_t_behind, .ref A_t_placed, .ref A_t_isKept, .ref A_t_lanes, .ref A_t_lengths, .ref A_t_cells, .int t_torn])), (A_t_state, .inl (cy 1, 535, .inl t_state)), (A_t_least, .inl (cy 2, 100, .inr (.inl t_least)))] sz (fun u => [(A_t, .inr (8, [.ref A_t_state, .ref A_t_tape, .int t_taped, .int t_fault, .int t_broken, .int t_brokenAt, .int t_spot, .int t_here, .int t_token, .int t_value, .int t_isRealTold, .ref A_t_ends, .ref A_t_letters, .ref A_t_least, .ref A_t_conflicts, .int t_conflictMany, .ref A_t_behind, .ref A_t_placed, .ref A_t_isKept, .ref A_t_lanes, .ref A_t_lengths, .ref A_t_cells, .int t_torn])), (A_t_state, .inl (cy 1, 535, .inl t_state)), (A_t_least, .inl (cy 2, 100, .inr (.inl u)))])) (va_A [(A_t, .inr (8, [.ref A_t_state, .ref A_t_tape, .int t_taped, .int t_fault, .int t_broken, .int t_brokenAt, .int t_spot, .int t_here, .int t_token, .int t_value, .int t_isRealTold, .ref A_t_ends, .ref A_t_letters, .ref A_t_least, .ref A_t_conflicts, .int t_conflictMany, .ref A_t_behind, .ref A_t_placed, .ref A_t_isKept, .ref A_t_lanes, .ref A_t_lengths, .ref A_t_cells, .int t_torn])), (A_t_state, .inl (cy 1, 535, .inl t_state)), (A_t_least, .inl (cy 2, 100, .inr (.inl t_least)))] sz)) 0 0 (va_A [(A_t, .inr (8, [.ref A_t_state, .ref A_t_tape, .int t_taped, .int t_fault, .int t_broken, .int t_brokenAt, .int t_spot, .int t_here, .int t_token, .int t_value, .int t_isRealTold, .ref A_t_ends, .ref A_t_letters, .ref A_t_least, .ref A_t_conflicts, .int t_conflictMany, .ref A_t_behind, .ref A_t_placed, .ref A_t_isKept, .ref A_t_lanes, .ref A_t_lengths, .ref A_t_cells, .int t_torn])), (A_t_state, .inl (cy 1, 535, .inl t_state)), (A_t_least, .inl (cy 2, 100, .inr (.inl t_least)))] sz) := by
  refine Met.ofW (cc := cX8_room) (maxL := 6) (ret := (some .long)) (by decide) rfl ?_
  intro p e s m args below meth c s₁ B hml hv
  obtain ⟨rfl, hsz, hP, hK, hD0⟩ := hv
  have hx := B.exec
  have hb := B.bytes
  have hr := B.returns
  have hts := atoms_spec (ws := wsX8_room) B.pre
  have hown : s.vm.findClass RX8 = some m.cls := findClass_of_methodNamed B.named
  have hlocks := B.notSynchronized
  have CF : CallFix p m c cX8_room 6 s ([.ref A_t, .int x1, .int x2, .int x3] : List Value).toArray wsX8_room RX8 := ⟨hx, hb, hml, hown, hts⟩
  have f0 := hts (.constantLong RX8 233 (-1)) (by decide +kernel)
  have f1 := hts (.fieldLink RX8 22 "GapBoundsModel" "least" "[J") (by decide +kernel)
  have f2 := hts (.constantLong RX8 151 (1000000000000000000)) (by decide +kernel)
  have f3 := hts (.constantLong RX8 196 (1000000000000)) (by decide +kernel)
  have iX8 : ∀ w ∈ u_ws RX8 TX8 23, w ∈ wsX8_room := by decide +kernel
  subst hsz
  obtain ⟨A, hAe⟩ : ∃ A, A = va_A [(A_t, .inr (8, [.ref A_t_state, .ref A_t_tape, .int t_taped, .int t_fault, .int t_broken, .int t_brokenAt, .int t_spot, .int t_here, .int t_token, .int t_value, .int t_isRealTold, .ref A_t_ends, .ref A_t_letters, .ref A_t_least, .ref A_t_conflicts, .int t_conflictMany, .ref A_t_behind, .ref A_t_placed, .ref A_t_isKept, .ref A_t_lanes, .ref A_t_lengths, .ref A_t_cells, .int t_torn])), (A_t_state, .inl (cy 1, 535, .inl t_state)), (A_t_least, .inl (cy 2, 100, .inr (.inl t_least)))] s.heap.size := ⟨_, rfl⟩
  have hD : va_D A [(A_t, .inr (8, [.ref A_t_state, .ref A_t_tape, .int t_taped, .int t_fault, .int t_broken, .int t_brokenAt, .int t_spot, .int t_here, .int t_token, .int t_value, .int t_isRealTold, .ref A_t_ends, .ref A_t_letters, .ref A_t_least, .ref A_t_conflicts, .int t_conflictMany, .ref A_t_behind, .ref A_t_placed, .ref A_t_isKept, .ref A_t_lanes, .ref A_t_lengths, .ref A_t_cells, .int t_torn])), (A_t_state, .inl (cy 1, 535, .inl t_state)), (A_t_least, .inl (cy 2, 100, .inr (.inl t_least)))] := by rw [hAe]; exact hD0.self
  have hA : ∀ q : Nat, s.heap.size ≤ q → A q := fun q hq => by rw [hAe]; exact Or.inr hq
  have hS : va_S A s.heap s.heap [] := va_S.rf
  have hl := lv_entry [.ref A_t, .int x1, .int x2, .int x3] (n := 6) (Nat.le_of_ble_eq_true rfl)
  rw [lg_entry_eq]
  generalize (lg_sl [.ref A_t, .int x1, .int x2, .int x3] ++ List.replicate (6 - (lg_sl [.ref A_t, .int x1, .int x2, .int x3]).length) Slot.unset).toArray = ls at hl ⊢
  have hl : lv_has ls 6 [(0, .ref A_t), (1, .int x1), (2, .int x2), (3, .int x3)] := hl
  refine W.gen (fun Q0 hQ => ?_)
  unfold P_X8_room at h
  refine lv_iload_n hx hb dX8_room_0 rfl (lv_at hl 1 rfl) ?_
  refine lv_iload_n hx hb dX8_room_1 rfl (lv_at hl 2 rfl) ?_
  refine vp_callSi (W.runS (As := [.int x1, .int x2]) (rest := []) CF (c_X8_isPair l x1 x2 _ h) (va_cwS 2 hts gX8_room_X8_isPair rfl rfl rfl qX8_isPair.2 ⟨Nat.le_of_ble_eq_true rfl, Nat.le_of_ble_eq_true rfl⟩) mpSN rfl rfl hl.1 rfl (lv_room (Nat.le_of_ble_eq_true rfl)) dX8_room_2 ⟨Nat.zero_le _, Nat.zero_le _⟩) (fun r1 h => ?_)
  refine lv_if_eq (tgt := 15) hx hb dX8_room_5 (by decide) (fun hc => ?_) (fun hc => ?_)
  · replace h := h.1 hc
    refine lv_ldc2 (v := -1) hx hb hown f0 dX8_room_15 ?_
    subst hQ
    subst hAe
    exact W.lret (v := (-1 : Int64)) hx hb hr (fun t ht _ => ⟨⟨(-1 : Int64), t_least, rfl, h, by rw [ht]; exact hP, hD⟩, hS.F ht⟩) hS.2.2 dX8_room_18
  · replace h := h.2 hc
    refine lv_iload_n hx hb dX8_room_8 rfl (lv_at hl 3 rfl) ?_
    refine vp_callSi (W.runS (As := [.int x3]) (rest := []) CF (c_X8_isFlag l x3 _ h) (va_cwS 1 hts gX8_room_X8_isFlag rfl rfl rfl qX8_isFlag.2 ⟨Nat.le_of_ble_eq_true rfl, Nat.le_of_ble_eq_true rfl⟩) mpSN rfl rfl hl.1 rfl (lv_room (Nat.le_of_ble_eq_true rfl)) dX8_room_9 ⟨Nat.zero_le _, Nat.zero_le _⟩) (fun r2 h => ?_)
    refine lv_if_ne (tgt := 19) hx hb dX8_room_12 (by decide) (fun hc => ?_) (fun hc => ?_)
    · replace h := h.1 hc
      refine lv_aload_n hx hb dX8_room_19 rfl (lv_at hl 0 rfl) ?_
      refine lv_iconst (v := 0) hx hb dX8_room_20 (by decide) ?_
      refine lv_bipush (v := -4) hx hb dX8_room_21 (by decide) ?_
      have hPn : va_P D vwCl ([] ++ [(A_t, .inr (8, [.ref A_t_state, .ref A_t_tape, .int t_taped, .int t_fault, .int t_broken, .int t_brokenAt, .int t_spot, .int t_here, .int t_token, .int t_value, .int t_isRealTold, .ref A_t_ends, .ref A_t_letters, .ref A_t_least, .ref A_t_conflicts, .int t_conflictMany, .ref A_t_behind, .ref A_t_placed, .ref A_t_isKept, .ref A_t_lanes, .ref A_t_lengths, .ref A_t_cells, .int t_torn])), (A_t_state, .inl (cy 1, 535, .inl t_state)), (A_t_least, .inl (cy 2, 100, .inr (.inl t_least)))]) s.heap := hP.sub [0, 1, 2] rfl
      have hDn : va_D A ([] ++ [(A_t, .inr (8, [.ref A_t_state, .ref A_t_tape, .int t_taped, .int t_fault, .int t_broken, .int t_brokenAt, .int t_spot, .int t_here, .int t_token, .int t_value, .int t_isRealTold, .ref A_t_ends, .ref A_t_letters, .ref A_t_least, .ref A_t_conflicts, .int t_conflictMany, .ref A_t_behind, .ref A_t_placed, .ref A_t_isKept, .ref A_t_lanes, .ref A_t_lengths, .ref A_t_cells, .int t_torn])), (A_t_state, .inl (cy 1, 535, .inl t_state)), (A_t_least, .inl (cy 2, 100, .inr (.inl t_least)))]) := hD.sub [0, 1, 2] (by decide) rfl
      have hPc := gPR hPn
      have hDc := gDR hDn
      refine mw_v (va_runV (As := [.int (0 : Int32), .int (-4 : Int32)]) (rest := []) CF (c_X8_reckons l D cy s.heap.size A_t A_t_state A_t_tape A_t_ends A_t_letters A_t_least A_t_conflicts A_t_behind A_t_placed A_t_isKept A_t_lanes A_t_lengths A_t_cells t_taped t_fault t_broken t_brokenAt t_spot t_here t_token t_value t_isRealTold t_conflictMany t_torn t_state t_least (0 : Int32) (-4 : Int32) _ h) (cwV 2 hts gX8_room_X8_reckons rfl rfl rfl qX8_reckons ⟨Nat.le_of_ble_eq_true rfl, Nat.le_of_ble_eq_true rfl⟩) (mpVW hK hPc hDc (ci := 8) (q := (RX8, TX8, 23)) (q0 := 0) rfl rfl) rfl rfl hl.1 rfl (lv_room (Nat.le_of_ble_eq_true rfl)) dX8_room_23 ⟨Nat.zero_le _, Nat.zero_le _⟩) hPn hDn hS hA (fun t_least_v3 H locs h hP hD hS => ?_)
      have hP : va_P D vwCl [(A_t, .inr (8, [.ref A_t_state, .ref A_t_tape, .int t_taped, .int t_fault, .int t_broken, .int t_brokenAt, .int t_spot, .int t_here, .int t_token, .int t_value, .int t_isRealTold, .ref A_t_ends, .ref A_t_letters, .ref A_t_least, .ref A_t_conflicts, .int t_conflictMany, .ref A_t_behind, .ref A_t_placed, .ref A_t_isKept, .ref A_t_lanes, .ref A_t_lengths, .ref A_t_cells, .int t_torn])), (A_t_state, .inl (cy 1, 535, .inl t_state)), (A_t_least, .inl (cy 2, 100, .inr (.inl t_least_v3)))] H := hP.sub [0, 1, 2] rfl
      have hD : va_D A [(A_t, .inr (8, [.ref A_t_state, .ref A_t_tape, .int t_taped, .int t_fault, .int t_broken, .int t_brokenAt, .int t_spot, .int t_here, .int t_token, .int t_value, .int t_isRealTold, .ref A_t_ends, .ref A_t_letters, .ref A_t_least, .ref A_t_conflicts, .int t_conflictMany, .ref A_t_behind, .ref A_t_placed, .ref A_t_isKept, .ref A_t_lanes, .ref A_t_lengths, .ref A_t_cells, .int t_torn])), (A_t_state, .inl (cy 1, 535, .inl t_state)), (A_t_least, .inl (cy 2, 100, .inr (.inl t_least_v3)))] := hD.sub [0, 1, 2] (by decide) rfl
      refine lv_aload_n hx hb dX8_room_26 rfl (lv_at hl 0 rfl) ?_
      refine va_get (D := D) (ci := 8) (v := .ref A_t_least) (C := RX8) (T := TX8) (N := 23) hx hb hts iX8 hown hK.1 hP 0 rfl rfl 13 (by decide) f1 (fun _ h9 => h9) rfl dX8_room_27 ?_
      refine lv_bipush (v := 10) hx hb dX8_room_30 (by decide) ?_
      refine lv_iload_n hx hb dX8_room_32 rfl (lv_at hl 1 rfl) ?_
      refine lv_imul hx hb dX8_room_33 ?_
      refine lv_iload_n hx hb dX8_room_34 rfl (lv_at hl 2 rfl) ?_
      refine lv_iadd hx hb dX8_room_35 ?_
      refine va_lald hx hb hK.1 hP 2 2 rfl rfl h.1 dX8_room_36 ?_
      replace h := h.2
      refine lv_lstore (lv' := [(4, .long (t_least_v3 (((10 : Int32) * x1) + x2).toNatClampNeg)), (0, .ref A_t), (1, .int x1), (2, .int x2), (3, .int x3)]) hx hb dX8_room_37 hl (by decide) rfl (fun ls hl => ?_)
      refine lv_lload hx hb dX8_room_39 (lv_at hl 0 rfl) ?_
      refine lv_ldc2 (v := 1000000000000000000) hx hb hown f2 dX8_room_41 ?_
      refine lx_lt (tgt := 52) hx hb dX8_room_44 dX8_room_45 (by decide) (fun hc => ?_) (fun hc => ?_)
      · replace h := h.1 hc
        refine lv_iload_n hx hb dX8_room_52 rfl (lv_at hl 4 rfl) ?_
        refine lv_if_ne (tgt := 65) hx hb dX8_room_53 (by decide) (fun hc => ?_) (fun hc => ?_)
        · replace h := h.1 hc
          refine lv_lload hx hb dX8_room_65 (lv_at hl 0 rfl) ?_
          refine vp_callSl (W.runS (As := [.long (t_least_v3 (((10 : Int32) * x1) + x2).toNatClampNeg)]) (rest := []) CF (c_X8_edgesOf l (t_least_v3 (((10 : Int32) * x1) + x2).toNatClampNeg) _ h) (va_cwS 1 hts gX8_room_X8_edgesOf rfl rfl rfl qX8_edgesOf.2 ⟨Nat.le_of_ble_eq_true rfl, Nat.le_of_ble_eq_true rfl⟩) mpSN rfl rfl hl.1 rfl (lv_room (Nat.le_of_ble_eq_true rfl)) dX8_room_67 ⟨Nat.zero_le _, Nat.zero_le _⟩) (fun r4 h => ?_)
          refine lv_lconst (v := 0) hx hb dX8_room_70 (by decide) ?_
          refine lx_le (tgt := 79) hx hb dX8_room_71 dX8_room_72 (by decide) (fun hc => ?_) (fun hc => ?_)
          · replace h := h.1 hc
            refine lv_lconst (v := 0) hx hb dX8_room_79 (by decide) ?_
            subst hQ
            subst hAe
            exact W.lret (v := (0 : Int64)) hx hb hr (fun t ht _ => ⟨⟨(0 : Int64), t_least_v3, rfl, h, by rw [ht]; exact hP, hD⟩, hS.F ht⟩) hS.2.2 dX8_room_80
          · replace h := h.2 hc
            refine lv_lconst (v := 1) hx hb dX8_room_75 (by decide) ?_
            refine lv_goto (tgt := 80) hx hb dX8_room_76 (by decide) ?_
            subst hQ
            subst hAe
            exact W.lret (v := (1 : Int64)) hx hb hr (fun t ht _ => ⟨⟨(1 : Int64), t_least_v3, rfl, h, by rw [ht]; exact hP, hD⟩, hS.F ht⟩) hS.2.2 dX8_room_80
        · replace h := h.2 hc
          refine lv_lload hx hb dX8_room_56 (lv_at hl 0 rfl) ?_
          refine vp_callSl (W.runS (As := [.long (t_least_v3 (((10 : Int32) * x1) + x2).toNatClampNeg)]) (rest := []) CF (c_X8_limitOf l (t_least_v3 (((10 : Int32) * x1) + x2).toNatClampNeg) _ h) (va_cwS 1 hts gX8_room_X8_limitOf rfl rfl rfl qX8_limitOf.2 ⟨Nat.le_of_ble_eq_true rfl, Nat.le_of_ble_eq_true rfl⟩) mpSN rfl rfl hl.1 rfl (lv_room (Nat.le_of_ble_eq_true rfl)) dX8_room_58 ⟨Nat.zero_le _, Nat.zero_le _⟩) (fun r5 h => ?_)
          refine lv_lneg hx hb dX8_room_61 ?_
          refine lv_goto (tgt := 80) hx hb dX8_room_62 (by decide) ?_
          subst hQ
          subst hAe
          exact W.lret (v := -r5) hx hb hr (fun t ht _ => ⟨⟨-r5, t_least_v3, rfl, h, by rw [ht]; exact hP, hD⟩, hS.F ht⟩) hS.2.2 dX8_room_80
      · replace h := h.2 hc
        refine lv_ldc2 (v := 1000000000000) hx hb hown f3 dX8_room_48 ?_
        subst hQ
        subst hAe
        exact W.lret (v := (1000000000000 : Int64)) hx hb hr (fun t ht _ => ⟨⟨(1000000000000 : Int64), t_least_v3, rfl, h, by rw [ht]; exact hP, hD⟩, hS.F ht⟩) hS.2.2 dX8_room_51
    · replace h := h.2 hc
      refine lv_ldc2 (v := -1) hx hb hown f0 dX8_room_15 ?_
      subst hQ
      subst hAe
      exact W.lret (v := (-1 : Int64)) hx hb hr (fun t ht _ => ⟨⟨(-1 : Int64), t_least, rfl, h, by rw [ht]; exact hP, hD⟩, hS.F ht⟩) hS.2.2 dX8_room_18
theorem qX8_isWay : yX8_isWay.cls = RX8 ∧ yX8_isWay.cls ≠ "java/lang/invoke/MethodHandle" ∧ yX8_isWay.cls ≠ "java/lang/invoke/VarHandle" ∧ (parseMethodDescriptor yX8_isWay.desc).map (fun d => d.parameters.length) = some 3 := by decide +kernel
def B_X8_isWay_161 (K_64 : Int32 → Int32 → Prop) (x5 : Int32) (x6 : Int32) : Prop :=
  K_64 x5 (x6 + (1 : Int32))
def B_X8_isWay_159 (K_64 : Int32 → Int32 → Prop) (k0 : Int32) (x6 : Int32) : Prop :=
  B_X8_isWay_161 K_64 k0 x6
def LB_X8_isWay_64 (post : Int32 → (Nat → Int32) → Prop) (t_placed : Nat → Int32) (t_state : Nat → Int32) (x2 : Int32) (K_64 : Int32 → Int32 → Prop) (x5 : Int32) (x6 : Int32) : Prop :=
  P_X8_many (fun (r1 : Int32) => ((r1 ≤ x6 → (bz x5 ∧ post x5 t_placed)) ∧ (¬ r1 ≤ x6 → ((x5 = 0 → (bz x5 ∧ post x5 t_placed)) ∧ (¬ x5 = 0 → (vp_in x6 535 ∧ (vp_in ((24 : Int32) + x6) 535 ∧ ((x2 ≤ t_state x6.toNatClampNeg → B_X8_isWay_161 K_64 x5 x6) ∧ (¬ x2 ≤ t_state x6.toNatClampNeg → ((x2 ≤ t_state ((24 : Int32) + x6).toNatClampNeg → B_X8_isWay_161 K_64 x5 x6) ∧ (¬ x2 ≤ t_state ((24 : Int32) + x6).toNatClampNeg → (vp_in (t_state x6.toNatClampNeg) 5 ∧ (vp_in (t_state ((24 : Int32) + x6).toNatClampNeg) 5 ∧ (vp_in ((48 : Int32) + x6) 535 ∧ (vp_in ((72 : Int32) + x6) 535 ∧ ((((t_state ((48 : Int32) + x6).toNatClampNeg).toInt64) - ((t_state ((72 : Int32) + x6).toNatClampNeg).toInt64) < ((t_placed (t_state x6.toNatClampNeg).toNatClampNeg) - (t_placed (t_state ((24 : Int32) + x6).toNatClampNeg).toNatClampNeg)).toInt64 → B_X8_isWay_159 K_64 (0 : Int32) x6) ∧ (¬ ((t_state ((48 : Int32) + x6).toNatClampNeg).toInt64) - ((t_state ((72 : Int32) + x6).toNatClampNeg).toInt64) < ((t_placed (t_state x6.toNatClampNeg).toNatClampNeg) - (t_placed (t_state ((24 : Int32) + x6).toNatClampNeg).toNatClampNeg)).toInt64 → B_X8_isWay_159 K_64 (1 : Int32) x6))))))))))))))))) t_state
noncomputable def L_X8_isWay_64 (post : Int32 → (Nat → Int32) → Prop) (t_placed : Nat → Int32) (t_state : Nat → Int32) (x2 : Int32) (n : Nat) : Int32 → Int32 → Prop := Nat.rec (motive := fun _ => Int32 → Int32 → Prop) (fun _ _ => False) (fun _ K => LB_X8_isWay_64 post t_placed t_state x2 K) n
def LB_X8_isWay_29 (post : Int32 → (Nat → Int32) → Prop) (t_state : Nat → Int32) (x2 : Int32) (x3 : Int32) (K_29 : (Nat → Int32) → Int32 → Int32 → Prop) (t_placed : Nat → Int32) (x4 : Int32) (x5 : Int32) : Prop :=
  ((x2 ≤ x5 → ∃ n : Nat, L_X8_isWay_64 post t_placed t_state x2 n (1 : Int32) (0 : Int32)) ∧ (¬ x2 ≤ x5 → (¬ x3 = 0 ∧ (vp_in x5 5 ∧ (¬ x3 = 0 ∧ K_29 (upd t_placed x5.toNatClampNeg (x4 - x4 / x3 * x3)) (x4 / x3) (x5 + (1 : Int32)))))))
noncomputable def L_X8_isWay_29 (post : Int32 → (Nat → Int32) → Prop) (t_state : Nat → Int32) (x2 : Int32) (x3 : Int32) (n : Nat) : (Nat → Int32) → Int32 → Int32 → Prop := Nat.rec (motive := fun _ => (Nat → Int32) → Int32 → Int32 → Prop) (fun _ _ _ => False) (fun _ K => LB_X8_isWay_29 post t_state x2 x3 K) n
def LB_X8_isWay_3 (post : Int32 → (Nat → Int32) → Prop) (t_state : Nat → Int32) (x1 : Int32) (x2 : Int32) (x3 : Int32) (K_3 : (Nat → Int32) → Int32 → Prop) (t_placed : Nat → Int32) (x4 : Int32) : Prop :=
  ((x2 ≤ x4 → ∃ n : Nat, L_X8_isWay_29 post t_state x2 x3 n t_placed x1 (0 : Int32)) ∧ (¬ x2 ≤ x4 → (vp_in x4 5 ∧ K_3 (upd t_placed x4.toNatClampNeg (0 : Int32)) (x4 + (1 : Int32)))))
noncomputable def L_X8_isWay_3 (post : Int32 → (Nat → Int32) → Prop) (t_state : Nat → Int32) (x1 : Int32) (x2 : Int32) (x3 : Int32) (n : Nat) : (Nat → Int32) → Int32 → Prop := Nat.rec (motive := fun _ => (Nat → Int32) → Int32 → Prop) (fun _ _ => False) (fun _ K => LB_X8_isWay_3 post t_state x1 x2 x3 K) n
def P_X8_isWay (post : Int32 → (Nat → Int32) → Prop) (t_placed : Nat → Int32) (t_state : Nat → Int32) (x1 : Int32) (x2 : Int32) (x3 : Int32) : Prop :=
  ∃ n : Nat, L_X8_isWay_3 post t_state x1 x2 x3 n t_placed (0 : Int32)
set_option maxHeartbeats 4000000 in
set_option maxRecDepth 100000 in
theorem c_X8_isWay (l : Launch) (D : va_G) (cy : Nat → ClassId) (sz : Nat) (A_t A_t_state A_t_tape A_t_ends A_t_letters A_t_least A_t_conflicts A_t_behind A_t_placed A_t_isKept A_t_lanes A_t_lengths A_t_cells : Nat) (t_taped : Int32) (t_fault : Int32) (t_broken : Int32) (t_brokenAt : Int32) (t_spot : Int32) (t_here : Int32) (t_token : Int32) (t_value : Int32) (t_isRealTold : Int32) (t_conflictMany : Int32) (t_torn : Int32) (t_placed : Nat → Int32) (t_state : Nat → Int32) (x1 : Int32) (x2 : Int32) (x3 : Int32) (post : Int32 → (Nat → Int32) → Prop) (h : P_X8_isWay post t_placed t_state x1 x2 x3) : Met l yX8_isWay wsX8_isWay { frames := 1, cells := 0, slots := 0, locals := 20 } (pcW D cy [(A_t, .inr (8, [.ref A_t_state, .ref A_t_tape, .int t_taped, .int t_fault, .int t_broken, .int t_brokenAt, .int t_spot, .int t_here, .int t_token, .int t_value, .int t_isRealTold, .ref A_t_ends, .ref A_t_letters, .ref A_t_least, .ref A_t_conflicts, .int t_conflictMany, .ref A_t_behind, .ref A_t_placed, .ref A_t_isKept, .ref A_t_lanes, .ref A_t_lengths, .ref A_t_cells, .int t_torn])), (A_t_placed, .inl (cy 1, 5, .inl t_placed)), (A_t_state, .inl (cy 1, 535, .inl t_state))] sz [.ref A_t, .int x1, .int x2, .int x3]) (va_Qi (fun r (u : (Nat → Int32)) => post r u) (bW D [(A_t, .inr (8, [.ref A_t_state, .ref A_t_tape, .int t_taped, .int t_fault, .int t_broken, .int t_brokenAt, .int t_spot, .int t_here, .int t_token, .int t_value, .int t_isRealTold, .ref A_t_ends, .ref A_t_letters, .ref A_t_least, .ref A_t_conflicts, .int t_conflictMany, .ref A_t_behind, .ref A_t_placed, .ref A_t_isKept, .ref A_t_lanes, .ref A_t_lengths, .ref A_t_cells, .int t_torn])), (A_t_placed, .inl (cy 1, 5, .inl t_placed)), (A_t_state, .inl (cy 1, 535, .inl t_state))] sz (fun u => [(A_t, .inr (8, [.ref A_t_state, .ref A_t_tape, .int t_taped, .int t_fault, .int t_broken, .int t_brokenAt, .int t_spot, .int t_here, .int t_token, .int t_value, .int t_isRealTold, .ref A_t_ends, .ref A_t_letters, .ref A_t_least, .ref A_t_conflicts, .int t_conflictMany, .ref A_t_behind, .ref A_t_placed, .ref A_t_isKept, .ref A_t_lanes, .ref A_t_lengths, .ref A_t_cells, .int t_torn])), (A_t_placed, .inl (cy 1, 5, .inl u)), (A_t_state, .inl (cy 1, 535, .inl t_state))])) (va_A [(A_t, .inr (8, [.ref A_t_state, .ref A_t_tape, .int t_taped, .int t_fault, .int t_broken, .int t_brokenAt, .int t_spot, .int t_here, .int t_token, .int t_value, .int t_isRealTold, .ref A_t_ends, .ref A_t_letters, .ref A_t_least, .ref A_t_conflicts, .int t_conflictMany, .ref A_t_behind, .ref A_t_placed, .ref A_t_isKept, .ref A_t_lanes, .ref A_t_lengths, .ref A_t_cells, .int t_torn])), (A_t_placed, .inl (cy 1, 5, .inl t_placed)), (A_t_state, .inl (cy 1, 535, .inl t_state))] sz)) 0 0 (va_A [(A_t, .inr (8, [.ref A_t_state, .ref A_t_tape, .int t_taped, .int t_fault, .int t_broken, .int t_brokenAt, .int t_spot, .int t_here, .int t_token, .int t_value, .int t_isRealTold, .ref A_t_ends, .ref A_t_letters, .ref A_t_least, .ref A_t_conflicts, .int t_conflictMany, .ref A_t_behind, .ref A_t_placed, .ref A_t_isKept, .ref A_t_lanes, .ref A_t_lengths, .ref A_t_cells, .int t_torn])), (A_t_placed, .inl (cy 1, 5, .inl t_placed)), (A_t_state, .inl (cy 1, 535, .inl t_state))] sz) := by
  refine Met.ofW (cc := cX8_isWay) (maxL := 9) (ret := (some .boolean)) (by decide) rfl ?_
  intro p e s m args below meth c s₁ B hml hv
  obtain ⟨rfl, hsz, hP, hK, hD0⟩ := hv
  have hx := B.exec
  have hb := B.bytes
  have hr := B.returns
  have hts := atoms_spec (ws := wsX8_isWay) B.pre
  have hown : s.vm.findClass RX8 = some m.cls := findClass_of_methodNamed B.named
  have hlocks := B.notSynchronized
  have CF : CallFix p m c cX8_isWay 9 s ([.ref A_t, .int x1, .int x2, .int x3] : List Value).toArray wsX8_isWay RX8 := ⟨hx, hb, hml, hown, hts⟩
  have f0 := hts (.fieldLink RX8 7 "GapBoundsModel" "state" "[I") (by decide +kernel)
  have f1 := hts (.fieldLink RX8 32 "GapBoundsModel" "placed" "[I") (by decide +kernel)
  have iX8 : ∀ w ∈ u_ws RX8 TX8 23, w ∈ wsX8_isWay := by decide +kernel
  subst hsz
  obtain ⟨A, hAe⟩ : ∃ A, A = va_A [(A_t, .inr (8, [.ref A_t_state, .ref A_t_tape, .int t_taped, .int t_fault, .int t_broken, .int t_brokenAt, .int t_spot, .int t_here, .int t_token, .int t_value, .int t_isRealTold, .ref A_t_ends, .ref A_t_letters, .ref A_t_least, .ref A_t_conflicts, .int t_conflictMany, .ref A_t_behind, .ref A_t_placed, .ref A_t_isKept, .ref A_t_lanes, .ref A_t_lengths, .ref A_t_cells, .int t_torn])), (A_t_placed, .inl (cy 1, 5, .inl t_placed)), (A_t_state, .inl (cy 1, 535, .inl t_state))] s.heap.size := ⟨_, rfl⟩
  have hD : va_D A [(A_t, .inr (8, [.ref A_t_state, .ref A_t_tape, .int t_taped, .int t_fault, .int t_broken, .int t_brokenAt, .int t_spot, .int t_here, .int t_token, .int t_value, .int t_isRealTold, .ref A_t_ends, .ref A_t_letters, .ref A_t_least, .ref A_t_conflicts, .int t_conflictMany, .ref A_t_behind, .ref A_t_placed, .ref A_t_isKept, .ref A_t_lanes, .ref A_t_lengths, .ref A_t_cells, .int t_torn])), (A_t_placed, .inl (cy 1, 5, .inl t_placed)), (A_t_state, .inl (cy 1, 535, .inl t_state))] := by rw [hAe]; exact hD0.self
  have hA : ∀ q : Nat, s.heap.size ≤ q → A q := fun q hq => by rw [hAe]; exact Or.inr hq
  have hS : va_S A s.heap s.heap [] := va_S.rf
  have hl := lv_entry [.ref A_t, .int x1, .int x2, .int x3] (n := 9) (Nat.le_of_ble_eq_true rfl)
  rw [lg_entry_eq]
  generalize (lg_sl [.ref A_t, .int x1, .int x2, .int x3] ++ List.replicate (9 - (lg_sl [.ref A_t, .int x1, .int x2, .int x3]).length) Slot.unset).toArray = ls at hl ⊢
  have hl : lv_has ls 9 [(0, .ref A_t), (1, .int x1), (2, .int x2), (3, .int x3)] := hl
  refine W.gen (fun Q0 hQ => ?_)
  have L64 : ∀ (n64 : Nat) (t_placed : Nat → Int32) (x5 : Int32) (x6 : Int32) (H : Heap) (locs : List Loc) (ls : Array Slot), L_X8_isWay_64 post t_placed t_state x2 n64 x5 x6 → va_P D vwCl [(A_t, .inr (8, [.ref A_t_state, .ref A_t_tape, .int t_taped, .int t_fault, .int t_broken, .int t_brokenAt, .int t_spot, .int t_here, .int t_token, .int t_value, .int t_isRealTold, .ref A_t_ends, .ref A_t_letters, .ref A_t_least, .ref A_t_conflicts, .int t_conflictMany, .ref A_t_behind, .ref A_t_placed, .ref A_t_isKept, .ref A_t_lanes, .ref A_t_lengths, .ref A_t_cells, .int t_torn])), (A_t_placed, .inl (cy 1, 5, .inl t_placed)), (A_t_state, .inl (cy 1, 535, .inl t_state))] H → va_D A [(A_t, .inr (8, [.ref A_t_state, .ref A_t_tape, .int t_taped, .int t_fault, .int t_broken, .int t_brokenAt, .int t_spot, .int t_here, .int t_token, .int t_value, .int t_isRealTold, .ref A_t_ends, .ref A_t_letters, .ref A_t_least, .ref A_t_conflicts, .int t_conflictMany, .ref A_t_behind, .ref A_t_placed, .ref A_t_isKept, .ref A_t_lanes, .ref A_t_lengths, .ref A_t_cells, .int t_torn])), (A_t_placed, .inl (cy 1, 5, .inl t_placed)), (A_t_state, .inl (cy 1, 535, .inl t_state))] → va_S A s.heap H locs → lv_has ls 9 [(0, .ref A_t), (2, .int x2), (5, .int x5), (6, .int x6)] → W p l e (headSpec wsX8_isWay { frames := 1, cells := 0, slots := 0, locals := 20 }).room s m ([.ref A_t, .int x1, .int x2, .int x3] : List Value).toArray below meth c H locs 0 0 Q0 (F0 m 64 ls []) := by
    intro n64
    induction n64 with
    | zero => intro t_placed x5 x6 H locs ls h; exact False.elim h
    | succ n64 ih64 =>
      intro t_placed x5 x6 H locs ls h hP hD hS hl
      have h : LB_X8_isWay_64 post t_placed t_state x2 (L_X8_isWay_64 post t_placed t_state x2 n64) x5 x6 := h
      unfold LB_X8_isWay_64 at h
      have J161 : ∀ (t_placed : Nat → Int32) (x5 : Int32) (x6 : Int32) (H : Heap) (locs : List Loc) (ls : Array Slot), B_X8_isWay_161 (L_X8_isWay_64 post t_placed t_state x2 n64) x5 x6 → va_P D vwCl [(A_t, .inr (8, [.ref A_t_state, .ref A_t_tape, .int t_taped, .int t_fault, .int t_broken, .int t_brokenAt, .int t_spot, .int t_here, .int t_token, .int t_value, .int t_isRealTold, .ref A_t_ends, .ref A_t_letters, .ref A_t_least, .ref A_t_conflicts, .int t_conflictMany, .ref A_t_behind, .ref A_t_placed, .ref A_t_isKept, .ref A_t_lanes, .ref A_t_lengths, .ref A_t_cells, .int t_torn])), (A_t_placed, .inl (cy 1, 5, .inl t_placed)), (A_t_state, .inl (cy 1, 535, .inl t_state))] H → va_D A [(A_t, .inr (8, [.ref A_t_state, .ref A_t_tape, .int t_taped, .int t_fault, .int t_broken, .int t_brokenAt, .int t_spot, .int t_here, .int t_token, .int t_value, .int t_isRealTold, .ref A_t_ends, .ref A_t_letters, .ref A_t_least, .ref A_t_conflicts, .int t_conflictMany, .ref A_t_behind, .ref A_t_placed, .ref A_t_isKept, .ref A_t_lanes, .ref A_t_lengths, .ref A_t_cells, .int t_torn])), (A_t_placed, .inl (cy 1, 5, .inl t_placed)), (A_t_state, .inl (cy 1, 535, .inl t_state))] → va_S A s.heap H locs → lv_has ls 9 [(0, .ref A_t), (2, .int x2), (5, .int x5), (6, .int x6)] → W p l e (headSpec wsX8_isWay { frames := 1, cells := 0, slots := 0, locals := 20 }).room s m ([.ref A_t, .int x1, .int x2, .int x3] : List Value).toArray below meth c H locs 0 0 Q0 (F0 m 161 ls []) := by
        intro t_placed x5 x6 H locs ls h hP hD hS hl
        unfold B_X8_isWay_161 at h
        refine lv_iinc (v := x6 + (1 : Int32)) (lv' := [(6, .int (x6 + (1 : Int32))), (0, .ref A_t), (2, .int x2), (5, .int x5)]) hx hb dX8_isWay_161 hl (k := 3) rfl rfl (by decide) rfl (fun ls hl => ?_)
        refine lv_goto (tgt := 64) hx hb dX8_isWay_164 (by decide) ?_
        exact ih64 t_placed x5 (x6 + (1 : Int32)) H locs ls h hP hD hS (lv_sub hl [1, 2, 3, 0] rfl)
      have J159 : ∀ (t_placed : Nat → Int32) (x6 : Int32) (k0 : Int32) (H : Heap) (locs : List Loc) (ls : Array Slot), B_X8_isWay_159 (L_X8_isWay_64 post t_placed t_state x2 n64) k0 x6 → va_P D vwCl [(A_t, .inr (8, [.ref A_t_state, .ref A_t_tape, .int t_taped, .int t_fault, .int t_broken, .int t_brokenAt, .int t_spot, .int t_here, .int t_token, .int t_value, .int t_isRealTold, .ref A_t_ends, .ref A_t_letters, .ref A_t_least, .ref A_t_conflicts, .int t_conflictMany, .ref A_t_behind, .ref A_t_placed, .ref A_t_isKept, .ref A_t_lanes, .ref A_t_lengths, .ref A_t_cells, .int t_torn])), (A_t_placed, .inl (cy 1, 5, .inl t_placed)), (A_t_state, .inl (cy 1, 535, .inl t_state))] H → va_D A [(A_t, .inr (8, [.ref A_t_state, .ref A_t_tape, .int t_taped, .int t_fault, .int t_broken, .int t_brokenAt, .int t_spot, .int t_here, .int t_token, .int t_value, .int t_isRealTold, .ref A_t_ends, .ref A_t_letters, .ref A_t_least, .ref A_t_conflicts, .int t_conflictMany, .ref A_t_behind, .ref A_t_placed, .ref A_t_isKept, .ref A_t_lanes, .ref A_t_lengths, .ref A_t_cells, .int t_torn])), (A_t_placed, .inl (cy 1, 5, .inl t_placed)), (A_t_state, .inl (cy 1, 535, .inl t_state))] → va_S A s.heap H locs → lv_has ls 9 [(0, .ref A_t), (2, .int x2), (6, .int x6)] → W p l e (headSpec wsX8_isWay { frames := 1, cells := 0, slots := 0, locals := 20 }).room s m ([.ref A_t, .int x1, .int x2, .int x3] : List Value).toArray below meth c H locs 0 0 Q0 (F0 m 159 ls [.int k0]) := by
        intro t_placed x6 k0 H locs ls h hP hD hS hl
        unfold B_X8_isWay_159 at h
        refine lv_istore (lv' := [(5, .int k0), (0, .ref A_t), (2, .int x2), (6, .int x6)]) hx hb dX8_isWay_159 hl (by decide) rfl (fun ls hl => ?_)
        exact J161 t_placed k0 x6 H locs ls h hP hD hS (lv_sub hl [1, 2, 0, 3] rfl)
      refine lv_iload hx hb dX8_isWay_64 (lv_at hl 3 rfl) ?_
      refine lv_aload_n hx hb dX8_isWay_66 rfl (lv_at hl 0 rfl) ?_
      have hPc := hP.sub (ws' := [(A_t, .inr (8, [.ref A_t_state, .ref A_t_tape, .int t_taped, .int t_fault, .int t_broken, .int t_brokenAt, .int t_spot, .int t_here, .int t_token, .int t_value, .int t_isRealTold, .ref A_t_ends, .ref A_t_letters, .ref A_t_least, .ref A_t_conflicts, .int t_conflictMany, .ref A_t_behind, .ref A_t_placed, .ref A_t_isKept, .ref A_t_lanes, .ref A_t_lengths, .ref A_t_cells, .int t_torn])), (A_t_state, .inl (cy 1, 535, .inl t_state))]) [0, 2] rfl
      refine vp_callSi (W.runV (As := []) (rest := [.int x6]) CF (c_X8_many l D cy A_t A_t_state A_t_tape A_t_ends A_t_letters A_t_least A_t_conflicts A_t_behind A_t_placed A_t_isKept A_t_lanes A_t_lengths A_t_cells t_taped t_fault t_broken t_brokenAt t_spot t_here t_token t_value t_isRealTold t_conflictMany t_torn t_state _ h) (cwV 0 hts gX8_isWay_X8_many rfl rfl rfl qX8_many ⟨Nat.le_of_ble_eq_true rfl, Nat.le_of_ble_eq_true rfl⟩) (mpVR hK hPc (ci := 8) (q := (RX8, TX8, 23)) (q0 := 0) rfl rfl) rfl rfl hl.1 rfl (lv_room (Nat.le_of_ble_eq_true rfl)) dX8_isWay_67 ⟨Nat.zero_le _, Nat.zero_le _⟩) (fun r1 h => ?_)
      refine lv_icmp_ge (tgt := 167) hx hb dX8_isWay_70 (by decide) (fun hc => ?_) (fun hc => ?_)
      · replace h := h.1 hc
        refine lv_iload hx hb dX8_isWay_167 (lv_at hl 2 rfl) ?_
        subst hQ
        subst hAe
        exact W.zret (v := x5) hx hb hr h.1 (fun t ht _ => ⟨⟨x5, t_placed, rfl, h.2, by rw [ht]; exact hP, hD⟩, hS.F ht⟩) hS.2.2 dX8_isWay_169
      · replace h := h.2 hc
        refine lv_iload hx hb dX8_isWay_73 (lv_at hl 2 rfl) ?_
        refine lv_if_eq (tgt := 167) hx hb dX8_isWay_75 (by decide) (fun hc => ?_) (fun hc => ?_)
        · replace h := h.1 hc
          refine lv_iload hx hb dX8_isWay_167 (lv_at hl 2 rfl) ?_
          subst hQ
          subst hAe
          exact W.zret (v := x5) hx hb hr h.1 (fun t ht _ => ⟨⟨x5, t_placed, rfl, h.2, by rw [ht]; exact hP, hD⟩, hS.F ht⟩) hS.2.2 dX8_isWay_169
        · replace h := h.2 hc
          refine lv_aload_n hx hb dX8_isWay_78 rfl (lv_at hl 0 rfl) ?_
          refine va_get (D := D) (ci := 8) (v := .ref A_t_state) (C := RX8) (T := TX8) (N := 23) hx hb hts iX8 hown hK.1 hP 0 rfl rfl 0 (by decide) f0 (fun _ h9 => h9) rfl dX8_isWay_79 ?_
          refine lv_iload hx hb dX8_isWay_82 (lv_at hl 3 rfl) ?_
          refine va_iald hx hb hK.1 hP 2 1 rfl rfl h.1 dX8_isWay_84 ?_
          replace h := h.2
          refine lv_istore (lv' := [(7, .int (t_state x6.toNatClampNeg)), (0, .ref A_t), (2, .int x2), (5, .int x5), (6, .int x6)]) hx hb dX8_isWay_85 hl (by decide) rfl (fun ls hl => ?_)
          refine lv_aload_n hx hb dX8_isWay_87 rfl (lv_at hl 1 rfl) ?_
          refine va_get (D := D) (ci := 8) (v := .ref A_t_state) (C := RX8) (T := TX8) (N := 23) hx hb hts iX8 hown hK.1 hP 0 rfl rfl 0 (by decide) f0 (fun _ h9 => h9) rfl dX8_isWay_88 ?_
          refine lv_bipush (v := 24) hx hb dX8_isWay_91 (by decide) ?_
          refine lv_iload hx hb dX8_isWay_93 (lv_at hl 4 rfl) ?_
          refine lv_iadd hx hb dX8_isWay_95 ?_
          refine va_iald hx hb hK.1 hP 2 1 rfl rfl h.1 dX8_isWay_96 ?_
          replace h := h.2
          refine lv_istore (lv' := [(8, .int (t_state ((24 : Int32) + x6).toNatClampNeg)), (7, .int (t_state x6.toNatClampNeg)), (0, .ref A_t), (2, .int x2), (5, .int x5), (6, .int x6)]) hx hb dX8_isWay_97 hl (by decide) rfl (fun ls hl => ?_)
          refine lv_iload hx hb dX8_isWay_99 (lv_at hl 1 rfl) ?_
          refine lv_iload_n hx hb dX8_isWay_101 rfl (lv_at hl 3 rfl) ?_
          refine lv_icmp_ge (tgt := 161) hx hb dX8_isWay_102 (by decide) (fun hc => ?_) (fun hc => ?_)
          · replace h := h.1 hc
            exact J161 t_placed x5 x6 H locs ls h hP hD hS (lv_sub hl [2, 3, 4, 5] rfl)
          · replace h := h.2 hc
            refine lv_iload hx hb dX8_isWay_105 (lv_at hl 0 rfl) ?_
            refine lv_iload_n hx hb dX8_isWay_107 rfl (lv_at hl 3 rfl) ?_
            refine lv_icmp_ge (tgt := 161) hx hb dX8_isWay_108 (by decide) (fun hc => ?_) (fun hc => ?_)
            · replace h := h.1 hc
              exact J161 t_placed x5 x6 H locs ls h hP hD hS (lv_sub hl [2, 3, 4, 5] rfl)
            · replace h := h.2 hc
              refine lv_aload_n hx hb dX8_isWay_111 rfl (lv_at hl 2 rfl) ?_
              refine va_get (D := D) (ci := 8) (v := .ref A_t_placed) (C := RX8) (T := TX8) (N := 23) hx hb hts iX8 hown hK.1 hP 0 rfl rfl 17 (by decide) f1 (fun _ h9 => h9) rfl dX8_isWay_112 ?_
              refine lv_iload hx hb dX8_isWay_115 (lv_at hl 1 rfl) ?_
              refine va_iald hx hb hK.1 hP 1 1 rfl rfl h.1 dX8_isWay_117 ?_
              replace h := h.2
              refine lv_aload_n hx hb dX8_isWay_118 rfl (lv_at hl 2 rfl) ?_
              refine va_get (D := D) (ci := 8) (v := .ref A_t_placed) (C := RX8) (T := TX8) (N := 23) hx hb hts iX8 hown hK.1 hP 0 rfl rfl 17 (by decide) f1 (fun _ h9 => h9) rfl dX8_isWay_119 ?_
              refine lv_iload hx hb dX8_isWay_122 (lv_at hl 0 rfl) ?_
              refine va_iald hx hb hK.1 hP 1 1 rfl rfl h.1 dX8_isWay_124 ?_
              replace h := h.2
              refine lv_isub hx hb dX8_isWay_125 ?_
              refine lv_i2l (v := ((t_placed (t_state x6.toNatClampNeg).toNatClampNeg) - (t_placed (t_state ((24 : Int32) + x6).toNatClampNeg).toNatClampNeg)).toInt64) hx hb dX8_isWay_126 rfl ?_
              refine lv_aload_n hx hb dX8_isWay_127 rfl (lv_at hl 2 rfl) ?_
              refine va_get (D := D) (ci := 8) (v := .ref A_t_state) (C := RX8) (T := TX8) (N := 23) hx hb hts iX8 hown hK.1 hP 0 rfl rfl 0 (by decide) f0 (fun _ h9 => h9) rfl dX8_isWay_128 ?_
              refine lv_bipush (v := 48) hx hb dX8_isWay_131 (by decide) ?_
              refine lv_iload hx hb dX8_isWay_133 (lv_at hl 5 rfl) ?_
              refine lv_iadd hx hb dX8_isWay_135 ?_
              refine va_iald hx hb hK.1 hP 2 1 rfl rfl h.1 dX8_isWay_136 ?_
              replace h := h.2
              refine lv_i2l (v := (t_state ((48 : Int32) + x6).toNatClampNeg).toInt64) hx hb dX8_isWay_137 rfl ?_
              refine lv_aload_n hx hb dX8_isWay_138 rfl (lv_at hl 2 rfl) ?_
              refine va_get (D := D) (ci := 8) (v := .ref A_t_state) (C := RX8) (T := TX8) (N := 23) hx hb hts iX8 hown hK.1 hP 0 rfl rfl 0 (by decide) f0 (fun _ h9 => h9) rfl dX8_isWay_139 ?_
              refine lv_bipush (v := 72) hx hb dX8_isWay_142 (by decide) ?_
              refine lv_iload hx hb dX8_isWay_144 (lv_at hl 5 rfl) ?_
              refine lv_iadd hx hb dX8_isWay_146 ?_
              refine va_iald hx hb hK.1 hP 2 1 rfl rfl h.1 dX8_isWay_147 ?_
              replace h := h.2
              refine lv_i2l (v := (t_state ((72 : Int32) + x6).toNatClampNeg).toInt64) hx hb dX8_isWay_148 rfl ?_
              refine lv_lsub hx hb dX8_isWay_149 ?_
              refine lx_gt (tgt := 158) hx hb dX8_isWay_150 dX8_isWay_151 (by decide) (fun hc => ?_) (fun hc => ?_)
              · replace h := h.1 hc
                refine lv_iconst (v := 0) hx hb dX8_isWay_158 (by decide) ?_
                exact J159 t_placed x6 (0 : Int32) H locs ls h hP hD hS (lv_sub hl [2, 3, 5] rfl)
              · replace h := h.2 hc
                refine lv_iconst (v := 1) hx hb dX8_isWay_154 (by decide) ?_
                refine lv_goto (tgt := 159) hx hb dX8_isWay_155 (by decide) ?_
                exact J159 t_placed x6 (1 : Int32) H locs ls h hP hD hS (lv_sub hl [2, 3, 5] rfl)
  have L29 : ∀ (n29 : Nat) (t_placed : Nat → Int32) (x4 : Int32) (x5 : Int32) (H : Heap) (locs : List Loc) (ls : Array Slot), L_X8_isWay_29 post t_state x2 x3 n29 t_placed x4 x5 → va_P D vwCl [(A_t, .inr (8, [.ref A_t_state, .ref A_t_tape, .int t_taped, .int t_fault, .int t_broken, .int t_brokenAt, .int t_spot, .int t_here, .int t_token, .int t_value, .int t_isRealTold, .ref A_t_ends, .ref A_t_letters, .ref A_t_least, .ref A_t_conflicts, .int t_conflictMany, .ref A_t_behind, .ref A_t_placed, .ref A_t_isKept, .ref A_t_lanes, .ref A_t_lengths, .ref A_t_cells, .int t_torn])), (A_t_placed, .inl (cy 1, 5, .inl t_placed)), (A_t_state, .inl (cy 1, 535, .inl t_state))] H → va_D A [(A_t, .inr (8, [.ref A_t_state, .ref A_t_tape, .int t_taped, .int t_fault, .int t_broken, .int t_brokenAt, .int t_spot, .int t_here, .int t_token, .int t_value, .int t_isRealTold, .ref A_t_ends, .ref A_t_letters, .ref A_t_least, .ref A_t_conflicts, .int t_conflictMany, .ref A_t_behind, .ref A_t_placed, .ref A_t_isKept, .ref A_t_lanes, .ref A_t_lengths, .ref A_t_cells, .int t_torn])), (A_t_placed, .inl (cy 1, 5, .inl t_placed)), (A_t_state, .inl (cy 1, 535, .inl t_state))] → va_S A s.heap H locs → lv_has ls 9 [(0, .ref A_t), (2, .int x2), (3, .int x3), (4, .int x4), (5, .int x5)] → W p l e (headSpec wsX8_isWay { frames := 1, cells := 0, slots := 0, locals := 20 }).room s m ([.ref A_t, .int x1, .int x2, .int x3] : List Value).toArray below meth c H locs 0 0 Q0 (F0 m 29 ls []) := by
    intro n29
    induction n29 with
    | zero => intro t_placed x4 x5 H locs ls h; exact False.elim h
    | succ n29 ih29 =>
      intro t_placed x4 x5 H locs ls h hP hD hS hl
      have h : LB_X8_isWay_29 post t_state x2 x3 (L_X8_isWay_29 post t_state x2 x3 n29) t_placed x4 x5 := h
      unfold LB_X8_isWay_29 at h
      refine lv_iload hx hb dX8_isWay_29 (lv_at hl 4 rfl) ?_
      refine lv_iload_n hx hb dX8_isWay_31 rfl (lv_at hl 1 rfl) ?_
      refine lv_icmp_ge (tgt := 58) hx hb dX8_isWay_32 (by decide) (fun hc => ?_) (fun hc => ?_)
      · replace h := h.1 hc
        refine lv_iconst (v := 1) hx hb dX8_isWay_58 (by decide) ?_
        refine lv_istore (lv' := [(5, .int (1 : Int32)), (0, .ref A_t), (2, .int x2), (3, .int x3), (4, .int x4)]) hx hb dX8_isWay_59 hl (by decide) rfl (fun ls hl => ?_)
        refine lv_iconst (v := 0) hx hb dX8_isWay_61 (by decide) ?_
        refine lv_istore (lv' := [(6, .int (0 : Int32)), (5, .int (1 : Int32)), (0, .ref A_t), (2, .int x2), (3, .int x3), (4, .int x4)]) hx hb dX8_isWay_62 hl (by decide) rfl (fun ls hl => ?_)
        obtain ⟨nn, h⟩ := h
        exact L64 nn t_placed (1 : Int32) (0 : Int32) H locs ls h hP hD hS (lv_sub hl [2, 3, 1, 0] rfl)
      · replace h := h.2 hc
        refine lv_aload_n hx hb dX8_isWay_35 rfl (lv_at hl 0 rfl) ?_
        refine va_get (D := D) (ci := 8) (v := .ref A_t_placed) (C := RX8) (T := TX8) (N := 23) hx hb hts iX8 hown hK.1 hP 0 rfl rfl 17 (by decide) f1 (fun _ h9 => h9) rfl dX8_isWay_36 ?_
        refine lv_iload hx hb dX8_isWay_39 (lv_at hl 4 rfl) ?_
        refine lv_iload hx hb dX8_isWay_41 (lv_at hl 3 rfl) ?_
        refine lv_iload_n hx hb dX8_isWay_43 rfl (lv_at hl 2 rfl) ?_
        refine lv_irem hx hb dX8_isWay_44 h.1 ?_
        replace h := h.2
        refine va_iast hx hb hK.1 hP hD hS 1 1 rfl rfl h.1 dX8_isWay_45 (fun H locs hP hD hS => ?_)
        replace h := h.2
        have hP : va_P D vwCl [(A_t, .inr (8, [.ref A_t_state, .ref A_t_tape, .int t_taped, .int t_fault, .int t_broken, .int t_brokenAt, .int t_spot, .int t_here, .int t_token, .int t_value, .int t_isRealTold, .ref A_t_ends, .ref A_t_letters, .ref A_t_least, .ref A_t_conflicts, .int t_conflictMany, .ref A_t_behind, .ref A_t_placed, .ref A_t_isKept, .ref A_t_lanes, .ref A_t_lengths, .ref A_t_cells, .int t_torn])), (A_t_placed, .inl (cy 1, 5, .inl (upd t_placed x5.toNatClampNeg (x4 - x4 / x3 * x3)))), (A_t_state, .inl (cy 1, 535, .inl t_state))] H := hP
        have hD : va_D A [(A_t, .inr (8, [.ref A_t_state, .ref A_t_tape, .int t_taped, .int t_fault, .int t_broken, .int t_brokenAt, .int t_spot, .int t_here, .int t_token, .int t_value, .int t_isRealTold, .ref A_t_ends, .ref A_t_letters, .ref A_t_least, .ref A_t_conflicts, .int t_conflictMany, .ref A_t_behind, .ref A_t_placed, .ref A_t_isKept, .ref A_t_lanes, .ref A_t_lengths, .ref A_t_cells, .int t_torn])), (A_t_placed, .inl (cy 1, 5, .inl (upd t_placed x5.toNatClampNeg (x4 - x4 / x3 * x3)))), (A_t_state, .inl (cy 1, 535, .inl t_state))] := hD
        refine lv_iload hx hb dX8_isWay_46 (lv_at hl 3 rfl) ?_
        refine lv_iload_n hx hb dX8_isWay_48 rfl (lv_at hl 2 rfl) ?_
        refine lv_idiv hx hb dX8_isWay_49 h.1 ?_
        replace h := h.2
        refine lv_istore (lv' := [(4, .int (x4 / x3)), (0, .ref A_t), (2, .int x2), (3, .int x3), (5, .int x5)]) hx hb dX8_isWay_50 hl (by decide) rfl (fun ls hl => ?_)
        refine lv_iinc (v := x5 + (1 : Int32)) (lv' := [(5, .int (x5 + (1 : Int32))), (4, .int (x4 / x3)), (0, .ref A_t), (2, .int x2), (3, .int x3)]) hx hb dX8_isWay_52 hl (k := 4) rfl rfl (by decide) rfl (fun ls hl => ?_)
        refine lv_goto (tgt := 29) hx hb dX8_isWay_55 (by decide) ?_
        exact ih29 (upd t_placed x5.toNatClampNeg (x4 - x4 / x3 * x3)) (x4 / x3) (x5 + (1 : Int32)) H locs ls h hP hD hS (lv_sub hl [2, 3, 4, 1, 0] rfl)
  have L3 : ∀ (n3 : Nat) (t_placed : Nat → Int32) (x4 : Int32) (H : Heap) (locs : List Loc) (ls : Array Slot), L_X8_isWay_3 post t_state x1 x2 x3 n3 t_placed x4 → va_P D vwCl [(A_t, .inr (8, [.ref A_t_state, .ref A_t_tape, .int t_taped, .int t_fault, .int t_broken, .int t_brokenAt, .int t_spot, .int t_here, .int t_token, .int t_value, .int t_isRealTold, .ref A_t_ends, .ref A_t_letters, .ref A_t_least, .ref A_t_conflicts, .int t_conflictMany, .ref A_t_behind, .ref A_t_placed, .ref A_t_isKept, .ref A_t_lanes, .ref A_t_lengths, .ref A_t_cells, .int t_torn])), (A_t_placed, .inl (cy 1, 5, .inl t_placed)), (A_t_state, .inl (cy 1, 535, .inl t_state))] H → va_D A [(A_t, .inr (8, [.ref A_t_state, .ref A_t_tape, .int t_taped, .int t_fault, .int t_broken, .int t_brokenAt, .int t_spot, .int t_here, .int t_token, .int t_value, .int t_isRealTold, .ref A_t_ends, .ref A_t_letters, .ref A_t_least, .ref A_t_conflicts, .int t_conflictMany, .ref A_t_behind, .ref A_t_placed, .ref A_t_isKept, .ref A_t_lanes, .ref A_t_lengths, .ref A_t_cells, .int t_torn])), (A_t_placed, .inl (cy 1, 5, .inl t_placed)), (A_t_state, .inl (cy 1, 535, .inl t_state))] → va_S A s.heap H locs → lv_has ls 9 [(0, .ref A_t), (1, .int x1), (2, .int x2), (3, .int x3), (4, .int x4)] → W p l e (headSpec wsX8_isWay { frames := 1, cells := 0, slots := 0, locals := 20 }).room s m ([.ref A_t, .int x1, .int x2, .int x3] : List Value).toArray below meth c H locs 0 0 Q0 (F0 m 3 ls []) := by
    intro n3
    induction n3 with
    | zero => intro t_placed x4 H locs ls h; exact False.elim h
    | succ n3 ih3 =>
      intro t_placed x4 H locs ls h hP hD hS hl
      have h : LB_X8_isWay_3 post t_state x1 x2 x3 (L_X8_isWay_3 post t_state x1 x2 x3 n3) t_placed x4 := h
      unfold LB_X8_isWay_3 at h
      refine lv_iload hx hb dX8_isWay_3 (lv_at hl 4 rfl) ?_
      refine lv_iload_n hx hb dX8_isWay_5 rfl (lv_at hl 2 rfl) ?_
      refine lv_icmp_ge (tgt := 23) hx hb dX8_isWay_6 (by decide) (fun hc => ?_) (fun hc => ?_)
      · replace h := h.1 hc
        refine lv_iload_n hx hb dX8_isWay_23 rfl (lv_at hl 1 rfl) ?_
        refine lv_istore (lv' := [(4, .int x1), (0, .ref A_t), (1, .int x1), (2, .int x2), (3, .int x3)]) hx hb dX8_isWay_24 hl (by decide) rfl (fun ls hl => ?_)
        refine lv_iconst (v := 0) hx hb dX8_isWay_26 (by decide) ?_
        refine lv_istore (lv' := [(5, .int (0 : Int32)), (4, .int x1), (0, .ref A_t), (1, .int x1), (2, .int x2), (3, .int x3)]) hx hb dX8_isWay_27 hl (by decide) rfl (fun ls hl => ?_)
        obtain ⟨nn, h⟩ := h
        exact L29 nn t_placed x1 (0 : Int32) H locs ls h hP hD hS (lv_sub hl [2, 4, 5, 1, 0] rfl)
      · replace h := h.2 hc
        refine lv_aload_n hx hb dX8_isWay_9 rfl (lv_at hl 0 rfl) ?_
        refine va_get (D := D) (ci := 8) (v := .ref A_t_placed) (C := RX8) (T := TX8) (N := 23) hx hb hts iX8 hown hK.1 hP 0 rfl rfl 17 (by decide) f1 (fun _ h9 => h9) rfl dX8_isWay_10 ?_
        refine lv_iload hx hb dX8_isWay_13 (lv_at hl 4 rfl) ?_
        refine lv_iconst (v := 0) hx hb dX8_isWay_15 (by decide) ?_
        refine va_iast hx hb hK.1 hP hD hS 1 1 rfl rfl h.1 dX8_isWay_16 (fun H locs hP hD hS => ?_)
        replace h := h.2
        have hP : va_P D vwCl [(A_t, .inr (8, [.ref A_t_state, .ref A_t_tape, .int t_taped, .int t_fault, .int t_broken, .int t_brokenAt, .int t_spot, .int t_here, .int t_token, .int t_value, .int t_isRealTold, .ref A_t_ends, .ref A_t_letters, .ref A_t_least, .ref A_t_conflicts, .int t_conflictMany, .ref A_t_behind, .ref A_t_placed, .ref A_t_isKept, .ref A_t_lanes, .ref A_t_lengths, .ref A_t_cells, .int t_torn])), (A_t_placed, .inl (cy 1, 5, .inl (upd t_placed x4.toNatClampNeg (0 : Int32)))), (A_t_state, .inl (cy 1, 535, .inl t_state))] H := hP
        have hD : va_D A [(A_t, .inr (8, [.ref A_t_state, .ref A_t_tape, .int t_taped, .int t_fault, .int t_broken, .int t_brokenAt, .int t_spot, .int t_here, .int t_token, .int t_value, .int t_isRealTold, .ref A_t_ends, .ref A_t_letters, .ref A_t_least, .ref A_t_conflicts, .int t_conflictMany, .ref A_t_behind, .ref A_t_placed, .ref A_t_isKept, .ref A_t_lanes, .ref A_t_lengths, .ref A_t_cells, .int t_torn])), (A_t_placed, .inl (cy 1, 5, .inl (upd t_placed x4.toNatClampNeg (0 : Int32)))), (A_t_state, .inl (cy 1, 535, .inl t_state))] := hD
        refine lv_iinc (v := x4 + (1 : Int32)) (lv' := [(4, .int (x4 + (1 : Int32))), (0, .ref A_t), (1, .int x1), (2, .int x2), (3, .int x3)]) hx hb dX8_isWay_17 hl (k := 4) rfl rfl (by decide) rfl (fun ls hl => ?_)
        refine lv_goto (tgt := 3) hx hb dX8_isWay_20 (by decide) ?_
        exact ih3 (upd t_placed x4.toNatClampNeg (0 : Int32)) (x4 + (1 : Int32)) H locs ls h hP hD hS (lv_sub hl [1, 2, 3, 4, 0] rfl)
  unfold P_X8_isWay at h
  refine lv_iconst (v := 0) hx hb dX8_isWay_0 (by decide) ?_
  refine lv_istore (lv' := [(4, .int (0 : Int32)), (0, .ref A_t), (1, .int x1), (2, .int x2), (3, .int x3)]) hx hb dX8_isWay_1 hl (by decide) rfl (fun ls hl => ?_)
  obtain ⟨nn, h⟩ := h
  exact L3 nn t_placed (0 : Int32) s.heap [] ls h hP hD hS (lv_sub hl [1, 2, 3, 4, 0] rfl)
theorem qX8_ways : yX8_ways.cls = RX8 ∧ yX8_ways.cls ≠ "java/lang/invoke/MethodHandle" ∧ yX8_ways.cls ≠ "java/lang/invoke/VarHandle" ∧ (parseMethodDescriptor yX8_ways.desc).map (fun d => d.parameters.length) = some 2 := by decide +kernel
def B_X8_ways_81 (K_55 : (Nat → Int32) → Int32 → Int32 → Prop) (t_placed : Nat → Int32) (k0 : Int32) (k1 : Int32) (x5 : Int32) : Prop :=
  K_55 t_placed (k0 + k1) (x5 + (1 : Int32))
def LB_X8_ways_55 (post : Int32 → (Nat → Int32) → Prop) (t_state : Nat → Int32) (x1 : Int32) (x2 : Int32) (x3 : Int32) (K_55 : (Nat → Int32) → Int32 → Int32 → Prop) (t_placed : Nat → Int32) (x4 : Int32) (x5 : Int32) : Prop :=
  ((x3 ≤ x5 → post x4 t_placed) ∧ (¬ x3 ≤ x5 → P_X8_isWay (fun (r3 : Int32) (t_placed_v3 : Nat → Int32) => ((r3 = 0 → B_X8_ways_81 K_55 t_placed_v3 x4 (0 : Int32) x5) ∧ (¬ r3 = 0 → B_X8_ways_81 K_55 t_placed_v3 x4 (1 : Int32) x5))) t_placed t_state x5 x1 (x2 + (1 : Int32))))
noncomputable def L_X8_ways_55 (post : Int32 → (Nat → Int32) → Prop) (t_state : Nat → Int32) (x1 : Int32) (x2 : Int32) (x3 : Int32) (n : Nat) : (Nat → Int32) → Int32 → Int32 → Prop := Nat.rec (motive := fun _ => (Nat → Int32) → Int32 → Int32 → Prop) (fun _ _ _ => False) (fun _ K => LB_X8_ways_55 post t_state x1 x2 x3 K) n
def LB_X8_ways_31 (post : Int32 → (Nat → Int32) → Prop) (t_placed : Nat → Int32) (t_state : Nat → Int32) (x1 : Int32) (x2 : Int32) (K_31 : Int32 → Int32 → Prop) (x3 : Int32) (x4 : Int32) : Prop :=
  ((x1 ≤ x4 → ∃ n : Nat, L_X8_ways_55 post t_state x1 x2 x3 n t_placed (0 : Int32) (0 : Int32)) ∧ (¬ x1 ≤ x4 → K_31 (x3 * (x2 + (1 : Int32))) (x4 + (1 : Int32))))
noncomputable def L_X8_ways_31 (post : Int32 → (Nat → Int32) → Prop) (t_placed : Nat → Int32) (t_state : Nat → Int32) (x1 : Int32) (x2 : Int32) (n : Nat) : Int32 → Int32 → Prop := Nat.rec (motive := fun _ => Int32 → Int32 → Prop) (fun _ _ => False) (fun _ K => LB_X8_ways_31 post t_placed t_state x1 x2 K) n
def P_X8_ways (post : Int32 → (Nat → Int32) → Prop) (t_placed : Nat → Int32) (t_state : Nat → Int32) (x1 : Int32) (x2 : Int32) : Prop :=
  P_X8_in (fun (r1 : Int32) => ((r1 = 0 → post (-1 : Int32) t_placed) ∧ (¬ r1 = 0 → P_X8_in (fun (r2 : Int32) => ((¬ r2 = 0 → ∃ n : Nat, L_X8_ways_31 post t_placed t_state x1 x2 n (1 : Int32) (0 : Int32)) ∧ (r2 = 0 → post (-1 : Int32) t_placed))) x2.toInt64 (0 : Int64) (6 : Int64)))) x1.toInt64 (1 : Int64) (5 : Int64)
set_option maxHeartbeats 4000000 in
set_option maxRecDepth 100000 in
theorem c_X8_ways (l : Launch) (D : va_G) (cy : Nat → ClassId) (sz : Nat) (A_t A_t_state A_t_tape A_t_ends A_t_letters A_t_least A_t_conflicts A_t_behind A_t_placed A_t_isKept A_t_lanes A_t_lengths A_t_cells : Nat) (t_taped : Int32) (t_fault : Int32) (t_broken : Int32) (t_brokenAt : Int32) (t_spot : Int32) (t_here : Int32) (t_token : Int32) (t_value : Int32) (t_isRealTold : Int32) (t_conflictMany : Int32) (t_torn : Int32) (t_placed : Nat → Int32) (t_state : Nat → Int32) (x1 : Int32) (x2 : Int32) (post : Int32 → (Nat → Int32) → Prop) (h : P_X8_ways post t_placed t_state x1 x2) : Met l yX8_ways wsX8_ways { frames := 2, cells := 0, slots := 0, locals := 48 } (pcW D cy [(A_t, .inr (8, [.ref A_t_state, .ref A_t_tape, .int t_taped, .int t_fault, .int t_broken, .int t_brokenAt, .int t_spot, .int t_here, .int t_token, .int t_value, .int t_isRealTold, .ref A_t_ends, .ref A_t_letters, .ref A_t_least, .ref A_t_conflicts, .int t_conflictMany, .ref A_t_behind, .ref A_t_placed, .ref A_t_isKept, .ref A_t_lanes, .ref A_t_lengths, .ref A_t_cells, .int t_torn])), (A_t_placed, .inl (cy 1, 5, .inl t_placed)), (A_t_state, .inl (cy 1, 535, .inl t_state))] sz [.ref A_t, .int x1, .int x2]) (va_Qi (fun r (u : (Nat → Int32)) => post r u) (bW D [(A_t, .inr (8, [.ref A_t_state, .ref A_t_tape, .int t_taped, .int t_fault, .int t_broken, .int t_brokenAt, .int t_spot, .int t_here, .int t_token, .int t_value, .int t_isRealTold, .ref A_t_ends, .ref A_t_letters, .ref A_t_least, .ref A_t_conflicts, .int t_conflictMany, .ref A_t_behind, .ref A_t_placed, .ref A_t_isKept, .ref A_t_lanes, .ref A_t_lengths, .ref A_t_cells, .int t_torn])), (A_t_placed, .inl (cy 1, 5, .inl t_placed)), (A_t_state, .inl (cy 1, 535, .inl t_state))] sz (fun u => [(A_t, .inr (8, [.ref A_t_state, .ref A_t_tape, .int t_taped, .int t_fault, .int t_broken, .int t_brokenAt, .int t_spot, .int t_here, .int t_token, .int t_value, .int t_isRealTold, .ref A_t_ends, .ref A_t_letters, .ref A_t_least, .ref A_t_conflicts, .int t_conflictMany, .ref A_t_behind, .ref A_t_placed, .ref A_t_isKept, .ref A_t_lanes, .ref A_t_lengths, .ref A_t_cells, .int t_torn])), (A_t_placed, .inl (cy 1, 5, .inl u)), (A_t_state, .inl (cy 1, 535, .inl t_state))])) (va_A [(A_t, .inr (8, [.ref A_t_state, .ref A_t_tape, .int t_taped, .int t_fault, .int t_broken, .int t_brokenAt, .int t_spot, .int t_here, .int t_token, .int t_value, .int t_isRealTold, .ref A_t_ends, .ref A_t_letters, .ref A_t_least, .ref A_t_conflicts, .int t_conflictMany, .ref A_t_behind, .ref A_t_placed, .ref A_t_isKept, .ref A_t_lanes, .ref A_t_lengths, .ref A_t_cells, .int t_torn])), (A_t_placed, .inl (cy 1, 5, .inl t_placed)), (A_t_state, .inl (cy 1, 535, .inl t_state))] sz)) 0 0 (va_A [(A_t, .inr (8, [.ref A_t_state, .ref A_t_tape, .int t_taped, .int t_fault, .int t_broken, .int t_brokenAt, .int t_spot, .int t_here, .int t_token, .int t_value, .int t_isRealTold, .ref A_t_ends, .ref A_t_letters, .ref A_t_least, .ref A_t_conflicts, .int t_conflictMany, .ref A_t_behind, .ref A_t_placed, .ref A_t_isKept, .ref A_t_lanes, .ref A_t_lengths, .ref A_t_cells, .int t_torn])), (A_t_placed, .inl (cy 1, 5, .inl t_placed)), (A_t_state, .inl (cy 1, 535, .inl t_state))] sz) := by
  refine Met.ofW (cc := cX8_ways) (maxL := 6) (ret := (some .int)) (by decide) rfl ?_
  intro p e s m args below meth c s₁ B hml hv
  obtain ⟨rfl, hsz, hP, hK, hD0⟩ := hv
  have hx := B.exec
  have hb := B.bytes
  have hr := B.returns
  have hts := atoms_spec (ws := wsX8_ways) B.pre
  have hown : s.vm.findClass RX8 = some m.cls := findClass_of_methodNamed B.named
  have hlocks := B.notSynchronized
  have CF : CallFix p m c cX8_ways 6 s ([.ref A_t, .int x1, .int x2] : List Value).toArray wsX8_ways RX8 := ⟨hx, hb, hml, hown, hts⟩
  have f0 := hts (.constantLong RX8 110 (5)) (by decide +kernel)
  have f1 := hts (.constantLong RX8 239 (6)) (by decide +kernel)
  subst hsz
  obtain ⟨A, hAe⟩ : ∃ A, A = va_A [(A_t, .inr (8, [.ref A_t_state, .ref A_t_tape, .int t_taped, .int t_fault, .int t_broken, .int t_brokenAt, .int t_spot, .int t_here, .int t_token, .int t_value, .int t_isRealTold, .ref A_t_ends, .ref A_t_letters, .ref A_t_least, .ref A_t_conflicts, .int t_conflictMany, .ref A_t_behind, .ref A_t_placed, .ref A_t_isKept, .ref A_t_lanes, .ref A_t_lengths, .ref A_t_cells, .int t_torn])), (A_t_placed, .inl (cy 1, 5, .inl t_placed)), (A_t_state, .inl (cy 1, 535, .inl t_state))] s.heap.size := ⟨_, rfl⟩
  have hD : va_D A [(A_t, .inr (8, [.ref A_t_state, .ref A_t_tape, .int t_taped, .int t_fault, .int t_broken, .int t_brokenAt, .int t_spot, .int t_here, .int t_token, .int t_value, .int t_isRealTold, .ref A_t_ends, .ref A_t_letters, .ref A_t_least, .ref A_t_conflicts, .int t_conflictMany, .ref A_t_behind, .ref A_t_placed, .ref A_t_isKept, .ref A_t_lanes, .ref A_t_lengths, .ref A_t_cells, .int t_torn])), (A_t_placed, .inl (cy 1, 5, .inl t_placed)), (A_t_state, .inl (cy 1, 535, .inl t_state))] := by rw [hAe]; exact hD0.self
  have hA : ∀ q : Nat, s.heap.size ≤ q → A q := fun q hq => by rw [hAe]; exact Or.inr hq
  have hS : va_S A s.heap s.heap [] := va_S.rf
  have hl := lv_entry [.ref A_t, .int x1, .int x2] (n := 6) (Nat.le_of_ble_eq_true rfl)
  rw [lg_entry_eq]
  generalize (lg_sl [.ref A_t, .int x1, .int x2] ++ List.replicate (6 - (lg_sl [.ref A_t, .int x1, .int x2]).length) Slot.unset).toArray = ls at hl ⊢
  have hl : lv_has ls 6 [(0, .ref A_t), (1, .int x1), (2, .int x2)] := hl
  refine W.gen (fun Q0 hQ => ?_)
  have L55 : ∀ (n55 : Nat) (t_placed : Nat → Int32) (x3 : Int32) (x4 : Int32) (x5 : Int32) (H : Heap) (locs : List Loc) (ls : Array Slot), L_X8_ways_55 post t_state x1 x2 x3 n55 t_placed x4 x5 → va_P D vwCl [(A_t, .inr (8, [.ref A_t_state, .ref A_t_tape, .int t_taped, .int t_fault, .int t_broken, .int t_brokenAt, .int t_spot, .int t_here, .int t_token, .int t_value, .int t_isRealTold, .ref A_t_ends, .ref A_t_letters, .ref A_t_least, .ref A_t_conflicts, .int t_conflictMany, .ref A_t_behind, .ref A_t_placed, .ref A_t_isKept, .ref A_t_lanes, .ref A_t_lengths, .ref A_t_cells, .int t_torn])), (A_t_placed, .inl (cy 1, 5, .inl t_placed)), (A_t_state, .inl (cy 1, 535, .inl t_state))] H → va_D A [(A_t, .inr (8, [.ref A_t_state, .ref A_t_tape, .int t_taped, .int t_fault, .int t_broken, .int t_brokenAt, .int t_spot, .int t_here, .int t_token, .int t_value, .int t_isRealTold, .ref A_t_ends, .ref A_t_letters, .ref A_t_least, .ref A_t_conflicts, .int t_conflictMany, .ref A_t_behind, .ref A_t_placed, .ref A_t_isKept, .ref A_t_lanes, .ref A_t_lengths, .ref A_t_cells, .int t_torn])), (A_t_placed, .inl (cy 1, 5, .inl t_placed)), (A_t_state, .inl (cy 1, 535, .inl t_state))] → va_S A s.heap H locs → lv_has ls 6 [(0, .ref A_t), (1, .int x1), (2, .int x2), (3, .int x3), (4, .int x4), (5, .int x5)] → W p l e (headSpec wsX8_ways { frames := 2, cells := 0, slots := 0, locals := 48 }).room s m ([.ref A_t, .int x1, .int x2] : List Value).toArray below meth c H locs 0 0 Q0 (F0 m 55 ls []) := by
    intro n55
    induction n55 with
    | zero => intro t_placed x3 x4 x5 H locs ls h; exact False.elim h
    | succ n55 ih55 =>
      intro t_placed x3 x4 x5 H locs ls h hP hD hS hl
      have h : LB_X8_ways_55 post t_state x1 x2 x3 (L_X8_ways_55 post t_state x1 x2 x3 n55) t_placed x4 x5 := h
      unfold LB_X8_ways_55 at h
      have J81 : ∀ (t_placed : Nat → Int32) (x3 : Int32) (x5 : Int32) (k0 : Int32) (k1 : Int32) (H : Heap) (locs : List Loc) (ls : Array Slot), B_X8_ways_81 (L_X8_ways_55 post t_state x1 x2 x3 n55) t_placed k0 k1 x5 → va_P D vwCl [(A_t, .inr (8, [.ref A_t_state, .ref A_t_tape, .int t_taped, .int t_fault, .int t_broken, .int t_brokenAt, .int t_spot, .int t_here, .int t_token, .int t_value, .int t_isRealTold, .ref A_t_ends, .ref A_t_letters, .ref A_t_least, .ref A_t_conflicts, .int t_conflictMany, .ref A_t_behind, .ref A_t_placed, .ref A_t_isKept, .ref A_t_lanes, .ref A_t_lengths, .ref A_t_cells, .int t_torn])), (A_t_placed, .inl (cy 1, 5, .inl t_placed)), (A_t_state, .inl (cy 1, 535, .inl t_state))] H → va_D A [(A_t, .inr (8, [.ref A_t_state, .ref A_t_tape, .int t_taped, .int t_fault, .int t_broken, .int t_brokenAt, .int t_spot, .int t_here, .int t_token, .int t_value, .int t_isRealTold, .ref A_t_ends, .ref A_t_letters, .ref A_t_least, .ref A_t_conflicts, .int t_conflictMany, .ref A_t_behind, .ref A_t_placed, .ref A_t_isKept, .ref A_t_lanes, .ref A_t_lengths, .ref A_t_cells, .int t_torn])), (A_t_placed, .inl (cy 1, 5, .inl t_placed)), (A_t_state, .inl (cy 1, 535, .inl t_state))] → va_S A s.heap H locs → lv_has ls 6 [(0, .ref A_t), (1, .int x1), (2, .int x2), (3, .int x3), (5, .int x5)] → W p l e (headSpec wsX8_ways { frames := 2, cells := 0, slots := 0, locals := 48 }).room s m ([.ref A_t, .int x1, .int x2] : List Value).toArray below meth c H locs 0 0 Q0 (F0 m 81 ls [.int k1, .int k0]) := by
        intro t_placed x3 x5 k0 k1 H locs ls h hP hD hS hl
        unfold B_X8_ways_81 at h
        refine lv_iadd hx hb dX8_ways_81 ?_
        refine lv_istore (lv' := [(4, .int (k0 + k1)), (0, .ref A_t), (1, .int x1), (2, .int x2), (3, .int x3), (5, .int x5)]) hx hb dX8_ways_82 hl (by decide) rfl (fun ls hl => ?_)
        refine lv_iinc (v := x5 + (1 : Int32)) (lv' := [(5, .int (x5 + (1 : Int32))), (4, .int (k0 + k1)), (0, .ref A_t), (1, .int x1), (2, .int x2), (3, .int x3)]) hx hb dX8_ways_84 hl (k := 5) rfl rfl (by decide) rfl (fun ls hl => ?_)
        refine lv_goto (tgt := 55) hx hb dX8_ways_87 (by decide) ?_
        exact ih55 t_placed x3 (k0 + k1) (x5 + (1 : Int32)) H locs ls h hP hD hS (lv_sub hl [2, 3, 4, 5, 1, 0] rfl)
      refine lv_iload hx hb dX8_ways_55 (lv_at hl 5 rfl) ?_
      refine lv_iload_n hx hb dX8_ways_57 rfl (lv_at hl 3 rfl) ?_
      refine lv_icmp_ge (tgt := 90) hx hb dX8_ways_58 (by decide) (fun hc => ?_) (fun hc => ?_)
      · replace h := h.1 hc
        refine lv_iload hx hb dX8_ways_90 (lv_at hl 4 rfl) ?_
        subst hQ
        subst hAe
        exact W.iret (v := x4) hx hb hr (fun t ht _ => ⟨⟨x4, t_placed, rfl, h, by rw [ht]; exact hP, hD⟩, hS.F ht⟩) hS.2.2 dX8_ways_92
      · replace h := h.2 hc
        refine lv_iload hx hb dX8_ways_61 (lv_at hl 4 rfl) ?_
        refine lv_aload_n hx hb dX8_ways_63 rfl (lv_at hl 0 rfl) ?_
        refine lv_iload hx hb dX8_ways_64 (lv_at hl 5 rfl) ?_
        refine lv_iload_n hx hb dX8_ways_66 rfl (lv_at hl 1 rfl) ?_
        refine lv_iload_n hx hb dX8_ways_67 rfl (lv_at hl 2 rfl) ?_
        refine lv_iconst (v := 1) hx hb dX8_ways_68 (by decide) ?_
        refine lv_iadd hx hb dX8_ways_69 ?_
        have hPn : va_P D vwCl ([] ++ [(A_t, .inr (8, [.ref A_t_state, .ref A_t_tape, .int t_taped, .int t_fault, .int t_broken, .int t_brokenAt, .int t_spot, .int t_here, .int t_token, .int t_value, .int t_isRealTold, .ref A_t_ends, .ref A_t_letters, .ref A_t_least, .ref A_t_conflicts, .int t_conflictMany, .ref A_t_behind, .ref A_t_placed, .ref A_t_isKept, .ref A_t_lanes, .ref A_t_lengths, .ref A_t_cells, .int t_torn])), (A_t_placed, .inl (cy 1, 5, .inl t_placed)), (A_t_state, .inl (cy 1, 535, .inl t_state))]) H := hP.sub [0, 1, 2] rfl
        have hDn : va_D A ([] ++ [(A_t, .inr (8, [.ref A_t_state, .ref A_t_tape, .int t_taped, .int t_fault, .int t_broken, .int t_brokenAt, .int t_spot, .int t_here, .int t_token, .int t_value, .int t_isRealTold, .ref A_t_ends, .ref A_t_letters, .ref A_t_least, .ref A_t_conflicts, .int t_conflictMany, .ref A_t_behind, .ref A_t_placed, .ref A_t_isKept, .ref A_t_lanes, .ref A_t_lengths, .ref A_t_cells, .int t_torn])), (A_t_placed, .inl (cy 1, 5, .inl t_placed)), (A_t_state, .inl (cy 1, 535, .inl t_state))]) := hD.sub [0, 1, 2] (by decide) rfl
        have hPc := gPR hPn
        have hDc := gDR hDn
        refine mw_i (va_runV (As := [.int x5, .int x1, .int (x2 + (1 : Int32))]) (rest := [.int x4]) CF (c_X8_isWay l D cy H.size A_t A_t_state A_t_tape A_t_ends A_t_letters A_t_least A_t_conflicts A_t_behind A_t_placed A_t_isKept A_t_lanes A_t_lengths A_t_cells t_taped t_fault t_broken t_brokenAt t_spot t_here t_token t_value t_isRealTold t_conflictMany t_torn t_placed t_state x5 x1 (x2 + (1 : Int32)) _ h) (cwV 3 hts gX8_ways_X8_isWay rfl rfl rfl qX8_isWay ⟨Nat.le_of_ble_eq_true rfl, Nat.le_of_ble_eq_true rfl⟩) (mpVW hK hPc hDc (ci := 8) (q := (RX8, TX8, 23)) (q0 := 0) rfl rfl) rfl rfl hl.1 rfl (lv_room (Nat.le_of_ble_eq_true rfl)) dX8_ways_70 ⟨Nat.zero_le _, Nat.zero_le _⟩) hPn hDn hS hA (fun r3 t_placed_v3 H locs h hP hD hS => ?_)
        have hP : va_P D vwCl [(A_t, .inr (8, [.ref A_t_state, .ref A_t_tape, .int t_taped, .int t_fault, .int t_broken, .int t_brokenAt, .int t_spot, .int t_here, .int t_token, .int t_value, .int t_isRealTold, .ref A_t_ends, .ref A_t_letters, .ref A_t_least, .ref A_t_conflicts, .int t_conflictMany, .ref A_t_behind, .ref A_t_placed, .ref A_t_isKept, .ref A_t_lanes, .ref A_t_lengths, .ref A_t_cells, .int t_torn])), (A_t_placed, .inl (cy 1, 5, .inl t_placed_v3)), (A_t_state, .inl (cy 1, 535, .inl t_state))] H := hP.sub [0, 1, 2] rfl
        have hD : va_D A [(A_t, .inr (8, [.ref A_t_state, .ref A_t_tape, .int t_taped, .int t_fault, .int t_broken, .int t_brokenAt, .int t_spot, .int t_here, .int t_token, .int t_value, .int t_isRealTold, .ref A_t_ends, .ref A_t_letters, .ref A_t_least, .ref A_t_conflicts, .int t_conflictMany, .ref A_t_behind, .ref A_t_placed, .ref A_t_isKept, .ref A_t_lanes, .ref A_t_lengths, .ref A_t_cells, .int t_torn])), (A_t_placed, .inl (cy 1, 5, .inl t_placed_v3)), (A_t_state, .inl (cy 1, 535, .inl t_state))] := hD.sub [0, 1, 2] (by decide) rfl
        refine lv_if_eq (tgt := 80) hx hb dX8_ways_73 (by decide) (fun hc => ?_) (fun hc => ?_)
        · replace h := h.1 hc
          refine lv_iconst (v := 0) hx hb dX8_ways_80 (by decide) ?_
          exact J81 t_placed_v3 x3 x5 x4 (0 : Int32) H locs ls h hP hD hS (lv_sub hl [0, 1, 2, 3, 5] rfl)
        · replace h := h.2 hc
          refine lv_iconst (v := 1) hx hb dX8_ways_76 (by decide) ?_
          refine lv_goto (tgt := 81) hx hb dX8_ways_77 (by decide) ?_
          exact J81 t_placed_v3 x3 x5 x4 (1 : Int32) H locs ls h hP hD hS (lv_sub hl [0, 1, 2, 3, 5] rfl)
  have L31 : ∀ (n31 : Nat) (t_placed : Nat → Int32) (x3 : Int32) (x4 : Int32) (H : Heap) (locs : List Loc) (ls : Array Slot), L_X8_ways_31 post t_placed t_state x1 x2 n31 x3 x4 → va_P D vwCl [(A_t, .inr (8, [.ref A_t_state, .ref A_t_tape, .int t_taped, .int t_fault, .int t_broken, .int t_brokenAt, .int t_spot, .int t_here, .int t_token, .int t_value, .int t_isRealTold, .ref A_t_ends, .ref A_t_letters, .ref A_t_least, .ref A_t_conflicts, .int t_conflictMany, .ref A_t_behind, .ref A_t_placed, .ref A_t_isKept, .ref A_t_lanes, .ref A_t_lengths, .ref A_t_cells, .int t_torn])), (A_t_placed, .inl (cy 1, 5, .inl t_placed)), (A_t_state, .inl (cy 1, 535, .inl t_state))] H → va_D A [(A_t, .inr (8, [.ref A_t_state, .ref A_t_tape, .int t_taped, .int t_fault, .int t_broken, .int t_brokenAt, .int t_spot, .int t_here, .int t_token, .int t_value, .int t_isRealTold, .ref A_t_ends, .ref A_t_letters, .ref A_t_least, .ref A_t_conflicts, .int t_conflictMany, .ref A_t_behind, .ref A_t_placed, .ref A_t_isKept, .ref A_t_lanes, .ref A_t_lengths, .ref A_t_cells, .int t_torn])), (A_t_placed, .inl (cy 1, 5, .inl t_placed)), (A_t_state, .inl (cy 1, 535, .inl t_state))] → va_S A s.heap H locs → lv_has ls 6 [(0, .ref A_t), (1, .int x1), (2, .int x2), (3, .int x3), (4, .int x4)] → W p l e (headSpec wsX8_ways { frames := 2, cells := 0, slots := 0, locals := 48 }).room s m ([.ref A_t, .int x1, .int x2] : List Value).toArray below meth c H locs 0 0 Q0 (F0 m 31 ls []) := by
    intro n31
    induction n31 with
    | zero => intro t_placed x3 x4 H locs ls h; exact False.elim h
    | succ n31 ih31 =>
      intro t_placed x3 x4 H locs ls h hP hD hS hl
      have h : LB_X8_ways_31 post t_placed t_state x1 x2 (L_X8_ways_31 post t_placed t_state x1 x2 n31) x3 x4 := h
      unfold LB_X8_ways_31 at h
      refine lv_iload hx hb dX8_ways_31 (lv_at hl 4 rfl) ?_
      refine lv_iload_n hx hb dX8_ways_33 rfl (lv_at hl 1 rfl) ?_
      refine lv_icmp_ge (tgt := 49) hx hb dX8_ways_34 (by decide) (fun hc => ?_) (fun hc => ?_)
      · replace h := h.1 hc
        refine lv_iconst (v := 0) hx hb dX8_ways_49 (by decide) ?_
        refine lv_istore (lv' := [(4, .int (0 : Int32)), (0, .ref A_t), (1, .int x1), (2, .int x2), (3, .int x3)]) hx hb dX8_ways_50 hl (by decide) rfl (fun ls hl => ?_)
        refine lv_iconst (v := 0) hx hb dX8_ways_52 (by decide) ?_
        refine lv_istore (lv' := [(5, .int (0 : Int32)), (4, .int (0 : Int32)), (0, .ref A_t), (1, .int x1), (2, .int x2), (3, .int x3)]) hx hb dX8_ways_53 hl (by decide) rfl (fun ls hl => ?_)
        obtain ⟨nn, h⟩ := h
        exact L55 nn t_placed x3 (0 : Int32) (0 : Int32) H locs ls h hP hD hS (lv_sub hl [2, 3, 4, 5, 1, 0] rfl)
      · replace h := h.2 hc
        refine lv_iload_n hx hb dX8_ways_37 rfl (lv_at hl 3 rfl) ?_
        refine lv_iload_n hx hb dX8_ways_38 rfl (lv_at hl 2 rfl) ?_
        refine lv_iconst (v := 1) hx hb dX8_ways_39 (by decide) ?_
        refine lv_iadd hx hb dX8_ways_40 ?_
        refine lv_imul hx hb dX8_ways_41 ?_
        refine lv_istore_n (lv' := [(3, .int (x3 * (x2 + (1 : Int32)))), (0, .ref A_t), (1, .int x1), (2, .int x2), (4, .int x4)]) hx hb dX8_ways_42 rfl hl (by decide) rfl (fun ls hl => ?_)
        refine lv_iinc (v := x4 + (1 : Int32)) (lv' := [(4, .int (x4 + (1 : Int32))), (3, .int (x3 * (x2 + (1 : Int32)))), (0, .ref A_t), (1, .int x1), (2, .int x2)]) hx hb dX8_ways_43 hl (k := 4) rfl rfl (by decide) rfl (fun ls hl => ?_)
        refine lv_goto (tgt := 31) hx hb dX8_ways_46 (by decide) ?_
        exact ih31 t_placed (x3 * (x2 + (1 : Int32))) (x4 + (1 : Int32)) H locs ls h hP hD hS (lv_sub hl [2, 3, 4, 1, 0] rfl)
  unfold P_X8_ways at h
  refine lv_iload_n hx hb dX8_ways_0 rfl (lv_at hl 1 rfl) ?_
  refine lv_i2l (v := x1.toInt64) hx hb dX8_ways_1 rfl ?_
  refine lv_lconst (v := 1) hx hb dX8_ways_2 (by decide) ?_
  refine lv_ldc2 (v := 5) hx hb hown f0 dX8_ways_3 ?_
  refine vp_callSi (W.runS (As := [.long x1.toInt64, .long (1 : Int64), .long (5 : Int64)]) (rest := []) CF (c_X8_in l x1.toInt64 (1 : Int64) (5 : Int64) _ h) (va_cwS 3 hts gX8_ways_X8_in rfl rfl rfl qX8_in.2 ⟨Nat.le_of_ble_eq_true rfl, Nat.le_of_ble_eq_true rfl⟩) mpSN rfl rfl hl.1 rfl (lv_room (Nat.le_of_ble_eq_true rfl)) dX8_ways_6 ⟨Nat.zero_le _, Nat.zero_le _⟩) (fun r1 h => ?_)
  refine lv_if_eq (tgt := 24) hx hb dX8_ways_9 (by decide) (fun hc => ?_) (fun hc => ?_)
  · replace h := h.1 hc
    refine lv_iconst (v := -1) hx hb dX8_ways_24 (by decide) ?_
    subst hQ
    subst hAe
    exact W.iret (v := (-1 : Int32)) hx hb hr (fun t ht _ => ⟨⟨(-1 : Int32), t_placed, rfl, h, by rw [ht]; exact hP, hD⟩, hS.F ht⟩) hS.2.2 dX8_ways_25
  · replace h := h.2 hc
    refine lv_iload_n hx hb dX8_ways_12 rfl (lv_at hl 2 rfl) ?_
    refine lv_i2l (v := x2.toInt64) hx hb dX8_ways_13 rfl ?_
    refine lv_lconst (v := 0) hx hb dX8_ways_14 (by decide) ?_
    refine lv_ldc2 (v := 6) hx hb hown f1 dX8_ways_15 ?_
    refine vp_callSi (W.runS (As := [.long x2.toInt64, .long (0 : Int64), .long (6 : Int64)]) (rest := []) CF (c_X8_in l x2.toInt64 (0 : Int64) (6 : Int64) _ h) (va_cwS 3 hts gX8_ways_X8_in rfl rfl rfl qX8_in.2 ⟨Nat.le_of_ble_eq_true rfl, Nat.le_of_ble_eq_true rfl⟩) mpSN rfl rfl hl.1 rfl (lv_room (Nat.le_of_ble_eq_true rfl)) dX8_ways_18 ⟨Nat.zero_le _, Nat.zero_le _⟩) (fun r2 h => ?_)
    refine lv_if_ne (tgt := 26) hx hb dX8_ways_21 (by decide) (fun hc => ?_) (fun hc => ?_)
    · replace h := h.1 hc
      refine lv_iconst (v := 1) hx hb dX8_ways_26 (by decide) ?_
      refine lv_istore_n (lv' := [(3, .int (1 : Int32)), (0, .ref A_t), (1, .int x1), (2, .int x2)]) hx hb dX8_ways_27 rfl hl (by decide) rfl (fun ls hl => ?_)
      refine lv_iconst (v := 0) hx hb dX8_ways_28 (by decide) ?_
      refine lv_istore (lv' := [(4, .int (0 : Int32)), (3, .int (1 : Int32)), (0, .ref A_t), (1, .int x1), (2, .int x2)]) hx hb dX8_ways_29 hl (by decide) rfl (fun ls hl => ?_)
      obtain ⟨nn, h⟩ := h
      exact L31 nn t_placed (1 : Int32) (0 : Int32) s.heap [] ls h hP hD hS (lv_sub hl [2, 3, 4, 1, 0] rfl)
    · replace h := h.2 hc
      refine lv_iconst (v := -1) hx hb dX8_ways_24 (by decide) ?_
      subst hQ
      subst hAe
      exact W.iret (v := (-1 : Int32)) hx hb hr (fun t ht _ => ⟨⟨(-1 : Int32), t_placed, rfl, h, by rw [ht]; exact hP, hD⟩, hS.F ht⟩) hS.2.2 dX8_ways_25
theorem qX8_grow : yX8_grow.cls = RX8 ∧ yX8_grow.cls ≠ "java/lang/invoke/MethodHandle" ∧ yX8_grow.cls ≠ "java/lang/invoke/VarHandle" ∧ (parseMethodDescriptor yX8_grow.desc).map (fun d => d.parameters.length) = some 2 := by decide +kernel
def B_X8_grow_167 (K_22 : (Nat → Int32) → (Nat → Int64) → Int32 → Int32 → Int32 → Prop) (t_state : Nat → Int32) (t_least : Nat → Int64) (x3 : Int32) (x4 : Int32) (x5 : Int32) : Prop :=
  K_22 t_state t_least x3 x4 (x5 + (1 : Int32))
def B_X8_grow_99 (K_22 : (Nat → Int32) → (Nat → Int64) → Int32 → Int32 → Int32 → Prop) (t_state : Nat → Int32) (t_least : Nat → Int64) (k0 : Int32) (x3 : Int32) (x4 : Int32) (x5 : Int32) (x7 : Int32) (x8 : Int32) (x9 : Int32) : Prop :=
  ((x8 = x9 → B_X8_grow_167 K_22 t_state t_least x3 x4 x5) ∧ (¬ x8 = x9 → P_X8_many (fun (r2 : Int32) => (((24 : Int32) ≤ r2 → B_X8_grow_167 K_22 t_state t_least x3 x4 x5) ∧ (¬ (24 : Int32) ≤ r2 → P_X8_isReal (fun (r3 : Int32) => P_X8_weighed (fun (r4 : Int64) => P_X8_isAllowed (fun (r5 : Int32) (t_least_v5 : Nat → Int64) => ((r5 = 0 → B_X8_grow_167 K_22 t_state t_least_v5 x3 x4 x5) ∧ (¬ r5 = 0 → P_X8_puts (fun (t_state_v6 : Nat → Int32) => B_X8_grow_167 K_22 t_state_v6 t_least_v5 x3 (x4 + (1 : Int32)) x5) t_state (0 : Int32) x8 x9 ((x7 - x7 / (41 : Int32) * (41 : Int32)) - (12 : Int32)) k0))) t_state t_least x8 x9 (-4 : Int32) r4) r3 ((x7 - x7 / (41 : Int32) * (41 : Int32)) - (12 : Int32)) k0) t_state))) t_state))
def LB_X8_grow_22 (post : Int32 → (Nat → Int32) → (Nat → Int64) → Prop) (x2 : Int32) (K_22 : (Nat → Int32) → (Nat → Int64) → Int32 → Int32 → Int32 → Prop) (t_state : Nat → Int32) (t_least : Nat → Int64) (x3 : Int32) (x4 : Int32) (x5 : Int32) : Prop :=
  ((x2 ≤ x5 → post x4 t_state t_least) ∧ (¬ x2 ≤ x5 → ((¬ (((((x3 * (1103515245 : Int32)) + (12345 : Int32)) >>> ((16 : Int32) &&& 31)) &&& (32767 : Int32)) / (256 : Int32)) - (((((x3 * (1103515245 : Int32)) + (12345 : Int32)) >>> ((16 : Int32) &&& 31)) &&& (32767 : Int32)) / (256 : Int32)) / (4 : Int32) * (4 : Int32) = 0 → B_X8_grow_99 K_22 t_state t_least (0 : Int32) ((((x3 * (1103515245 : Int32)) + (12345 : Int32)) * (1103515245 : Int32)) + (12345 : Int32)) x4 x5 ((((((x3 * (1103515245 : Int32)) + (12345 : Int32)) * (1103515245 : Int32)) + (12345 : Int32)) >>> ((16 : Int32) &&& 31)) &&& (32767 : Int32)) (((((x3 * (1103515245 : Int32)) + (12345 : Int32)) >>> ((16 : Int32) &&& 31)) &&& (32767 : Int32)) - ((((x3 * (1103515245 : Int32)) + (12345 : Int32)) >>> ((16 : Int32) &&& 31)) &&& (32767 : Int32)) / (10 : Int32) * (10 : Int32)) ((((((x3 * (1103515245 : Int32)) + (12345 : Int32)) >>> ((16 : Int32) &&& 31)) &&& (32767 : Int32)) / (16 : Int32)) - (((((x3 * (1103515245 : Int32)) + (12345 : Int32)) >>> ((16 : Int32) &&& 31)) &&& (32767 : Int32)) / (16 : Int32)) / (10 : Int32) * (10 : Int32))) ∧ ((((((x3 * (1103515245 : Int32)) + (12345 : Int32)) >>> ((16 : Int32) &&& 31)) &&& (32767 : Int32)) / (256 : Int32)) - (((((x3 * (1103515245 : Int32)) + (12345 : Int32)) >>> ((16 : Int32) &&& 31)) &&& (32767 : Int32)) / (256 : Int32)) / (4 : Int32) * (4 : Int32) = 0 → B_X8_grow_99 K_22 t_state t_least (1 : Int32) ((((x3 * (1103515245 : Int32)) + (12345 : Int32)) * (1103515245 : Int32)) + (12345 : Int32)) x4 x5 ((((((x3 * (1103515245 : Int32)) + (12345 : Int32)) * (1103515245 : Int32)) + (12345 : Int32)) >>> ((16 : Int32) &&& 31)) &&& (32767 : Int32)) (((((x3 * (1103515245 : Int32)) + (12345 : Int32)) >>> ((16 : Int32) &&& 31)) &&& (32767 : Int32)) - ((((x3 * (1103515245 : Int32)) + (12345 : Int32)) >>> ((16 : Int32) &&& 31)) &&& (32767 : Int32)) / (10 : Int32) * (10 : Int32)) ((((((x3 * (1103515245 : Int32)) + (12345 : Int32)) >>> ((16 : Int32) &&& 31)) &&& (32767 : Int32)) / (16 : Int32)) - (((((x3 * (1103515245 : Int32)) + (12345 : Int32)) >>> ((16 : Int32) &&& 31)) &&& (32767 : Int32)) / (16 : Int32)) / (10 : Int32) * (10 : Int32))))))
noncomputable def L_X8_grow_22 (post : Int32 → (Nat → Int32) → (Nat → Int64) → Prop) (x2 : Int32) (n : Nat) : (Nat → Int32) → (Nat → Int64) → Int32 → Int32 → Int32 → Prop := Nat.rec (motive := fun _ => (Nat → Int32) → (Nat → Int64) → Int32 → Int32 → Int32 → Prop) (fun _ _ _ _ _ => False) (fun _ K => LB_X8_grow_22 post x2 K) n
def P_X8_grow (post : Int32 → (Nat → Int32) → (Nat → Int64) → Prop) (t_state : Nat → Int32) (t_least : Nat → Int64) (x1 : Int32) (x2 : Int32) : Prop :=
  P_X8_in (fun (r1 : Int32) => ((¬ r1 = 0 → ∃ n : Nat, L_X8_grow_22 post x2 n t_state t_least x1 (0 : Int32) (0 : Int32)) ∧ (r1 = 0 → post (-1 : Int32) t_state t_least))) x2.toInt64 (1 : Int64) (20 : Int64)
set_option maxHeartbeats 4000000 in
set_option maxRecDepth 100000 in
theorem c_X8_grow (l : Launch) (D : va_G) (cy : Nat → ClassId) (sz : Nat) (A_t A_t_state A_t_tape A_t_ends A_t_letters A_t_least A_t_conflicts A_t_behind A_t_placed A_t_isKept A_t_lanes A_t_lengths A_t_cells : Nat) (t_taped : Int32) (t_fault : Int32) (t_broken : Int32) (t_brokenAt : Int32) (t_spot : Int32) (t_here : Int32) (t_token : Int32) (t_value : Int32) (t_isRealTold : Int32) (t_conflictMany : Int32) (t_torn : Int32) (t_state : Nat → Int32) (t_least : Nat → Int64) (x1 : Int32) (x2 : Int32) (post : Int32 → (Nat → Int32) → (Nat → Int64) → Prop) (h : P_X8_grow post t_state t_least x1 x2) : Met l yX8_grow wsX8_grow { frames := 4, cells := 0, slots := 0, locals := 97 } (pcW D cy [(A_t, .inr (8, [.ref A_t_state, .ref A_t_tape, .int t_taped, .int t_fault, .int t_broken, .int t_brokenAt, .int t_spot, .int t_here, .int t_token, .int t_value, .int t_isRealTold, .ref A_t_ends, .ref A_t_letters, .ref A_t_least, .ref A_t_conflicts, .int t_conflictMany, .ref A_t_behind, .ref A_t_placed, .ref A_t_isKept, .ref A_t_lanes, .ref A_t_lengths, .ref A_t_cells, .int t_torn])), (A_t_state, .inl (cy 1, 535, .inl t_state)), (A_t_least, .inl (cy 2, 100, .inr (.inl t_least)))] sz [.ref A_t, .int x1, .int x2]) (va_Qi (fun r (u : (Nat → Int32) × (Nat → Int64)) => post r u.1 u.2) (bW D [(A_t, .inr (8, [.ref A_t_state, .ref A_t_tape, .int t_taped, .int t_fault, .int t_broken, .int t_brokenAt, .int t_spot, .int t_here, .int t_token, .int t_value, .int t_isRealTold, .ref A_t_ends, .ref A_t_letters, .ref A_t_least, .ref A_t_conflicts, .int t_conflictMany, .ref A_t_behind, .ref A_t_placed, .ref A_t_isKept, .ref A_t_lanes, .ref A_t_lengths, .ref A_t_cells, .int t_torn])), (A_t_state, .inl (cy 1, 535, .inl t_state)), (A_t_least, .inl (cy 2, 100, .inr (.inl t_least)))] sz (fun u => [(A_t, .inr (8, [.ref A_t_state, .ref A_t_tape, .int t_taped, .int t_fault, .int t_broken, .int t_brokenAt, .int t_spot, .int t_here, .int t_token, .int t_value, .int t_isRealTold, .ref A_t_ends, .ref A_t_letters, .ref A_t_least, .ref A_t_conflicts, .int t_conflictMany, .ref A_t_behind, .ref A_t_placed, .ref A_t_isKept, .ref A_t_lanes, .ref A_t_lengths, .ref A_t_cells, .int t_torn])), (A_t_state, .inl (cy 1, 535, .inl u.1)), (A_t_least, .inl (cy 2, 100, .inr (.inl u.2)))])) (va_A [(A_t, .inr (8, [.ref A_t_state, .ref A_t_tape, .int t_taped, .int t_fault, .int t_broken, .int t_brokenAt, .int t_spot, .int t_here, .int t_token, .int t_value, .int t_isRealTold, .ref A_t_ends, .ref A_t_letters, .ref A_t_least, .ref A_t_conflicts, .int t_conflictMany, .ref A_t_behind, .ref A_t_placed, .ref A_t_isKept, .ref A_t_lanes, .ref A_t_lengths, .ref A_t_cells, .int t_torn])), (A_t_state, .inl (cy 1, 535, .inl t_state)), (A_t_least, .inl (cy 2, 100, .inr (.inl t_least)))] sz)) 0 0 (va_A [(A_t, .inr (8, [.ref A_t_state, .ref A_t_tape, .int t_taped, .int t_fault, .int t_broken, .int t_brokenAt, .int t_spot, .int t_here, .int t_token, .int t_value, .int t_isRealTold, .ref A_t_ends, .ref A_t_letters, .ref A_t_least, .ref A_t_conflicts, .int t_conflictMany, .ref A_t_behind, .ref A_t_placed, .ref A_t_isKept, .ref A_t_lanes, .ref A_t_lengths, .ref A_t_cells, .int t_torn])), (A_t_state, .inl (cy 1, 535, .inl t_state)), (A_t_least, .inl (cy 2, 100, .inr (.inl t_least)))] sz) := by
  refine Met.ofW (cc := cX8_grow) (maxL := 12) (ret := (some .int)) (by decide) rfl ?_
  intro p e s m args below meth c s₁ B hml hv
  obtain ⟨rfl, hsz, hP, hK, hD0⟩ := hv
  have hx := B.exec
  have hb := B.bytes
  have hr := B.returns
  have hts := atoms_spec (ws := wsX8_grow) B.pre
  have hown : s.vm.findClass RX8 = some m.cls := findClass_of_methodNamed B.named
  have hlocks := B.notSynchronized
  have CF : CallFix p m c cX8_grow 12 s ([.ref A_t, .int x1, .int x2] : List Value).toArray wsX8_grow RX8 := ⟨hx, hb, hml, hown, hts⟩
  have f0 := hts (.constantLong RX8 245 (20)) (by decide +kernel)
  have f1 := hts (.constant RX8 247 (1103515245)) (by decide +kernel)
  subst hsz
  obtain ⟨A, hAe⟩ : ∃ A, A = va_A [(A_t, .inr (8, [.ref A_t_state, .ref A_t_tape, .int t_taped, .int t_fault, .int t_broken, .int t_brokenAt, .int t_spot, .int t_here, .int t_token, .int t_value, .int t_isRealTold, .ref A_t_ends, .ref A_t_letters, .ref A_t_least, .ref A_t_conflicts, .int t_conflictMany, .ref A_t_behind, .ref A_t_placed, .ref A_t_isKept, .ref A_t_lanes, .ref A_t_lengths, .ref A_t_cells, .int t_torn])), (A_t_state, .inl (cy 1, 535, .inl t_state)), (A_t_least, .inl (cy 2, 100, .inr (.inl t_least)))] s.heap.size := ⟨_, rfl⟩
  have hD : va_D A [(A_t, .inr (8, [.ref A_t_state, .ref A_t_tape, .int t_taped, .int t_fault, .int t_broken, .int t_brokenAt, .int t_spot, .int t_here, .int t_token, .int t_value, .int t_isRealTold, .ref A_t_ends, .ref A_t_letters, .ref A_t_least, .ref A_t_conflicts, .int t_conflictMany, .ref A_t_behind, .ref A_t_placed, .ref A_t_isKept, .ref A_t_lanes, .ref A_t_lengths, .ref A_t_cells, .int t_torn])), (A_t_state, .inl (cy 1, 535, .inl t_state)), (A_t_least, .inl (cy 2, 100, .inr (.inl t_least)))] := by rw [hAe]; exact hD0.self
  have hA : ∀ q : Nat, s.heap.size ≤ q → A q := fun q hq => by rw [hAe]; exact Or.inr hq
  have hS : va_S A s.heap s.heap [] := va_S.rf
  have hl := lv_entry [.ref A_t, .int x1, .int x2] (n := 12) (Nat.le_of_ble_eq_true rfl)
  rw [lg_entry_eq]
  generalize (lg_sl [.ref A_t, .int x1, .int x2] ++ List.replicate (12 - (lg_sl [.ref A_t, .int x1, .int x2]).length) Slot.unset).toArray = ls at hl ⊢
  have hl : lv_has ls 12 [(0, .ref A_t), (1, .int x1), (2, .int x2)] := hl
  refine W.gen (fun Q0 hQ => ?_)
  have L22 : ∀ (n22 : Nat) (t_state : Nat → Int32) (t_least : Nat → Int64) (x3 : Int32) (x4 : Int32) (x5 : Int32) (H : Heap) (locs : List Loc) (ls : Array Slot), L_X8_grow_22 post x2 n22 t_state t_least x3 x4 x5 → va_P D vwCl [(A_t, .inr (8, [.ref A_t_state, .ref A_t_tape, .int t_taped, .int t_fault, .int t_broken, .int t_brokenAt, .int t_spot, .int t_here, .int t_token, .int t_value, .int t_isRealTold, .ref A_t_ends, .ref A_t_letters, .ref A_t_least, .ref A_t_conflicts, .int t_conflictMany, .ref A_t_behind, .ref A_t_placed, .ref A_t_isKept, .ref A_t_lanes, .ref A_t_lengths, .ref A_t_cells, .int t_torn])), (A_t_state, .inl (cy 1, 535, .inl t_state)), (A_t_least, .inl (cy 2, 100, .inr (.inl t_least)))] H → va_D A [(A_t, .inr (8, [.ref A_t_state, .ref A_t_tape, .int t_taped, .int t_fault, .int t_broken, .int t_brokenAt, .int t_spot, .int t_here, .int t_token, .int t_value, .int t_isRealTold, .ref A_t_ends, .ref A_t_letters, .ref A_t_least, .ref A_t_conflicts, .int t_conflictMany, .ref A_t_behind, .ref A_t_placed, .ref A_t_isKept, .ref A_t_lanes, .ref A_t_lengths, .ref A_t_cells, .int t_torn])), (A_t_state, .inl (cy 1, 535, .inl t_state)), (A_t_least, .inl (cy 2, 100, .inr (.inl t_least)))] → va_S A s.heap H locs → lv_has ls 12 [(0, .ref A_t), (2, .int x2), (3, .int x3), (4, .int x4), (5, .int x5)] → W p l e (headSpec wsX8_grow { frames := 4, cells := 0, slots := 0, locals := 97 }).room s m ([.ref A_t, .int x1, .int x2] : List Value).toArray below meth c H locs 0 0 Q0 (F0 m 22 ls []) := by
    intro n22
    induction n22 with
    | zero => intro t_state t_least x3 x4 x5 H locs ls h; exact False.elim h
    | succ n22 ih22 =>
      intro t_state t_least x3 x4 x5 H locs ls h hP hD hS hl
      have h : LB_X8_grow_22 post x2 (L_X8_grow_22 post x2 n22) t_state t_least x3 x4 x5 := h
      unfold LB_X8_grow_22 at h
      have J167 : ∀ (t_state : Nat → Int32) (t_least : Nat → Int64) (x3 : Int32) (x4 : Int32) (x5 : Int32) (H : Heap) (locs : List Loc) (ls : Array Slot), B_X8_grow_167 (L_X8_grow_22 post x2 n22) t_state t_least x3 x4 x5 → va_P D vwCl [(A_t, .inr (8, [.ref A_t_state, .ref A_t_tape, .int t_taped, .int t_fault, .int t_broken, .int t_brokenAt, .int t_spot, .int t_here, .int t_token, .int t_value, .int t_isRealTold, .ref A_t_ends, .ref A_t_letters, .ref A_t_least, .ref A_t_conflicts, .int t_conflictMany, .ref A_t_behind, .ref A_t_placed, .ref A_t_isKept, .ref A_t_lanes, .ref A_t_lengths, .ref A_t_cells, .int t_torn])), (A_t_state, .inl (cy 1, 535, .inl t_state)), (A_t_least, .inl (cy 2, 100, .inr (.inl t_least)))] H → va_D A [(A_t, .inr (8, [.ref A_t_state, .ref A_t_tape, .int t_taped, .int t_fault, .int t_broken, .int t_brokenAt, .int t_spot, .int t_here, .int t_token, .int t_value, .int t_isRealTold, .ref A_t_ends, .ref A_t_letters, .ref A_t_least, .ref A_t_conflicts, .int t_conflictMany, .ref A_t_behind, .ref A_t_placed, .ref A_t_isKept, .ref A_t_lanes, .ref A_t_lengths, .ref A_t_cells, .int t_torn])), (A_t_state, .inl (cy 1, 535, .inl t_state)), (A_t_least, .inl (cy 2, 100, .inr (.inl t_least)))] → va_S A s.heap H locs → lv_has ls 12 [(0, .ref A_t), (2, .int x2), (3, .int x3), (4, .int x4), (5, .int x5)] → W p l e (headSpec wsX8_grow { frames := 4, cells := 0, slots := 0, locals := 97 }).room s m ([.ref A_t, .int x1, .int x2] : List Value).toArray below meth c H locs 0 0 Q0 (F0 m 167 ls []) := by
        intro t_state t_least x3 x4 x5 H locs ls h hP hD hS hl
        unfold B_X8_grow_167 at h
        refine lv_iinc (v := x5 + (1 : Int32)) (lv' := [(5, .int (x5 + (1 : Int32))), (0, .ref A_t), (2, .int x2), (3, .int x3), (4, .int x4)]) hx hb dX8_grow_167 hl (k := 4) rfl rfl (by decide) rfl (fun ls hl => ?_)
        refine lv_goto (tgt := 22) hx hb dX8_grow_170 (by decide) ?_
        exact ih22 t_state t_least x3 x4 (x5 + (1 : Int32)) H locs ls h hP hD hS (lv_sub hl [1, 2, 3, 4, 0] rfl)
      have J99 : ∀ (t_state : Nat → Int32) (t_least : Nat → Int64) (x3 : Int32) (x4 : Int32) (x5 : Int32) (x7 : Int32) (x8 : Int32) (x9 : Int32) (k0 : Int32) (H : Heap) (locs : List Loc) (ls : Array Slot), B_X8_grow_99 (L_X8_grow_22 post x2 n22) t_state t_least k0 x3 x4 x5 x7 x8 x9 → va_P D vwCl [(A_t, .inr (8, [.ref A_t_state, .ref A_t_tape, .int t_taped, .int t_fault, .int t_broken, .int t_brokenAt, .int t_spot, .int t_here, .int t_token, .int t_value, .int t_isRealTold, .ref A_t_ends, .ref A_t_letters, .ref A_t_least, .ref A_t_conflicts, .int t_conflictMany, .ref A_t_behind, .ref A_t_placed, .ref A_t_isKept, .ref A_t_lanes, .ref A_t_lengths, .ref A_t_cells, .int t_torn])), (A_t_state, .inl (cy 1, 535, .inl t_state)), (A_t_least, .inl (cy 2, 100, .inr (.inl t_least)))] H → va_D A [(A_t, .inr (8, [.ref A_t_state, .ref A_t_tape, .int t_taped, .int t_fault, .int t_broken, .int t_brokenAt, .int t_spot, .int t_here, .int t_token, .int t_value, .int t_isRealTold, .ref A_t_ends, .ref A_t_letters, .ref A_t_least, .ref A_t_conflicts, .int t_conflictMany, .ref A_t_behind, .ref A_t_placed, .ref A_t_isKept, .ref A_t_lanes, .ref A_t_lengths, .ref A_t_cells, .int t_torn])), (A_t_state, .inl (cy 1, 535, .inl t_state)), (A_t_least, .inl (cy 2, 100, .inr (.inl t_least)))] → va_S A s.heap H locs → lv_has ls 12 [(0, .ref A_t), (2, .int x2), (3, .int x3), (4, .int x4), (5, .int x5), (7, .int x7), (8, .int x8), (9, .int x9)] → W p l e (headSpec wsX8_grow { frames := 4, cells := 0, slots := 0, locals := 97 }).room s m ([.ref A_t, .int x1, .int x2] : List Value).toArray below meth c H locs 0 0 Q0 (F0 m 99 ls [.int k0]) := by
        intro t_state t_least x3 x4 x5 x7 x8 x9 k0 H locs ls h hP hD hS hl
        unfold B_X8_grow_99 at h
        refine lv_istore (lv' := [(10, .int k0), (0, .ref A_t), (2, .int x2), (3, .int x3), (4, .int x4), (5, .int x5), (7, .int x7), (8, .int x8), (9, .int x9)]) hx hb dX8_grow_99 hl (by decide) rfl (fun ls hl => ?_)
        refine lv_iload hx hb dX8_grow_101 (lv_at hl 6 rfl) ?_
        refine lv_bipush (v := 41) hx hb dX8_grow_103 (by decide) ?_
        refine lv_irem hx hb dX8_grow_105 (by decide) ?_
        refine lv_bipush (v := 12) hx hb dX8_grow_106 (by decide) ?_
        refine lv_isub hx hb dX8_grow_108 ?_
        refine lv_istore (lv' := [(11, .int ((x7 - x7 / (41 : Int32) * (41 : Int32)) - (12 : Int32))), (10, .int k0), (0, .ref A_t), (2, .int x2), (3, .int x3), (4, .int x4), (5, .int x5), (7, .int x7), (8, .int x8), (9, .int x9)]) hx hb dX8_grow_109 hl (by decide) rfl (fun ls hl => ?_)
        refine lv_iload hx hb dX8_grow_111 (lv_at hl 8 rfl) ?_
        refine lv_iload hx hb dX8_grow_113 (lv_at hl 9 rfl) ?_
        refine lv_icmp_eq (tgt := 167) hx hb dX8_grow_115 (by decide) (fun hc => ?_) (fun hc => ?_)
        · replace h := h.1 hc
          exact J167 t_state t_least x3 x4 x5 H locs ls h hP hD hS (lv_sub hl [2, 3, 4, 5, 6] rfl)
        · replace h := h.2 hc
          refine lv_aload_n hx hb dX8_grow_118 rfl (lv_at hl 2 rfl) ?_
          have hPc := hP.sub (ws' := [(A_t, .inr (8, [.ref A_t_state, .ref A_t_tape, .int t_taped, .int t_fault, .int t_broken, .int t_brokenAt, .int t_spot, .int t_here, .int t_token, .int t_value, .int t_isRealTold, .ref A_t_ends, .ref A_t_letters, .ref A_t_least, .ref A_t_conflicts, .int t_conflictMany, .ref A_t_behind, .ref A_t_placed, .ref A_t_isKept, .ref A_t_lanes, .ref A_t_lengths, .ref A_t_cells, .int t_torn])), (A_t_state, .inl (cy 1, 535, .inl t_state))]) [0, 1] rfl
          refine vp_callSi (W.runV (As := []) (rest := []) CF (c_X8_many l D cy A_t A_t_state A_t_tape A_t_ends A_t_letters A_t_least A_t_conflicts A_t_behind A_t_placed A_t_isKept A_t_lanes A_t_lengths A_t_cells t_taped t_fault t_broken t_brokenAt t_spot t_here t_token t_value t_isRealTold t_conflictMany t_torn t_state _ h) (cwV 0 hts gX8_grow_X8_many rfl rfl rfl qX8_many ⟨Nat.le_of_ble_eq_true rfl, Nat.le_of_ble_eq_true rfl⟩) (mpVR hK hPc (ci := 8) (q := (RX8, TX8, 23)) (q0 := 0) rfl rfl) rfl rfl hl.1 rfl (lv_room (Nat.le_of_ble_eq_true rfl)) dX8_grow_119 ⟨Nat.zero_le _, Nat.zero_le _⟩) (fun r2 h => ?_)
          refine lv_bipush (v := 24) hx hb dX8_grow_122 (by decide) ?_
          refine lv_icmp_ge (tgt := 167) hx hb dX8_grow_124 (by decide) (fun hc => ?_) (fun hc => ?_)
          · replace h := h.1 hc
            exact J167 t_state t_least x3 x4 x5 H locs ls h hP hD hS (lv_sub hl [2, 3, 4, 5, 6] rfl)
          · replace h := h.2 hc
            refine lv_aload_n hx hb dX8_grow_127 rfl (lv_at hl 2 rfl) ?_
            refine lv_iload hx hb dX8_grow_128 (lv_at hl 8 rfl) ?_
            refine lv_iload hx hb dX8_grow_130 (lv_at hl 9 rfl) ?_
            refine lv_aload_n hx hb dX8_grow_132 rfl (lv_at hl 2 rfl) ?_
            have hPc := hP.sub (ws' := [(A_t, .inr (8, [.ref A_t_state, .ref A_t_tape, .int t_taped, .int t_fault, .int t_broken, .int t_brokenAt, .int t_spot, .int t_here, .int t_token, .int t_value, .int t_isRealTold, .ref A_t_ends, .ref A_t_letters, .ref A_t_least, .ref A_t_conflicts, .int t_conflictMany, .ref A_t_behind, .ref A_t_placed, .ref A_t_isKept, .ref A_t_lanes, .ref A_t_lengths, .ref A_t_cells, .int t_torn])), (A_t_state, .inl (cy 1, 535, .inl t_state))]) [0, 1] rfl
            refine vp_callSi (W.runV (As := []) (rest := [.int x9, .int x8, .ref A_t]) CF (c_X8_isReal l D cy A_t A_t_state A_t_tape A_t_ends A_t_letters A_t_least A_t_conflicts A_t_behind A_t_placed A_t_isKept A_t_lanes A_t_lengths A_t_cells t_taped t_fault t_broken t_brokenAt t_spot t_here t_token t_value t_isRealTold t_conflictMany t_torn t_state _ h) (cwV 0 hts gX8_grow_X8_isReal rfl rfl rfl qX8_isReal ⟨Nat.le_of_ble_eq_true rfl, Nat.le_of_ble_eq_true rfl⟩) (mpVR hK hPc (ci := 8) (q := (RX8, TX8, 23)) (q0 := 0) rfl rfl) rfl rfl hl.1 rfl (lv_room (Nat.le_of_ble_eq_true rfl)) dX8_grow_133 ⟨Nat.zero_le _, Nat.zero_le _⟩) (fun r3 h => ?_)
            refine lv_iload hx hb dX8_grow_136 (lv_at hl 0 rfl) ?_
            refine lv_iload hx hb dX8_grow_138 (lv_at hl 1 rfl) ?_
            refine vp_callSl (W.runS (As := [.int r3, .int ((x7 - x7 / (41 : Int32) * (41 : Int32)) - (12 : Int32)), .int k0]) (rest := [.int x9, .int x8, .ref A_t]) CF (c_X8_weighed l r3 ((x7 - x7 / (41 : Int32) * (41 : Int32)) - (12 : Int32)) k0 _ h) (va_cwS 3 hts gX8_grow_X8_weighed rfl rfl rfl qX8_weighed.2 ⟨Nat.le_of_ble_eq_true rfl, Nat.le_of_ble_eq_true rfl⟩) mpSN rfl rfl hl.1 rfl (lv_room (Nat.le_of_ble_eq_true rfl)) dX8_grow_140 ⟨Nat.zero_le _, Nat.zero_le _⟩) (fun r4 h => ?_)
            refine lv_bipush (v := -4) hx hb dX8_grow_143 (by decide) ?_
            have hPn : va_P D vwCl ([] ++ [(A_t, .inr (8, [.ref A_t_state, .ref A_t_tape, .int t_taped, .int t_fault, .int t_broken, .int t_brokenAt, .int t_spot, .int t_here, .int t_token, .int t_value, .int t_isRealTold, .ref A_t_ends, .ref A_t_letters, .ref A_t_least, .ref A_t_conflicts, .int t_conflictMany, .ref A_t_behind, .ref A_t_placed, .ref A_t_isKept, .ref A_t_lanes, .ref A_t_lengths, .ref A_t_cells, .int t_torn])), (A_t_state, .inl (cy 1, 535, .inl t_state)), (A_t_least, .inl (cy 2, 100, .inr (.inl t_least)))]) H := hP.sub [0, 1, 2] rfl
            have hDn : va_D A ([] ++ [(A_t, .inr (8, [.ref A_t_state, .ref A_t_tape, .int t_taped, .int t_fault, .int t_broken, .int t_brokenAt, .int t_spot, .int t_here, .int t_token, .int t_value, .int t_isRealTold, .ref A_t_ends, .ref A_t_letters, .ref A_t_least, .ref A_t_conflicts, .int t_conflictMany, .ref A_t_behind, .ref A_t_placed, .ref A_t_isKept, .ref A_t_lanes, .ref A_t_lengths, .ref A_t_cells, .int t_torn])), (A_t_state, .inl (cy 1, 535, .inl t_state)), (A_t_least, .inl (cy 2, 100, .inr (.inl t_least)))]) := hD.sub [0, 1, 2] (by decide) rfl
            have hPc := gPR hPn
            have hDc := gDR hDn
            refine mw_i (va_runV (As := [.int x8, .int x9, .long r4, .int (-4 : Int32)]) (rest := []) CF (c_X8_isAllowed l D cy H.size A_t A_t_state A_t_tape A_t_ends A_t_letters A_t_least A_t_conflicts A_t_behind A_t_placed A_t_isKept A_t_lanes A_t_lengths A_t_cells t_taped t_fault t_broken t_brokenAt t_spot t_here t_token t_value t_isRealTold t_conflictMany t_torn t_state t_least x8 x9 r4 (-4 : Int32) _ h) (cwV 4 hts gX8_grow_X8_isAllowed rfl rfl rfl qX8_isAllowed ⟨Nat.le_of_ble_eq_true rfl, Nat.le_of_ble_eq_true rfl⟩) (mpVW hK hPc hDc (ci := 8) (q := (RX8, TX8, 23)) (q0 := 0) rfl rfl) rfl rfl hl.1 rfl (lv_room (Nat.le_of_ble_eq_true rfl)) dX8_grow_145 ⟨Nat.zero_le _, Nat.zero_le _⟩) hPn hDn hS hA (fun r5 t_least_v5 H locs h hP hD hS => ?_)
            have hP : va_P D vwCl [(A_t, .inr (8, [.ref A_t_state, .ref A_t_tape, .int t_taped, .int t_fault, .int t_broken, .int t_brokenAt, .int t_spot, .int t_here, .int t_token, .int t_value, .int t_isRealTold, .ref A_t_ends, .ref A_t_letters, .ref A_t_least, .ref A_t_conflicts, .int t_conflictMany, .ref A_t_behind, .ref A_t_placed, .ref A_t_isKept, .ref A_t_lanes, .ref A_t_lengths, .ref A_t_cells, .int t_torn])), (A_t_state, .inl (cy 1, 535, .inl t_state)), (A_t_least, .inl (cy 2, 100, .inr (.inl t_least_v5)))] H := hP.sub [0, 1, 2] rfl
            have hD : va_D A [(A_t, .inr (8, [.ref A_t_state, .ref A_t_tape, .int t_taped, .int t_fault, .int t_broken, .int t_brokenAt, .int t_spot, .int t_here, .int t_token, .int t_value, .int t_isRealTold, .ref A_t_ends, .ref A_t_letters, .ref A_t_least, .ref A_t_conflicts, .int t_conflictMany, .ref A_t_behind, .ref A_t_placed, .ref A_t_isKept, .ref A_t_lanes, .ref A_t_lengths, .ref A_t_cells, .int t_torn])), (A_t_state, .inl (cy 1, 535, .inl t_state)), (A_t_least, .inl (cy 2, 100, .inr (.inl t_least_v5)))] := hD.sub [0, 1, 2] (by decide) rfl
            refine lv_if_eq (tgt := 167) hx hb dX8_grow_148 (by decide) (fun hc => ?_) (fun hc => ?_)
            · replace h := h.1 hc
              exact J167 t_state t_least_v5 x3 x4 x5 H locs ls h hP hD hS (lv_sub hl [2, 3, 4, 5, 6] rfl)
            · replace h := h.2 hc
              refine lv_aload_n hx hb dX8_grow_151 rfl (lv_at hl 2 rfl) ?_
              refine lv_iconst (v := 0) hx hb dX8_grow_152 (by decide) ?_
              refine lv_iload hx hb dX8_grow_153 (lv_at hl 8 rfl) ?_
              refine lv_iload hx hb dX8_grow_155 (lv_at hl 9 rfl) ?_
              refine lv_iload hx hb dX8_grow_157 (lv_at hl 0 rfl) ?_
              refine lv_iload hx hb dX8_grow_159 (lv_at hl 1 rfl) ?_
              have hPn : va_P D vwCl ([(A_t_least, .inl (cy 2, 100, .inr (.inl t_least_v5)))] ++ [(A_t, .inr (8, [.ref A_t_state, .ref A_t_tape, .int t_taped, .int t_fault, .int t_broken, .int t_brokenAt, .int t_spot, .int t_here, .int t_token, .int t_value, .int t_isRealTold, .ref A_t_ends, .ref A_t_letters, .ref A_t_least, .ref A_t_conflicts, .int t_conflictMany, .ref A_t_behind, .ref A_t_placed, .ref A_t_isKept, .ref A_t_lanes, .ref A_t_lengths, .ref A_t_cells, .int t_torn])), (A_t_state, .inl (cy 1, 535, .inl t_state))]) H := hP.sub [2, 0, 1] rfl
              have hDn : va_D A ([(A_t_least, .inl (cy 2, 100, .inr (.inl t_least_v5)))] ++ [(A_t, .inr (8, [.ref A_t_state, .ref A_t_tape, .int t_taped, .int t_fault, .int t_broken, .int t_brokenAt, .int t_spot, .int t_here, .int t_token, .int t_value, .int t_isRealTold, .ref A_t_ends, .ref A_t_letters, .ref A_t_least, .ref A_t_conflicts, .int t_conflictMany, .ref A_t_behind, .ref A_t_placed, .ref A_t_isKept, .ref A_t_lanes, .ref A_t_lengths, .ref A_t_cells, .int t_torn])), (A_t_state, .inl (cy 1, 535, .inl t_state))]) := hD.sub [2, 0, 1] (by decide) rfl
              have hPc := gPR hPn
              have hDc := gDR hDn
              refine mw_v (va_runV (As := [.int (0 : Int32), .int x8, .int x9, .int ((x7 - x7 / (41 : Int32) * (41 : Int32)) - (12 : Int32)), .int k0]) (rest := []) CF (c_X8_puts l D cy H.size A_t A_t_state A_t_tape A_t_ends A_t_letters A_t_least A_t_conflicts A_t_behind A_t_placed A_t_isKept A_t_lanes A_t_lengths A_t_cells t_taped t_fault t_broken t_brokenAt t_spot t_here t_token t_value t_isRealTold t_conflictMany t_torn t_state (0 : Int32) x8 x9 ((x7 - x7 / (41 : Int32) * (41 : Int32)) - (12 : Int32)) k0 _ h) (cwV 5 hts gX8_grow_X8_puts rfl rfl rfl qX8_puts ⟨Nat.le_of_ble_eq_true rfl, Nat.le_of_ble_eq_true rfl⟩) (mpVW hK hPc hDc (ci := 8) (q := (RX8, TX8, 23)) (q0 := 0) rfl rfl) rfl rfl hl.1 rfl (lv_room (Nat.le_of_ble_eq_true rfl)) dX8_grow_161 ⟨Nat.zero_le _, Nat.zero_le _⟩) hPn hDn hS hA (fun t_state_v6 H locs h hP hD hS => ?_)
              have hP : va_P D vwCl [(A_t, .inr (8, [.ref A_t_state, .ref A_t_tape, .int t_taped, .int t_fault, .int t_broken, .int t_brokenAt, .int t_spot, .int t_here, .int t_token, .int t_value, .int t_isRealTold, .ref A_t_ends, .ref A_t_letters, .ref A_t_least, .ref A_t_conflicts, .int t_conflictMany, .ref A_t_behind, .ref A_t_placed, .ref A_t_isKept, .ref A_t_lanes, .ref A_t_lengths, .ref A_t_cells, .int t_torn])), (A_t_state, .inl (cy 1, 535, .inl t_state_v6)), (A_t_least, .inl (cy 2, 100, .inr (.inl t_least_v5)))] H := hP.sub [1, 2, 0] rfl
              have hD : va_D A [(A_t, .inr (8, [.ref A_t_state, .ref A_t_tape, .int t_taped, .int t_fault, .int t_broken, .int t_brokenAt, .int t_spot, .int t_here, .int t_token, .int t_value, .int t_isRealTold, .ref A_t_ends, .ref A_t_letters, .ref A_t_least, .ref A_t_conflicts, .int t_conflictMany, .ref A_t_behind, .ref A_t_placed, .ref A_t_isKept, .ref A_t_lanes, .ref A_t_lengths, .ref A_t_cells, .int t_torn])), (A_t_state, .inl (cy 1, 535, .inl t_state_v6)), (A_t_least, .inl (cy 2, 100, .inr (.inl t_least_v5)))] := hD.sub [1, 2, 0] (by decide) rfl
              refine lv_iinc (v := x4 + (1 : Int32)) (lv' := [(4, .int (x4 + (1 : Int32))), (11, .int ((x7 - x7 / (41 : Int32) * (41 : Int32)) - (12 : Int32))), (10, .int k0), (0, .ref A_t), (2, .int x2), (3, .int x3), (5, .int x5), (7, .int x7), (8, .int x8), (9, .int x9)]) hx hb dX8_grow_164 hl (k := 5) rfl rfl (by decide) rfl (fun ls hl => ?_)
              exact J167 t_state_v6 t_least_v5 x3 (x4 + (1 : Int32)) x5 H locs ls h hP hD hS (lv_sub hl [3, 4, 5, 0, 6] rfl)
      refine lv_iload hx hb dX8_grow_22 (lv_at hl 4 rfl) ?_
      refine lv_iload_n hx hb dX8_grow_24 rfl (lv_at hl 1 rfl) ?_
      refine lv_icmp_ge (tgt := 173) hx hb dX8_grow_25 (by decide) (fun hc => ?_) (fun hc => ?_)
      · replace h := h.1 hc
        refine lv_iload hx hb dX8_grow_173 (lv_at hl 3 rfl) ?_
        subst hQ
        subst hAe
        exact W.iret (v := x4) hx hb hr (fun t ht _ => ⟨⟨x4, (t_state, t_least), rfl, h, by rw [ht]; exact hP, hD⟩, hS.F ht⟩) hS.2.2 dX8_grow_175
      · replace h := h.2 hc
        refine lv_iload_n hx hb dX8_grow_28 rfl (lv_at hl 2 rfl) ?_
        refine lv_ldc (v := 1103515245) hx hb hown f1 dX8_grow_29 ?_
        refine lv_imul hx hb dX8_grow_31 ?_
        refine lv_sipush (v := 12345) hx hb dX8_grow_32 (by decide) ?_
        refine lv_iadd hx hb dX8_grow_35 ?_
        refine lv_istore_n (lv' := [(3, .int ((x3 * (1103515245 : Int32)) + (12345 : Int32))), (0, .ref A_t), (2, .int x2), (4, .int x4), (5, .int x5)]) hx hb dX8_grow_36 rfl hl (by decide) rfl (fun ls hl => ?_)
        refine lv_iload_n hx hb dX8_grow_37 rfl (lv_at hl 0 rfl) ?_
        refine lv_bipush (v := 16) hx hb dX8_grow_38 (by decide) ?_
        refine lv_ishr hx hb dX8_grow_40 ?_
        refine lv_sipush (v := 32767) hx hb dX8_grow_41 (by decide) ?_
        refine lv_iand hx hb dX8_grow_44 ?_
        refine lv_istore (lv' := [(6, .int ((((x3 * (1103515245 : Int32)) + (12345 : Int32)) >>> ((16 : Int32) &&& 31)) &&& (32767 : Int32))), (3, .int ((x3 * (1103515245 : Int32)) + (12345 : Int32))), (0, .ref A_t), (2, .int x2), (4, .int x4), (5, .int x5)]) hx hb dX8_grow_45 hl (by decide) rfl (fun ls hl => ?_)
        refine lv_iload_n hx hb dX8_grow_47 rfl (lv_at hl 1 rfl) ?_
        refine lv_ldc (v := 1103515245) hx hb hown f1 dX8_grow_48 ?_
        refine lv_imul hx hb dX8_grow_50 ?_
        refine lv_sipush (v := 12345) hx hb dX8_grow_51 (by decide) ?_
        refine lv_iadd hx hb dX8_grow_54 ?_
        refine lv_istore_n (lv' := [(3, .int ((((x3 * (1103515245 : Int32)) + (12345 : Int32)) * (1103515245 : Int32)) + (12345 : Int32))), (6, .int ((((x3 * (1103515245 : Int32)) + (12345 : Int32)) >>> ((16 : Int32) &&& 31)) &&& (32767 : Int32))), (0, .ref A_t), (2, .int x2), (4, .int x4), (5, .int x5)]) hx hb dX8_grow_55 rfl hl (by decide) rfl (fun ls hl => ?_)
        refine lv_iload_n hx hb dX8_grow_56 rfl (lv_at hl 0 rfl) ?_
        refine lv_bipush (v := 16) hx hb dX8_grow_57 (by decide) ?_
        refine lv_ishr hx hb dX8_grow_59 ?_
        refine lv_sipush (v := 32767) hx hb dX8_grow_60 (by decide) ?_
        refine lv_iand hx hb dX8_grow_63 ?_
        refine lv_istore (lv' := [(7, .int ((((((x3 * (1103515245 : Int32)) + (12345 : Int32)) * (1103515245 : Int32)) + (12345 : Int32)) >>> ((16 : Int32) &&& 31)) &&& (32767 : Int32))), (3, .int ((((x3 * (1103515245 : Int32)) + (12345 : Int32)) * (1103515245 : Int32)) + (12345 : Int32))), (6, .int ((((x3 * (1103515245 : Int32)) + (12345 : Int32)) >>> ((16 : Int32) &&& 31)) &&& (32767 : Int32))), (0, .ref A_t), (2, .int x2), (4, .int x4), (5, .int x5)]) hx hb dX8_grow_64 hl (by decide) rfl (fun ls hl => ?_)
        refine lv_iload hx hb dX8_grow_66 (lv_at hl 2 rfl) ?_
        refine lv_bipush (v := 10) hx hb dX8_grow_68 (by decide) ?_
        refine lv_irem hx hb dX8_grow_70 (by decide) ?_
        refine lv_istore (lv' := [(8, .int (((((x3 * (1103515245 : Int32)) + (12345 : Int32)) >>> ((16 : Int32) &&& 31)) &&& (32767 : Int32)) - ((((x3 * (1103515245 : Int32)) + (12345 : Int32)) >>> ((16 : Int32) &&& 31)) &&& (32767 : Int32)) / (10 : Int32) * (10 : Int32))), (7, .int ((((((x3 * (1103515245 : Int32)) + (12345 : Int32)) * (1103515245 : Int32)) + (12345 : Int32)) >>> ((16 : Int32) &&& 31)) &&& (32767 : Int32))), (3, .int ((((x3 * (1103515245 : Int32)) + (12345 : Int32)) * (1103515245 : Int32)) + (12345 : Int32))), (6, .int ((((x3 * (1103515245 : Int32)) + (12345 : Int32)) >>> ((16 : Int32) &&& 31)) &&& (32767 : Int32))), (0, .ref A_t), (2, .int x2), (4, .int x4), (5, .int x5)]) hx hb dX8_grow_71 hl (by decide) rfl (fun ls hl => ?_)
        refine lv_iload hx hb dX8_grow_73 (lv_at hl 3 rfl) ?_
        refine lv_bipush (v := 16) hx hb dX8_grow_75 (by decide) ?_
        refine lv_idiv hx hb dX8_grow_77 (by decide) ?_
        refine lv_bipush (v := 10) hx hb dX8_grow_78 (by decide) ?_
        refine lv_irem hx hb dX8_grow_80 (by decide) ?_
        refine lv_istore (lv' := [(9, .int ((((((x3 * (1103515245 : Int32)) + (12345 : Int32)) >>> ((16 : Int32) &&& 31)) &&& (32767 : Int32)) / (16 : Int32)) - (((((x3 * (1103515245 : Int32)) + (12345 : Int32)) >>> ((16 : Int32) &&& 31)) &&& (32767 : Int32)) / (16 : Int32)) / (10 : Int32) * (10 : Int32))), (8, .int (((((x3 * (1103515245 : Int32)) + (12345 : Int32)) >>> ((16 : Int32) &&& 31)) &&& (32767 : Int32)) - ((((x3 * (1103515245 : Int32)) + (12345 : Int32)) >>> ((16 : Int32) &&& 31)) &&& (32767 : Int32)) / (10 : Int32) * (10 : Int32))), (7, .int ((((((x3 * (1103515245 : Int32)) + (12345 : Int32)) * (1103515245 : Int32)) + (12345 : Int32)) >>> ((16 : Int32) &&& 31)) &&& (32767 : Int32))), (3, .int ((((x3 * (1103515245 : Int32)) + (12345 : Int32)) * (1103515245 : Int32)) + (12345 : Int32))), (6, .int ((((x3 * (1103515245 : Int32)) + (12345 : Int32)) >>> ((16 : Int32) &&& 31)) &&& (32767 : Int32))), (0, .ref A_t), (2, .int x2), (4, .int x4), (5, .int x5)]) hx hb dX8_grow_81 hl (by decide) rfl (fun ls hl => ?_)
        refine lv_iload hx hb dX8_grow_83 (lv_at hl 4 rfl) ?_
        refine lv_sipush (v := 256) hx hb dX8_grow_85 (by decide) ?_
        refine lv_idiv hx hb dX8_grow_88 (by decide) ?_
        refine lv_iconst (v := 4) hx hb dX8_grow_89 (by decide) ?_
        refine lv_irem hx hb dX8_grow_90 (by decide) ?_
        refine lv_if_ne (tgt := 98) hx hb dX8_grow_91 (by decide) (fun hc => ?_) (fun hc => ?_)
        · replace h := h.1 hc
          refine lv_iconst (v := 0) hx hb dX8_grow_98 (by decide) ?_
          exact J99 t_state t_least ((((x3 * (1103515245 : Int32)) + (12345 : Int32)) * (1103515245 : Int32)) + (12345 : Int32)) x4 x5 ((((((x3 * (1103515245 : Int32)) + (12345 : Int32)) * (1103515245 : Int32)) + (12345 : Int32)) >>> ((16 : Int32) &&& 31)) &&& (32767 : Int32)) (((((x3 * (1103515245 : Int32)) + (12345 : Int32)) >>> ((16 : Int32) &&& 31)) &&& (32767 : Int32)) - ((((x3 * (1103515245 : Int32)) + (12345 : Int32)) >>> ((16 : Int32) &&& 31)) &&& (32767 : Int32)) / (10 : Int32) * (10 : Int32)) ((((((x3 * (1103515245 : Int32)) + (12345 : Int32)) >>> ((16 : Int32) &&& 31)) &&& (32767 : Int32)) / (16 : Int32)) - (((((x3 * (1103515245 : Int32)) + (12345 : Int32)) >>> ((16 : Int32) &&& 31)) &&& (32767 : Int32)) / (16 : Int32)) / (10 : Int32) * (10 : Int32)) (0 : Int32) H locs ls h hP hD hS (lv_sub hl [5, 6, 3, 7, 8, 2, 1, 0] rfl)
        · replace h := h.2 hc
          refine lv_iconst (v := 1) hx hb dX8_grow_94 (by decide) ?_
          refine lv_goto (tgt := 99) hx hb dX8_grow_95 (by decide) ?_
          exact J99 t_state t_least ((((x3 * (1103515245 : Int32)) + (12345 : Int32)) * (1103515245 : Int32)) + (12345 : Int32)) x4 x5 ((((((x3 * (1103515245 : Int32)) + (12345 : Int32)) * (1103515245 : Int32)) + (12345 : Int32)) >>> ((16 : Int32) &&& 31)) &&& (32767 : Int32)) (((((x3 * (1103515245 : Int32)) + (12345 : Int32)) >>> ((16 : Int32) &&& 31)) &&& (32767 : Int32)) - ((((x3 * (1103515245 : Int32)) + (12345 : Int32)) >>> ((16 : Int32) &&& 31)) &&& (32767 : Int32)) / (10 : Int32) * (10 : Int32)) ((((((x3 * (1103515245 : Int32)) + (12345 : Int32)) >>> ((16 : Int32) &&& 31)) &&& (32767 : Int32)) / (16 : Int32)) - (((((x3 * (1103515245 : Int32)) + (12345 : Int32)) >>> ((16 : Int32) &&& 31)) &&& (32767 : Int32)) / (16 : Int32)) / (10 : Int32) * (10 : Int32)) (1 : Int32) H locs ls h hP hD hS (lv_sub hl [5, 6, 3, 7, 8, 2, 1, 0] rfl)
  unfold P_X8_grow at h
  refine lv_iload_n hx hb dX8_grow_0 rfl (lv_at hl 2 rfl) ?_
  refine lv_i2l (v := x2.toInt64) hx hb dX8_grow_1 rfl ?_
  refine lv_lconst (v := 1) hx hb dX8_grow_2 (by decide) ?_
  refine lv_ldc2 (v := 20) hx hb hown f0 dX8_grow_3 ?_
  refine vp_callSi (W.runS (As := [.long x2.toInt64, .long (1 : Int64), .long (20 : Int64)]) (rest := []) CF (c_X8_in l x2.toInt64 (1 : Int64) (20 : Int64) _ h) (va_cwS 3 hts gX8_grow_X8_in rfl rfl rfl qX8_in.2 ⟨Nat.le_of_ble_eq_true rfl, Nat.le_of_ble_eq_true rfl⟩) mpSN rfl rfl hl.1 rfl (lv_room (Nat.le_of_ble_eq_true rfl)) dX8_grow_6 ⟨Nat.zero_le _, Nat.zero_le _⟩) (fun r1 h => ?_)
  refine lv_if_ne (tgt := 14) hx hb dX8_grow_9 (by decide) (fun hc => ?_) (fun hc => ?_)
  · replace h := h.1 hc
    refine lv_iload_n hx hb dX8_grow_14 rfl (lv_at hl 1 rfl) ?_
    refine lv_istore_n (lv' := [(3, .int x1), (0, .ref A_t), (1, .int x1), (2, .int x2)]) hx hb dX8_grow_15 rfl hl (by decide) rfl (fun ls hl => ?_)
    refine lv_iconst (v := 0) hx hb dX8_grow_16 (by decide) ?_
    refine lv_istore (lv' := [(4, .int (0 : Int32)), (3, .int x1), (0, .ref A_t), (1, .int x1), (2, .int x2)]) hx hb dX8_grow_17 hl (by decide) rfl (fun ls hl => ?_)
    refine lv_iconst (v := 0) hx hb dX8_grow_19 (by decide) ?_
    refine lv_istore (lv' := [(5, .int (0 : Int32)), (4, .int (0 : Int32)), (3, .int x1), (0, .ref A_t), (1, .int x1), (2, .int x2)]) hx hb dX8_grow_20 hl (by decide) rfl (fun ls hl => ?_)
    obtain ⟨nn, h⟩ := h
    exact L22 nn t_state t_least x1 (0 : Int32) (0 : Int32) s.heap [] ls h hP hD hS (lv_sub hl [3, 5, 2, 1, 0] rfl)
  · replace h := h.2 hc
    refine lv_iconst (v := -1) hx hb dX8_grow_12 (by decide) ?_
    subst hQ
    subst hAe
    exact W.iret (v := (-1 : Int32)) hx hb hr (fun t ht _ => ⟨⟨(-1 : Int32), (t_state, t_least), rfl, h, by rw [ht]; exact hP, hD⟩, hS.F ht⟩) hS.2.2 dX8_grow_13
theorem qX8_keep : yX8_keep.cls = RX8 ∧ yX8_keep.cls ≠ "java/lang/invoke/MethodHandle" ∧ yX8_keep.cls ≠ "java/lang/invoke/VarHandle" ∧ (parseMethodDescriptor yX8_keep.desc).map (fun d => d.parameters.length) = some 1 := by decide +kernel
def B_X8_keep_26 (post : Int32 → (Nat → Int32) → (Nat → Int32) → Prop) (t_isKept : Nat → Int32) (t_state : Nat → Int32) (k0 : Int32) (x1 : Int32) : Prop :=
  P_X8_copies (fun (t_state_v2 : Nat → Int32) => (vp_in x1 2 ∧ post k0 (upd t_isKept x1.toNatClampNeg (vp_nar .boolean (1 : Int32))) t_state_v2)) t_state (0 : Int32) (((107 : Int32) * x1) + (107 : Int32))
def P_X8_keep (post : Int32 → (Nat → Int32) → (Nat → Int32) → Prop) (t_isKept : Nat → Int32) (t_state : Nat → Int32) (x1 : Int32) : Prop :=
  P_X8_in (fun (r1 : Int32) => ((¬ r1 = 0 → (vp_in x1 2 ∧ ((t_isKept x1.toNatClampNeg = 0 → B_X8_keep_26 post t_isKept t_state (0 : Int32) x1) ∧ (¬ t_isKept x1.toNatClampNeg = 0 → B_X8_keep_26 post t_isKept t_state (1 : Int32) x1)))) ∧ (r1 = 0 → post (-1 : Int32) t_isKept t_state))) x1.toInt64 (0 : Int64) (1 : Int64)
set_option maxHeartbeats 4000000 in
set_option maxRecDepth 100000 in
theorem c_X8_keep (l : Launch) (D : va_G) (cy : Nat → ClassId) (sz : Nat) (A_t A_t_state A_t_tape A_t_ends A_t_letters A_t_least A_t_conflicts A_t_behind A_t_placed A_t_isKept A_t_lanes A_t_lengths A_t_cells : Nat) (t_taped : Int32) (t_fault : Int32) (t_broken : Int32) (t_brokenAt : Int32) (t_spot : Int32) (t_here : Int32) (t_token : Int32) (t_value : Int32) (t_isRealTold : Int32) (t_conflictMany : Int32) (t_torn : Int32) (t_isKept : Nat → Int32) (t_state : Nat → Int32) (x1 : Int32) (post : Int32 → (Nat → Int32) → (Nat → Int32) → Prop) (h : P_X8_keep post t_isKept t_state x1) : Met l yX8_keep wsX8_keep { frames := 1, cells := 0, slots := 0, locals := 25 } (pcW D cy [(A_t, .inr (8, [.ref A_t_state, .ref A_t_tape, .int t_taped, .int t_fault, .int t_broken, .int t_brokenAt, .int t_spot, .int t_here, .int t_token, .int t_value, .int t_isRealTold, .ref A_t_ends, .ref A_t_letters, .ref A_t_least, .ref A_t_conflicts, .int t_conflictMany, .ref A_t_behind, .ref A_t_placed, .ref A_t_isKept, .ref A_t_lanes, .ref A_t_lengths, .ref A_t_cells, .int t_torn])), (A_t_isKept, .inl (cy 3, 2, .inl t_isKept)), (A_t_state, .inl (cy 1, 535, .inl t_state))] sz [.ref A_t, .int x1]) (va_Qi (fun r (u : (Nat → Int32) × (Nat → Int32)) => post r u.1 u.2) (bW D [(A_t, .inr (8, [.ref A_t_state, .ref A_t_tape, .int t_taped, .int t_fault, .int t_broken, .int t_brokenAt, .int t_spot, .int t_here, .int t_token, .int t_value, .int t_isRealTold, .ref A_t_ends, .ref A_t_letters, .ref A_t_least, .ref A_t_conflicts, .int t_conflictMany, .ref A_t_behind, .ref A_t_placed, .ref A_t_isKept, .ref A_t_lanes, .ref A_t_lengths, .ref A_t_cells, .int t_torn])), (A_t_isKept, .inl (cy 3, 2, .inl t_isKept)), (A_t_state, .inl (cy 1, 535, .inl t_state))] sz (fun u => [(A_t, .inr (8, [.ref A_t_state, .ref A_t_tape, .int t_taped, .int t_fault, .int t_broken, .int t_brokenAt, .int t_spot, .int t_here, .int t_token, .int t_value, .int t_isRealTold, .ref A_t_ends, .ref A_t_letters, .ref A_t_least, .ref A_t_conflicts, .int t_conflictMany, .ref A_t_behind, .ref A_t_placed, .ref A_t_isKept, .ref A_t_lanes, .ref A_t_lengths, .ref A_t_cells, .int t_torn])), (A_t_isKept, .inl (cy 3, 2, .inl u.1)), (A_t_state, .inl (cy 1, 535, .inl u.2))])) (va_A [(A_t, .inr (8, [.ref A_t_state, .ref A_t_tape, .int t_taped, .int t_fault, .int t_broken, .int t_brokenAt, .int t_spot, .int t_here, .int t_token, .int t_value, .int t_isRealTold, .ref A_t_ends, .ref A_t_letters, .ref A_t_least, .ref A_t_conflicts, .int t_conflictMany, .ref A_t_behind, .ref A_t_placed, .ref A_t_isKept, .ref A_t_lanes, .ref A_t_lengths, .ref A_t_cells, .int t_torn])), (A_t_isKept, .inl (cy 3, 2, .inl t_isKept)), (A_t_state, .inl (cy 1, 535, .inl t_state))] sz)) 0 0 (va_A [(A_t, .inr (8, [.ref A_t_state, .ref A_t_tape, .int t_taped, .int t_fault, .int t_broken, .int t_brokenAt, .int t_spot, .int t_here, .int t_token, .int t_value, .int t_isRealTold, .ref A_t_ends, .ref A_t_letters, .ref A_t_least, .ref A_t_conflicts, .int t_conflictMany, .ref A_t_behind, .ref A_t_placed, .ref A_t_isKept, .ref A_t_lanes, .ref A_t_lengths, .ref A_t_cells, .int t_torn])), (A_t_isKept, .inl (cy 3, 2, .inl t_isKept)), (A_t_state, .inl (cy 1, 535, .inl t_state))] sz) := by
  refine Met.ofW (cc := cX8_keep) (maxL := 3) (ret := (some .int)) (by decide) rfl ?_
  intro p e s m args below meth c s₁ B hml hv
  obtain ⟨rfl, hsz, hP, hK, hD0⟩ := hv
  have hx := B.exec
  have hb := B.bytes
  have hr := B.returns
  have hts := atoms_spec (ws := wsX8_keep) B.pre
  have hown : s.vm.findClass RX8 = some m.cls := findClass_of_methodNamed B.named
  have hlocks := B.notSynchronized
  have CF : CallFix p m c cX8_keep 3 s ([.ref A_t, .int x1] : List Value).toArray wsX8_keep RX8 := ⟨hx, hb, hml, hown, hts⟩
  have f0 := hts (.fieldLink RX8 35 "GapBoundsModel" "isKept" "[Z") (by decide +kernel)
  have iX8 : ∀ w ∈ u_ws RX8 TX8 23, w ∈ wsX8_keep := by decide +kernel
  subst hsz
  obtain ⟨A, hAe⟩ : ∃ A, A = va_A [(A_t, .inr (8, [.ref A_t_state, .ref A_t_tape, .int t_taped, .int t_fault, .int t_broken, .int t_brokenAt, .int t_spot, .int t_here, .int t_token, .int t_value, .int t_isRealTold, .ref A_t_ends, .ref A_t_letters, .ref A_t_least, .ref A_t_conflicts, .int t_conflictMany, .ref A_t_behind, .ref A_t_placed, .ref A_t_isKept, .ref A_t_lanes, .ref A_t_lengths, .ref A_t_cells, .int t_torn])), (A_t_isKept, .inl (cy 3, 2, .inl t_isKept)), (A_t_state, .inl (cy 1, 535, .inl t_state))] s.heap.size := ⟨_, rfl⟩
  have hD : va_D A [(A_t, .inr (8, [.ref A_t_state, .ref A_t_tape, .int t_taped, .int t_fault, .int t_broken, .int t_brokenAt, .int t_spot, .int t_here, .int t_token, .int t_value, .int t_isRealTold, .ref A_t_ends, .ref A_t_letters, .ref A_t_least, .ref A_t_conflicts, .int t_conflictMany, .ref A_t_behind, .ref A_t_placed, .ref A_t_isKept, .ref A_t_lanes, .ref A_t_lengths, .ref A_t_cells, .int t_torn])), (A_t_isKept, .inl (cy 3, 2, .inl t_isKept)), (A_t_state, .inl (cy 1, 535, .inl t_state))] := by rw [hAe]; exact hD0.self
  have hA : ∀ q : Nat, s.heap.size ≤ q → A q := fun q hq => by rw [hAe]; exact Or.inr hq
  have hS : va_S A s.heap s.heap [] := va_S.rf
  have hl := lv_entry [.ref A_t, .int x1] (n := 3) (Nat.le_of_ble_eq_true rfl)
  rw [lg_entry_eq]
  generalize (lg_sl [.ref A_t, .int x1] ++ List.replicate (3 - (lg_sl [.ref A_t, .int x1]).length) Slot.unset).toArray = ls at hl ⊢
  have hl : lv_has ls 3 [(0, .ref A_t), (1, .int x1)] := hl
  refine W.gen (fun Q0 hQ => ?_)
  have J26 : ∀ (t_isKept : Nat → Int32) (t_state : Nat → Int32) (k0 : Int32) (H : Heap) (locs : List Loc) (ls : Array Slot), B_X8_keep_26 post t_isKept t_state k0 x1 → va_P D vwCl [(A_t, .inr (8, [.ref A_t_state, .ref A_t_tape, .int t_taped, .int t_fault, .int t_broken, .int t_brokenAt, .int t_spot, .int t_here, .int t_token, .int t_value, .int t_isRealTold, .ref A_t_ends, .ref A_t_letters, .ref A_t_least, .ref A_t_conflicts, .int t_conflictMany, .ref A_t_behind, .ref A_t_placed, .ref A_t_isKept, .ref A_t_lanes, .ref A_t_lengths, .ref A_t_cells, .int t_torn])), (A_t_isKept, .inl (cy 3, 2, .inl t_isKept)), (A_t_state, .inl (cy 1, 535, .inl t_state))] H → va_D A [(A_t, .inr (8, [.ref A_t_state, .ref A_t_tape, .int t_taped, .int t_fault, .int t_broken, .int t_brokenAt, .int t_spot, .int t_here, .int t_token, .int t_value, .int t_isRealTold, .ref A_t_ends, .ref A_t_letters, .ref A_t_least, .ref A_t_conflicts, .int t_conflictMany, .ref A_t_behind, .ref A_t_placed, .ref A_t_isKept, .ref A_t_lanes, .ref A_t_lengths, .ref A_t_cells, .int t_torn])), (A_t_isKept, .inl (cy 3, 2, .inl t_isKept)), (A_t_state, .inl (cy 1, 535, .inl t_state))] → va_S A s.heap H locs → lv_has ls 3 [(0, .ref A_t), (1, .int x1)] → W p l e (headSpec wsX8_keep { frames := 1, cells := 0, slots := 0, locals := 25 }).room s m ([.ref A_t, .int x1] : List Value).toArray below meth c H locs 0 0 Q0 (F0 m 26 ls [.int k0]) := by
    intro t_isKept t_state k0 H locs ls h hP hD hS hl
    unfold B_X8_keep_26 at h
    refine lv_istore_n (lv' := [(2, .int k0), (0, .ref A_t), (1, .int x1)]) hx hb dX8_keep_26 rfl hl (by decide) rfl (fun ls hl => ?_)
    refine lv_aload_n hx hb dX8_keep_27 rfl (lv_at hl 1 rfl) ?_
    refine lv_iconst (v := 0) hx hb dX8_keep_28 (by decide) ?_
    refine lv_bipush (v := 107) hx hb dX8_keep_29 (by decide) ?_
    refine lv_iload_n hx hb dX8_keep_31 rfl (lv_at hl 2 rfl) ?_
    refine lv_imul hx hb dX8_keep_32 ?_
    refine lv_bipush (v := 107) hx hb dX8_keep_33 (by decide) ?_
    refine lv_iadd hx hb dX8_keep_35 ?_
    have hPn : va_P D vwCl ([(A_t_isKept, .inl (cy 3, 2, .inl t_isKept))] ++ [(A_t, .inr (8, [.ref A_t_state, .ref A_t_tape, .int t_taped, .int t_fault, .int t_broken, .int t_brokenAt, .int t_spot, .int t_here, .int t_token, .int t_value, .int t_isRealTold, .ref A_t_ends, .ref A_t_letters, .ref A_t_least, .ref A_t_conflicts, .int t_conflictMany, .ref A_t_behind, .ref A_t_placed, .ref A_t_isKept, .ref A_t_lanes, .ref A_t_lengths, .ref A_t_cells, .int t_torn])), (A_t_state, .inl (cy 1, 535, .inl t_state))]) H := hP.sub [1, 0, 2] rfl
    have hDn : va_D A ([(A_t_isKept, .inl (cy 3, 2, .inl t_isKept))] ++ [(A_t, .inr (8, [.ref A_t_state, .ref A_t_tape, .int t_taped, .int t_fault, .int t_broken, .int t_brokenAt, .int t_spot, .int t_here, .int t_token, .int t_value, .int t_isRealTold, .ref A_t_ends, .ref A_t_letters, .ref A_t_least, .ref A_t_conflicts, .int t_conflictMany, .ref A_t_behind, .ref A_t_placed, .ref A_t_isKept, .ref A_t_lanes, .ref A_t_lengths, .ref A_t_cells, .int t_torn])), (A_t_state, .inl (cy 1, 535, .inl t_state))]) := hD.sub [1, 0, 2] (by decide) rfl
    have hPc := gPR hPn
    have hDc := gDR hDn
    refine mw_v (va_runV (As := [.int (0 : Int32), .int (((107 : Int32) * x1) + (107 : Int32))]) (rest := []) CF (c_X8_copies l D cy H.size A_t A_t_state A_t_tape A_t_ends A_t_letters A_t_least A_t_conflicts A_t_behind A_t_placed A_t_isKept A_t_lanes A_t_lengths A_t_cells t_taped t_fault t_broken t_brokenAt t_spot t_here t_token t_value t_isRealTold t_conflictMany t_torn t_state (0 : Int32) (((107 : Int32) * x1) + (107 : Int32)) _ h) (cwV 2 hts gX8_keep_X8_copies rfl rfl rfl qX8_copies ⟨Nat.le_of_ble_eq_true rfl, Nat.le_of_ble_eq_true rfl⟩) (mpVW hK hPc hDc (ci := 8) (q := (RX8, TX8, 23)) (q0 := 0) rfl rfl) rfl rfl hl.1 rfl (lv_room (Nat.le_of_ble_eq_true rfl)) dX8_keep_36 ⟨Nat.zero_le _, Nat.zero_le _⟩) hPn hDn hS hA (fun t_state_v2 H locs h hP hD hS => ?_)
    have hP : va_P D vwCl [(A_t, .inr (8, [.ref A_t_state, .ref A_t_tape, .int t_taped, .int t_fault, .int t_broken, .int t_brokenAt, .int t_spot, .int t_here, .int t_token, .int t_value, .int t_isRealTold, .ref A_t_ends, .ref A_t_letters, .ref A_t_least, .ref A_t_conflicts, .int t_conflictMany, .ref A_t_behind, .ref A_t_placed, .ref A_t_isKept, .ref A_t_lanes, .ref A_t_lengths, .ref A_t_cells, .int t_torn])), (A_t_isKept, .inl (cy 3, 2, .inl t_isKept)), (A_t_state, .inl (cy 1, 535, .inl t_state_v2))] H := hP.sub [1, 0, 2] rfl
    have hD : va_D A [(A_t, .inr (8, [.ref A_t_state, .ref A_t_tape, .int t_taped, .int t_fault, .int t_broken, .int t_brokenAt, .int t_spot, .int t_here, .int t_token, .int t_value, .int t_isRealTold, .ref A_t_ends, .ref A_t_letters, .ref A_t_least, .ref A_t_conflicts, .int t_conflictMany, .ref A_t_behind, .ref A_t_placed, .ref A_t_isKept, .ref A_t_lanes, .ref A_t_lengths, .ref A_t_cells, .int t_torn])), (A_t_isKept, .inl (cy 3, 2, .inl t_isKept)), (A_t_state, .inl (cy 1, 535, .inl t_state_v2))] := hD.sub [1, 0, 2] (by decide) rfl
    refine lv_aload_n hx hb dX8_keep_39 rfl (lv_at hl 1 rfl) ?_
    refine va_get (D := D) (ci := 8) (v := .ref A_t_isKept) (C := RX8) (T := TX8) (N := 23) hx hb hts iX8 hown hK.1 hP 0 rfl rfl 18 (by decide) f0 (fun _ h9 => h9) rfl dX8_keep_40 ?_
    refine lv_iload_n hx hb dX8_keep_43 rfl (lv_at hl 2 rfl) ?_
    refine lv_iconst (v := 1) hx hb dX8_keep_44 (by decide) ?_
    refine va_zast hx hb hK.1 hP hD hS 1 3 rfl rfl h.1 dX8_keep_45 (fun H locs hP hD hS => ?_)
    replace h := h.2
    have hP : va_P D vwCl [(A_t, .inr (8, [.ref A_t_state, .ref A_t_tape, .int t_taped, .int t_fault, .int t_broken, .int t_brokenAt, .int t_spot, .int t_here, .int t_token, .int t_value, .int t_isRealTold, .ref A_t_ends, .ref A_t_letters, .ref A_t_least, .ref A_t_conflicts, .int t_conflictMany, .ref A_t_behind, .ref A_t_placed, .ref A_t_isKept, .ref A_t_lanes, .ref A_t_lengths, .ref A_t_cells, .int t_torn])), (A_t_isKept, .inl (cy 3, 2, .inl (upd t_isKept x1.toNatClampNeg (vp_nar .boolean (1 : Int32))))), (A_t_state, .inl (cy 1, 535, .inl t_state_v2))] H := hP
    have hD : va_D A [(A_t, .inr (8, [.ref A_t_state, .ref A_t_tape, .int t_taped, .int t_fault, .int t_broken, .int t_brokenAt, .int t_spot, .int t_here, .int t_token, .int t_value, .int t_isRealTold, .ref A_t_ends, .ref A_t_letters, .ref A_t_least, .ref A_t_conflicts, .int t_conflictMany, .ref A_t_behind, .ref A_t_placed, .ref A_t_isKept, .ref A_t_lanes, .ref A_t_lengths, .ref A_t_cells, .int t_torn])), (A_t_isKept, .inl (cy 3, 2, .inl (upd t_isKept x1.toNatClampNeg (vp_nar .boolean (1 : Int32))))), (A_t_state, .inl (cy 1, 535, .inl t_state_v2))] := hD
    refine lv_iload_n hx hb dX8_keep_46 rfl (lv_at hl 0 rfl) ?_
    subst hQ
    subst hAe
    exact W.iret (v := k0) hx hb hr (fun t ht _ => ⟨⟨k0, (upd t_isKept x1.toNatClampNeg (vp_nar .boolean (1 : Int32)), t_state_v2), rfl, h, by rw [ht]; exact hP, hD⟩, hS.F ht⟩) hS.2.2 dX8_keep_47
  unfold P_X8_keep at h
  refine lv_iload_n hx hb dX8_keep_0 rfl (lv_at hl 1 rfl) ?_
  refine lv_i2l (v := x1.toInt64) hx hb dX8_keep_1 rfl ?_
  refine lv_lconst (v := 0) hx hb dX8_keep_2 (by decide) ?_
  refine lv_lconst (v := 1) hx hb dX8_keep_3 (by decide) ?_
  refine vp_callSi (W.runS (As := [.long x1.toInt64, .long (0 : Int64), .long (1 : Int64)]) (rest := []) CF (c_X8_in l x1.toInt64 (0 : Int64) (1 : Int64) _ h) (va_cwS 3 hts gX8_keep_X8_in rfl rfl rfl qX8_in.2 ⟨Nat.le_of_ble_eq_true rfl, Nat.le_of_ble_eq_true rfl⟩) mpSN rfl rfl hl.1 rfl (lv_room (Nat.le_of_ble_eq_true rfl)) dX8_keep_4 ⟨Nat.zero_le _, Nat.zero_le _⟩) (fun r1 h => ?_)
  refine lv_if_ne (tgt := 12) hx hb dX8_keep_7 (by decide) (fun hc => ?_) (fun hc => ?_)
  · replace h := h.1 hc
    refine lv_aload_n hx hb dX8_keep_12 rfl (lv_at hl 0 rfl) ?_
    refine va_get (D := D) (ci := 8) (v := .ref A_t_isKept) (C := RX8) (T := TX8) (N := 23) hx hb hts iX8 hown hK.1 hP 0 rfl rfl 18 (by decide) f0 (fun _ h9 => h9) rfl dX8_keep_13 ?_
    refine lv_iload_n hx hb dX8_keep_16 rfl (lv_at hl 1 rfl) ?_
    refine va_zald hx hb hK.1 hP 1 3 rfl rfl h.1 dX8_keep_17 ?_
    replace h := h.2
    refine lv_if_eq (tgt := 25) hx hb dX8_keep_18 (by decide) (fun hc => ?_) (fun hc => ?_)
    · replace h := h.1 hc
      refine lv_iconst (v := 0) hx hb dX8_keep_25 (by decide) ?_
      exact J26 t_isKept t_state (0 : Int32) s.heap [] ls h hP hD hS (lv_sub hl [0, 1] rfl)
    · replace h := h.2 hc
      refine lv_iconst (v := 1) hx hb dX8_keep_21 (by decide) ?_
      refine lv_goto (tgt := 26) hx hb dX8_keep_22 (by decide) ?_
      exact J26 t_isKept t_state (1 : Int32) s.heap [] ls h hP hD hS (lv_sub hl [0, 1] rfl)
  · replace h := h.2 hc
    refine lv_iconst (v := -1) hx hb dX8_keep_10 (by decide) ?_
    subst hQ
    subst hAe
    exact W.iret (v := (-1 : Int32)) hx hb hr (fun t ht _ => ⟨⟨(-1 : Int32), (t_isKept, t_state), rfl, h, by rw [ht]; exact hP, hD⟩, hS.F ht⟩) hS.2.2 dX8_keep_11
theorem qX8_back : yX8_back.cls = RX8 ∧ yX8_back.cls ≠ "java/lang/invoke/MethodHandle" ∧ yX8_back.cls ≠ "java/lang/invoke/VarHandle" ∧ (parseMethodDescriptor yX8_back.desc).map (fun d => d.parameters.length) = some 1 := by decide +kernel
def P_X8_back (post : Int32 → (Nat → Int32) → Prop) (t_isKept : Nat → Int32) (t_state : Nat → Int32) (x1 : Int32) : Prop :=
  P_X8_in (fun (r1 : Int32) => ((¬ r1 = 0 → (vp_in x1 2 ∧ ((¬ t_isKept x1.toNatClampNeg = 0 → P_X8_copies (fun (t_state_v2 : Nat → Int32) => P_X8_many (fun (r3 : Int32) => post r3 t_state_v2) t_state_v2) t_state (((107 : Int32) * x1) + (107 : Int32)) (0 : Int32)) ∧ (t_isKept x1.toNatClampNeg = 0 → post (-2 : Int32) t_state)))) ∧ (r1 = 0 → post (-1 : Int32) t_state))) x1.toInt64 (0 : Int64) (1 : Int64)
set_option maxHeartbeats 4000000 in
set_option maxRecDepth 100000 in
theorem c_X8_back (l : Launch) (D : va_G) (cy : Nat → ClassId) (sz : Nat) (A_t A_t_state A_t_tape A_t_ends A_t_letters A_t_least A_t_conflicts A_t_behind A_t_placed A_t_isKept A_t_lanes A_t_lengths A_t_cells : Nat) (t_taped : Int32) (t_fault : Int32) (t_broken : Int32) (t_brokenAt : Int32) (t_spot : Int32) (t_here : Int32) (t_token : Int32) (t_value : Int32) (t_isRealTold : Int32) (t_conflictMany : Int32) (t_torn : Int32) (t_isKept : Nat → Int32) (t_state : Nat → Int32) (x1 : Int32) (post : Int32 → (Nat → Int32) → Prop) (h : P_X8_back post t_isKept t_state x1) : Met l yX8_back wsX8_back { frames := 1, cells := 0, slots := 0, locals := 25 } (pcW D cy [(A_t, .inr (8, [.ref A_t_state, .ref A_t_tape, .int t_taped, .int t_fault, .int t_broken, .int t_brokenAt, .int t_spot, .int t_here, .int t_token, .int t_value, .int t_isRealTold, .ref A_t_ends, .ref A_t_letters, .ref A_t_least, .ref A_t_conflicts, .int t_conflictMany, .ref A_t_behind, .ref A_t_placed, .ref A_t_isKept, .ref A_t_lanes, .ref A_t_lengths, .ref A_t_cells, .int t_torn])), (A_t_isKept, .inl (cy 3, 2, .inl t_isKept)), (A_t_state, .inl (cy 1, 535, .inl t_state))] sz [.ref A_t, .int x1]) (va_Qi (fun r (u : (Nat → Int32)) => post r u) (bW D [(A_t, .inr (8, [.ref A_t_state, .ref A_t_tape, .int t_taped, .int t_fault, .int t_broken, .int t_brokenAt, .int t_spot, .int t_here, .int t_token, .int t_value, .int t_isRealTold, .ref A_t_ends, .ref A_t_letters, .ref A_t_least, .ref A_t_conflicts, .int t_conflictMany, .ref A_t_behind, .ref A_t_placed, .ref A_t_isKept, .ref A_t_lanes, .ref A_t_lengths, .ref A_t_cells, .int t_torn])), (A_t_isKept, .inl (cy 3, 2, .inl t_isKept)), (A_t_state, .inl (cy 1, 535, .inl t_state))] sz (fun u => [(A_t, .inr (8, [.ref A_t_state, .ref A_t_tape, .int t_taped, .int t_fault, .int t_broken, .int t_brokenAt, .int t_spot, .int t_here, .int t_token, .int t_value, .int t_isRealTold, .ref A_t_ends, .ref A_t_letters, .ref A_t_least, .ref A_t_conflicts, .int t_conflictMany, .ref A_t_behind, .ref A_t_placed, .ref A_t_isKept, .ref A_t_lanes, .ref A_t_lengths, .ref A_t_cells, .int t_torn])), (A_t_isKept, .inl (cy 3, 2, .inl t_isKept)), (A_t_state, .inl (cy 1, 535, .inl u))])) (va_A [(A_t, .inr (8, [.ref A_t_state, .ref A_t_tape, .int t_taped, .int t_fault, .int t_broken, .int t_brokenAt, .int t_spot, .int t_here, .int t_token, .int t_value, .int t_isRealTold, .ref A_t_ends, .ref A_t_letters, .ref A_t_least, .ref A_t_conflicts, .int t_conflictMany, .ref A_t_behind, .ref A_t_placed, .ref A_t_isKept, .ref A_t_lanes, .ref A_t_lengths, .ref A_t_cells, .int t_torn])), (A_t_isKept, .inl (cy 3, 2, .inl t_isKept)), (A_t_state, .inl (cy 1, 535, .inl t_state))] sz)) 0 0 (va_A [(A_t, .inr (8, [.ref A_t_state, .ref A_t_tape, .int t_taped, .int t_fault, .int t_broken, .int t_brokenAt, .int t_spot, .int t_here, .int t_token, .int t_value, .int t_isRealTold, .ref A_t_ends, .ref A_t_letters, .ref A_t_least, .ref A_t_conflicts, .int t_conflictMany, .ref A_t_behind, .ref A_t_placed, .ref A_t_isKept, .ref A_t_lanes, .ref A_t_lengths, .ref A_t_cells, .int t_torn])), (A_t_isKept, .inl (cy 3, 2, .inl t_isKept)), (A_t_state, .inl (cy 1, 535, .inl t_state))] sz) := by
  refine Met.ofW (cc := cX8_back) (maxL := 2) (ret := (some .int)) (by decide) rfl ?_
  intro p e s m args below meth c s₁ B hml hv
  obtain ⟨rfl, hsz, hP, hK, hD0⟩ := hv
  have hx := B.exec
  have hb := B.bytes
  have hr := B.returns
  have hts := atoms_spec (ws := wsX8_back) B.pre
  have hown : s.vm.findClass RX8 = some m.cls := findClass_of_methodNamed B.named
  have hlocks := B.notSynchronized
  have CF : CallFix p m c cX8_back 2 s ([.ref A_t, .int x1] : List Value).toArray wsX8_back RX8 := ⟨hx, hb, hml, hown, hts⟩
  have f0 := hts (.fieldLink RX8 35 "GapBoundsModel" "isKept" "[Z") (by decide +kernel)
  have iX8 : ∀ w ∈ u_ws RX8 TX8 23, w ∈ wsX8_back := by decide +kernel
  subst hsz
  obtain ⟨A, hAe⟩ : ∃ A, A = va_A [(A_t, .inr (8, [.ref A_t_state, .ref A_t_tape, .int t_taped, .int t_fault, .int t_broken, .int t_brokenAt, .int t_spot, .int t_here, .int t_token, .int t_value, .int t_isRealTold, .ref A_t_ends, .ref A_t_letters, .ref A_t_least, .ref A_t_conflicts, .int t_conflictMany, .ref A_t_behind, .ref A_t_placed, .ref A_t_isKept, .ref A_t_lanes, .ref A_t_lengths, .ref A_t_cells, .int t_torn])), (A_t_isKept, .inl (cy 3, 2, .inl t_isKept)), (A_t_state, .inl (cy 1, 535, .inl t_state))] s.heap.size := ⟨_, rfl⟩
  have hD : va_D A [(A_t, .inr (8, [.ref A_t_state, .ref A_t_tape, .int t_taped, .int t_fault, .int t_broken, .int t_brokenAt, .int t_spot, .int t_here, .int t_token, .int t_value, .int t_isRealTold, .ref A_t_ends, .ref A_t_letters, .ref A_t_least, .ref A_t_conflicts, .int t_conflictMany, .ref A_t_behind, .ref A_t_placed, .ref A_t_isKept, .ref A_t_lanes, .ref A_t_lengths, .ref A_t_cells, .int t_torn])), (A_t_isKept, .inl (cy 3, 2, .inl t_isKept)), (A_t_state, .inl (cy 1, 535, .inl t_state))] := by rw [hAe]; exact hD0.self
  have hA : ∀ q : Nat, s.heap.size ≤ q → A q := fun q hq => by rw [hAe]; exact Or.inr hq
  have hS : va_S A s.heap s.heap [] := va_S.rf
  have hl := lv_entry [.ref A_t, .int x1] (n := 2) (Nat.le_of_ble_eq_true rfl)
  rw [lg_entry_eq]
  generalize (lg_sl [.ref A_t, .int x1] ++ List.replicate (2 - (lg_sl [.ref A_t, .int x1]).length) Slot.unset).toArray = ls at hl ⊢
  have hl : lv_has ls 2 [(0, .ref A_t), (1, .int x1)] := hl
  refine W.gen (fun Q0 hQ => ?_)
  unfold P_X8_back at h
  refine lv_iload_n hx hb dX8_back_0 rfl (lv_at hl 1 rfl) ?_
  refine lv_i2l (v := x1.toInt64) hx hb dX8_back_1 rfl ?_
  refine lv_lconst (v := 0) hx hb dX8_back_2 (by decide) ?_
  refine lv_lconst (v := 1) hx hb dX8_back_3 (by decide) ?_
  refine vp_callSi (W.runS (As := [.long x1.toInt64, .long (0 : Int64), .long (1 : Int64)]) (rest := []) CF (c_X8_in l x1.toInt64 (0 : Int64) (1 : Int64) _ h) (va_cwS 3 hts gX8_back_X8_in rfl rfl rfl qX8_in.2 ⟨Nat.le_of_ble_eq_true rfl, Nat.le_of_ble_eq_true rfl⟩) mpSN rfl rfl hl.1 rfl (lv_room (Nat.le_of_ble_eq_true rfl)) dX8_back_4 ⟨Nat.zero_le _, Nat.zero_le _⟩) (fun r1 h => ?_)
  refine lv_if_ne (tgt := 12) hx hb dX8_back_7 (by decide) (fun hc => ?_) (fun hc => ?_)
  · replace h := h.1 hc
    refine lv_aload_n hx hb dX8_back_12 rfl (lv_at hl 0 rfl) ?_
    refine va_get (D := D) (ci := 8) (v := .ref A_t_isKept) (C := RX8) (T := TX8) (N := 23) hx hb hts iX8 hown hK.1 hP 0 rfl rfl 18 (by decide) f0 (fun _ h9 => h9) rfl dX8_back_13 ?_
    refine lv_iload_n hx hb dX8_back_16 rfl (lv_at hl 1 rfl) ?_
    refine va_zald hx hb hK.1 hP 1 3 rfl rfl h.1 dX8_back_17 ?_
    replace h := h.2
    refine lv_if_ne (tgt := 24) hx hb dX8_back_18 (by decide) (fun hc => ?_) (fun hc => ?_)
    · replace h := h.1 hc
      refine lv_aload_n hx hb dX8_back_24 rfl (lv_at hl 0 rfl) ?_
      refine lv_bipush (v := 107) hx hb dX8_back_25 (by decide) ?_
      refine lv_iload_n hx hb dX8_back_27 rfl (lv_at hl 1 rfl) ?_
      refine lv_imul hx hb dX8_back_28 ?_
      refine lv_bipush (v := 107) hx hb dX8_back_29 (by decide) ?_
      refine lv_iadd hx hb dX8_back_31 ?_
      refine lv_iconst (v := 0) hx hb dX8_back_32 (by decide) ?_
      have hPn : va_P D vwCl ([(A_t_isKept, .inl (cy 3, 2, .inl t_isKept))] ++ [(A_t, .inr (8, [.ref A_t_state, .ref A_t_tape, .int t_taped, .int t_fault, .int t_broken, .int t_brokenAt, .int t_spot, .int t_here, .int t_token, .int t_value, .int t_isRealTold, .ref A_t_ends, .ref A_t_letters, .ref A_t_least, .ref A_t_conflicts, .int t_conflictMany, .ref A_t_behind, .ref A_t_placed, .ref A_t_isKept, .ref A_t_lanes, .ref A_t_lengths, .ref A_t_cells, .int t_torn])), (A_t_state, .inl (cy 1, 535, .inl t_state))]) s.heap := hP.sub [1, 0, 2] rfl
      have hDn : va_D A ([(A_t_isKept, .inl (cy 3, 2, .inl t_isKept))] ++ [(A_t, .inr (8, [.ref A_t_state, .ref A_t_tape, .int t_taped, .int t_fault, .int t_broken, .int t_brokenAt, .int t_spot, .int t_here, .int t_token, .int t_value, .int t_isRealTold, .ref A_t_ends, .ref A_t_letters, .ref A_t_least, .ref A_t_conflicts, .int t_conflictMany, .ref A_t_behind, .ref A_t_placed, .ref A_t_isKept, .ref A_t_lanes, .ref A_t_lengths, .ref A_t_cells, .int t_torn])), (A_t_state, .inl (cy 1, 535, .inl t_state))]) := hD.sub [1, 0, 2] (by decide) rfl
      have hPc := gPR hPn
      have hDc := gDR hDn
      refine mw_v (va_runV (As := [.int (((107 : Int32) * x1) + (107 : Int32)), .int (0 : Int32)]) (rest := []) CF (c_X8_copies l D cy s.heap.size A_t A_t_state A_t_tape A_t_ends A_t_letters A_t_least A_t_conflicts A_t_behind A_t_placed A_t_isKept A_t_lanes A_t_lengths A_t_cells t_taped t_fault t_broken t_brokenAt t_spot t_here t_token t_value t_isRealTold t_conflictMany t_torn t_state (((107 : Int32) * x1) + (107 : Int32)) (0 : Int32) _ h) (cwV 2 hts gX8_back_X8_copies rfl rfl rfl qX8_copies ⟨Nat.le_of_ble_eq_true rfl, Nat.le_of_ble_eq_true rfl⟩) (mpVW hK hPc hDc (ci := 8) (q := (RX8, TX8, 23)) (q0 := 0) rfl rfl) rfl rfl hl.1 rfl (lv_room (Nat.le_of_ble_eq_true rfl)) dX8_back_33 ⟨Nat.zero_le _, Nat.zero_le _⟩) hPn hDn hS hA (fun t_state_v2 H locs h hP hD hS => ?_)
      have hP : va_P D vwCl [(A_t, .inr (8, [.ref A_t_state, .ref A_t_tape, .int t_taped, .int t_fault, .int t_broken, .int t_brokenAt, .int t_spot, .int t_here, .int t_token, .int t_value, .int t_isRealTold, .ref A_t_ends, .ref A_t_letters, .ref A_t_least, .ref A_t_conflicts, .int t_conflictMany, .ref A_t_behind, .ref A_t_placed, .ref A_t_isKept, .ref A_t_lanes, .ref A_t_lengths, .ref A_t_cells, .int t_torn])), (A_t_isKept, .inl (cy 3, 2, .inl t_isKept)), (A_t_state, .inl (cy 1, 535, .inl t_state_v2))] H := hP.sub [1, 0, 2] rfl
      have hD : va_D A [(A_t, .inr (8, [.ref A_t_state, .ref A_t_tape, .int t_taped, .int t_fault, .int t_broken, .int t_brokenAt, .int t_spot, .int t_here, .int t_token, .int t_value, .int t_isRealTold, .ref A_t_ends, .ref A_t_letters, .ref A_t_least, .ref A_t_conflicts, .int t_conflictMany, .ref A_t_behind, .ref A_t_placed, .ref A_t_isKept, .ref A_t_lanes, .ref A_t_lengths, .ref A_t_cells, .int t_torn])), (A_t_isKept, .inl (cy 3, 2, .inl t_isKept)), (A_t_state, .inl (cy 1, 535, .inl t_state_v2))] := hD.sub [1, 0, 2] (by decide) rfl
      refine lv_aload_n hx hb dX8_back_36 rfl (lv_at hl 0 rfl) ?_
      have hPc := hP.sub (ws' := [(A_t, .inr (8, [.ref A_t_state, .ref A_t_tape, .int t_taped, .int t_fault, .int t_broken, .int t_brokenAt, .int t_spot, .int t_here, .int t_token, .int t_value, .int t_isRealTold, .ref A_t_ends, .ref A_t_letters, .ref A_t_least, .ref A_t_conflicts, .int t_conflictMany, .ref A_t_behind, .ref A_t_placed, .ref A_t_isKept, .ref A_t_lanes, .ref A_t_lengths, .ref A_t_cells, .int t_torn])), (A_t_state, .inl (cy 1, 535, .inl t_state_v2))]) [0, 2] rfl
      refine vp_callSi (W.runV (As := []) (rest := []) CF (c_X8_many l D cy A_t A_t_state A_t_tape A_t_ends A_t_letters A_t_least A_t_conflicts A_t_behind A_t_placed A_t_isKept A_t_lanes A_t_lengths A_t_cells t_taped t_fault t_broken t_brokenAt t_spot t_here t_token t_value t_isRealTold t_conflictMany t_torn t_state_v2 _ h) (cwV 0 hts gX8_back_X8_many rfl rfl rfl qX8_many ⟨Nat.le_of_ble_eq_true rfl, Nat.le_of_ble_eq_true rfl⟩) (mpVR hK hPc (ci := 8) (q := (RX8, TX8, 23)) (q0 := 0) rfl rfl) rfl rfl hl.1 rfl (lv_room (Nat.le_of_ble_eq_true rfl)) dX8_back_37 ⟨Nat.zero_le _, Nat.zero_le _⟩) (fun r3 h => ?_)
      subst hQ
      subst hAe
      exact W.iret (v := r3) hx hb hr (fun t ht _ => ⟨⟨r3, t_state_v2, rfl, h, by rw [ht]; exact hP, hD⟩, hS.F ht⟩) hS.2.2 dX8_back_40
    · replace h := h.2 hc
      refine lv_bipush (v := -2) hx hb dX8_back_21 (by decide) ?_
      subst hQ
      subst hAe
      exact W.iret (v := (-2 : Int32)) hx hb hr (fun t ht _ => ⟨⟨(-2 : Int32), t_state, rfl, h, by rw [ht]; exact hP, hD⟩, hS.F ht⟩) hS.2.2 dX8_back_23
  · replace h := h.2 hc
    refine lv_iconst (v := -1) hx hb dX8_back_10 (by decide) ?_
    subst hQ
    subst hAe
    exact W.iret (v := (-1 : Int32)) hx hb hr (fun t ht _ => ⟨⟨(-1 : Int32), t_state, rfl, h, by rw [ht]; exact hP, hD⟩, hS.F ht⟩) hS.2.2 dX8_back_11
theorem qX8_sheet : yX8_sheet.cls = RX8 ∧ yX8_sheet.cls ≠ "java/lang/invoke/MethodHandle" ∧ yX8_sheet.cls ≠ "java/lang/invoke/VarHandle" ∧ (parseMethodDescriptor yX8_sheet.desc).map (fun d => d.parameters.length) = some 3 := by decide +kernel
def LB_X8_sheet_56 (post : Int32 → (Nat → Int32) → (Nat → Int32) → (Nat → Int32) → Prop) (t_lanes : Nat → Int32) (t_lengths : Nat → Int32) (x1 : Int32) (K_56 : (Nat → Int32) → Int32 → Prop) (t_cells : Nat → Int32) (x4 : Int32) : Prop :=
  (((40 : Int32) ≤ x4 → post (1 : Int32) t_lanes t_lengths t_cells) ∧ (¬ (40 : Int32) ≤ x4 → (vp_in (((40 : Int32) * x1) + x4) 160 ∧ K_56 (upd t_cells (((40 : Int32) * x1) + x4).toNatClampNeg (0 : Int32)) (x4 + (1 : Int32)))))
noncomputable def L_X8_sheet_56 (post : Int32 → (Nat → Int32) → (Nat → Int32) → (Nat → Int32) → Prop) (t_lanes : Nat → Int32) (t_lengths : Nat → Int32) (x1 : Int32) (n : Nat) : (Nat → Int32) → Int32 → Prop := Nat.rec (motive := fun _ => (Nat → Int32) → Int32 → Prop) (fun _ _ => False) (fun _ K => LB_X8_sheet_56 post t_lanes t_lengths x1 K) n
def P_X8_sheet (post : Int32 → (Nat → Int32) → (Nat → Int32) → (Nat → Int32) → Prop) (t_lanes : Nat → Int32) (t_lengths : Nat → Int32) (t_cells : Nat → Int32) (x1 : Int32) (x2 : Int32) (x3 : Int32) : Prop :=
  P_X8_in (fun (r1 : Int32) => ((r1 = 0 → post (-1 : Int32) t_lanes t_lengths t_cells) ∧ (¬ r1 = 0 → P_X8_in (fun (r2 : Int32) => ((r2 = 0 → post (-1 : Int32) t_lanes t_lengths t_cells) ∧ (¬ r2 = 0 → ((x3 ≤ (40 : Int32) → ((0 ≤ x3 → (vp_in x1 4 ∧ (vp_in x1 4 ∧ ∃ n : Nat, L_X8_sheet_56 post (upd t_lanes x1.toNatClampNeg x2) (upd t_lengths x1.toNatClampNeg x3) x1 n t_cells (0 : Int32)))) ∧ (¬ 0 ≤ x3 → post (-14 : Int32) t_lanes t_lengths t_cells))) ∧ (¬ x3 ≤ (40 : Int32) → post (-1 : Int32) t_lanes t_lengths t_cells))))) x2.toInt64 (0 : Int64) (2 : Int64)))) x1.toInt64 (0 : Int64) (3 : Int64)
set_option maxHeartbeats 4000000 in
set_option maxRecDepth 100000 in
theorem c_X8_sheet (l : Launch) (D : va_G) (cy : Nat → ClassId) (sz : Nat) (A_t A_t_state A_t_tape A_t_ends A_t_letters A_t_least A_t_conflicts A_t_behind A_t_placed A_t_isKept A_t_lanes A_t_lengths A_t_cells : Nat) (t_taped : Int32) (t_fault : Int32) (t_broken : Int32) (t_brokenAt : Int32) (t_spot : Int32) (t_here : Int32) (t_token : Int32) (t_value : Int32) (t_isRealTold : Int32) (t_conflictMany : Int32) (t_torn : Int32) (t_lanes : Nat → Int32) (t_lengths : Nat → Int32) (t_cells : Nat → Int32) (x1 : Int32) (x2 : Int32) (x3 : Int32) (post : Int32 → (Nat → Int32) → (Nat → Int32) → (Nat → Int32) → Prop) (h : P_X8_sheet post t_lanes t_lengths t_cells x1 x2 x3) : Met l yX8_sheet wsX8_sheet { frames := 1, cells := 0, slots := 0, locals := 25 } (pcW D cy [(A_t, .inr (8, [.ref A_t_state, .ref A_t_tape, .int t_taped, .int t_fault, .int t_broken, .int t_brokenAt, .int t_spot, .int t_here, .int t_token, .int t_value, .int t_isRealTold, .ref A_t_ends, .ref A_t_letters, .ref A_t_least, .ref A_t_conflicts, .int t_conflictMany, .ref A_t_behind, .ref A_t_placed, .ref A_t_isKept, .ref A_t_lanes, .ref A_t_lengths, .ref A_t_cells, .int t_torn])), (A_t_lanes, .inl (cy 1, 4, .inl t_lanes)), (A_t_lengths, .inl (cy 1, 4, .inl t_lengths)), (A_t_cells, .inl (cy 1, 160, .inl t_cells))] sz [.ref A_t, .int x1, .int x2, .int x3]) (va_Qi (fun r (u : (Nat → Int32) × (Nat → Int32) × (Nat → Int32)) => post r u.1 u.2.1 u.2.2) (bW D [(A_t, .inr (8, [.ref A_t_state, .ref A_t_tape, .int t_taped, .int t_fault, .int t_broken, .int t_brokenAt, .int t_spot, .int t_here, .int t_token, .int t_value, .int t_isRealTold, .ref A_t_ends, .ref A_t_letters, .ref A_t_least, .ref A_t_conflicts, .int t_conflictMany, .ref A_t_behind, .ref A_t_placed, .ref A_t_isKept, .ref A_t_lanes, .ref A_t_lengths, .ref A_t_cells, .int t_torn])), (A_t_lanes, .inl (cy 1, 4, .inl t_lanes)), (A_t_lengths, .inl (cy 1, 4, .inl t_lengths)), (A_t_cells, .inl (cy 1, 160, .inl t_cells))] sz (fun u => [(A_t, .inr (8, [.ref A_t_state, .ref A_t_tape, .int t_taped, .int t_fault, .int t_broken, .int t_brokenAt, .int t_spot, .int t_here, .int t_token, .int t_value, .int t_isRealTold, .ref A_t_ends, .ref A_t_letters, .ref A_t_least, .ref A_t_conflicts, .int t_conflictMany, .ref A_t_behind, .ref A_t_placed, .ref A_t_isKept, .ref A_t_lanes, .ref A_t_lengths, .ref A_t_cells, .int t_torn])), (A_t_lanes, .inl (cy 1, 4, .inl u.1)), (A_t_lengths, .inl (cy 1, 4, .inl u.2.1)), (A_t_cells, .inl (cy 1, 160, .inl u.2.2))])) (va_A [(A_t, .inr (8, [.ref A_t_state, .ref A_t_tape, .int t_taped, .int t_fault, .int t_broken, .int t_brokenAt, .int t_spot, .int t_here, .int t_token, .int t_value, .int t_isRealTold, .ref A_t_ends, .ref A_t_letters, .ref A_t_least, .ref A_t_conflicts, .int t_conflictMany, .ref A_t_behind, .ref A_t_placed, .ref A_t_isKept, .ref A_t_lanes, .ref A_t_lengths, .ref A_t_cells, .int t_torn])), (A_t_lanes, .inl (cy 1, 4, .inl t_lanes)), (A_t_lengths, .inl (cy 1, 4, .inl t_lengths)), (A_t_cells, .inl (cy 1, 160, .inl t_cells))] sz)) 0 0 (va_A [(A_t, .inr (8, [.ref A_t_state, .ref A_t_tape, .int t_taped, .int t_fault, .int t_broken, .int t_brokenAt, .int t_spot, .int t_here, .int t_token, .int t_value, .int t_isRealTold, .ref A_t_ends, .ref A_t_letters, .ref A_t_least, .ref A_t_conflicts, .int t_conflictMany, .ref A_t_behind, .ref A_t_placed, .ref A_t_isKept, .ref A_t_lanes, .ref A_t_lengths, .ref A_t_cells, .int t_torn])), (A_t_lanes, .inl (cy 1, 4, .inl t_lanes)), (A_t_lengths, .inl (cy 1, 4, .inl t_lengths)), (A_t_cells, .inl (cy 1, 160, .inl t_cells))] sz) := by
  refine Met.ofW (cc := cX8_sheet) (maxL := 5) (ret := (some .int)) (by decide) rfl ?_
  intro p e s m args below meth c s₁ B hml hv
  obtain ⟨rfl, hsz, hP, hK, hD0⟩ := hv
  have hx := B.exec
  have hb := B.bytes
  have hr := B.returns
  have hts := atoms_spec (ws := wsX8_sheet) B.pre
  have hown : s.vm.findClass RX8 = some m.cls := findClass_of_methodNamed B.named
  have hlocks := B.notSynchronized
  have CF : CallFix p m c cX8_sheet 5 s ([.ref A_t, .int x1, .int x2, .int x3] : List Value).toArray wsX8_sheet RX8 := ⟨hx, hb, hml, hown, hts⟩
  have f0 := hts (.constantLong RX8 108 (3)) (by decide +kernel)
  have f1 := hts (.constantLong RX8 248 (2)) (by decide +kernel)
  have f2 := hts (.fieldLink RX8 39 "GapBoundsModel" "lanes" "[I") (by decide +kernel)
  have f3 := hts (.fieldLink RX8 42 "GapBoundsModel" "lengths" "[I") (by decide +kernel)
  have f4 := hts (.fieldLink RX8 45 "GapBoundsModel" "cells" "[I") (by decide +kernel)
  have iX8 : ∀ w ∈ u_ws RX8 TX8 23, w ∈ wsX8_sheet := by decide +kernel
  subst hsz
  obtain ⟨A, hAe⟩ : ∃ A, A = va_A [(A_t, .inr (8, [.ref A_t_state, .ref A_t_tape, .int t_taped, .int t_fault, .int t_broken, .int t_brokenAt, .int t_spot, .int t_here, .int t_token, .int t_value, .int t_isRealTold, .ref A_t_ends, .ref A_t_letters, .ref A_t_least, .ref A_t_conflicts, .int t_conflictMany, .ref A_t_behind, .ref A_t_placed, .ref A_t_isKept, .ref A_t_lanes, .ref A_t_lengths, .ref A_t_cells, .int t_torn])), (A_t_lanes, .inl (cy 1, 4, .inl t_lanes)), (A_t_lengths, .inl (cy 1, 4, .inl t_lengths)), (A_t_cells, .inl (cy 1, 160, .inl t_cells))] s.heap.size := ⟨_, rfl⟩
  have hD : va_D A [(A_t, .inr (8, [.ref A_t_state, .ref A_t_tape, .int t_taped, .int t_fault, .int t_broken, .int t_brokenAt, .int t_spot, .int t_here, .int t_token, .int t_value, .int t_isRealTold, .ref A_t_ends, .ref A_t_letters, .ref A_t_least, .ref A_t_conflicts, .int t_conflictMany, .ref A_t_behind, .ref A_t_placed, .ref A_t_isKept, .ref A_t_lanes, .ref A_t_lengths, .ref A_t_cells, .int t_torn])), (A_t_lanes, .inl (cy 1, 4, .inl t_lanes)), (A_t_lengths, .inl (cy 1, 4, .inl t_lengths)), (A_t_cells, .inl (cy 1, 160, .inl t_cells))] := by rw [hAe]; exact hD0.self
  have hA : ∀ q : Nat, s.heap.size ≤ q → A q := fun q hq => by rw [hAe]; exact Or.inr hq
  have hS : va_S A s.heap s.heap [] := va_S.rf
  have hl := lv_entry [.ref A_t, .int x1, .int x2, .int x3] (n := 5) (Nat.le_of_ble_eq_true rfl)
  rw [lg_entry_eq]
  generalize (lg_sl [.ref A_t, .int x1, .int x2, .int x3] ++ List.replicate (5 - (lg_sl [.ref A_t, .int x1, .int x2, .int x3]).length) Slot.unset).toArray = ls at hl ⊢
  have hl : lv_has ls 5 [(0, .ref A_t), (1, .int x1), (2, .int x2), (3, .int x3)] := hl
  refine W.gen (fun Q0 hQ => ?_)
  have L56 : ∀ (n56 : Nat) (t_lanes : Nat → Int32) (t_lengths : Nat → Int32) (t_cells : Nat → Int32) (x4 : Int32) (H : Heap) (locs : List Loc) (ls : Array Slot), L_X8_sheet_56 post t_lanes t_lengths x1 n56 t_cells x4 → va_P D vwCl [(A_t, .inr (8, [.ref A_t_state, .ref A_t_tape, .int t_taped, .int t_fault, .int t_broken, .int t_brokenAt, .int t_spot, .int t_here, .int t_token, .int t_value, .int t_isRealTold, .ref A_t_ends, .ref A_t_letters, .ref A_t_least, .ref A_t_conflicts, .int t_conflictMany, .ref A_t_behind, .ref A_t_placed, .ref A_t_isKept, .ref A_t_lanes, .ref A_t_lengths, .ref A_t_cells, .int t_torn])), (A_t_lanes, .inl (cy 1, 4, .inl t_lanes)), (A_t_lengths, .inl (cy 1, 4, .inl t_lengths)), (A_t_cells, .inl (cy 1, 160, .inl t_cells))] H → va_D A [(A_t, .inr (8, [.ref A_t_state, .ref A_t_tape, .int t_taped, .int t_fault, .int t_broken, .int t_brokenAt, .int t_spot, .int t_here, .int t_token, .int t_value, .int t_isRealTold, .ref A_t_ends, .ref A_t_letters, .ref A_t_least, .ref A_t_conflicts, .int t_conflictMany, .ref A_t_behind, .ref A_t_placed, .ref A_t_isKept, .ref A_t_lanes, .ref A_t_lengths, .ref A_t_cells, .int t_torn])), (A_t_lanes, .inl (cy 1, 4, .inl t_lanes)), (A_t_lengths, .inl (cy 1, 4, .inl t_lengths)), (A_t_cells, .inl (cy 1, 160, .inl t_cells))] → va_S A s.heap H locs → lv_has ls 5 [(0, .ref A_t), (1, .int x1), (4, .int x4)] → W p l e (headSpec wsX8_sheet { frames := 1, cells := 0, slots := 0, locals := 25 }).room s m ([.ref A_t, .int x1, .int x2, .int x3] : List Value).toArray below meth c H locs 0 0 Q0 (F0 m 56 ls []) := by
    intro n56
    induction n56 with
    | zero => intro t_lanes t_lengths t_cells x4 H locs ls h; exact False.elim h
    | succ n56 ih56 =>
      intro t_lanes t_lengths t_cells x4 H locs ls h hP hD hS hl
      have h : LB_X8_sheet_56 post t_lanes t_lengths x1 (L_X8_sheet_56 post t_lanes t_lengths x1 n56) t_cells x4 := h
      unfold LB_X8_sheet_56 at h
      refine lv_iload hx hb dX8_sheet_56 (lv_at hl 2 rfl) ?_
      refine lv_bipush (v := 40) hx hb dX8_sheet_58 (by decide) ?_
      refine lv_icmp_ge (tgt := 82) hx hb dX8_sheet_60 (by decide) (fun hc => ?_) (fun hc => ?_)
      · replace h := h.1 hc
        refine lv_iconst (v := 1) hx hb dX8_sheet_82 (by decide) ?_
        subst hQ
        subst hAe
        exact W.iret (v := (1 : Int32)) hx hb hr (fun t ht _ => ⟨⟨(1 : Int32), (t_lanes, t_lengths, t_cells), rfl, h, by rw [ht]; exact hP, hD⟩, hS.F ht⟩) hS.2.2 dX8_sheet_83
      · replace h := h.2 hc
        refine lv_aload_n hx hb dX8_sheet_63 rfl (lv_at hl 0 rfl) ?_
        refine va_get (D := D) (ci := 8) (v := .ref A_t_cells) (C := RX8) (T := TX8) (N := 23) hx hb hts iX8 hown hK.1 hP 0 rfl rfl 21 (by decide) f4 (fun _ h9 => h9) rfl dX8_sheet_64 ?_
        refine lv_bipush (v := 40) hx hb dX8_sheet_67 (by decide) ?_
        refine lv_iload_n hx hb dX8_sheet_69 rfl (lv_at hl 1 rfl) ?_
        refine lv_imul hx hb dX8_sheet_70 ?_
        refine lv_iload hx hb dX8_sheet_71 (lv_at hl 2 rfl) ?_
        refine lv_iadd hx hb dX8_sheet_73 ?_
        refine lv_iconst (v := 0) hx hb dX8_sheet_74 (by decide) ?_
        refine va_iast hx hb hK.1 hP hD hS 3 1 rfl rfl h.1 dX8_sheet_75 (fun H locs hP hD hS => ?_)
        replace h := h.2
        have hP : va_P D vwCl [(A_t, .inr (8, [.ref A_t_state, .ref A_t_tape, .int t_taped, .int t_fault, .int t_broken, .int t_brokenAt, .int t_spot, .int t_here, .int t_token, .int t_value, .int t_isRealTold, .ref A_t_ends, .ref A_t_letters, .ref A_t_least, .ref A_t_conflicts, .int t_conflictMany, .ref A_t_behind, .ref A_t_placed, .ref A_t_isKept, .ref A_t_lanes, .ref A_t_lengths, .ref A_t_cells, .int t_torn])), (A_t_lanes, .inl (cy 1, 4, .inl t_lanes)), (A_t_lengths, .inl (cy 1, 4, .inl t_lengths)), (A_t_cells, .inl (cy 1, 160, .inl (upd t_cells (((40 : Int32) * x1) + x4).toNatClampNeg (0 : Int32))))] H := hP
        have hD : va_D A [(A_t, .inr (8, [.ref A_t_state, .ref A_t_tape, .int t_taped, .int t_fault, .int t_broken, .int t_brokenAt, .int t_spot, .int t_here, .int t_token, .int t_value, .int t_isRealTold, .ref A_t_ends, .ref A_t_letters, .ref A_t_least, .ref A_t_conflicts, .int t_conflictMany, .ref A_t_behind, .ref A_t_placed, .ref A_t_isKept, .ref A_t_lanes, .ref A_t_lengths, .ref A_t_cells, .int t_torn])), (A_t_lanes, .inl (cy 1, 4, .inl t_lanes)), (A_t_lengths, .inl (cy 1, 4, .inl t_lengths)), (A_t_cells, .inl (cy 1, 160, .inl (upd t_cells (((40 : Int32) * x1) + x4).toNatClampNeg (0 : Int32))))] := hD
        refine lv_iinc (v := x4 + (1 : Int32)) (lv' := [(4, .int (x4 + (1 : Int32))), (0, .ref A_t), (1, .int x1)]) hx hb dX8_sheet_76 hl (k := 2) rfl rfl (by decide) rfl (fun ls hl => ?_)
        refine lv_goto (tgt := 56) hx hb dX8_sheet_79 (by decide) ?_
        exact ih56 t_lanes t_lengths (upd t_cells (((40 : Int32) * x1) + x4).toNatClampNeg (0 : Int32)) (x4 + (1 : Int32)) H locs ls h hP hD hS (lv_sub hl [1, 2, 0] rfl)
  unfold P_X8_sheet at h
  refine lv_iload_n hx hb dX8_sheet_0 rfl (lv_at hl 1 rfl) ?_
  refine lv_i2l (v := x1.toInt64) hx hb dX8_sheet_1 rfl ?_
  refine lv_lconst (v := 0) hx hb dX8_sheet_2 (by decide) ?_
  refine lv_ldc2 (v := 3) hx hb hown f0 dX8_sheet_3 ?_
  refine vp_callSi (W.runS (As := [.long x1.toInt64, .long (0 : Int64), .long (3 : Int64)]) (rest := []) CF (c_X8_in l x1.toInt64 (0 : Int64) (3 : Int64) _ h) (va_cwS 3 hts gX8_sheet_X8_in rfl rfl rfl qX8_in.2 ⟨Nat.le_of_ble_eq_true rfl, Nat.le_of_ble_eq_true rfl⟩) mpSN rfl rfl hl.1 rfl (lv_room (Nat.le_of_ble_eq_true rfl)) dX8_sheet_6 ⟨Nat.zero_le _, Nat.zero_le _⟩) (fun r1 h => ?_)
  refine lv_if_eq (tgt := 30) hx hb dX8_sheet_9 (by decide) (fun hc => ?_) (fun hc => ?_)
  · replace h := h.1 hc
    refine lv_iconst (v := -1) hx hb dX8_sheet_30 (by decide) ?_
    subst hQ
    subst hAe
    exact W.iret (v := (-1 : Int32)) hx hb hr (fun t ht _ => ⟨⟨(-1 : Int32), (t_lanes, t_lengths, t_cells), rfl, h, by rw [ht]; exact hP, hD⟩, hS.F ht⟩) hS.2.2 dX8_sheet_31
  · replace h := h.2 hc
    refine lv_iload_n hx hb dX8_sheet_12 rfl (lv_at hl 2 rfl) ?_
    refine lv_i2l (v := x2.toInt64) hx hb dX8_sheet_13 rfl ?_
    refine lv_lconst (v := 0) hx hb dX8_sheet_14 (by decide) ?_
    refine lv_ldc2 (v := 2) hx hb hown f1 dX8_sheet_15 ?_
    refine vp_callSi (W.runS (As := [.long x2.toInt64, .long (0 : Int64), .long (2 : Int64)]) (rest := []) CF (c_X8_in l x2.toInt64 (0 : Int64) (2 : Int64) _ h) (va_cwS 3 hts gX8_sheet_X8_in rfl rfl rfl qX8_in.2 ⟨Nat.le_of_ble_eq_true rfl, Nat.le_of_ble_eq_true rfl⟩) mpSN rfl rfl hl.1 rfl (lv_room (Nat.le_of_ble_eq_true rfl)) dX8_sheet_18 ⟨Nat.zero_le _, Nat.zero_le _⟩) (fun r2 h => ?_)
    refine lv_if_eq (tgt := 30) hx hb dX8_sheet_21 (by decide) (fun hc => ?_) (fun hc => ?_)
    · replace h := h.1 hc
      refine lv_iconst (v := -1) hx hb dX8_sheet_30 (by decide) ?_
      subst hQ
      subst hAe
      exact W.iret (v := (-1 : Int32)) hx hb hr (fun t ht _ => ⟨⟨(-1 : Int32), (t_lanes, t_lengths, t_cells), rfl, h, by rw [ht]; exact hP, hD⟩, hS.F ht⟩) hS.2.2 dX8_sheet_31
    · replace h := h.2 hc
      refine lv_iload_n hx hb dX8_sheet_24 rfl (lv_at hl 3 rfl) ?_
      refine lv_bipush (v := 40) hx hb dX8_sheet_25 (by decide) ?_
      refine lv_icmp_le (tgt := 32) hx hb dX8_sheet_27 (by decide) (fun hc => ?_) (fun hc => ?_)
      · replace h := h.1 hc
        refine lv_iload_n hx hb dX8_sheet_32 rfl (lv_at hl 3 rfl) ?_
        refine lv_if_ge (tgt := 39) hx hb dX8_sheet_33 (by decide) (fun hc => ?_) (fun hc => ?_)
        · replace h := h.1 hc
          refine lv_aload_n hx hb dX8_sheet_39 rfl (lv_at hl 0 rfl) ?_
          refine va_get (D := D) (ci := 8) (v := .ref A_t_lanes) (C := RX8) (T := TX8) (N := 23) hx hb hts iX8 hown hK.1 hP 0 rfl rfl 19 (by decide) f2 (fun _ h9 => h9) rfl dX8_sheet_40 ?_
          refine lv_iload_n hx hb dX8_sheet_43 rfl (lv_at hl 1 rfl) ?_
          refine lv_iload_n hx hb dX8_sheet_44 rfl (lv_at hl 2 rfl) ?_
          refine va_iast hx hb hK.1 hP hD hS 1 1 rfl rfl h.1 dX8_sheet_45 (fun H locs hP hD hS => ?_)
          replace h := h.2
          have hP : va_P D vwCl [(A_t, .inr (8, [.ref A_t_state, .ref A_t_tape, .int t_taped, .int t_fault, .int t_broken, .int t_brokenAt, .int t_spot, .int t_here, .int t_token, .int t_value, .int t_isRealTold, .ref A_t_ends, .ref A_t_letters, .ref A_t_least, .ref A_t_conflicts, .int t_conflictMany, .ref A_t_behind, .ref A_t_placed, .ref A_t_isKept, .ref A_t_lanes, .ref A_t_lengths, .ref A_t_cells, .int t_torn])), (A_t_lanes, .inl (cy 1, 4, .inl (upd t_lanes x1.toNatClampNeg x2))), (A_t_lengths, .inl (cy 1, 4, .inl t_lengths)), (A_t_cells, .inl (cy 1, 160, .inl t_cells))] H := hP
          have hD : va_D A [(A_t, .inr (8, [.ref A_t_state, .ref A_t_tape, .int t_taped, .int t_fault, .int t_broken, .int t_brokenAt, .int t_spot, .int t_here, .int t_token, .int t_value, .int t_isRealTold, .ref A_t_ends, .ref A_t_letters, .ref A_t_least, .ref A_t_conflicts, .int t_conflictMany, .ref A_t_behind, .ref A_t_placed, .ref A_t_isKept, .ref A_t_lanes, .ref A_t_lengths, .ref A_t_cells, .int t_torn])), (A_t_lanes, .inl (cy 1, 4, .inl (upd t_lanes x1.toNatClampNeg x2))), (A_t_lengths, .inl (cy 1, 4, .inl t_lengths)), (A_t_cells, .inl (cy 1, 160, .inl t_cells))] := hD
          refine lv_aload_n hx hb dX8_sheet_46 rfl (lv_at hl 0 rfl) ?_
          refine va_get (D := D) (ci := 8) (v := .ref A_t_lengths) (C := RX8) (T := TX8) (N := 23) hx hb hts iX8 hown hK.1 hP 0 rfl rfl 20 (by decide) f3 (fun _ h9 => h9) rfl dX8_sheet_47 ?_
          refine lv_iload_n hx hb dX8_sheet_50 rfl (lv_at hl 1 rfl) ?_
          refine lv_iload_n hx hb dX8_sheet_51 rfl (lv_at hl 3 rfl) ?_
          refine va_iast hx hb hK.1 hP hD hS 2 1 rfl rfl h.1 dX8_sheet_52 (fun H locs hP hD hS => ?_)
          replace h := h.2
          have hP : va_P D vwCl [(A_t, .inr (8, [.ref A_t_state, .ref A_t_tape, .int t_taped, .int t_fault, .int t_broken, .int t_brokenAt, .int t_spot, .int t_here, .int t_token, .int t_value, .int t_isRealTold, .ref A_t_ends, .ref A_t_letters, .ref A_t_least, .ref A_t_conflicts, .int t_conflictMany, .ref A_t_behind, .ref A_t_placed, .ref A_t_isKept, .ref A_t_lanes, .ref A_t_lengths, .ref A_t_cells, .int t_torn])), (A_t_lanes, .inl (cy 1, 4, .inl (upd t_lanes x1.toNatClampNeg x2))), (A_t_lengths, .inl (cy 1, 4, .inl (upd t_lengths x1.toNatClampNeg x3))), (A_t_cells, .inl (cy 1, 160, .inl t_cells))] H := hP
          have hD : va_D A [(A_t, .inr (8, [.ref A_t_state, .ref A_t_tape, .int t_taped, .int t_fault, .int t_broken, .int t_brokenAt, .int t_spot, .int t_here, .int t_token, .int t_value, .int t_isRealTold, .ref A_t_ends, .ref A_t_letters, .ref A_t_least, .ref A_t_conflicts, .int t_conflictMany, .ref A_t_behind, .ref A_t_placed, .ref A_t_isKept, .ref A_t_lanes, .ref A_t_lengths, .ref A_t_cells, .int t_torn])), (A_t_lanes, .inl (cy 1, 4, .inl (upd t_lanes x1.toNatClampNeg x2))), (A_t_lengths, .inl (cy 1, 4, .inl (upd t_lengths x1.toNatClampNeg x3))), (A_t_cells, .inl (cy 1, 160, .inl t_cells))] := hD
          refine lv_iconst (v := 0) hx hb dX8_sheet_53 (by decide) ?_
          refine lv_istore (lv' := [(4, .int (0 : Int32)), (0, .ref A_t), (1, .int x1), (2, .int x2), (3, .int x3)]) hx hb dX8_sheet_54 hl (by decide) rfl (fun ls hl => ?_)
          obtain ⟨nn, h⟩ := h
          exact L56 nn (upd t_lanes x1.toNatClampNeg x2) (upd t_lengths x1.toNatClampNeg x3) t_cells (0 : Int32) H locs ls h hP hD hS (lv_sub hl [1, 2, 0] rfl)
        · replace h := h.2 hc
          refine lv_bipush (v := -14) hx hb dX8_sheet_36 (by decide) ?_
          subst hQ
          subst hAe
          exact W.iret (v := (-14 : Int32)) hx hb hr (fun t ht _ => ⟨⟨(-14 : Int32), (t_lanes, t_lengths, t_cells), rfl, h, by rw [ht]; exact hP, hD⟩, hS.F ht⟩) hS.2.2 dX8_sheet_38
      · replace h := h.2 hc
        refine lv_iconst (v := -1) hx hb dX8_sheet_30 (by decide) ?_
        subst hQ
        subst hAe
        exact W.iret (v := (-1 : Int32)) hx hb hr (fun t ht _ => ⟨⟨(-1 : Int32), (t_lanes, t_lengths, t_cells), rfl, h, by rw [ht]; exact hP, hD⟩, hS.F ht⟩) hS.2.2 dX8_sheet_31
theorem qX8_lay : yX8_lay.cls = RX8 ∧ yX8_lay.cls ≠ "java/lang/invoke/MethodHandle" ∧ yX8_lay.cls ≠ "java/lang/invoke/VarHandle" ∧ (parseMethodDescriptor yX8_lay.desc).map (fun d => d.parameters.length) = some 3 := by decide +kernel
def P_X8_lay (post : Int32 → (Nat → Int32) → Prop) (t_lanes : Nat → Int32) (t_lengths : Nat → Int32) (t_cells : Nat → Int32) (x1 : Int32) (x2 : Int32) (x3 : Int32) : Prop :=
  P_X8_in (fun (r1 : Int32) => ((¬ r1 = 0 → (vp_in x1 4 ∧ ((¬ t_lanes x1.toNatClampNeg = (-4 : Int32) → (vp_in x1 4 ∧ P_X8_in (fun (r2 : Int32) => ((¬ r2 = 0 → (vp_in x1 4 ∧ ((¬ t_lanes x1.toNatClampNeg = 0 → (vp_in x1 4 ∧ ((¬ t_lanes x1.toNatClampNeg = (1 : Int32) → (vp_in (((40 : Int32) * x1) + x2) 160 ∧ post (1 : Int32) (upd t_cells (((40 : Int32) * x1) + x2).toNatClampNeg x3))) ∧ (t_lanes x1.toNatClampNeg = (1 : Int32) → (vp_in (((40 : Int32) * x1) + x2) 160 ∧ post (1 : Int32) (upd t_cells (((40 : Int32) * x1) + x2).toNatClampNeg ((x3 <<< ((16 : Int32) &&& 31)) >>> ((16 : Int32) &&& 31)))))))) ∧ (t_lanes x1.toNatClampNeg = 0 → (vp_in (((40 : Int32) * x1) + x2) 160 ∧ post (1 : Int32) (upd t_cells (((40 : Int32) * x1) + x2).toNatClampNeg ((x3 <<< ((24 : Int32) &&& 31)) >>> ((24 : Int32) &&& 31)))))))) ∧ (r2 = 0 → post (-12 : Int32) t_cells))) x2.toInt64 (0 : Int64) (((t_lengths x1.toNatClampNeg) - (1 : Int32)).toInt64))) ∧ (t_lanes x1.toNatClampNeg = (-4 : Int32) → post (-11 : Int32) t_cells)))) ∧ (r1 = 0 → post (-1 : Int32) t_cells))) x1.toInt64 (0 : Int64) (3 : Int64)
set_option maxHeartbeats 4000000 in
set_option maxRecDepth 100000 in
theorem c_X8_lay (l : Launch) (D : va_G) (cy : Nat → ClassId) (sz : Nat) (A_t A_t_state A_t_tape A_t_ends A_t_letters A_t_least A_t_conflicts A_t_behind A_t_placed A_t_isKept A_t_lanes A_t_lengths A_t_cells : Nat) (t_taped : Int32) (t_fault : Int32) (t_broken : Int32) (t_brokenAt : Int32) (t_spot : Int32) (t_here : Int32) (t_token : Int32) (t_value : Int32) (t_isRealTold : Int32) (t_conflictMany : Int32) (t_torn : Int32) (t_lanes : Nat → Int32) (t_lengths : Nat → Int32) (t_cells : Nat → Int32) (x1 : Int32) (x2 : Int32) (x3 : Int32) (post : Int32 → (Nat → Int32) → Prop) (h : P_X8_lay post t_lanes t_lengths t_cells x1 x2 x3) : Met l yX8_lay wsX8_lay { frames := 1, cells := 0, slots := 0, locals := 25 } (pcW D cy [(A_t, .inr (8, [.ref A_t_state, .ref A_t_tape, .int t_taped, .int t_fault, .int t_broken, .int t_brokenAt, .int t_spot, .int t_here, .int t_token, .int t_value, .int t_isRealTold, .ref A_t_ends, .ref A_t_letters, .ref A_t_least, .ref A_t_conflicts, .int t_conflictMany, .ref A_t_behind, .ref A_t_placed, .ref A_t_isKept, .ref A_t_lanes, .ref A_t_lengths, .ref A_t_cells, .int t_torn])), (A_t_lanes, .inl (cy 1, 4, .inl t_lanes)), (A_t_lengths, .inl (cy 1, 4, .inl t_lengths)), (A_t_cells, .inl (cy 1, 160, .inl t_cells))] sz [.ref A_t, .int x1, .int x2, .int x3]) (va_Qi (fun r (u : (Nat → Int32)) => post r u) (bW D [(A_t, .inr (8, [.ref A_t_state, .ref A_t_tape, .int t_taped, .int t_fault, .int t_broken, .int t_brokenAt, .int t_spot, .int t_here, .int t_token, .int t_value, .int t_isRealTold, .ref A_t_ends, .ref A_t_letters, .ref A_t_least, .ref A_t_conflicts, .int t_conflictMany, .ref A_t_behind, .ref A_t_placed, .ref A_t_isKept, .ref A_t_lanes, .ref A_t_lengths, .ref A_t_cells, .int t_torn])), (A_t_lanes, .inl (cy 1, 4, .inl t_lanes)), (A_t_lengths, .inl (cy 1, 4, .inl t_lengths)), (A_t_cells, .inl (cy 1, 160, .inl t_cells))] sz (fun u => [(A_t, .inr (8, [.ref A_t_state, .ref A_t_tape, .int t_taped, .int t_fault, .int t_broken, .int t_brokenAt, .int t_spot, .int t_here, .int t_token, .int t_value, .int t_isRealTold, .ref A_t_ends, .ref A_t_letters, .ref A_t_least, .ref A_t_conflicts, .int t_conflictMany, .ref A_t_behind, .ref A_t_placed, .ref A_t_isKept, .ref A_t_lanes, .ref A_t_lengths, .ref A_t_cells, .int t_torn])), (A_t_lanes, .inl (cy 1, 4, .inl t_lanes)), (A_t_lengths, .inl (cy 1, 4, .inl t_lengths)), (A_t_cells, .inl (cy 1, 160, .inl u))])) (va_A [(A_t, .inr (8, [.ref A_t_state, .ref A_t_tape, .int t_taped, .int t_fault, .int t_broken, .int t_brokenAt, .int t_spot, .int t_here, .int t_token, .int t_value, .int t_isRealTold, .ref A_t_ends, .ref A_t_letters, .ref A_t_least, .ref A_t_conflicts, .int t_conflictMany, .ref A_t_behind, .ref A_t_placed, .ref A_t_isKept, .ref A_t_lanes, .ref A_t_lengths, .ref A_t_cells, .int t_torn])), (A_t_lanes, .inl (cy 1, 4, .inl t_lanes)), (A_t_lengths, .inl (cy 1, 4, .inl t_lengths)), (A_t_cells, .inl (cy 1, 160, .inl t_cells))] sz)) 0 0 (va_A [(A_t, .inr (8, [.ref A_t_state, .ref A_t_tape, .int t_taped, .int t_fault, .int t_broken, .int t_brokenAt, .int t_spot, .int t_here, .int t_token, .int t_value, .int t_isRealTold, .ref A_t_ends, .ref A_t_letters, .ref A_t_least, .ref A_t_conflicts, .int t_conflictMany, .ref A_t_behind, .ref A_t_placed, .ref A_t_isKept, .ref A_t_lanes, .ref A_t_lengths, .ref A_t_cells, .int t_torn])), (A_t_lanes, .inl (cy 1, 4, .inl t_lanes)), (A_t_lengths, .inl (cy 1, 4, .inl t_lengths)), (A_t_cells, .inl (cy 1, 160, .inl t_cells))] sz) := by
  refine Met.ofW (cc := cX8_lay) (maxL := 4) (ret := (some .int)) (by decide) rfl ?_
  intro p e s m args below meth c s₁ B hml hv
  obtain ⟨rfl, hsz, hP, hK, hD0⟩ := hv
  have hx := B.exec
  have hb := B.bytes
  have hr := B.returns
  have hts := atoms_spec (ws := wsX8_lay) B.pre
  have hown : s.vm.findClass RX8 = some m.cls := findClass_of_methodNamed B.named
  have hlocks := B.notSynchronized
  have CF : CallFix p m c cX8_lay 4 s ([.ref A_t, .int x1, .int x2, .int x3] : List Value).toArray wsX8_lay RX8 := ⟨hx, hb, hml, hown, hts⟩
  have f0 := hts (.constantLong RX8 108 (3)) (by decide +kernel)
  have f1 := hts (.fieldLink RX8 39 "GapBoundsModel" "lanes" "[I") (by decide +kernel)
  have f2 := hts (.fieldLink RX8 42 "GapBoundsModel" "lengths" "[I") (by decide +kernel)
  have f3 := hts (.fieldLink RX8 45 "GapBoundsModel" "cells" "[I") (by decide +kernel)
  have iX8 : ∀ w ∈ u_ws RX8 TX8 23, w ∈ wsX8_lay := by decide +kernel
  subst hsz
  obtain ⟨A, hAe⟩ : ∃ A, A = va_A [(A_t, .inr (8, [.ref A_t_state, .ref A_t_tape, .int t_taped, .int t_fault, .int t_broken, .int t_brokenAt, .int t_spot, .int t_here, .int t_token, .int t_value, .int t_isRealTold, .ref A_t_ends, .ref A_t_letters, .ref A_t_least, .ref A_t_conflicts, .int t_conflictMany, .ref A_t_behind, .ref A_t_placed, .ref A_t_isKept, .ref A_t_lanes, .ref A_t_lengths, .ref A_t_cells, .int t_torn])), (A_t_lanes, .inl (cy 1, 4, .inl t_lanes)), (A_t_lengths, .inl (cy 1, 4, .inl t_lengths)), (A_t_cells, .inl (cy 1, 160, .inl t_cells))] s.heap.size := ⟨_, rfl⟩
  have hD : va_D A [(A_t, .inr (8, [.ref A_t_state, .ref A_t_tape, .int t_taped, .int t_fault, .int t_broken, .int t_brokenAt, .int t_spot, .int t_here, .int t_token, .int t_value, .int t_isRealTold, .ref A_t_ends, .ref A_t_letters, .ref A_t_least, .ref A_t_conflicts, .int t_conflictMany, .ref A_t_behind, .ref A_t_placed, .ref A_t_isKept, .ref A_t_lanes, .ref A_t_lengths, .ref A_t_cells, .int t_torn])), (A_t_lanes, .inl (cy 1, 4, .inl t_lanes)), (A_t_lengths, .inl (cy 1, 4, .inl t_lengths)), (A_t_cells, .inl (cy 1, 160, .inl t_cells))] := by rw [hAe]; exact hD0.self
  have hA : ∀ q : Nat, s.heap.size ≤ q → A q := fun q hq => by rw [hAe]; exact Or.inr hq
  have hS : va_S A s.heap s.heap [] := va_S.rf
  have hl := lv_entry [.ref A_t, .int x1, .int x2, .int x3] (n := 4) (Nat.le_of_ble_eq_true rfl)
  rw [lg_entry_eq]
  generalize (lg_sl [.ref A_t, .int x1, .int x2, .int x3] ++ List.replicate (4 - (lg_sl [.ref A_t, .int x1, .int x2, .int x3]).length) Slot.unset).toArray = ls at hl ⊢
  have hl : lv_has ls 4 [(0, .ref A_t), (1, .int x1), (2, .int x2), (3, .int x3)] := hl
  refine W.gen (fun Q0 hQ => ?_)
  unfold P_X8_lay at h
  refine lv_iload_n hx hb dX8_lay_0 rfl (lv_at hl 1 rfl) ?_
  refine lv_i2l (v := x1.toInt64) hx hb dX8_lay_1 rfl ?_
  refine lv_lconst (v := 0) hx hb dX8_lay_2 (by decide) ?_
  refine lv_ldc2 (v := 3) hx hb hown f0 dX8_lay_3 ?_
  refine vp_callSi (W.runS (As := [.long x1.toInt64, .long (0 : Int64), .long (3 : Int64)]) (rest := []) CF (c_X8_in l x1.toInt64 (0 : Int64) (3 : Int64) _ h) (va_cwS 3 hts gX8_lay_X8_in rfl rfl rfl qX8_in.2 ⟨Nat.le_of_ble_eq_true rfl, Nat.le_of_ble_eq_true rfl⟩) mpSN rfl rfl hl.1 rfl (lv_room (Nat.le_of_ble_eq_true rfl)) dX8_lay_6 ⟨Nat.zero_le _, Nat.zero_le _⟩) (fun r1 h => ?_)
  refine lv_if_ne (tgt := 14) hx hb dX8_lay_9 (by decide) (fun hc => ?_) (fun hc => ?_)
  · replace h := h.1 hc
    refine lv_aload_n hx hb dX8_lay_14 rfl (lv_at hl 0 rfl) ?_
    refine va_get (D := D) (ci := 8) (v := .ref A_t_lanes) (C := RX8) (T := TX8) (N := 23) hx hb hts iX8 hown hK.1 hP 0 rfl rfl 19 (by decide) f1 (fun _ h9 => h9) rfl dX8_lay_15 ?_
    refine lv_iload_n hx hb dX8_lay_18 rfl (lv_at hl 1 rfl) ?_
    refine va_iald hx hb hK.1 hP 1 1 rfl rfl h.1 dX8_lay_19 ?_
    replace h := h.2
    refine lv_bipush (v := -4) hx hb dX8_lay_20 (by decide) ?_
    refine lv_icmp_ne (tgt := 28) hx hb dX8_lay_22 (by decide) (fun hc => ?_) (fun hc => ?_)
    · replace h := h.1 hc
      refine lv_iload_n hx hb dX8_lay_28 rfl (lv_at hl 2 rfl) ?_
      refine lv_i2l (v := x2.toInt64) hx hb dX8_lay_29 rfl ?_
      refine lv_lconst (v := 0) hx hb dX8_lay_30 (by decide) ?_
      refine lv_aload_n hx hb dX8_lay_31 rfl (lv_at hl 0 rfl) ?_
      refine va_get (D := D) (ci := 8) (v := .ref A_t_lengths) (C := RX8) (T := TX8) (N := 23) hx hb hts iX8 hown hK.1 hP 0 rfl rfl 20 (by decide) f2 (fun _ h9 => h9) rfl dX8_lay_32 ?_
      refine lv_iload_n hx hb dX8_lay_35 rfl (lv_at hl 1 rfl) ?_
      refine va_iald hx hb hK.1 hP 2 1 rfl rfl h.1 dX8_lay_36 ?_
      replace h := h.2
      refine lv_iconst (v := 1) hx hb dX8_lay_37 (by decide) ?_
      refine lv_isub hx hb dX8_lay_38 ?_
      refine lv_i2l (v := ((t_lengths x1.toNatClampNeg) - (1 : Int32)).toInt64) hx hb dX8_lay_39 rfl ?_
      refine vp_callSi (W.runS (As := [.long x2.toInt64, .long (0 : Int64), .long (((t_lengths x1.toNatClampNeg) - (1 : Int32)).toInt64)]) (rest := []) CF (c_X8_in l x2.toInt64 (0 : Int64) (((t_lengths x1.toNatClampNeg) - (1 : Int32)).toInt64) _ h) (va_cwS 3 hts gX8_lay_X8_in rfl rfl rfl qX8_in.2 ⟨Nat.le_of_ble_eq_true rfl, Nat.le_of_ble_eq_true rfl⟩) mpSN rfl rfl hl.1 rfl (lv_room (Nat.le_of_ble_eq_true rfl)) dX8_lay_40 ⟨Nat.zero_le _, Nat.zero_le _⟩) (fun r2 h => ?_)
      refine lv_if_ne (tgt := 49) hx hb dX8_lay_43 (by decide) (fun hc => ?_) (fun hc => ?_)
      · replace h := h.1 hc
        refine lv_aload_n hx hb dX8_lay_49 rfl (lv_at hl 0 rfl) ?_
        refine va_get (D := D) (ci := 8) (v := .ref A_t_cells) (C := RX8) (T := TX8) (N := 23) hx hb hts iX8 hown hK.1 hP 0 rfl rfl 21 (by decide) f3 (fun _ h9 => h9) rfl dX8_lay_50 ?_
        refine lv_bipush (v := 40) hx hb dX8_lay_53 (by decide) ?_
        refine lv_iload_n hx hb dX8_lay_55 rfl (lv_at hl 1 rfl) ?_
        refine lv_imul hx hb dX8_lay_56 ?_
        refine lv_iload_n hx hb dX8_lay_57 rfl (lv_at hl 2 rfl) ?_
        refine lv_iadd hx hb dX8_lay_58 ?_
        refine lv_aload_n hx hb dX8_lay_59 rfl (lv_at hl 0 rfl) ?_
        refine va_get (D := D) (ci := 8) (v := .ref A_t_lanes) (C := RX8) (T := TX8) (N := 23) hx hb hts iX8 hown hK.1 hP 0 rfl rfl 19 (by decide) f1 (fun _ h9 => h9) rfl dX8_lay_60 ?_
        refine lv_iload_n hx hb dX8_lay_63 rfl (lv_at hl 1 rfl) ?_
        refine va_iald hx hb hK.1 hP 1 1 rfl rfl h.1 dX8_lay_64 ?_
        replace h := h.2
        refine lv_if_ne (tgt := 78) hx hb dX8_lay_65 (by decide) (fun hc => ?_) (fun hc => ?_)
        · replace h := h.1 hc
          refine lv_aload_n hx hb dX8_lay_78 rfl (lv_at hl 0 rfl) ?_
          refine va_get (D := D) (ci := 8) (v := .ref A_t_lanes) (C := RX8) (T := TX8) (N := 23) hx hb hts iX8 hown hK.1 hP 0 rfl rfl 19 (by decide) f1 (fun _ h9 => h9) rfl dX8_lay_79 ?_
          refine lv_iload_n hx hb dX8_lay_82 rfl (lv_at hl 1 rfl) ?_
          refine va_iald hx hb hK.1 hP 1 1 rfl rfl h.1 dX8_lay_83 ?_
          replace h := h.2
          refine lv_iconst (v := 1) hx hb dX8_lay_84 (by decide) ?_
          refine lv_icmp_ne (tgt := 98) hx hb dX8_lay_85 (by decide) (fun hc => ?_) (fun hc => ?_)
          · replace h := h.1 hc
            refine lv_iload_n hx hb dX8_lay_98 rfl (lv_at hl 3 rfl) ?_
            refine va_iast hx hb hK.1 hP hD hS 3 1 rfl rfl h.1 dX8_lay_99 (fun H locs hP hD hS => ?_)
            replace h := h.2
            have hP : va_P D vwCl [(A_t, .inr (8, [.ref A_t_state, .ref A_t_tape, .int t_taped, .int t_fault, .int t_broken, .int t_brokenAt, .int t_spot, .int t_here, .int t_token, .int t_value, .int t_isRealTold, .ref A_t_ends, .ref A_t_letters, .ref A_t_least, .ref A_t_conflicts, .int t_conflictMany, .ref A_t_behind, .ref A_t_placed, .ref A_t_isKept, .ref A_t_lanes, .ref A_t_lengths, .ref A_t_cells, .int t_torn])), (A_t_lanes, .inl (cy 1, 4, .inl t_lanes)), (A_t_lengths, .inl (cy 1, 4, .inl t_lengths)), (A_t_cells, .inl (cy 1, 160, .inl (upd t_cells (((40 : Int32) * x1) + x2).toNatClampNeg x3)))] H := hP
            have hD : va_D A [(A_t, .inr (8, [.ref A_t_state, .ref A_t_tape, .int t_taped, .int t_fault, .int t_broken, .int t_brokenAt, .int t_spot, .int t_here, .int t_token, .int t_value, .int t_isRealTold, .ref A_t_ends, .ref A_t_letters, .ref A_t_least, .ref A_t_conflicts, .int t_conflictMany, .ref A_t_behind, .ref A_t_placed, .ref A_t_isKept, .ref A_t_lanes, .ref A_t_lengths, .ref A_t_cells, .int t_torn])), (A_t_lanes, .inl (cy 1, 4, .inl t_lanes)), (A_t_lengths, .inl (cy 1, 4, .inl t_lengths)), (A_t_cells, .inl (cy 1, 160, .inl (upd t_cells (((40 : Int32) * x1) + x2).toNatClampNeg x3)))] := hD
            refine lv_iconst (v := 1) hx hb dX8_lay_100 (by decide) ?_
            subst hQ
            subst hAe
            exact W.iret (v := (1 : Int32)) hx hb hr (fun t ht _ => ⟨⟨(1 : Int32), upd t_cells (((40 : Int32) * x1) + x2).toNatClampNeg x3, rfl, h, by rw [ht]; exact hP, hD⟩, hS.F ht⟩) hS.2.2 dX8_lay_101
          · replace h := h.2 hc
            refine lv_iload_n hx hb dX8_lay_88 rfl (lv_at hl 3 rfl) ?_
            refine lv_bipush (v := 16) hx hb dX8_lay_89 (by decide) ?_
            refine lv_ishl hx hb dX8_lay_91 ?_
            refine lv_bipush (v := 16) hx hb dX8_lay_92 (by decide) ?_
            refine lv_ishr hx hb dX8_lay_94 ?_
            refine lv_goto (tgt := 99) hx hb dX8_lay_95 (by decide) ?_
            refine va_iast hx hb hK.1 hP hD hS 3 1 rfl rfl h.1 dX8_lay_99 (fun H locs hP hD hS => ?_)
            replace h := h.2
            have hP : va_P D vwCl [(A_t, .inr (8, [.ref A_t_state, .ref A_t_tape, .int t_taped, .int t_fault, .int t_broken, .int t_brokenAt, .int t_spot, .int t_here, .int t_token, .int t_value, .int t_isRealTold, .ref A_t_ends, .ref A_t_letters, .ref A_t_least, .ref A_t_conflicts, .int t_conflictMany, .ref A_t_behind, .ref A_t_placed, .ref A_t_isKept, .ref A_t_lanes, .ref A_t_lengths, .ref A_t_cells, .int t_torn])), (A_t_lanes, .inl (cy 1, 4, .inl t_lanes)), (A_t_lengths, .inl (cy 1, 4, .inl t_lengths)), (A_t_cells, .inl (cy 1, 160, .inl (upd t_cells (((40 : Int32) * x1) + x2).toNatClampNeg ((x3 <<< ((16 : Int32) &&& 31)) >>> ((16 : Int32) &&& 31)))))] H := hP
            have hD : va_D A [(A_t, .inr (8, [.ref A_t_state, .ref A_t_tape, .int t_taped, .int t_fault, .int t_broken, .int t_brokenAt, .int t_spot, .int t_here, .int t_token, .int t_value, .int t_isRealTold, .ref A_t_ends, .ref A_t_letters, .ref A_t_least, .ref A_t_conflicts, .int t_conflictMany, .ref A_t_behind, .ref A_t_placed, .ref A_t_isKept, .ref A_t_lanes, .ref A_t_lengths, .ref A_t_cells, .int t_torn])), (A_t_lanes, .inl (cy 1, 4, .inl t_lanes)), (A_t_lengths, .inl (cy 1, 4, .inl t_lengths)), (A_t_cells, .inl (cy 1, 160, .inl (upd t_cells (((40 : Int32) * x1) + x2).toNatClampNeg ((x3 <<< ((16 : Int32) &&& 31)) >>> ((16 : Int32) &&& 31)))))] := hD
            refine lv_iconst (v := 1) hx hb dX8_lay_100 (by decide) ?_
            subst hQ
            subst hAe
            exact W.iret (v := (1 : Int32)) hx hb hr (fun t ht _ => ⟨⟨(1 : Int32), upd t_cells (((40 : Int32) * x1) + x2).toNatClampNeg ((x3 <<< ((16 : Int32) &&& 31)) >>> ((16 : Int32) &&& 31)), rfl, h, by rw [ht]; exact hP, hD⟩, hS.F ht⟩) hS.2.2 dX8_lay_101
        · replace h := h.2 hc
          refine lv_iload_n hx hb dX8_lay_68 rfl (lv_at hl 3 rfl) ?_
          refine lv_bipush (v := 24) hx hb dX8_lay_69 (by decide) ?_
          refine lv_ishl hx hb dX8_lay_71 ?_
          refine lv_bipush (v := 24) hx hb dX8_lay_72 (by decide) ?_
          refine lv_ishr hx hb dX8_lay_74 ?_
          refine lv_goto (tgt := 99) hx hb dX8_lay_75 (by decide) ?_
          refine va_iast hx hb hK.1 hP hD hS 3 1 rfl rfl h.1 dX8_lay_99 (fun H locs hP hD hS => ?_)
          replace h := h.2
          have hP : va_P D vwCl [(A_t, .inr (8, [.ref A_t_state, .ref A_t_tape, .int t_taped, .int t_fault, .int t_broken, .int t_brokenAt, .int t_spot, .int t_here, .int t_token, .int t_value, .int t_isRealTold, .ref A_t_ends, .ref A_t_letters, .ref A_t_least, .ref A_t_conflicts, .int t_conflictMany, .ref A_t_behind, .ref A_t_placed, .ref A_t_isKept, .ref A_t_lanes, .ref A_t_lengths, .ref A_t_cells, .int t_torn])), (A_t_lanes, .inl (cy 1, 4, .inl t_lanes)), (A_t_lengths, .inl (cy 1, 4, .inl t_lengths)), (A_t_cells, .inl (cy 1, 160, .inl (upd t_cells (((40 : Int32) * x1) + x2).toNatClampNeg ((x3 <<< ((24 : Int32) &&& 31)) >>> ((24 : Int32) &&& 31)))))] H := hP
          have hD : va_D A [(A_t, .inr (8, [.ref A_t_state, .ref A_t_tape, .int t_taped, .int t_fault, .int t_broken, .int t_brokenAt, .int t_spot, .int t_here, .int t_token, .int t_value, .int t_isRealTold, .ref A_t_ends, .ref A_t_letters, .ref A_t_least, .ref A_t_conflicts, .int t_conflictMany, .ref A_t_behind, .ref A_t_placed, .ref A_t_isKept, .ref A_t_lanes, .ref A_t_lengths, .ref A_t_cells, .int t_torn])), (A_t_lanes, .inl (cy 1, 4, .inl t_lanes)), (A_t_lengths, .inl (cy 1, 4, .inl t_lengths)), (A_t_cells, .inl (cy 1, 160, .inl (upd t_cells (((40 : Int32) * x1) + x2).toNatClampNeg ((x3 <<< ((24 : Int32) &&& 31)) >>> ((24 : Int32) &&& 31)))))] := hD
          refine lv_iconst (v := 1) hx hb dX8_lay_100 (by decide) ?_
          subst hQ
          subst hAe
          exact W.iret (v := (1 : Int32)) hx hb hr (fun t ht _ => ⟨⟨(1 : Int32), upd t_cells (((40 : Int32) * x1) + x2).toNatClampNeg ((x3 <<< ((24 : Int32) &&& 31)) >>> ((24 : Int32) &&& 31)), rfl, h, by rw [ht]; exact hP, hD⟩, hS.F ht⟩) hS.2.2 dX8_lay_101
      · replace h := h.2 hc
        refine lv_bipush (v := -12) hx hb dX8_lay_46 (by decide) ?_
        subst hQ
        subst hAe
        exact W.iret (v := (-12 : Int32)) hx hb hr (fun t ht _ => ⟨⟨(-12 : Int32), t_cells, rfl, h, by rw [ht]; exact hP, hD⟩, hS.F ht⟩) hS.2.2 dX8_lay_48
    · replace h := h.2 hc
      refine lv_bipush (v := -11) hx hb dX8_lay_25 (by decide) ?_
      subst hQ
      subst hAe
      exact W.iret (v := (-11 : Int32)) hx hb hr (fun t ht _ => ⟨⟨(-11 : Int32), t_cells, rfl, h, by rw [ht]; exact hP, hD⟩, hS.F ht⟩) hS.2.2 dX8_lay_27
  · replace h := h.2 hc
    refine lv_iconst (v := -1) hx hb dX8_lay_12 (by decide) ?_
    subst hQ
    subst hAe
    exact W.iret (v := (-1 : Int32)) hx hb hr (fun t ht _ => ⟨⟨(-1 : Int32), t_cells, rfl, h, by rw [ht]; exact hP, hD⟩, hS.F ht⟩) hS.2.2 dX8_lay_13
theorem qX8_read : yX8_read.cls = RX8 ∧ yX8_read.cls ≠ "java/lang/invoke/MethodHandle" ∧ yX8_read.cls ≠ "java/lang/invoke/VarHandle" ∧ (parseMethodDescriptor yX8_read.desc).map (fun d => d.parameters.length) = some 4 := by decide +kernel
def B_X8_read_213 (K_56 : Int32 → (Nat → Int32) → (Nat → Int64) → (Nat → Int64) → (Nat → Int32) → Int32 → Int32 → Int32 → Prop) (t_conflictMany : Int32) (t_state : Nat → Int32) (t_least : Nat → Int64) (t_behind : Nat → Int64) (t_conflicts : Nat → Int32) (x5 : Int32) (x6 : Int32) (x7 : Int32) : Prop :=
  K_56 t_conflictMany t_state t_least t_behind t_conflicts x5 x6 (x7 + (1 : Int32))
def B_X8_read_130 (post : Int32 → Int32 → Int32 → (Nat → Int32) → (Nat → Int64) → (Nat → Int64) → (Nat → Int32) → Prop) (K_56 : Int32 → (Nat → Int32) → (Nat → Int64) → (Nat → Int64) → (Nat → Int32) → Int32 → Int32 → Int32 → Prop) (t_conflictMany : Int32) (t_torn : Int32) (t_state : Nat → Int32) (t_cells : Nat → Int32) (t_least : Nat → Int64) (t_behind : Nat → Int64) (t_conflicts : Nat → Int32) (k0 : Int32) (x1 : Int32) (x6 : Int32) (x7 : Int32) (y8 : Int64) : Prop :=
  ((¬ k0 = 0 → B_X8_read_213 K_56 t_conflictMany t_state t_least t_behind t_conflicts k0 x6 x7) ∧ (k0 = 0 → ((¬ x7 - x7 / (4 : Int32) * (4 : Int32) = (3 : Int32) → B_X8_read_213 K_56 t_conflictMany t_state t_least t_behind t_conflicts k0 x6 x7) ∧ (x7 - x7 / (4 : Int32) * (4 : Int32) = (3 : Int32) → (vp_in ((((40 : Int32) * x1) + y8.toInt32) - (3 : Int32)) 160 ∧ (vp_in ((((40 : Int32) * x1) + y8.toInt32) - (2 : Int32)) 160 ∧ (vp_in ((((40 : Int32) * x1) + y8.toInt32) - (1 : Int32)) 160 ∧ (vp_in (((40 : Int32) * x1) + y8.toInt32) 160 ∧ P_X8_adds (fun (r6 : Int32) (t_conflictMany_v6 : Int32) (t_state_v6 : Nat → Int32) (t_least_v6 : Nat → Int64) (t_behind_v6 : Nat → Int64) (t_conflicts_v6 : Nat → Int32) => ((0 ≤ r6 → B_X8_read_213 K_56 t_conflictMany_v6 t_state_v6 t_least_v6 t_behind_v6 t_conflicts_v6 k0 (x6 + (1 : Int32)) x7) ∧ (¬ 0 ≤ r6 → P_X8_copies (fun (t_state_v7 : Nat → Int32) => post ((-20 : Int32) - x6) t_conflictMany_v6 t_torn t_state_v7 t_least_v6 t_behind_v6 t_conflicts_v6) t_state_v6 (428 : Int32) (0 : Int32)))) t_conflictMany t_state t_least t_behind t_conflicts (t_cells ((((40 : Int32) * x1) + y8.toInt32) - (3 : Int32)).toNatClampNeg) (t_cells ((((40 : Int32) * x1) + y8.toInt32) - (2 : Int32)).toNatClampNeg) (t_cells ((((40 : Int32) * x1) + y8.toInt32) - (1 : Int32)).toNatClampNeg) (t_cells (((40 : Int32) * x1) + y8.toInt32).toNatClampNeg)))))))))
def LB_X8_read_56 (post : Int32 → Int32 → Int32 → (Nat → Int32) → (Nat → Int64) → (Nat → Int64) → (Nat → Int32) → Prop) (t_torn : Int32) (t_lanes : Nat → Int32) (t_lengths : Nat → Int32) (t_cells : Nat → Int32) (x1 : Int32) (x2 : Int32) (x3 : Int32) (x4 : Int32) (K_56 : Int32 → (Nat → Int32) → (Nat → Int64) → (Nat → Int64) → (Nat → Int32) → Int32 → Int32 → Int32 → Prop) (t_conflictMany : Int32) (t_state : Nat → Int32) (t_least : Nat → Int64) (t_behind : Nat → Int64) (t_conflicts : Nat → Int32) (x5 : Int32) (x6 : Int32) (x7 : Int32) : Prop :=
  (((4 : Int32) * x4 ≤ x7 → post x6 t_conflictMany x5 t_state t_least t_behind t_conflicts) ∧ (¬ (4 : Int32) * x4 ≤ x7 → ((¬ x5 = 0 → post x6 t_conflictMany x5 t_state t_least t_behind t_conflicts) ∧ (x5 = 0 → (vp_in x1 4 ∧ ((¬ t_lanes x1.toNatClampNeg = (-4 : Int32) → (vp_in x1 4 ∧ ((t_lanes x1.toNatClampNeg = x2 → (vp_in x1 4 ∧ P_X8_in (fun (r5 : Int32) => ((¬ r5 = 0 → B_X8_read_130 post K_56 t_conflictMany t_torn t_state t_cells t_least t_behind t_conflicts (0 : Int32) x1 x6 x7 (x3.toInt64 + x7.toInt64)) ∧ (r5 = 0 → B_X8_read_130 post K_56 t_conflictMany t_torn t_state t_cells t_least t_behind t_conflicts (2 : Int32) x1 x6 x7 (x3.toInt64 + x7.toInt64)))) (x3.toInt64 + x7.toInt64) (0 : Int64) (((t_lengths x1.toNatClampNeg) - (1 : Int32)).toInt64))) ∧ (¬ t_lanes x1.toNatClampNeg = x2 → B_X8_read_130 post K_56 t_conflictMany t_torn t_state t_cells t_least t_behind t_conflicts (3 : Int32) x1 x6 x7 (x3.toInt64 + x7.toInt64))))) ∧ (t_lanes x1.toNatClampNeg = (-4 : Int32) → B_X8_read_130 post K_56 t_conflictMany t_torn t_state t_cells t_least t_behind t_conflicts (1 : Int32) x1 x6 x7 (x3.toInt64 + x7.toInt64))))))))
noncomputable def L_X8_read_56 (post : Int32 → Int32 → Int32 → (Nat → Int32) → (Nat → Int64) → (Nat → Int64) → (Nat → Int32) → Prop) (t_torn : Int32) (t_lanes : Nat → Int32) (t_lengths : Nat → Int32) (t_cells : Nat → Int32) (x1 : Int32) (x2 : Int32) (x3 : Int32) (x4 : Int32) (n : Nat) : Int32 → (Nat → Int32) → (Nat → Int64) → (Nat → Int64) → (Nat → Int32) → Int32 → Int32 → Int32 → Prop := Nat.rec (motive := fun _ => Int32 → (Nat → Int32) → (Nat → Int64) → (Nat → Int64) → (Nat → Int32) → Int32 → Int32 → Int32 → Prop) (fun _ _ _ _ _ _ _ _ => False) (fun _ K => LB_X8_read_56 post t_torn t_lanes t_lengths t_cells x1 x2 x3 x4 K) n
def P_X8_read (post : Int32 → Int32 → Int32 → (Nat → Int32) → (Nat → Int64) → (Nat → Int64) → (Nat → Int32) → Prop) (t_conflictMany : Int32) (t_torn : Int32) (t_state : Nat → Int32) (t_lanes : Nat → Int32) (t_lengths : Nat → Int32) (t_cells : Nat → Int32) (t_least : Nat → Int64) (t_behind : Nat → Int64) (t_conflicts : Nat → Int32) (x1 : Int32) (x2 : Int32) (x3 : Int32) (x4 : Int32) : Prop :=
  P_X8_in (fun (r1 : Int32) => ((r1 = 0 → post (-1 : Int32) t_conflictMany t_torn t_state t_least t_behind t_conflicts) ∧ (¬ r1 = 0 → P_X8_in (fun (r2 : Int32) => ((r2 = 0 → post (-1 : Int32) t_conflictMany t_torn t_state t_least t_behind t_conflicts) ∧ (¬ r2 = 0 → P_X8_in (fun (r3 : Int32) => ((¬ r3 = 0 → P_X8_copies (fun (t_state_v4 : Nat → Int32) => ∃ n : Nat, L_X8_read_56 post t_torn t_lanes t_lengths t_cells x1 x2 x3 x4 n t_conflictMany t_state_v4 t_least t_behind t_conflicts (0 : Int32) (0 : Int32) (0 : Int32)) t_state (0 : Int32) (428 : Int32)) ∧ (r3 = 0 → post (-1 : Int32) t_conflictMany t_torn t_state t_least t_behind t_conflicts))) x4.toInt64 (0 : Int64) (10 : Int64)))) x2.toInt64 (0 : Int64) (2 : Int64)))) x1.toInt64 (0 : Int64) (3 : Int64)
set_option maxHeartbeats 4000000 in
set_option maxRecDepth 100000 in
theorem c_X8_read (l : Launch) (D : va_G) (cy : Nat → ClassId) (sz : Nat) (A_t A_t_state A_t_tape A_t_ends A_t_letters A_t_least A_t_conflicts A_t_behind A_t_placed A_t_isKept A_t_lanes A_t_lengths A_t_cells : Nat) (t_taped : Int32) (t_fault : Int32) (t_broken : Int32) (t_brokenAt : Int32) (t_spot : Int32) (t_here : Int32) (t_token : Int32) (t_value : Int32) (t_isRealTold : Int32) (t_conflictMany : Int32) (t_torn : Int32) (t_state : Nat → Int32) (t_lanes : Nat → Int32) (t_lengths : Nat → Int32) (t_cells : Nat → Int32) (t_least : Nat → Int64) (t_behind : Nat → Int64) (t_conflicts : Nat → Int32) (x1 : Int32) (x2 : Int32) (x3 : Int32) (x4 : Int32) (post : Int32 → Int32 → Int32 → (Nat → Int32) → (Nat → Int64) → (Nat → Int64) → (Nat → Int32) → Prop) (h : P_X8_read post t_conflictMany t_torn t_state t_lanes t_lengths t_cells t_least t_behind t_conflicts x1 x2 x3 x4) : Met l yX8_read wsX8_read { frames := 6, cells := 0, slots := 0, locals := 152 } (pcW D cy [(A_t, .inr (8, [.ref A_t_state, .ref A_t_tape, .int t_taped, .int t_fault, .int t_broken, .int t_brokenAt, .int t_spot, .int t_here, .int t_token, .int t_value, .int t_isRealTold, .ref A_t_ends, .ref A_t_letters, .ref A_t_least, .ref A_t_conflicts, .int t_conflictMany, .ref A_t_behind, .ref A_t_placed, .ref A_t_isKept, .ref A_t_lanes, .ref A_t_lengths, .ref A_t_cells, .int t_torn])), (A_t_state, .inl (cy 1, 535, .inl t_state)), (A_t_lanes, .inl (cy 1, 4, .inl t_lanes)), (A_t_lengths, .inl (cy 1, 4, .inl t_lengths)), (A_t_cells, .inl (cy 1, 160, .inl t_cells)), (A_t_least, .inl (cy 2, 100, .inr (.inl t_least))), (A_t_behind, .inl (cy 2, 110, .inr (.inl t_behind))), (A_t_conflicts, .inl (cy 1, 16, .inl t_conflicts))] sz [.ref A_t, .int x1, .int x2, .int x3, .int x4]) (va_Qi (fun r (u : Int32 × Int32 × (Nat → Int32) × (Nat → Int64) × (Nat → Int64) × (Nat → Int32)) => post r u.1 u.2.1 u.2.2.1 u.2.2.2.1 u.2.2.2.2.1 u.2.2.2.2.2) (bW D [(A_t, .inr (8, [.ref A_t_state, .ref A_t_tape, .int t_taped, .int t_fault, .int t_broken, .int t_brokenAt, .int t_spot, .int t_here, .int t_token, .int t_value, .int t_isRealTold, .ref A_t_ends, .ref A_t_letters, .ref A_t_least, .ref A_t_conflicts, .int t_conflictMany, .ref A_t_behind, .ref A_t_placed, .ref A_t_isKept, .ref A_t_lanes, .ref A_t_lengths, .ref A_t_cells, .int t_torn])), (A_t_state, .inl (cy 1, 535, .inl t_state)), (A_t_lanes, .inl (cy 1, 4, .inl t_lanes)), (A_t_lengths, .inl (cy 1, 4, .inl t_lengths)), (A_t_cells, .inl (cy 1, 160, .inl t_cells)), (A_t_least, .inl (cy 2, 100, .inr (.inl t_least))), (A_t_behind, .inl (cy 2, 110, .inr (.inl t_behind))), (A_t_conflicts, .inl (cy 1, 16, .inl t_conflicts))] sz (fun u => [(A_t, .inr (8, [.ref A_t_state, .ref A_t_tape, .int t_taped, .int t_fault, .int t_broken, .int t_brokenAt, .int t_spot, .int t_here, .int t_token, .int t_value, .int t_isRealTold, .ref A_t_ends, .ref A_t_letters, .ref A_t_least, .ref A_t_conflicts, .int (u.1), .ref A_t_behind, .ref A_t_placed, .ref A_t_isKept, .ref A_t_lanes, .ref A_t_lengths, .ref A_t_cells, .int (u.2.1)])), (A_t_state, .inl (cy 1, 535, .inl u.2.2.1)), (A_t_lanes, .inl (cy 1, 4, .inl t_lanes)), (A_t_lengths, .inl (cy 1, 4, .inl t_lengths)), (A_t_cells, .inl (cy 1, 160, .inl t_cells)), (A_t_least, .inl (cy 2, 100, .inr (.inl u.2.2.2.1))), (A_t_behind, .inl (cy 2, 110, .inr (.inl u.2.2.2.2.1))), (A_t_conflicts, .inl (cy 1, 16, .inl u.2.2.2.2.2))])) (va_A [(A_t, .inr (8, [.ref A_t_state, .ref A_t_tape, .int t_taped, .int t_fault, .int t_broken, .int t_brokenAt, .int t_spot, .int t_here, .int t_token, .int t_value, .int t_isRealTold, .ref A_t_ends, .ref A_t_letters, .ref A_t_least, .ref A_t_conflicts, .int t_conflictMany, .ref A_t_behind, .ref A_t_placed, .ref A_t_isKept, .ref A_t_lanes, .ref A_t_lengths, .ref A_t_cells, .int t_torn])), (A_t_state, .inl (cy 1, 535, .inl t_state)), (A_t_lanes, .inl (cy 1, 4, .inl t_lanes)), (A_t_lengths, .inl (cy 1, 4, .inl t_lengths)), (A_t_cells, .inl (cy 1, 160, .inl t_cells)), (A_t_least, .inl (cy 2, 100, .inr (.inl t_least))), (A_t_behind, .inl (cy 2, 110, .inr (.inl t_behind))), (A_t_conflicts, .inl (cy 1, 16, .inl t_conflicts))] sz)) 0 0 (va_A [(A_t, .inr (8, [.ref A_t_state, .ref A_t_tape, .int t_taped, .int t_fault, .int t_broken, .int t_brokenAt, .int t_spot, .int t_here, .int t_token, .int t_value, .int t_isRealTold, .ref A_t_ends, .ref A_t_letters, .ref A_t_least, .ref A_t_conflicts, .int t_conflictMany, .ref A_t_behind, .ref A_t_placed, .ref A_t_isKept, .ref A_t_lanes, .ref A_t_lengths, .ref A_t_cells, .int t_torn])), (A_t_state, .inl (cy 1, 535, .inl t_state)), (A_t_lanes, .inl (cy 1, 4, .inl t_lanes)), (A_t_lengths, .inl (cy 1, 4, .inl t_lengths)), (A_t_cells, .inl (cy 1, 160, .inl t_cells)), (A_t_least, .inl (cy 2, 100, .inr (.inl t_least))), (A_t_behind, .inl (cy 2, 110, .inr (.inl t_behind))), (A_t_conflicts, .inl (cy 1, 16, .inl t_conflicts))] sz) := by
  refine Met.ofW (cc := cX8_read) (maxL := 11) (ret := (some .int)) (by decide) rfl ?_
  intro p e s m args below meth c s₁ B hml hv
  obtain ⟨rfl, hsz, hP, hK, hD0⟩ := hv
  have hx := B.exec
  have hb := B.bytes
  have hr := B.returns
  have hts := atoms_spec (ws := wsX8_read) B.pre
  have hown : s.vm.findClass RX8 = some m.cls := findClass_of_methodNamed B.named
  have hlocks := B.notSynchronized
  have CF : CallFix p m c cX8_read 11 s ([.ref A_t, .int x1, .int x2, .int x3, .int x4] : List Value).toArray wsX8_read RX8 := ⟨hx, hb, hml, hown, hts⟩
  have f0 := hts (.constantLong RX8 108 (3)) (by decide +kernel)
  have f1 := hts (.constantLong RX8 248 (2)) (by decide +kernel)
  have f2 := hts (.constantLong RX8 250 (10)) (by decide +kernel)
  have f3 := hts (.fieldLink RX8 252 "GapBoundsModel" "torn" "I") (by decide +kernel)
  have f4 := hts (.fieldLink RX8 39 "GapBoundsModel" "lanes" "[I") (by decide +kernel)
  have f5 := hts (.fieldLink RX8 42 "GapBoundsModel" "lengths" "[I") (by decide +kernel)
  have f6 := hts (.fieldLink RX8 45 "GapBoundsModel" "cells" "[I") (by decide +kernel)
  have iX8 : ∀ w ∈ u_ws RX8 TX8 23, w ∈ wsX8_read := by decide +kernel
  subst hsz
  obtain ⟨A, hAe⟩ : ∃ A, A = va_A [(A_t, .inr (8, [.ref A_t_state, .ref A_t_tape, .int t_taped, .int t_fault, .int t_broken, .int t_brokenAt, .int t_spot, .int t_here, .int t_token, .int t_value, .int t_isRealTold, .ref A_t_ends, .ref A_t_letters, .ref A_t_least, .ref A_t_conflicts, .int t_conflictMany, .ref A_t_behind, .ref A_t_placed, .ref A_t_isKept, .ref A_t_lanes, .ref A_t_lengths, .ref A_t_cells, .int t_torn])), (A_t_state, .inl (cy 1, 535, .inl t_state)), (A_t_lanes, .inl (cy 1, 4, .inl t_lanes)), (A_t_lengths, .inl (cy 1, 4, .inl t_lengths)), (A_t_cells, .inl (cy 1, 160, .inl t_cells)), (A_t_least, .inl (cy 2, 100, .inr (.inl t_least))), (A_t_behind, .inl (cy 2, 110, .inr (.inl t_behind))), (A_t_conflicts, .inl (cy 1, 16, .inl t_conflicts))] s.heap.size := ⟨_, rfl⟩
  have hD : va_D A [(A_t, .inr (8, [.ref A_t_state, .ref A_t_tape, .int t_taped, .int t_fault, .int t_broken, .int t_brokenAt, .int t_spot, .int t_here, .int t_token, .int t_value, .int t_isRealTold, .ref A_t_ends, .ref A_t_letters, .ref A_t_least, .ref A_t_conflicts, .int t_conflictMany, .ref A_t_behind, .ref A_t_placed, .ref A_t_isKept, .ref A_t_lanes, .ref A_t_lengths, .ref A_t_cells, .int t_torn])), (A_t_state, .inl (cy 1, 535, .inl t_state)), (A_t_lanes, .inl (cy 1, 4, .inl t_lanes)), (A_t_lengths, .inl (cy 1, 4, .inl t_lengths)), (A_t_cells, .inl (cy 1, 160, .inl t_cells)), (A_t_least, .inl (cy 2, 100, .inr (.inl t_least))), (A_t_behind, .inl (cy 2, 110, .inr (.inl t_behind))), (A_t_conflicts, .inl (cy 1, 16, .inl t_conflicts))] := by rw [hAe]; exact hD0.self
  have hA : ∀ q : Nat, s.heap.size ≤ q → A q := fun q hq => by rw [hAe]; exact Or.inr hq
  have hS : va_S A s.heap s.heap [] := va_S.rf
  have hl := lv_entry [.ref A_t, .int x1, .int x2, .int x3, .int x4] (n := 11) (Nat.le_of_ble_eq_true rfl)
  rw [lg_entry_eq]
  generalize (lg_sl [.ref A_t, .int x1, .int x2, .int x3, .int x4] ++ List.replicate (11 - (lg_sl [.ref A_t, .int x1, .int x2, .int x3, .int x4]).length) Slot.unset).toArray = ls at hl ⊢
  have hl : lv_has ls 11 [(0, .ref A_t), (1, .int x1), (2, .int x2), (3, .int x3), (4, .int x4)] := hl
  refine W.gen (fun Q0 hQ => ?_)
  have L56 : ∀ (n56 : Nat) (t_conflictMany : Int32) (t_torn : Int32) (t_state : Nat → Int32) (t_least : Nat → Int64) (t_behind : Nat → Int64) (t_conflicts : Nat → Int32) (x5 : Int32) (x6 : Int32) (x7 : Int32) (H : Heap) (locs : List Loc) (ls : Array Slot), L_X8_read_56 post t_torn t_lanes t_lengths t_cells x1 x2 x3 x4 n56 t_conflictMany t_state t_least t_behind t_conflicts x5 x6 x7 → va_P D vwCl [(A_t, .inr (8, [.ref A_t_state, .ref A_t_tape, .int t_taped, .int t_fault, .int t_broken, .int t_brokenAt, .int t_spot, .int t_here, .int t_token, .int t_value, .int t_isRealTold, .ref A_t_ends, .ref A_t_letters, .ref A_t_least, .ref A_t_conflicts, .int t_conflictMany, .ref A_t_behind, .ref A_t_placed, .ref A_t_isKept, .ref A_t_lanes, .ref A_t_lengths, .ref A_t_cells, .int t_torn])), (A_t_state, .inl (cy 1, 535, .inl t_state)), (A_t_lanes, .inl (cy 1, 4, .inl t_lanes)), (A_t_lengths, .inl (cy 1, 4, .inl t_lengths)), (A_t_cells, .inl (cy 1, 160, .inl t_cells)), (A_t_least, .inl (cy 2, 100, .inr (.inl t_least))), (A_t_behind, .inl (cy 2, 110, .inr (.inl t_behind))), (A_t_conflicts, .inl (cy 1, 16, .inl t_conflicts))] H → va_D A [(A_t, .inr (8, [.ref A_t_state, .ref A_t_tape, .int t_taped, .int t_fault, .int t_broken, .int t_brokenAt, .int t_spot, .int t_here, .int t_token, .int t_value, .int t_isRealTold, .ref A_t_ends, .ref A_t_letters, .ref A_t_least, .ref A_t_conflicts, .int t_conflictMany, .ref A_t_behind, .ref A_t_placed, .ref A_t_isKept, .ref A_t_lanes, .ref A_t_lengths, .ref A_t_cells, .int t_torn])), (A_t_state, .inl (cy 1, 535, .inl t_state)), (A_t_lanes, .inl (cy 1, 4, .inl t_lanes)), (A_t_lengths, .inl (cy 1, 4, .inl t_lengths)), (A_t_cells, .inl (cy 1, 160, .inl t_cells)), (A_t_least, .inl (cy 2, 100, .inr (.inl t_least))), (A_t_behind, .inl (cy 2, 110, .inr (.inl t_behind))), (A_t_conflicts, .inl (cy 1, 16, .inl t_conflicts))] → va_S A s.heap H locs → lv_has ls 11 [(0, .ref A_t), (1, .int x1), (2, .int x2), (3, .int x3), (4, .int x4), (5, .int x5), (6, .int x6), (7, .int x7)] → W p l e (headSpec wsX8_read { frames := 6, cells := 0, slots := 0, locals := 152 }).room s m ([.ref A_t, .int x1, .int x2, .int x3, .int x4] : List Value).toArray below meth c H locs 0 0 Q0 (F0 m 56 ls []) := by
    intro n56
    induction n56 with
    | zero => intro t_conflictMany t_torn t_state t_least t_behind t_conflicts x5 x6 x7 H locs ls h; exact False.elim h
    | succ n56 ih56 =>
      intro t_conflictMany t_torn t_state t_least t_behind t_conflicts x5 x6 x7 H locs ls h hP hD hS hl
      have h : LB_X8_read_56 post t_torn t_lanes t_lengths t_cells x1 x2 x3 x4 (L_X8_read_56 post t_torn t_lanes t_lengths t_cells x1 x2 x3 x4 n56) t_conflictMany t_state t_least t_behind t_conflicts x5 x6 x7 := h
      unfold LB_X8_read_56 at h
      have J213 : ∀ (t_conflictMany : Int32) (t_torn : Int32) (t_state : Nat → Int32) (t_least : Nat → Int64) (t_behind : Nat → Int64) (t_conflicts : Nat → Int32) (x5 : Int32) (x6 : Int32) (x7 : Int32) (H : Heap) (locs : List Loc) (ls : Array Slot), B_X8_read_213 (L_X8_read_56 post t_torn t_lanes t_lengths t_cells x1 x2 x3 x4 n56) t_conflictMany t_state t_least t_behind t_conflicts x5 x6 x7 → va_P D vwCl [(A_t, .inr (8, [.ref A_t_state, .ref A_t_tape, .int t_taped, .int t_fault, .int t_broken, .int t_brokenAt, .int t_spot, .int t_here, .int t_token, .int t_value, .int t_isRealTold, .ref A_t_ends, .ref A_t_letters, .ref A_t_least, .ref A_t_conflicts, .int t_conflictMany, .ref A_t_behind, .ref A_t_placed, .ref A_t_isKept, .ref A_t_lanes, .ref A_t_lengths, .ref A_t_cells, .int t_torn])), (A_t_state, .inl (cy 1, 535, .inl t_state)), (A_t_lanes, .inl (cy 1, 4, .inl t_lanes)), (A_t_lengths, .inl (cy 1, 4, .inl t_lengths)), (A_t_cells, .inl (cy 1, 160, .inl t_cells)), (A_t_least, .inl (cy 2, 100, .inr (.inl t_least))), (A_t_behind, .inl (cy 2, 110, .inr (.inl t_behind))), (A_t_conflicts, .inl (cy 1, 16, .inl t_conflicts))] H → va_D A [(A_t, .inr (8, [.ref A_t_state, .ref A_t_tape, .int t_taped, .int t_fault, .int t_broken, .int t_brokenAt, .int t_spot, .int t_here, .int t_token, .int t_value, .int t_isRealTold, .ref A_t_ends, .ref A_t_letters, .ref A_t_least, .ref A_t_conflicts, .int t_conflictMany, .ref A_t_behind, .ref A_t_placed, .ref A_t_isKept, .ref A_t_lanes, .ref A_t_lengths, .ref A_t_cells, .int t_torn])), (A_t_state, .inl (cy 1, 535, .inl t_state)), (A_t_lanes, .inl (cy 1, 4, .inl t_lanes)), (A_t_lengths, .inl (cy 1, 4, .inl t_lengths)), (A_t_cells, .inl (cy 1, 160, .inl t_cells)), (A_t_least, .inl (cy 2, 100, .inr (.inl t_least))), (A_t_behind, .inl (cy 2, 110, .inr (.inl t_behind))), (A_t_conflicts, .inl (cy 1, 16, .inl t_conflicts))] → va_S A s.heap H locs → lv_has ls 11 [(0, .ref A_t), (1, .int x1), (2, .int x2), (3, .int x3), (4, .int x4), (5, .int x5), (6, .int x6), (7, .int x7)] → W p l e (headSpec wsX8_read { frames := 6, cells := 0, slots := 0, locals := 152 }).room s m ([.ref A_t, .int x1, .int x2, .int x3, .int x4] : List Value).toArray below meth c H locs 0 0 Q0 (F0 m 213 ls []) := by
        intro t_conflictMany t_torn t_state t_least t_behind t_conflicts x5 x6 x7 H locs ls h hP hD hS hl
        unfold B_X8_read_213 at h
        refine lv_iinc (v := x7 + (1 : Int32)) (lv' := [(7, .int (x7 + (1 : Int32))), (0, .ref A_t), (1, .int x1), (2, .int x2), (3, .int x3), (4, .int x4), (5, .int x5), (6, .int x6)]) hx hb dX8_read_213 hl (k := 7) rfl rfl (by decide) rfl (fun ls hl => ?_)
        refine lv_goto (tgt := 56) hx hb dX8_read_216 (by decide) ?_
        exact ih56 t_conflictMany t_torn t_state t_least t_behind t_conflicts x5 x6 (x7 + (1 : Int32)) H locs ls h hP hD hS (lv_sub hl [1, 2, 3, 4, 5, 6, 7, 0] rfl)
      have J130 : ∀ (t_conflictMany : Int32) (t_torn : Int32) (t_state : Nat → Int32) (t_least : Nat → Int64) (t_behind : Nat → Int64) (t_conflicts : Nat → Int32) (x6 : Int32) (x7 : Int32) (y8 : Int64) (k0 : Int32) (H : Heap) (locs : List Loc) (ls : Array Slot), B_X8_read_130 post (L_X8_read_56 post t_torn t_lanes t_lengths t_cells x1 x2 x3 x4 n56) t_conflictMany t_torn t_state t_cells t_least t_behind t_conflicts k0 x1 x6 x7 y8 → va_P D vwCl [(A_t, .inr (8, [.ref A_t_state, .ref A_t_tape, .int t_taped, .int t_fault, .int t_broken, .int t_brokenAt, .int t_spot, .int t_here, .int t_token, .int t_value, .int t_isRealTold, .ref A_t_ends, .ref A_t_letters, .ref A_t_least, .ref A_t_conflicts, .int t_conflictMany, .ref A_t_behind, .ref A_t_placed, .ref A_t_isKept, .ref A_t_lanes, .ref A_t_lengths, .ref A_t_cells, .int t_torn])), (A_t_state, .inl (cy 1, 535, .inl t_state)), (A_t_lanes, .inl (cy 1, 4, .inl t_lanes)), (A_t_lengths, .inl (cy 1, 4, .inl t_lengths)), (A_t_cells, .inl (cy 1, 160, .inl t_cells)), (A_t_least, .inl (cy 2, 100, .inr (.inl t_least))), (A_t_behind, .inl (cy 2, 110, .inr (.inl t_behind))), (A_t_conflicts, .inl (cy 1, 16, .inl t_conflicts))] H → va_D A [(A_t, .inr (8, [.ref A_t_state, .ref A_t_tape, .int t_taped, .int t_fault, .int t_broken, .int t_brokenAt, .int t_spot, .int t_here, .int t_token, .int t_value, .int t_isRealTold, .ref A_t_ends, .ref A_t_letters, .ref A_t_least, .ref A_t_conflicts, .int t_conflictMany, .ref A_t_behind, .ref A_t_placed, .ref A_t_isKept, .ref A_t_lanes, .ref A_t_lengths, .ref A_t_cells, .int t_torn])), (A_t_state, .inl (cy 1, 535, .inl t_state)), (A_t_lanes, .inl (cy 1, 4, .inl t_lanes)), (A_t_lengths, .inl (cy 1, 4, .inl t_lengths)), (A_t_cells, .inl (cy 1, 160, .inl t_cells)), (A_t_least, .inl (cy 2, 100, .inr (.inl t_least))), (A_t_behind, .inl (cy 2, 110, .inr (.inl t_behind))), (A_t_conflicts, .inl (cy 1, 16, .inl t_conflicts))] → va_S A s.heap H locs → lv_has ls 11 [(0, .ref A_t), (1, .int x1), (2, .int x2), (3, .int x3), (4, .int x4), (6, .int x6), (7, .int x7), (8, .long y8)] → W p l e (headSpec wsX8_read { frames := 6, cells := 0, slots := 0, locals := 152 }).room s m ([.ref A_t, .int x1, .int x2, .int x3, .int x4] : List Value).toArray below meth c H locs 0 0 Q0 (F0 m 130 ls [.int k0]) := by
        intro t_conflictMany t_torn t_state t_least t_behind t_conflicts x6 x7 y8 k0 H locs ls h hP hD hS hl
        unfold B_X8_read_130 at h
        refine lv_istore (lv' := [(5, .int k0), (0, .ref A_t), (1, .int x1), (2, .int x2), (3, .int x3), (4, .int x4), (6, .int x6), (7, .int x7), (8, .long y8)]) hx hb dX8_read_130 hl (by decide) rfl (fun ls hl => ?_)
        refine lv_iload hx hb dX8_read_132 (lv_at hl 0 rfl) ?_
        refine lv_if_ne (tgt := 213) hx hb dX8_read_134 (by decide) (fun hc => ?_) (fun hc => ?_)
        · replace h := h.1 hc
          exact J213 t_conflictMany t_torn t_state t_least t_behind t_conflicts k0 x6 x7 H locs ls h hP hD hS (lv_sub hl [1, 2, 3, 4, 5, 0, 6, 7] rfl)
        · replace h := h.2 hc
          refine lv_iload hx hb dX8_read_137 (lv_at hl 7 rfl) ?_
          refine lv_iconst (v := 4) hx hb dX8_read_139 (by decide) ?_
          refine lv_irem hx hb dX8_read_140 (by decide) ?_
          refine lv_iconst (v := 3) hx hb dX8_read_141 (by decide) ?_
          refine lv_icmp_ne (tgt := 213) hx hb dX8_read_142 (by decide) (fun hc => ?_) (fun hc => ?_)
          · replace h := h.1 hc
            exact J213 t_conflictMany t_torn t_state t_least t_behind t_conflicts k0 x6 x7 H locs ls h hP hD hS (lv_sub hl [1, 2, 3, 4, 5, 0, 6, 7] rfl)
          · replace h := h.2 hc
            refine lv_bipush (v := 40) hx hb dX8_read_145 (by decide) ?_
            refine lv_iload_n hx hb dX8_read_147 rfl (lv_at hl 2 rfl) ?_
            refine lv_imul hx hb dX8_read_148 ?_
            refine lv_lload hx hb dX8_read_149 (lv_at hl 8 rfl) ?_
            refine lv_l2i (v := y8.toInt32) hx hb dX8_read_151 rfl ?_
            refine lv_iadd hx hb dX8_read_152 ?_
            refine lv_istore (lv' := [(10, .int (((40 : Int32) * x1) + y8.toInt32)), (5, .int k0), (0, .ref A_t), (1, .int x1), (2, .int x2), (3, .int x3), (4, .int x4), (6, .int x6), (7, .int x7), (8, .long y8)]) hx hb dX8_read_153 hl (by decide) rfl (fun ls hl => ?_)
            refine lv_aload_n hx hb dX8_read_155 rfl (lv_at hl 2 rfl) ?_
            refine lv_aload_n hx hb dX8_read_156 rfl (lv_at hl 2 rfl) ?_
            refine va_get (D := D) (ci := 8) (v := .ref A_t_cells) (C := RX8) (T := TX8) (N := 23) hx hb hts iX8 hown hK.1 hP 0 rfl rfl 21 (by decide) f6 (fun _ h9 => h9) rfl dX8_read_157 ?_
            refine lv_iload hx hb dX8_read_160 (lv_at hl 0 rfl) ?_
            refine lv_iconst (v := 3) hx hb dX8_read_162 (by decide) ?_
            refine lv_isub hx hb dX8_read_163 ?_
            refine va_iald hx hb hK.1 hP 4 1 rfl rfl h.1 dX8_read_164 ?_
            replace h := h.2
            refine lv_aload_n hx hb dX8_read_165 rfl (lv_at hl 2 rfl) ?_
            refine va_get (D := D) (ci := 8) (v := .ref A_t_cells) (C := RX8) (T := TX8) (N := 23) hx hb hts iX8 hown hK.1 hP 0 rfl rfl 21 (by decide) f6 (fun _ h9 => h9) rfl dX8_read_166 ?_
            refine lv_iload hx hb dX8_read_169 (lv_at hl 0 rfl) ?_
            refine lv_iconst (v := 2) hx hb dX8_read_171 (by decide) ?_
            refine lv_isub hx hb dX8_read_172 ?_
            refine va_iald hx hb hK.1 hP 4 1 rfl rfl h.1 dX8_read_173 ?_
            replace h := h.2
            refine lv_aload_n hx hb dX8_read_174 rfl (lv_at hl 2 rfl) ?_
            refine va_get (D := D) (ci := 8) (v := .ref A_t_cells) (C := RX8) (T := TX8) (N := 23) hx hb hts iX8 hown hK.1 hP 0 rfl rfl 21 (by decide) f6 (fun _ h9 => h9) rfl dX8_read_175 ?_
            refine lv_iload hx hb dX8_read_178 (lv_at hl 0 rfl) ?_
            refine lv_iconst (v := 1) hx hb dX8_read_180 (by decide) ?_
            refine lv_isub hx hb dX8_read_181 ?_
            refine va_iald hx hb hK.1 hP 4 1 rfl rfl h.1 dX8_read_182 ?_
            replace h := h.2
            refine lv_aload_n hx hb dX8_read_183 rfl (lv_at hl 2 rfl) ?_
            refine va_get (D := D) (ci := 8) (v := .ref A_t_cells) (C := RX8) (T := TX8) (N := 23) hx hb hts iX8 hown hK.1 hP 0 rfl rfl 21 (by decide) f6 (fun _ h9 => h9) rfl dX8_read_184 ?_
            refine lv_iload hx hb dX8_read_187 (lv_at hl 0 rfl) ?_
            refine va_iald hx hb hK.1 hP 4 1 rfl rfl h.1 dX8_read_189 ?_
            replace h := h.2
            have hPn : va_P D vwCl ([(A_t_lanes, .inl (cy 1, 4, .inl t_lanes)), (A_t_lengths, .inl (cy 1, 4, .inl t_lengths)), (A_t_cells, .inl (cy 1, 160, .inl t_cells))] ++ [(A_t, .inr (8, [.ref A_t_state, .ref A_t_tape, .int t_taped, .int t_fault, .int t_broken, .int t_brokenAt, .int t_spot, .int t_here, .int t_token, .int t_value, .int t_isRealTold, .ref A_t_ends, .ref A_t_letters, .ref A_t_least, .ref A_t_conflicts, .int t_conflictMany, .ref A_t_behind, .ref A_t_placed, .ref A_t_isKept, .ref A_t_lanes, .ref A_t_lengths, .ref A_t_cells, .int t_torn])), (A_t_state, .inl (cy 1, 535, .inl t_state)), (A_t_least, .inl (cy 2, 100, .inr (.inl t_least))), (A_t_behind, .inl (cy 2, 110, .inr (.inl t_behind))), (A_t_conflicts, .inl (cy 1, 16, .inl t_conflicts))]) H := hP.sub [2, 3, 4, 0, 1, 5, 6, 7] rfl
            have hDn : va_D A ([(A_t_lanes, .inl (cy 1, 4, .inl t_lanes)), (A_t_lengths, .inl (cy 1, 4, .inl t_lengths)), (A_t_cells, .inl (cy 1, 160, .inl t_cells))] ++ [(A_t, .inr (8, [.ref A_t_state, .ref A_t_tape, .int t_taped, .int t_fault, .int t_broken, .int t_brokenAt, .int t_spot, .int t_here, .int t_token, .int t_value, .int t_isRealTold, .ref A_t_ends, .ref A_t_letters, .ref A_t_least, .ref A_t_conflicts, .int t_conflictMany, .ref A_t_behind, .ref A_t_placed, .ref A_t_isKept, .ref A_t_lanes, .ref A_t_lengths, .ref A_t_cells, .int t_torn])), (A_t_state, .inl (cy 1, 535, .inl t_state)), (A_t_least, .inl (cy 2, 100, .inr (.inl t_least))), (A_t_behind, .inl (cy 2, 110, .inr (.inl t_behind))), (A_t_conflicts, .inl (cy 1, 16, .inl t_conflicts))]) := hD.sub [2, 3, 4, 0, 1, 5, 6, 7] (by decide) rfl
            have hPc := gPR hPn
            have hDc := gDR hDn
            refine mw_i (va_runV (As := [.int (t_cells ((((40 : Int32) * x1) + y8.toInt32) - (3 : Int32)).toNatClampNeg), .int (t_cells ((((40 : Int32) * x1) + y8.toInt32) - (2 : Int32)).toNatClampNeg), .int (t_cells ((((40 : Int32) * x1) + y8.toInt32) - (1 : Int32)).toNatClampNeg), .int (t_cells (((40 : Int32) * x1) + y8.toInt32).toNatClampNeg)]) (rest := []) CF (c_X8_adds l D cy H.size A_t A_t_state A_t_tape A_t_ends A_t_letters A_t_least A_t_conflicts A_t_behind A_t_placed A_t_isKept A_t_lanes A_t_lengths A_t_cells t_taped t_fault t_broken t_brokenAt t_spot t_here t_token t_value t_isRealTold t_conflictMany t_torn t_state t_least t_behind t_conflicts (t_cells ((((40 : Int32) * x1) + y8.toInt32) - (3 : Int32)).toNatClampNeg) (t_cells ((((40 : Int32) * x1) + y8.toInt32) - (2 : Int32)).toNatClampNeg) (t_cells ((((40 : Int32) * x1) + y8.toInt32) - (1 : Int32)).toNatClampNeg) (t_cells (((40 : Int32) * x1) + y8.toInt32).toNatClampNeg) _ h) (cwV 4 hts gX8_read_X8_adds rfl rfl rfl qX8_adds ⟨Nat.le_of_ble_eq_true rfl, Nat.le_of_ble_eq_true rfl⟩) (mpVW hK hPc hDc (ci := 8) (q := (RX8, TX8, 23)) (q0 := 0) rfl rfl) rfl rfl hl.1 rfl (lv_room (Nat.le_of_ble_eq_true rfl)) dX8_read_190 ⟨Nat.zero_le _, Nat.zero_le _⟩) hPn hDn hS hA (fun r6 u H locs h hP hD hS => ?_)
            obtain ⟨t_conflictMany_v6, t_state_v6, t_least_v6, t_behind_v6, t_conflicts_v6⟩ := u
            have hP : va_P D vwCl [(A_t, .inr (8, [.ref A_t_state, .ref A_t_tape, .int t_taped, .int t_fault, .int t_broken, .int t_brokenAt, .int t_spot, .int t_here, .int t_token, .int t_value, .int t_isRealTold, .ref A_t_ends, .ref A_t_letters, .ref A_t_least, .ref A_t_conflicts, .int t_conflictMany_v6, .ref A_t_behind, .ref A_t_placed, .ref A_t_isKept, .ref A_t_lanes, .ref A_t_lengths, .ref A_t_cells, .int t_torn])), (A_t_state, .inl (cy 1, 535, .inl t_state_v6)), (A_t_lanes, .inl (cy 1, 4, .inl t_lanes)), (A_t_lengths, .inl (cy 1, 4, .inl t_lengths)), (A_t_cells, .inl (cy 1, 160, .inl t_cells)), (A_t_least, .inl (cy 2, 100, .inr (.inl t_least_v6))), (A_t_behind, .inl (cy 2, 110, .inr (.inl t_behind_v6))), (A_t_conflicts, .inl (cy 1, 16, .inl t_conflicts_v6))] H := hP.sub [3, 4, 0, 1, 2, 5, 6, 7] rfl
            have hD : va_D A [(A_t, .inr (8, [.ref A_t_state, .ref A_t_tape, .int t_taped, .int t_fault, .int t_broken, .int t_brokenAt, .int t_spot, .int t_here, .int t_token, .int t_value, .int t_isRealTold, .ref A_t_ends, .ref A_t_letters, .ref A_t_least, .ref A_t_conflicts, .int t_conflictMany_v6, .ref A_t_behind, .ref A_t_placed, .ref A_t_isKept, .ref A_t_lanes, .ref A_t_lengths, .ref A_t_cells, .int t_torn])), (A_t_state, .inl (cy 1, 535, .inl t_state_v6)), (A_t_lanes, .inl (cy 1, 4, .inl t_lanes)), (A_t_lengths, .inl (cy 1, 4, .inl t_lengths)), (A_t_cells, .inl (cy 1, 160, .inl t_cells)), (A_t_least, .inl (cy 2, 100, .inr (.inl t_least_v6))), (A_t_behind, .inl (cy 2, 110, .inr (.inl t_behind_v6))), (A_t_conflicts, .inl (cy 1, 16, .inl t_conflicts_v6))] := hD.sub [3, 4, 0, 1, 2, 5, 6, 7] (by decide) rfl
            try dsimp only at h
            refine lv_if_ge (tgt := 210) hx hb dX8_read_193 (by decide) (fun hc => ?_) (fun hc => ?_)
            · replace h := h.1 hc
              refine lv_iinc (v := x6 + (1 : Int32)) (lv' := [(6, .int (x6 + (1 : Int32))), (10, .int (((40 : Int32) * x1) + y8.toInt32)), (5, .int k0), (0, .ref A_t), (1, .int x1), (2, .int x2), (3, .int x3), (4, .int x4), (7, .int x7), (8, .long y8)]) hx hb dX8_read_210 hl (k := 7) rfl rfl (by decide) rfl (fun ls hl => ?_)
              exact J213 t_conflictMany_v6 t_torn t_state_v6 t_least_v6 t_behind_v6 t_conflicts_v6 k0 (x6 + (1 : Int32)) x7 H locs ls h hP hD hS (lv_sub hl [3, 4, 5, 6, 7, 2, 0, 8] rfl)
            · replace h := h.2 hc
              refine lv_aload_n hx hb dX8_read_196 rfl (lv_at hl 2 rfl) ?_
              refine lv_sipush (v := 428) hx hb dX8_read_197 (by decide) ?_
              refine lv_iconst (v := 0) hx hb dX8_read_200 (by decide) ?_
              have hPn : va_P D vwCl ([(A_t_lanes, .inl (cy 1, 4, .inl t_lanes)), (A_t_lengths, .inl (cy 1, 4, .inl t_lengths)), (A_t_cells, .inl (cy 1, 160, .inl t_cells)), (A_t_least, .inl (cy 2, 100, .inr (.inl t_least_v6))), (A_t_behind, .inl (cy 2, 110, .inr (.inl t_behind_v6))), (A_t_conflicts, .inl (cy 1, 16, .inl t_conflicts_v6))] ++ [(A_t, .inr (8, [.ref A_t_state, .ref A_t_tape, .int t_taped, .int t_fault, .int t_broken, .int t_brokenAt, .int t_spot, .int t_here, .int t_token, .int t_value, .int t_isRealTold, .ref A_t_ends, .ref A_t_letters, .ref A_t_least, .ref A_t_conflicts, .int t_conflictMany_v6, .ref A_t_behind, .ref A_t_placed, .ref A_t_isKept, .ref A_t_lanes, .ref A_t_lengths, .ref A_t_cells, .int t_torn])), (A_t_state, .inl (cy 1, 535, .inl t_state_v6))]) H := hP.sub [2, 3, 4, 5, 6, 7, 0, 1] rfl
              have hDn : va_D A ([(A_t_lanes, .inl (cy 1, 4, .inl t_lanes)), (A_t_lengths, .inl (cy 1, 4, .inl t_lengths)), (A_t_cells, .inl (cy 1, 160, .inl t_cells)), (A_t_least, .inl (cy 2, 100, .inr (.inl t_least_v6))), (A_t_behind, .inl (cy 2, 110, .inr (.inl t_behind_v6))), (A_t_conflicts, .inl (cy 1, 16, .inl t_conflicts_v6))] ++ [(A_t, .inr (8, [.ref A_t_state, .ref A_t_tape, .int t_taped, .int t_fault, .int t_broken, .int t_brokenAt, .int t_spot, .int t_here, .int t_token, .int t_value, .int t_isRealTold, .ref A_t_ends, .ref A_t_letters, .ref A_t_least, .ref A_t_conflicts, .int t_conflictMany_v6, .ref A_t_behind, .ref A_t_placed, .ref A_t_isKept, .ref A_t_lanes, .ref A_t_lengths, .ref A_t_cells, .int t_torn])), (A_t_state, .inl (cy 1, 535, .inl t_state_v6))]) := hD.sub [2, 3, 4, 5, 6, 7, 0, 1] (by decide) rfl
              have hPc := gPR hPn
              have hDc := gDR hDn
              refine mw_v (va_runV (As := [.int (428 : Int32), .int (0 : Int32)]) (rest := []) CF (c_X8_copies l D cy H.size A_t A_t_state A_t_tape A_t_ends A_t_letters A_t_least A_t_conflicts A_t_behind A_t_placed A_t_isKept A_t_lanes A_t_lengths A_t_cells t_taped t_fault t_broken t_brokenAt t_spot t_here t_token t_value t_isRealTold t_conflictMany_v6 t_torn t_state_v6 (428 : Int32) (0 : Int32) _ h) (cwV 2 hts gX8_read_X8_copies rfl rfl rfl qX8_copies ⟨Nat.le_of_ble_eq_true rfl, Nat.le_of_ble_eq_true rfl⟩) (mpVW hK hPc hDc (ci := 8) (q := (RX8, TX8, 23)) (q0 := 0) rfl rfl) rfl rfl hl.1 rfl (lv_room (Nat.le_of_ble_eq_true rfl)) dX8_read_201 ⟨Nat.zero_le _, Nat.zero_le _⟩) hPn hDn hS hA (fun t_state_v7 H locs h hP hD hS => ?_)
              have hP : va_P D vwCl [(A_t, .inr (8, [.ref A_t_state, .ref A_t_tape, .int t_taped, .int t_fault, .int t_broken, .int t_brokenAt, .int t_spot, .int t_here, .int t_token, .int t_value, .int t_isRealTold, .ref A_t_ends, .ref A_t_letters, .ref A_t_least, .ref A_t_conflicts, .int t_conflictMany_v6, .ref A_t_behind, .ref A_t_placed, .ref A_t_isKept, .ref A_t_lanes, .ref A_t_lengths, .ref A_t_cells, .int t_torn])), (A_t_state, .inl (cy 1, 535, .inl t_state_v7)), (A_t_lanes, .inl (cy 1, 4, .inl t_lanes)), (A_t_lengths, .inl (cy 1, 4, .inl t_lengths)), (A_t_cells, .inl (cy 1, 160, .inl t_cells)), (A_t_least, .inl (cy 2, 100, .inr (.inl t_least_v6))), (A_t_behind, .inl (cy 2, 110, .inr (.inl t_behind_v6))), (A_t_conflicts, .inl (cy 1, 16, .inl t_conflicts_v6))] H := hP.sub [6, 7, 0, 1, 2, 3, 4, 5] rfl
              have hD : va_D A [(A_t, .inr (8, [.ref A_t_state, .ref A_t_tape, .int t_taped, .int t_fault, .int t_broken, .int t_brokenAt, .int t_spot, .int t_here, .int t_token, .int t_value, .int t_isRealTold, .ref A_t_ends, .ref A_t_letters, .ref A_t_least, .ref A_t_conflicts, .int t_conflictMany_v6, .ref A_t_behind, .ref A_t_placed, .ref A_t_isKept, .ref A_t_lanes, .ref A_t_lengths, .ref A_t_cells, .int t_torn])), (A_t_state, .inl (cy 1, 535, .inl t_state_v7)), (A_t_lanes, .inl (cy 1, 4, .inl t_lanes)), (A_t_lengths, .inl (cy 1, 4, .inl t_lengths)), (A_t_cells, .inl (cy 1, 160, .inl t_cells)), (A_t_least, .inl (cy 2, 100, .inr (.inl t_least_v6))), (A_t_behind, .inl (cy 2, 110, .inr (.inl t_behind_v6))), (A_t_conflicts, .inl (cy 1, 16, .inl t_conflicts_v6))] := hD.sub [6, 7, 0, 1, 2, 3, 4, 5] (by decide) rfl
              refine lv_bipush (v := -20) hx hb dX8_read_204 (by decide) ?_
              refine lv_iload hx hb dX8_read_206 (lv_at hl 7 rfl) ?_
              refine lv_isub hx hb dX8_read_208 ?_
              subst hQ
              subst hAe
              exact W.iret (v := (-20 : Int32) - x6) hx hb hr (fun t ht _ => ⟨⟨(-20 : Int32) - x6, (t_conflictMany_v6, t_torn, t_state_v7, t_least_v6, t_behind_v6, t_conflicts_v6), rfl, h, by rw [ht]; exact hP, hD⟩, hS.F ht⟩) hS.2.2 dX8_read_209
      refine lv_iload hx hb dX8_read_56 (lv_at hl 7 rfl) ?_
      refine lv_iconst (v := 4) hx hb dX8_read_58 (by decide) ?_
      refine lv_iload hx hb dX8_read_59 (lv_at hl 4 rfl) ?_
      refine lv_imul hx hb dX8_read_61 ?_
      refine lv_icmp_ge (tgt := 219) hx hb dX8_read_62 (by decide) (fun hc => ?_) (fun hc => ?_)
      · replace h := h.1 hc
        refine lv_aload_n hx hb dX8_read_219 rfl (lv_at hl 0 rfl) ?_
        refine lv_iload hx hb dX8_read_220 (lv_at hl 5 rfl) ?_
        refine va_put (D := D) (ci := 8) (v := .int x5) (ty := .int) (C := RX8) (T := TX8) (N := 23) hx hb hts iX8 tyX8 tyX8_ok nmX8 hown hK.1 hP hD hS 0 rfl rfl 22 (by decide) f3 (fun _ h9 => h9) rfl (tyX8_ok 22 (by decide)) rfl rfl (Nat.le_of_ble_eq_true rfl) dX8_read_222 (fun H locs hP hD hS => ?_)
        have hP : va_P D vwCl [(A_t, .inr (8, [.ref A_t_state, .ref A_t_tape, .int t_taped, .int t_fault, .int t_broken, .int t_brokenAt, .int t_spot, .int t_here, .int t_token, .int t_value, .int t_isRealTold, .ref A_t_ends, .ref A_t_letters, .ref A_t_least, .ref A_t_conflicts, .int t_conflictMany, .ref A_t_behind, .ref A_t_placed, .ref A_t_isKept, .ref A_t_lanes, .ref A_t_lengths, .ref A_t_cells, .int x5])), (A_t_state, .inl (cy 1, 535, .inl t_state)), (A_t_lanes, .inl (cy 1, 4, .inl t_lanes)), (A_t_lengths, .inl (cy 1, 4, .inl t_lengths)), (A_t_cells, .inl (cy 1, 160, .inl t_cells)), (A_t_least, .inl (cy 2, 100, .inr (.inl t_least))), (A_t_behind, .inl (cy 2, 110, .inr (.inl t_behind))), (A_t_conflicts, .inl (cy 1, 16, .inl t_conflicts))] H := hP
        have hD : va_D A [(A_t, .inr (8, [.ref A_t_state, .ref A_t_tape, .int t_taped, .int t_fault, .int t_broken, .int t_brokenAt, .int t_spot, .int t_here, .int t_token, .int t_value, .int t_isRealTold, .ref A_t_ends, .ref A_t_letters, .ref A_t_least, .ref A_t_conflicts, .int t_conflictMany, .ref A_t_behind, .ref A_t_placed, .ref A_t_isKept, .ref A_t_lanes, .ref A_t_lengths, .ref A_t_cells, .int x5])), (A_t_state, .inl (cy 1, 535, .inl t_state)), (A_t_lanes, .inl (cy 1, 4, .inl t_lanes)), (A_t_lengths, .inl (cy 1, 4, .inl t_lengths)), (A_t_cells, .inl (cy 1, 160, .inl t_cells)), (A_t_least, .inl (cy 2, 100, .inr (.inl t_least))), (A_t_behind, .inl (cy 2, 110, .inr (.inl t_behind))), (A_t_conflicts, .inl (cy 1, 16, .inl t_conflicts))] := hD
        refine lv_iload hx hb dX8_read_225 (lv_at hl 6 rfl) ?_
        subst hQ
        subst hAe
        exact W.iret (v := x6) hx hb hr (fun t ht _ => ⟨⟨x6, (t_conflictMany, x5, t_state, t_least, t_behind, t_conflicts), rfl, h, by rw [ht]; exact hP, hD⟩, hS.F ht⟩) hS.2.2 dX8_read_227
      · replace h := h.2 hc
        refine lv_iload hx hb dX8_read_65 (lv_at hl 5 rfl) ?_
        refine lv_if_ne (tgt := 219) hx hb dX8_read_67 (by decide) (fun hc => ?_) (fun hc => ?_)
        · replace h := h.1 hc
          refine lv_aload_n hx hb dX8_read_219 rfl (lv_at hl 0 rfl) ?_
          refine lv_iload hx hb dX8_read_220 (lv_at hl 5 rfl) ?_
          refine va_put (D := D) (ci := 8) (v := .int x5) (ty := .int) (C := RX8) (T := TX8) (N := 23) hx hb hts iX8 tyX8 tyX8_ok nmX8 hown hK.1 hP hD hS 0 rfl rfl 22 (by decide) f3 (fun _ h9 => h9) rfl (tyX8_ok 22 (by decide)) rfl rfl (Nat.le_of_ble_eq_true rfl) dX8_read_222 (fun H locs hP hD hS => ?_)
          have hP : va_P D vwCl [(A_t, .inr (8, [.ref A_t_state, .ref A_t_tape, .int t_taped, .int t_fault, .int t_broken, .int t_brokenAt, .int t_spot, .int t_here, .int t_token, .int t_value, .int t_isRealTold, .ref A_t_ends, .ref A_t_letters, .ref A_t_least, .ref A_t_conflicts, .int t_conflictMany, .ref A_t_behind, .ref A_t_placed, .ref A_t_isKept, .ref A_t_lanes, .ref A_t_lengths, .ref A_t_cells, .int x5])), (A_t_state, .inl (cy 1, 535, .inl t_state)), (A_t_lanes, .inl (cy 1, 4, .inl t_lanes)), (A_t_lengths, .inl (cy 1, 4, .inl t_lengths)), (A_t_cells, .inl (cy 1, 160, .inl t_cells)), (A_t_least, .inl (cy 2, 100, .inr (.inl t_least))), (A_t_behind, .inl (cy 2, 110, .inr (.inl t_behind))), (A_t_conflicts, .inl (cy 1, 16, .inl t_conflicts))] H := hP
          have hD : va_D A [(A_t, .inr (8, [.ref A_t_state, .ref A_t_tape, .int t_taped, .int t_fault, .int t_broken, .int t_brokenAt, .int t_spot, .int t_here, .int t_token, .int t_value, .int t_isRealTold, .ref A_t_ends, .ref A_t_letters, .ref A_t_least, .ref A_t_conflicts, .int t_conflictMany, .ref A_t_behind, .ref A_t_placed, .ref A_t_isKept, .ref A_t_lanes, .ref A_t_lengths, .ref A_t_cells, .int x5])), (A_t_state, .inl (cy 1, 535, .inl t_state)), (A_t_lanes, .inl (cy 1, 4, .inl t_lanes)), (A_t_lengths, .inl (cy 1, 4, .inl t_lengths)), (A_t_cells, .inl (cy 1, 160, .inl t_cells)), (A_t_least, .inl (cy 2, 100, .inr (.inl t_least))), (A_t_behind, .inl (cy 2, 110, .inr (.inl t_behind))), (A_t_conflicts, .inl (cy 1, 16, .inl t_conflicts))] := hD
          refine lv_iload hx hb dX8_read_225 (lv_at hl 6 rfl) ?_
          subst hQ
          subst hAe
          exact W.iret (v := x6) hx hb hr (fun t ht _ => ⟨⟨x6, (t_conflictMany, x5, t_state, t_least, t_behind, t_conflicts), rfl, h, by rw [ht]; exact hP, hD⟩, hS.F ht⟩) hS.2.2 dX8_read_227
        · replace h := h.2 hc
          refine lv_iload_n hx hb dX8_read_70 rfl (lv_at hl 3 rfl) ?_
          refine lv_i2l (v := x3.toInt64) hx hb dX8_read_71 rfl ?_
          refine lv_iload hx hb dX8_read_72 (lv_at hl 7 rfl) ?_
          refine lv_i2l (v := x7.toInt64) hx hb dX8_read_74 rfl ?_
          refine lv_ladd hx hb dX8_read_75 ?_
          refine lv_lstore (lv' := [(8, .long (x3.toInt64 + x7.toInt64)), (0, .ref A_t), (1, .int x1), (2, .int x2), (3, .int x3), (4, .int x4), (5, .int x5), (6, .int x6), (7, .int x7)]) hx hb dX8_read_76 hl (by decide) rfl (fun ls hl => ?_)
          refine lv_aload_n hx hb dX8_read_78 rfl (lv_at hl 1 rfl) ?_
          refine va_get (D := D) (ci := 8) (v := .ref A_t_lanes) (C := RX8) (T := TX8) (N := 23) hx hb hts iX8 hown hK.1 hP 0 rfl rfl 19 (by decide) f4 (fun _ h9 => h9) rfl dX8_read_79 ?_
          refine lv_iload_n hx hb dX8_read_82 rfl (lv_at hl 2 rfl) ?_
          refine va_iald hx hb hK.1 hP 2 1 rfl rfl h.1 dX8_read_83 ?_
          replace h := h.2
          refine lv_bipush (v := -4) hx hb dX8_read_84 (by decide) ?_
          refine lv_icmp_ne (tgt := 93) hx hb dX8_read_86 (by decide) (fun hc => ?_) (fun hc => ?_)
          · replace h := h.1 hc
            refine lv_aload_n hx hb dX8_read_93 rfl (lv_at hl 1 rfl) ?_
            refine va_get (D := D) (ci := 8) (v := .ref A_t_lanes) (C := RX8) (T := TX8) (N := 23) hx hb hts iX8 hown hK.1 hP 0 rfl rfl 19 (by decide) f4 (fun _ h9 => h9) rfl dX8_read_94 ?_
            refine lv_iload_n hx hb dX8_read_97 rfl (lv_at hl 2 rfl) ?_
            refine va_iald hx hb hK.1 hP 2 1 rfl rfl h.1 dX8_read_98 ?_
            replace h := h.2
            refine lv_iload_n hx hb dX8_read_99 rfl (lv_at hl 3 rfl) ?_
            refine lv_icmp_eq (tgt := 107) hx hb dX8_read_100 (by decide) (fun hc => ?_) (fun hc => ?_)
            · replace h := h.1 hc
              refine lv_lload hx hb dX8_read_107 (lv_at hl 0 rfl) ?_
              refine lv_lconst (v := 0) hx hb dX8_read_109 (by decide) ?_
              refine lv_aload_n hx hb dX8_read_110 rfl (lv_at hl 1 rfl) ?_
              refine va_get (D := D) (ci := 8) (v := .ref A_t_lengths) (C := RX8) (T := TX8) (N := 23) hx hb hts iX8 hown hK.1 hP 0 rfl rfl 20 (by decide) f5 (fun _ h9 => h9) rfl dX8_read_111 ?_
              refine lv_iload_n hx hb dX8_read_114 rfl (lv_at hl 2 rfl) ?_
              refine va_iald hx hb hK.1 hP 3 1 rfl rfl h.1 dX8_read_115 ?_
              replace h := h.2
              refine lv_iconst (v := 1) hx hb dX8_read_116 (by decide) ?_
              refine lv_isub hx hb dX8_read_117 ?_
              refine lv_i2l (v := ((t_lengths x1.toNatClampNeg) - (1 : Int32)).toInt64) hx hb dX8_read_118 rfl ?_
              refine vp_callSi (W.runS (As := [.long (x3.toInt64 + x7.toInt64), .long (0 : Int64), .long (((t_lengths x1.toNatClampNeg) - (1 : Int32)).toInt64)]) (rest := []) CF (c_X8_in l (x3.toInt64 + x7.toInt64) (0 : Int64) (((t_lengths x1.toNatClampNeg) - (1 : Int32)).toInt64) _ h) (va_cwS 3 hts gX8_read_X8_in rfl rfl rfl qX8_in.2 ⟨Nat.le_of_ble_eq_true rfl, Nat.le_of_ble_eq_true rfl⟩) mpSN rfl rfl hl.1 rfl (lv_room (Nat.le_of_ble_eq_true rfl)) dX8_read_119 ⟨Nat.zero_le _, Nat.zero_le _⟩) (fun r5 h => ?_)
              refine lv_if_ne (tgt := 129) hx hb dX8_read_122 (by decide) (fun hc => ?_) (fun hc => ?_)
              · replace h := h.1 hc
                refine lv_iconst (v := 0) hx hb dX8_read_129 (by decide) ?_
                exact J130 t_conflictMany t_torn t_state t_least t_behind t_conflicts x6 x7 (x3.toInt64 + x7.toInt64) (0 : Int32) H locs ls h hP hD hS (lv_sub hl [1, 2, 3, 4, 5, 7, 8, 0] rfl)
              · replace h := h.2 hc
                refine lv_iconst (v := 2) hx hb dX8_read_125 (by decide) ?_
                refine lv_goto (tgt := 130) hx hb dX8_read_126 (by decide) ?_
                exact J130 t_conflictMany t_torn t_state t_least t_behind t_conflicts x6 x7 (x3.toInt64 + x7.toInt64) (2 : Int32) H locs ls h hP hD hS (lv_sub hl [1, 2, 3, 4, 5, 7, 8, 0] rfl)
            · replace h := h.2 hc
              refine lv_iconst (v := 3) hx hb dX8_read_103 (by decide) ?_
              refine lv_goto (tgt := 130) hx hb dX8_read_104 (by decide) ?_
              exact J130 t_conflictMany t_torn t_state t_least t_behind t_conflicts x6 x7 (x3.toInt64 + x7.toInt64) (3 : Int32) H locs ls h hP hD hS (lv_sub hl [1, 2, 3, 4, 5, 7, 8, 0] rfl)
          · replace h := h.2 hc
            refine lv_iconst (v := 1) hx hb dX8_read_89 (by decide) ?_
            refine lv_goto (tgt := 130) hx hb dX8_read_90 (by decide) ?_
            exact J130 t_conflictMany t_torn t_state t_least t_behind t_conflicts x6 x7 (x3.toInt64 + x7.toInt64) (1 : Int32) H locs ls h hP hD hS (lv_sub hl [1, 2, 3, 4, 5, 7, 8, 0] rfl)
  unfold P_X8_read at h
  refine lv_iload_n hx hb dX8_read_0 rfl (lv_at hl 1 rfl) ?_
  refine lv_i2l (v := x1.toInt64) hx hb dX8_read_1 rfl ?_
  refine lv_lconst (v := 0) hx hb dX8_read_2 (by decide) ?_
  refine lv_ldc2 (v := 3) hx hb hown f0 dX8_read_3 ?_
  refine vp_callSi (W.runS (As := [.long x1.toInt64, .long (0 : Int64), .long (3 : Int64)]) (rest := []) CF (c_X8_in l x1.toInt64 (0 : Int64) (3 : Int64) _ h) (va_cwS 3 hts gX8_read_X8_in rfl rfl rfl qX8_in.2 ⟨Nat.le_of_ble_eq_true rfl, Nat.le_of_ble_eq_true rfl⟩) mpSN rfl rfl hl.1 rfl (lv_room (Nat.le_of_ble_eq_true rfl)) dX8_read_6 ⟨Nat.zero_le _, Nat.zero_le _⟩) (fun r1 h => ?_)
  refine lv_if_eq (tgt := 37) hx hb dX8_read_9 (by decide) (fun hc => ?_) (fun hc => ?_)
  · replace h := h.1 hc
    refine lv_iconst (v := -1) hx hb dX8_read_37 (by decide) ?_
    subst hQ
    subst hAe
    exact W.iret (v := (-1 : Int32)) hx hb hr (fun t ht _ => ⟨⟨(-1 : Int32), (t_conflictMany, t_torn, t_state, t_least, t_behind, t_conflicts), rfl, h, by rw [ht]; exact hP, hD⟩, hS.F ht⟩) hS.2.2 dX8_read_38
  · replace h := h.2 hc
    refine lv_iload_n hx hb dX8_read_12 rfl (lv_at hl 2 rfl) ?_
    refine lv_i2l (v := x2.toInt64) hx hb dX8_read_13 rfl ?_
    refine lv_lconst (v := 0) hx hb dX8_read_14 (by decide) ?_
    refine lv_ldc2 (v := 2) hx hb hown f1 dX8_read_15 ?_
    refine vp_callSi (W.runS (As := [.long x2.toInt64, .long (0 : Int64), .long (2 : Int64)]) (rest := []) CF (c_X8_in l x2.toInt64 (0 : Int64) (2 : Int64) _ h) (va_cwS 3 hts gX8_read_X8_in rfl rfl rfl qX8_in.2 ⟨Nat.le_of_ble_eq_true rfl, Nat.le_of_ble_eq_true rfl⟩) mpSN rfl rfl hl.1 rfl (lv_room (Nat.le_of_ble_eq_true rfl)) dX8_read_18 ⟨Nat.zero_le _, Nat.zero_le _⟩) (fun r2 h => ?_)
    refine lv_if_eq (tgt := 37) hx hb dX8_read_21 (by decide) (fun hc => ?_) (fun hc => ?_)
    · replace h := h.1 hc
      refine lv_iconst (v := -1) hx hb dX8_read_37 (by decide) ?_
      subst hQ
      subst hAe
      exact W.iret (v := (-1 : Int32)) hx hb hr (fun t ht _ => ⟨⟨(-1 : Int32), (t_conflictMany, t_torn, t_state, t_least, t_behind, t_conflicts), rfl, h, by rw [ht]; exact hP, hD⟩, hS.F ht⟩) hS.2.2 dX8_read_38
    · replace h := h.2 hc
      refine lv_iload hx hb dX8_read_24 (lv_at hl 4 rfl) ?_
      refine lv_i2l (v := x4.toInt64) hx hb dX8_read_26 rfl ?_
      refine lv_lconst (v := 0) hx hb dX8_read_27 (by decide) ?_
      refine lv_ldc2 (v := 10) hx hb hown f2 dX8_read_28 ?_
      refine vp_callSi (W.runS (As := [.long x4.toInt64, .long (0 : Int64), .long (10 : Int64)]) (rest := []) CF (c_X8_in l x4.toInt64 (0 : Int64) (10 : Int64) _ h) (va_cwS 3 hts gX8_read_X8_in rfl rfl rfl qX8_in.2 ⟨Nat.le_of_ble_eq_true rfl, Nat.le_of_ble_eq_true rfl⟩) mpSN rfl rfl hl.1 rfl (lv_room (Nat.le_of_ble_eq_true rfl)) dX8_read_31 ⟨Nat.zero_le _, Nat.zero_le _⟩) (fun r3 h => ?_)
      refine lv_if_ne (tgt := 39) hx hb dX8_read_34 (by decide) (fun hc => ?_) (fun hc => ?_)
      · replace h := h.1 hc
        refine lv_aload_n hx hb dX8_read_39 rfl (lv_at hl 0 rfl) ?_
        refine lv_iconst (v := 0) hx hb dX8_read_40 (by decide) ?_
        refine lv_sipush (v := 428) hx hb dX8_read_41 (by decide) ?_
        have hPn : va_P D vwCl ([(A_t_lanes, .inl (cy 1, 4, .inl t_lanes)), (A_t_lengths, .inl (cy 1, 4, .inl t_lengths)), (A_t_cells, .inl (cy 1, 160, .inl t_cells)), (A_t_least, .inl (cy 2, 100, .inr (.inl t_least))), (A_t_behind, .inl (cy 2, 110, .inr (.inl t_behind))), (A_t_conflicts, .inl (cy 1, 16, .inl t_conflicts))] ++ [(A_t, .inr (8, [.ref A_t_state, .ref A_t_tape, .int t_taped, .int t_fault, .int t_broken, .int t_brokenAt, .int t_spot, .int t_here, .int t_token, .int t_value, .int t_isRealTold, .ref A_t_ends, .ref A_t_letters, .ref A_t_least, .ref A_t_conflicts, .int t_conflictMany, .ref A_t_behind, .ref A_t_placed, .ref A_t_isKept, .ref A_t_lanes, .ref A_t_lengths, .ref A_t_cells, .int t_torn])), (A_t_state, .inl (cy 1, 535, .inl t_state))]) s.heap := hP.sub [2, 3, 4, 5, 6, 7, 0, 1] rfl
        have hDn : va_D A ([(A_t_lanes, .inl (cy 1, 4, .inl t_lanes)), (A_t_lengths, .inl (cy 1, 4, .inl t_lengths)), (A_t_cells, .inl (cy 1, 160, .inl t_cells)), (A_t_least, .inl (cy 2, 100, .inr (.inl t_least))), (A_t_behind, .inl (cy 2, 110, .inr (.inl t_behind))), (A_t_conflicts, .inl (cy 1, 16, .inl t_conflicts))] ++ [(A_t, .inr (8, [.ref A_t_state, .ref A_t_tape, .int t_taped, .int t_fault, .int t_broken, .int t_brokenAt, .int t_spot, .int t_here, .int t_token, .int t_value, .int t_isRealTold, .ref A_t_ends, .ref A_t_letters, .ref A_t_least, .ref A_t_conflicts, .int t_conflictMany, .ref A_t_behind, .ref A_t_placed, .ref A_t_isKept, .ref A_t_lanes, .ref A_t_lengths, .ref A_t_cells, .int t_torn])), (A_t_state, .inl (cy 1, 535, .inl t_state))]) := hD.sub [2, 3, 4, 5, 6, 7, 0, 1] (by decide) rfl
        have hPc := gPR hPn
        have hDc := gDR hDn
        refine mw_v (va_runV (As := [.int (0 : Int32), .int (428 : Int32)]) (rest := []) CF (c_X8_copies l D cy s.heap.size A_t A_t_state A_t_tape A_t_ends A_t_letters A_t_least A_t_conflicts A_t_behind A_t_placed A_t_isKept A_t_lanes A_t_lengths A_t_cells t_taped t_fault t_broken t_brokenAt t_spot t_here t_token t_value t_isRealTold t_conflictMany t_torn t_state (0 : Int32) (428 : Int32) _ h) (cwV 2 hts gX8_read_X8_copies rfl rfl rfl qX8_copies ⟨Nat.le_of_ble_eq_true rfl, Nat.le_of_ble_eq_true rfl⟩) (mpVW hK hPc hDc (ci := 8) (q := (RX8, TX8, 23)) (q0 := 0) rfl rfl) rfl rfl hl.1 rfl (lv_room (Nat.le_of_ble_eq_true rfl)) dX8_read_44 ⟨Nat.zero_le _, Nat.zero_le _⟩) hPn hDn hS hA (fun t_state_v4 H locs h hP hD hS => ?_)
        have hP : va_P D vwCl [(A_t, .inr (8, [.ref A_t_state, .ref A_t_tape, .int t_taped, .int t_fault, .int t_broken, .int t_brokenAt, .int t_spot, .int t_here, .int t_token, .int t_value, .int t_isRealTold, .ref A_t_ends, .ref A_t_letters, .ref A_t_least, .ref A_t_conflicts, .int t_conflictMany, .ref A_t_behind, .ref A_t_placed, .ref A_t_isKept, .ref A_t_lanes, .ref A_t_lengths, .ref A_t_cells, .int t_torn])), (A_t_state, .inl (cy 1, 535, .inl t_state_v4)), (A_t_lanes, .inl (cy 1, 4, .inl t_lanes)), (A_t_lengths, .inl (cy 1, 4, .inl t_lengths)), (A_t_cells, .inl (cy 1, 160, .inl t_cells)), (A_t_least, .inl (cy 2, 100, .inr (.inl t_least))), (A_t_behind, .inl (cy 2, 110, .inr (.inl t_behind))), (A_t_conflicts, .inl (cy 1, 16, .inl t_conflicts))] H := hP.sub [6, 7, 0, 1, 2, 3, 4, 5] rfl
        have hD : va_D A [(A_t, .inr (8, [.ref A_t_state, .ref A_t_tape, .int t_taped, .int t_fault, .int t_broken, .int t_brokenAt, .int t_spot, .int t_here, .int t_token, .int t_value, .int t_isRealTold, .ref A_t_ends, .ref A_t_letters, .ref A_t_least, .ref A_t_conflicts, .int t_conflictMany, .ref A_t_behind, .ref A_t_placed, .ref A_t_isKept, .ref A_t_lanes, .ref A_t_lengths, .ref A_t_cells, .int t_torn])), (A_t_state, .inl (cy 1, 535, .inl t_state_v4)), (A_t_lanes, .inl (cy 1, 4, .inl t_lanes)), (A_t_lengths, .inl (cy 1, 4, .inl t_lengths)), (A_t_cells, .inl (cy 1, 160, .inl t_cells)), (A_t_least, .inl (cy 2, 100, .inr (.inl t_least))), (A_t_behind, .inl (cy 2, 110, .inr (.inl t_behind))), (A_t_conflicts, .inl (cy 1, 16, .inl t_conflicts))] := hD.sub [6, 7, 0, 1, 2, 3, 4, 5] (by decide) rfl
        refine lv_iconst (v := 0) hx hb dX8_read_47 (by decide) ?_
        refine lv_istore (lv' := [(5, .int (0 : Int32)), (0, .ref A_t), (1, .int x1), (2, .int x2), (3, .int x3), (4, .int x4)]) hx hb dX8_read_48 hl (by decide) rfl (fun ls hl => ?_)
        refine lv_iconst (v := 0) hx hb dX8_read_50 (by decide) ?_
        refine lv_istore (lv' := [(6, .int (0 : Int32)), (5, .int (0 : Int32)), (0, .ref A_t), (1, .int x1), (2, .int x2), (3, .int x3), (4, .int x4)]) hx hb dX8_read_51 hl (by decide) rfl (fun ls hl => ?_)
        refine lv_iconst (v := 0) hx hb dX8_read_53 (by decide) ?_
        refine lv_istore (lv' := [(7, .int (0 : Int32)), (6, .int (0 : Int32)), (5, .int (0 : Int32)), (0, .ref A_t), (1, .int x1), (2, .int x2), (3, .int x3), (4, .int x4)]) hx hb dX8_read_54 hl (by decide) rfl (fun ls hl => ?_)
        obtain ⟨nn, h⟩ := h
        exact L56 nn t_conflictMany t_torn t_state_v4 t_least t_behind t_conflicts (0 : Int32) (0 : Int32) (0 : Int32) H locs ls h hP hD hS (lv_sub hl [3, 4, 5, 6, 7, 2, 1, 0] rfl)
      · replace h := h.2 hc
        refine lv_iconst (v := -1) hx hb dX8_read_37 (by decide) ?_
        subst hQ
        subst hAe
        exact W.iret (v := (-1 : Int32)) hx hb hr (fun t ht _ => ⟨⟨(-1 : Int32), (t_conflictMany, t_torn, t_state, t_least, t_behind, t_conflicts), rfl, h, by rw [ht]; exact hP, hD⟩, hS.F ht⟩) hS.2.2 dX8_read_38
theorem qX8_torn : yX8_torn.cls = RX8 ∧ yX8_torn.cls ≠ "java/lang/invoke/MethodHandle" ∧ yX8_torn.cls ≠ "java/lang/invoke/VarHandle" ∧ (parseMethodDescriptor yX8_torn.desc).map (fun d => d.parameters.length) = some 0 := by decide +kernel
def P_X8_torn (post : Int32 → Prop) (t_torn : Int32) : Prop :=
  post t_torn
set_option maxHeartbeats 4000000 in
set_option maxRecDepth 100000 in
theorem c_X8_torn (l : Launch) (D : va_G) (cy : Nat → ClassId) (A_t A_t_state A_t_tape A_t_ends A_t_letters A_t_least A_t_conflicts A_t_behind A_t_placed A_t_isKept A_t_lanes A_t_lengths A_t_cells : Nat) (t_taped : Int32) (t_fault : Int32) (t_broken : Int32) (t_brokenAt : Int32) (t_spot : Int32) (t_here : Int32) (t_token : Int32) (t_value : Int32) (t_isRealTold : Int32) (t_conflictMany : Int32) (t_torn : Int32) (post : Int32 → Prop) (h : P_X8_torn post t_torn) : Met l yX8_torn wsX8_torn { frames := 0, cells := 0, slots := 0, locals := 0 } (pcR D cy [(A_t, .inr (8, [.ref A_t_state, .ref A_t_tape, .int t_taped, .int t_fault, .int t_broken, .int t_brokenAt, .int t_spot, .int t_here, .int t_token, .int t_value, .int t_isRealTold, .ref A_t_ends, .ref A_t_letters, .ref A_t_least, .ref A_t_conflicts, .int t_conflictMany, .ref A_t_behind, .ref A_t_placed, .ref A_t_isKept, .ref A_t_lanes, .ref A_t_lengths, .ref A_t_cells, .int t_torn]))] [.ref A_t]) (vp_Si post) 0 0 (fun _ => False) := by
  refine Met.ofW (cc := cX8_torn) (maxL := 1) (ret := (some .int)) (by decide) rfl ?_
  intro p e s m args below meth c s₁ B hml hv
  obtain ⟨rfl, hP, hK⟩ := hv
  have hx := B.exec
  have hb := B.bytes
  have hr := B.returns
  have hts := atoms_spec (ws := wsX8_torn) B.pre
  have hown : s.vm.findClass RX8 = some m.cls := findClass_of_methodNamed B.named
  have hlocks := B.notSynchronized
  have CF : CallFix p m c cX8_torn 1 s ([.ref A_t] : List Value).toArray wsX8_torn RX8 := ⟨hx, hb, hml, hown, hts⟩
  have f0 := hts (.fieldLink RX8 252 "GapBoundsModel" "torn" "I") (by decide +kernel)
  have iX8 : ∀ w ∈ u_ws RX8 TX8 23, w ∈ wsX8_torn := by decide +kernel
  have hl := lv_entry [.ref A_t] (n := 1) (Nat.le_of_ble_eq_true rfl)
  rw [lg_entry_eq]
  generalize (lg_sl [.ref A_t] ++ List.replicate (1 - (lg_sl [.ref A_t]).length) Slot.unset).toArray = ls at hl ⊢
  have hl : lv_has ls 1 [(0, .ref A_t)] := hl
  refine W.gen (fun Q0 hQ => ?_)
  unfold P_X8_torn at h
  refine lv_aload_n hx hb dX8_torn_0 rfl (lv_at hl 0 rfl) ?_
  refine va_get (D := D) (ci := 8) (v := .int t_torn) (C := RX8) (T := TX8) (N := 23) hx hb hts iX8 hown hK.1 hP 0 rfl rfl 22 (by decide) f0 (fun _ h9 => h9) rfl dX8_torn_1 ?_
  subst hQ
  exact W.iret (v := t_torn) hx hb hr (fun t ht _ => ⟨t_torn, rfl, h, ht⟩) (fun _ hq => absurd hq List.not_mem_nil) dX8_torn_4
theorem qX8_count : yX8_count.cls = RX8 ∧ yX8_count.cls ≠ "java/lang/invoke/MethodHandle" ∧ yX8_count.cls ≠ "java/lang/invoke/VarHandle" ∧ (parseMethodDescriptor yX8_count.desc).map (fun d => d.parameters.length) = some 1 := by decide +kernel
def B_X8_count_46 (post : Int32 → (Nat → Int64) → Prop) (t_least : Nat → Int64) (t_isKept : Nat → Int32) (k0 : Int32) : Prop :=
  (vp_in (1 : Int32) 2 ∧ ((t_isKept (1 : Int32).toNatClampNeg = 0 → post (k0 + (0 : Int32)) t_least) ∧ (¬ t_isKept (1 : Int32).toNatClampNeg = 0 → post (k0 + (1 : Int32)) t_least)))
def P_X8_count (post : Int32 → (Nat → Int64) → Prop) (t_taped : Int32) (t_state : Nat → Int32) (t_least : Nat → Int64) (t_isKept : Nat → Int32) (t_lanes : Nat → Int32) (t_lengths : Nat → Int32) (x1 : Int32) : Prop :=
  ((x1 = (0 : Int32) → (vp_in (0 : Int32) 2 ∧ ((t_isKept (0 : Int32).toNatClampNeg = 0 → B_X8_count_46 post t_least t_isKept (0 : Int32)) ∧ (¬ t_isKept (0 : Int32).toNatClampNeg = 0 → B_X8_count_46 post t_least t_isKept (1 : Int32))))) ∧ (¬ x1 = (0 : Int32) → ((x1 = (1 : Int32) → post t_taped t_least) ∧ (¬ x1 = (1 : Int32) → ((x1 = (2 : Int32) → (vp_in (0 : Int32) 4 ∧ ((¬ t_lanes (0 : Int32).toNatClampNeg = (-4 : Int32) → (vp_in (0 : Int32) 4 ∧ post (t_lengths (0 : Int32).toNatClampNeg) t_least)) ∧ (t_lanes (0 : Int32).toNatClampNeg = (-4 : Int32) → post (-4 : Int32) t_least)))) ∧ (¬ x1 = (2 : Int32) → ((x1 = (3 : Int32) → P_X8_ofBounds (fun (r1 : Int32) (t_least_v1 : Nat → Int64) => post r1 t_least_v1) t_state t_least (9 : Int32)) ∧ (¬ x1 = (3 : Int32) → post (-1 : Int32) t_least))))))))
set_option maxHeartbeats 4000000 in
set_option maxRecDepth 100000 in
theorem c_X8_count (l : Launch) (D : va_G) (cy : Nat → ClassId) (sz : Nat) (A_t A_t_state A_t_tape A_t_ends A_t_letters A_t_least A_t_conflicts A_t_behind A_t_placed A_t_isKept A_t_lanes A_t_lengths A_t_cells : Nat) (t_taped : Int32) (t_fault : Int32) (t_broken : Int32) (t_brokenAt : Int32) (t_spot : Int32) (t_here : Int32) (t_token : Int32) (t_value : Int32) (t_isRealTold : Int32) (t_conflictMany : Int32) (t_torn : Int32) (t_state : Nat → Int32) (t_least : Nat → Int64) (t_isKept : Nat → Int32) (t_lanes : Nat → Int32) (t_lengths : Nat → Int32) (x1 : Int32) (post : Int32 → (Nat → Int64) → Prop) (h : P_X8_count post t_taped t_state t_least t_isKept t_lanes t_lengths x1) : Met l yX8_count wsX8_count { frames := 5, cells := 0, slots := 0, locals := 117 } (pcW D cy [(A_t, .inr (8, [.ref A_t_state, .ref A_t_tape, .int t_taped, .int t_fault, .int t_broken, .int t_brokenAt, .int t_spot, .int t_here, .int t_token, .int t_value, .int t_isRealTold, .ref A_t_ends, .ref A_t_letters, .ref A_t_least, .ref A_t_conflicts, .int t_conflictMany, .ref A_t_behind, .ref A_t_placed, .ref A_t_isKept, .ref A_t_lanes, .ref A_t_lengths, .ref A_t_cells, .int t_torn])), (A_t_state, .inl (cy 1, 535, .inl t_state)), (A_t_least, .inl (cy 2, 100, .inr (.inl t_least))), (A_t_isKept, .inl (cy 3, 2, .inl t_isKept)), (A_t_lanes, .inl (cy 1, 4, .inl t_lanes)), (A_t_lengths, .inl (cy 1, 4, .inl t_lengths))] sz [.ref A_t, .int x1]) (va_Qi (fun r (u : (Nat → Int64)) => post r u) (bW D [(A_t, .inr (8, [.ref A_t_state, .ref A_t_tape, .int t_taped, .int t_fault, .int t_broken, .int t_brokenAt, .int t_spot, .int t_here, .int t_token, .int t_value, .int t_isRealTold, .ref A_t_ends, .ref A_t_letters, .ref A_t_least, .ref A_t_conflicts, .int t_conflictMany, .ref A_t_behind, .ref A_t_placed, .ref A_t_isKept, .ref A_t_lanes, .ref A_t_lengths, .ref A_t_cells, .int t_torn])), (A_t_state, .inl (cy 1, 535, .inl t_state)), (A_t_least, .inl (cy 2, 100, .inr (.inl t_least))), (A_t_isKept, .inl (cy 3, 2, .inl t_isKept)), (A_t_lanes, .inl (cy 1, 4, .inl t_lanes)), (A_t_lengths, .inl (cy 1, 4, .inl t_lengths))] sz (fun u => [(A_t, .inr (8, [.ref A_t_state, .ref A_t_tape, .int t_taped, .int t_fault, .int t_broken, .int t_brokenAt, .int t_spot, .int t_here, .int t_token, .int t_value, .int t_isRealTold, .ref A_t_ends, .ref A_t_letters, .ref A_t_least, .ref A_t_conflicts, .int t_conflictMany, .ref A_t_behind, .ref A_t_placed, .ref A_t_isKept, .ref A_t_lanes, .ref A_t_lengths, .ref A_t_cells, .int t_torn])), (A_t_state, .inl (cy 1, 535, .inl t_state)), (A_t_least, .inl (cy 2, 100, .inr (.inl u))), (A_t_isKept, .inl (cy 3, 2, .inl t_isKept)), (A_t_lanes, .inl (cy 1, 4, .inl t_lanes)), (A_t_lengths, .inl (cy 1, 4, .inl t_lengths))])) (va_A [(A_t, .inr (8, [.ref A_t_state, .ref A_t_tape, .int t_taped, .int t_fault, .int t_broken, .int t_brokenAt, .int t_spot, .int t_here, .int t_token, .int t_value, .int t_isRealTold, .ref A_t_ends, .ref A_t_letters, .ref A_t_least, .ref A_t_conflicts, .int t_conflictMany, .ref A_t_behind, .ref A_t_placed, .ref A_t_isKept, .ref A_t_lanes, .ref A_t_lengths, .ref A_t_cells, .int t_torn])), (A_t_state, .inl (cy 1, 535, .inl t_state)), (A_t_least, .inl (cy 2, 100, .inr (.inl t_least))), (A_t_isKept, .inl (cy 3, 2, .inl t_isKept)), (A_t_lanes, .inl (cy 1, 4, .inl t_lanes)), (A_t_lengths, .inl (cy 1, 4, .inl t_lengths))] sz)) 0 0 (va_A [(A_t, .inr (8, [.ref A_t_state, .ref A_t_tape, .int t_taped, .int t_fault, .int t_broken, .int t_brokenAt, .int t_spot, .int t_here, .int t_token, .int t_value, .int t_isRealTold, .ref A_t_ends, .ref A_t_letters, .ref A_t_least, .ref A_t_conflicts, .int t_conflictMany, .ref A_t_behind, .ref A_t_placed, .ref A_t_isKept, .ref A_t_lanes, .ref A_t_lengths, .ref A_t_cells, .int t_torn])), (A_t_state, .inl (cy 1, 535, .inl t_state)), (A_t_least, .inl (cy 2, 100, .inr (.inl t_least))), (A_t_isKept, .inl (cy 3, 2, .inl t_isKept)), (A_t_lanes, .inl (cy 1, 4, .inl t_lanes)), (A_t_lengths, .inl (cy 1, 4, .inl t_lengths))] sz) := by
  refine Met.ofW (cc := cX8_count) (maxL := 2) (ret := (some .int)) (by decide) rfl ?_
  intro p e s m args below meth c s₁ B hml hv
  obtain ⟨rfl, hsz, hP, hK, hD0⟩ := hv
  have hx := B.exec
  have hb := B.bytes
  have hr := B.returns
  have hts := atoms_spec (ws := wsX8_count) B.pre
  have hown : s.vm.findClass RX8 = some m.cls := findClass_of_methodNamed B.named
  have hlocks := B.notSynchronized
  have CF : CallFix p m c cX8_count 2 s ([.ref A_t, .int x1] : List Value).toArray wsX8_count RX8 := ⟨hx, hb, hml, hown, hts⟩
  have f0 := hts (.fieldLink RX8 35 "GapBoundsModel" "isKept" "[Z") (by decide +kernel)
  have f1 := hts (.fieldLink RX8 54 "GapBoundsModel" "taped" "I") (by decide +kernel)
  have f2 := hts (.fieldLink RX8 39 "GapBoundsModel" "lanes" "[I") (by decide +kernel)
  have f3 := hts (.fieldLink RX8 42 "GapBoundsModel" "lengths" "[I") (by decide +kernel)
  have iX8 : ∀ w ∈ u_ws RX8 TX8 23, w ∈ wsX8_count := by decide +kernel
  subst hsz
  obtain ⟨A, hAe⟩ : ∃ A, A = va_A [(A_t, .inr (8, [.ref A_t_state, .ref A_t_tape, .int t_taped, .int t_fault, .int t_broken, .int t_brokenAt, .int t_spot, .int t_here, .int t_token, .int t_value, .int t_isRealTold, .ref A_t_ends, .ref A_t_letters, .ref A_t_least, .ref A_t_conflicts, .int t_conflictMany, .ref A_t_behind, .ref A_t_placed, .ref A_t_isKept, .ref A_t_lanes, .ref A_t_lengths, .ref A_t_cells, .int t_torn])), (A_t_state, .inl (cy 1, 535, .inl t_state)), (A_t_least, .inl (cy 2, 100, .inr (.inl t_least))), (A_t_isKept, .inl (cy 3, 2, .inl t_isKept)), (A_t_lanes, .inl (cy 1, 4, .inl t_lanes)), (A_t_lengths, .inl (cy 1, 4, .inl t_lengths))] s.heap.size := ⟨_, rfl⟩
  have hD : va_D A [(A_t, .inr (8, [.ref A_t_state, .ref A_t_tape, .int t_taped, .int t_fault, .int t_broken, .int t_brokenAt, .int t_spot, .int t_here, .int t_token, .int t_value, .int t_isRealTold, .ref A_t_ends, .ref A_t_letters, .ref A_t_least, .ref A_t_conflicts, .int t_conflictMany, .ref A_t_behind, .ref A_t_placed, .ref A_t_isKept, .ref A_t_lanes, .ref A_t_lengths, .ref A_t_cells, .int t_torn])), (A_t_state, .inl (cy 1, 535, .inl t_state)), (A_t_least, .inl (cy 2, 100, .inr (.inl t_least))), (A_t_isKept, .inl (cy 3, 2, .inl t_isKept)), (A_t_lanes, .inl (cy 1, 4, .inl t_lanes)), (A_t_lengths, .inl (cy 1, 4, .inl t_lengths))] := by rw [hAe]; exact hD0.self
  have hA : ∀ q : Nat, s.heap.size ≤ q → A q := fun q hq => by rw [hAe]; exact Or.inr hq
  have hS : va_S A s.heap s.heap [] := va_S.rf
  have hl := lv_entry [.ref A_t, .int x1] (n := 2) (Nat.le_of_ble_eq_true rfl)
  rw [lg_entry_eq]
  generalize (lg_sl [.ref A_t, .int x1] ++ List.replicate (2 - (lg_sl [.ref A_t, .int x1]).length) Slot.unset).toArray = ls at hl ⊢
  have hl : lv_has ls 2 [(0, .ref A_t), (1, .int x1)] := hl
  refine W.gen (fun Q0 hQ => ?_)
  have J46 : ∀ (t_least : Nat → Int64) (k0 : Int32) (H : Heap) (locs : List Loc) (ls : Array Slot), B_X8_count_46 post t_least t_isKept k0 → va_P D vwCl [(A_t, .inr (8, [.ref A_t_state, .ref A_t_tape, .int t_taped, .int t_fault, .int t_broken, .int t_brokenAt, .int t_spot, .int t_here, .int t_token, .int t_value, .int t_isRealTold, .ref A_t_ends, .ref A_t_letters, .ref A_t_least, .ref A_t_conflicts, .int t_conflictMany, .ref A_t_behind, .ref A_t_placed, .ref A_t_isKept, .ref A_t_lanes, .ref A_t_lengths, .ref A_t_cells, .int t_torn])), (A_t_state, .inl (cy 1, 535, .inl t_state)), (A_t_least, .inl (cy 2, 100, .inr (.inl t_least))), (A_t_isKept, .inl (cy 3, 2, .inl t_isKept)), (A_t_lanes, .inl (cy 1, 4, .inl t_lanes)), (A_t_lengths, .inl (cy 1, 4, .inl t_lengths))] H → va_D A [(A_t, .inr (8, [.ref A_t_state, .ref A_t_tape, .int t_taped, .int t_fault, .int t_broken, .int t_brokenAt, .int t_spot, .int t_here, .int t_token, .int t_value, .int t_isRealTold, .ref A_t_ends, .ref A_t_letters, .ref A_t_least, .ref A_t_conflicts, .int t_conflictMany, .ref A_t_behind, .ref A_t_placed, .ref A_t_isKept, .ref A_t_lanes, .ref A_t_lengths, .ref A_t_cells, .int t_torn])), (A_t_state, .inl (cy 1, 535, .inl t_state)), (A_t_least, .inl (cy 2, 100, .inr (.inl t_least))), (A_t_isKept, .inl (cy 3, 2, .inl t_isKept)), (A_t_lanes, .inl (cy 1, 4, .inl t_lanes)), (A_t_lengths, .inl (cy 1, 4, .inl t_lengths))] → va_S A s.heap H locs → lv_has ls 2 [(0, .ref A_t)] → W p l e (headSpec wsX8_count { frames := 5, cells := 0, slots := 0, locals := 117 }).room s m ([.ref A_t, .int x1] : List Value).toArray below meth c H locs 0 0 Q0 (F0 m 46 ls [.int k0]) := by
    intro t_least k0 H locs ls h hP hD hS hl
    unfold B_X8_count_46 at h
    refine lv_aload_n hx hb dX8_count_46 rfl (lv_at hl 0 rfl) ?_
    refine va_get (D := D) (ci := 8) (v := .ref A_t_isKept) (C := RX8) (T := TX8) (N := 23) hx hb hts iX8 hown hK.1 hP 0 rfl rfl 18 (by decide) f0 (fun _ h9 => h9) rfl dX8_count_47 ?_
    refine lv_iconst (v := 1) hx hb dX8_count_50 (by decide) ?_
    refine va_zald hx hb hK.1 hP 3 3 rfl rfl h.1 dX8_count_51 ?_
    replace h := h.2
    refine lv_if_eq (tgt := 59) hx hb dX8_count_52 (by decide) (fun hc => ?_) (fun hc => ?_)
    · replace h := h.1 hc
      refine lv_iconst (v := 0) hx hb dX8_count_59 (by decide) ?_
      refine lv_iadd hx hb dX8_count_60 ?_
      subst hQ
      subst hAe
      exact W.iret (v := k0 + (0 : Int32)) hx hb hr (fun t ht _ => ⟨⟨k0 + (0 : Int32), t_least, rfl, h, by rw [ht]; exact hP, hD⟩, hS.F ht⟩) hS.2.2 dX8_count_61
    · replace h := h.2 hc
      refine lv_iconst (v := 1) hx hb dX8_count_55 (by decide) ?_
      refine lv_goto (tgt := 60) hx hb dX8_count_56 (by decide) ?_
      refine lv_iadd hx hb dX8_count_60 ?_
      subst hQ
      subst hAe
      exact W.iret (v := k0 + (1 : Int32)) hx hb hr (fun t ht _ => ⟨⟨k0 + (1 : Int32), t_least, rfl, h, by rw [ht]; exact hP, hD⟩, hS.F ht⟩) hS.2.2 dX8_count_61
  unfold P_X8_count at h
  refine lv_iload_n hx hb dX8_count_0 rfl (lv_at hl 1 rfl) ?_
  by_cases hc0 : x1 = (0 : Int32)
  · replace h := h.1 hc0
    refine lv_tableIn (tgt := 32) hx hb dX8_count_1 (by rw [hc0]; decide) (by rw [hc0]; decide) (by rw [hc0]; rfl) (by decide) ?_
    refine lv_aload_n hx hb dX8_count_32 rfl (lv_at hl 0 rfl) ?_
    refine va_get (D := D) (ci := 8) (v := .ref A_t_isKept) (C := RX8) (T := TX8) (N := 23) hx hb hts iX8 hown hK.1 hP 0 rfl rfl 18 (by decide) f0 (fun _ h9 => h9) rfl dX8_count_33 ?_
    refine lv_iconst (v := 0) hx hb dX8_count_36 (by decide) ?_
    refine va_zald hx hb hK.1 hP 3 3 rfl rfl h.1 dX8_count_37 ?_
    replace h := h.2
    refine lv_if_eq (tgt := 45) hx hb dX8_count_38 (by decide) (fun hc => ?_) (fun hc => ?_)
    · replace h := h.1 hc
      refine lv_iconst (v := 0) hx hb dX8_count_45 (by decide) ?_
      exact J46 t_least (0 : Int32) s.heap [] ls h hP hD hS (lv_sub hl [0] rfl)
    · replace h := h.2 hc
      refine lv_iconst (v := 1) hx hb dX8_count_41 (by decide) ?_
      refine lv_goto (tgt := 46) hx hb dX8_count_42 (by decide) ?_
      exact J46 t_least (1 : Int32) s.heap [] ls h hP hD hS (lv_sub hl [0] rfl)
  · replace h := h.2 hc0
    by_cases hc1 : x1 = (1 : Int32)
    · replace h := h.1 hc1
      refine lv_tableIn (tgt := 62) hx hb dX8_count_1 (by rw [hc1]; decide) (by rw [hc1]; decide) (by rw [hc1]; rfl) (by decide) ?_
      refine lv_aload_n hx hb dX8_count_62 rfl (lv_at hl 0 rfl) ?_
      refine va_get (D := D) (ci := 8) (v := .int t_taped) (C := RX8) (T := TX8) (N := 23) hx hb hts iX8 hown hK.1 hP 0 rfl rfl 2 (by decide) f1 (fun _ h9 => h9) rfl dX8_count_63 ?_
      subst hQ
      subst hAe
      exact W.iret (v := t_taped) hx hb hr (fun t ht _ => ⟨⟨t_taped, t_least, rfl, h, by rw [ht]; exact hP, hD⟩, hS.F ht⟩) hS.2.2 dX8_count_66
    · replace h := h.2 hc1
      by_cases hc2 : x1 = (2 : Int32)
      · replace h := h.1 hc2
        refine lv_tableIn (tgt := 67) hx hb dX8_count_1 (by rw [hc2]; decide) (by rw [hc2]; decide) (by rw [hc2]; rfl) (by decide) ?_
        refine lv_aload_n hx hb dX8_count_67 rfl (lv_at hl 0 rfl) ?_
        refine va_get (D := D) (ci := 8) (v := .ref A_t_lanes) (C := RX8) (T := TX8) (N := 23) hx hb hts iX8 hown hK.1 hP 0 rfl rfl 19 (by decide) f2 (fun _ h9 => h9) rfl dX8_count_68 ?_
        refine lv_iconst (v := 0) hx hb dX8_count_71 (by decide) ?_
        refine va_iald hx hb hK.1 hP 4 1 rfl rfl h.1 dX8_count_72 ?_
        replace h := h.2
        refine lv_bipush (v := -4) hx hb dX8_count_73 (by decide) ?_
        refine lv_icmp_ne (tgt := 83) hx hb dX8_count_75 (by decide) (fun hc => ?_) (fun hc => ?_)
        · replace h := h.1 hc
          refine lv_aload_n hx hb dX8_count_83 rfl (lv_at hl 0 rfl) ?_
          refine va_get (D := D) (ci := 8) (v := .ref A_t_lengths) (C := RX8) (T := TX8) (N := 23) hx hb hts iX8 hown hK.1 hP 0 rfl rfl 20 (by decide) f3 (fun _ h9 => h9) rfl dX8_count_84 ?_
          refine lv_iconst (v := 0) hx hb dX8_count_87 (by decide) ?_
          refine va_iald hx hb hK.1 hP 5 1 rfl rfl h.1 dX8_count_88 ?_
          replace h := h.2
          subst hQ
          subst hAe
          exact W.iret (v := t_lengths (0 : Int32).toNatClampNeg) hx hb hr (fun t ht _ => ⟨⟨t_lengths (0 : Int32).toNatClampNeg, t_least, rfl, h, by rw [ht]; exact hP, hD⟩, hS.F ht⟩) hS.2.2 dX8_count_89
        · replace h := h.2 hc
          refine lv_bipush (v := -4) hx hb dX8_count_78 (by decide) ?_
          refine lv_goto (tgt := 89) hx hb dX8_count_80 (by decide) ?_
          subst hQ
          subst hAe
          exact W.iret (v := (-4 : Int32)) hx hb hr (fun t ht _ => ⟨⟨(-4 : Int32), t_least, rfl, h, by rw [ht]; exact hP, hD⟩, hS.F ht⟩) hS.2.2 dX8_count_89
      · replace h := h.2 hc2
        by_cases hc3 : x1 = (3 : Int32)
        · replace h := h.1 hc3
          refine lv_tableIn (tgt := 90) hx hb dX8_count_1 (by rw [hc3]; decide) (by rw [hc3]; decide) (by rw [hc3]; rfl) (by decide) ?_
          refine lv_aload_n hx hb dX8_count_90 rfl (lv_at hl 0 rfl) ?_
          refine lv_bipush (v := 9) hx hb dX8_count_91 (by decide) ?_
          have hPn : va_P D vwCl ([(A_t_isKept, .inl (cy 3, 2, .inl t_isKept)), (A_t_lanes, .inl (cy 1, 4, .inl t_lanes)), (A_t_lengths, .inl (cy 1, 4, .inl t_lengths))] ++ [(A_t, .inr (8, [.ref A_t_state, .ref A_t_tape, .int t_taped, .int t_fault, .int t_broken, .int t_brokenAt, .int t_spot, .int t_here, .int t_token, .int t_value, .int t_isRealTold, .ref A_t_ends, .ref A_t_letters, .ref A_t_least, .ref A_t_conflicts, .int t_conflictMany, .ref A_t_behind, .ref A_t_placed, .ref A_t_isKept, .ref A_t_lanes, .ref A_t_lengths, .ref A_t_cells, .int t_torn])), (A_t_state, .inl (cy 1, 535, .inl t_state)), (A_t_least, .inl (cy 2, 100, .inr (.inl t_least)))]) s.heap := hP.sub [3, 4, 5, 0, 1, 2] rfl
          have hDn : va_D A ([(A_t_isKept, .inl (cy 3, 2, .inl t_isKept)), (A_t_lanes, .inl (cy 1, 4, .inl t_lanes)), (A_t_lengths, .inl (cy 1, 4, .inl t_lengths))] ++ [(A_t, .inr (8, [.ref A_t_state, .ref A_t_tape, .int t_taped, .int t_fault, .int t_broken, .int t_brokenAt, .int t_spot, .int t_here, .int t_token, .int t_value, .int t_isRealTold, .ref A_t_ends, .ref A_t_letters, .ref A_t_least, .ref A_t_conflicts, .int t_conflictMany, .ref A_t_behind, .ref A_t_placed, .ref A_t_isKept, .ref A_t_lanes, .ref A_t_lengths, .ref A_t_cells, .int t_torn])), (A_t_state, .inl (cy 1, 535, .inl t_state)), (A_t_least, .inl (cy 2, 100, .inr (.inl t_least)))]) := hD.sub [3, 4, 5, 0, 1, 2] (by decide) rfl
          have hPc := gPR hPn
          have hDc := gDR hDn
          refine mw_i (va_runV (As := [.int (9 : Int32)]) (rest := []) CF (c_X8_ofBounds l D cy s.heap.size A_t A_t_state A_t_tape A_t_ends A_t_letters A_t_least A_t_conflicts A_t_behind A_t_placed A_t_isKept A_t_lanes A_t_lengths A_t_cells t_taped t_fault t_broken t_brokenAt t_spot t_here t_token t_value t_isRealTold t_conflictMany t_torn t_state t_least (9 : Int32) _ h) (cwV 1 hts gX8_count_X8_ofBounds rfl rfl rfl qX8_ofBounds ⟨Nat.le_of_ble_eq_true rfl, Nat.le_of_ble_eq_true rfl⟩) (mpVW hK hPc hDc (ci := 8) (q := (RX8, TX8, 23)) (q0 := 0) rfl rfl) rfl rfl hl.1 rfl (lv_room (Nat.le_of_ble_eq_true rfl)) dX8_count_93 ⟨Nat.zero_le _, Nat.zero_le _⟩) hPn hDn hS hA (fun r1 t_least_v1 H locs h hP hD hS => ?_)
          have hP : va_P D vwCl [(A_t, .inr (8, [.ref A_t_state, .ref A_t_tape, .int t_taped, .int t_fault, .int t_broken, .int t_brokenAt, .int t_spot, .int t_here, .int t_token, .int t_value, .int t_isRealTold, .ref A_t_ends, .ref A_t_letters, .ref A_t_least, .ref A_t_conflicts, .int t_conflictMany, .ref A_t_behind, .ref A_t_placed, .ref A_t_isKept, .ref A_t_lanes, .ref A_t_lengths, .ref A_t_cells, .int t_torn])), (A_t_state, .inl (cy 1, 535, .inl t_state)), (A_t_least, .inl (cy 2, 100, .inr (.inl t_least_v1))), (A_t_isKept, .inl (cy 3, 2, .inl t_isKept)), (A_t_lanes, .inl (cy 1, 4, .inl t_lanes)), (A_t_lengths, .inl (cy 1, 4, .inl t_lengths))] H := hP.sub [3, 4, 5, 0, 1, 2] rfl
          have hD : va_D A [(A_t, .inr (8, [.ref A_t_state, .ref A_t_tape, .int t_taped, .int t_fault, .int t_broken, .int t_brokenAt, .int t_spot, .int t_here, .int t_token, .int t_value, .int t_isRealTold, .ref A_t_ends, .ref A_t_letters, .ref A_t_least, .ref A_t_conflicts, .int t_conflictMany, .ref A_t_behind, .ref A_t_placed, .ref A_t_isKept, .ref A_t_lanes, .ref A_t_lengths, .ref A_t_cells, .int t_torn])), (A_t_state, .inl (cy 1, 535, .inl t_state)), (A_t_least, .inl (cy 2, 100, .inr (.inl t_least_v1))), (A_t_isKept, .inl (cy 3, 2, .inl t_isKept)), (A_t_lanes, .inl (cy 1, 4, .inl t_lanes)), (A_t_lengths, .inl (cy 1, 4, .inl t_lengths))] := hD.sub [3, 4, 5, 0, 1, 2] (by decide) rfl
          subst hQ
          subst hAe
          exact W.iret (v := r1) hx hb hr (fun t ht _ => ⟨⟨r1, t_least_v1, rfl, h, by rw [ht]; exact hP, hD⟩, hS.F ht⟩) hS.2.2 dX8_count_96
        · replace h := h.2 hc3
          refine lv_tableOut (tgt := 97) hx hb dX8_count_1 (tsw_out (n := 3) (by decide) (fun k hk => ?_)) (by decide) ?_
          · rcases (show k = 0 ∨ k = 1 ∨ k = 2 ∨ k = 3 by omega) with rfl | rfl | rfl | rfl
            · exact hc0
            · exact hc1
            · exact hc2
            · exact hc3
          · skip
            refine lv_iconst (v := -1) hx hb dX8_count_97 (by decide) ?_
            subst hQ
            subst hAe
            exact W.iret (v := (-1 : Int32)) hx hb hr (fun t ht _ => ⟨⟨(-1 : Int32), t_least, rfl, h, by rw [ht]; exact hP, hD⟩, hS.F ht⟩) hS.2.2 dX8_count_98
