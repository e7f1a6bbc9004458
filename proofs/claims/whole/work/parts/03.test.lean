theorem qX5_isOf : yX5_isOf.cls = RX5 ∧ yX5_isOf.cls ≠ "java/lang/invoke/MethodHandle" ∧ yX5_isOf.cls ≠ "java/lang/invoke/VarHandle" ∧ (parseMethodDescriptor yX5_isOf.desc).map (fun d => d.parameters.length) = some 3 := by decide +kernel
def P_X5_isOf (post : Int32 → Prop) (t_upper : Nat → Int32) (t_lower : Nat → Int32) (x1 : Int32) (x2 : Int32) (x3 : Int32) : Prop :=
  (vp_in x1 24 ∧ ((¬ t_upper x1.toNatClampNeg = x2 → post (0 : Int32)) ∧ (t_upper x1.toNatClampNeg = x2 → (vp_in x1 24 ∧ ((¬ t_lower x1.toNatClampNeg = x3 → post (0 : Int32)) ∧ (t_lower x1.toNatClampNeg = x3 → post (1 : Int32)))))))
set_option maxHeartbeats 4000000 in
set_option maxRecDepth 100000 in
theorem c_X5_isOf (l : Launch) (D : va_G) (cy : Nat → ClassId) (A_t A_t_upper A_t_lower A_t_limits A_t_stricts A_t_marks : Nat) (t_size : Int32) (t_marked : Int32) (t_wholeness : Int32) (t_upper : Nat → Int32) (t_lower : Nat → Int32) (x1 : Int32) (x2 : Int32) (x3 : Int32) (post : Int32 → Prop) (h : P_X5_isOf post t_upper t_lower x1 x2 x3) : Met l yX5_isOf wsX5_isOf { frames := 0, cells := 0, slots := 0, locals := 0 } (pcR D cy [(A_t, .inr (5, [.ref A_t_upper, .ref A_t_lower, .ref A_t_limits, .ref A_t_stricts, .ref A_t_marks, .int t_size, .int t_marked, .int t_wholeness])), (A_t_upper, .inl (cy 1, 24, .inl t_upper)), (A_t_lower, .inl (cy 1, 24, .inl t_lower))] [.ref A_t, .int x1, .int x2, .int x3]) (vp_Si post) 0 0 (fun _ => False) := by
  refine Met.ofW (cc := cX5_isOf) (maxL := 4) (ret := (some .boolean)) (by decide) rfl ?_
  intro p e s m args below meth c s₁ B hml hv
  obtain ⟨rfl, hP, hK⟩ := hv
  have hx := B.exec
  have hb := B.bytes
  have hr := B.returns
  have hts := atoms_spec (ws := wsX5_isOf) B.pre
  have hown : s.vm.findClass RX5 = some m.cls := findClass_of_methodNamed B.named
  have hlocks := B.notSynchronized
  have CF : CallFix p m c cX5_isOf 4 s ([.ref A_t, .int x1, .int x2, .int x3] : List Value).toArray wsX5_isOf RX5 := ⟨hx, hb, hml, hown, hts⟩
  have f0 := hts (.fieldLink RX5 9 "GapBounds$Store" "upper" "[I") (by decide +kernel)
  have f1 := hts (.fieldLink RX5 15 "GapBounds$Store" "lower" "[I") (by decide +kernel)
  have iX5 : ∀ w ∈ u_ws RX5 TX5 8, w ∈ wsX5_isOf := by decide +kernel
  have hl := lv_entry [.ref A_t, .int x1, .int x2, .int x3] (n := 4) (Nat.le_of_ble_eq_true rfl)
  rw [lg_entry_eq]
  generalize (lg_sl [.ref A_t, .int x1, .int x2, .int x3] ++ List.replicate (4 - (lg_sl [.ref A_t, .int x1, .int x2, .int x3]).length) Slot.unset).toArray = ls at hl ⊢
  have hl : lv_has ls 4 [(0, .ref A_t), (1, .int x1), (2, .int x2), (3, .int x3)] := hl
  refine W.gen (fun Q0 hQ => ?_)
  unfold P_X5_isOf at h
  refine lv_aload_n hx hb dX5_isOf_0 rfl (lv_at hl 0 rfl) ?_
  refine va_get (D := D) (ci := 5) (v := .ref A_t_upper) (C := RX5) (T := TX5) (N := 8) hx hb hts iX5 hown hK.1 hP 0 rfl rfl 0 (by decide) f0 (fun _ h9 => h9) rfl dX5_isOf_1 ?_
  refine lv_iload_n hx hb dX5_isOf_4 rfl (lv_at hl 1 rfl) ?_
  refine va_iald hx hb hK.1 hP 1 1 rfl rfl h.1 dX5_isOf_5 ?_
  replace h := h.2
  refine lv_iload_n hx hb dX5_isOf_6 rfl (lv_at hl 2 rfl) ?_
  refine lv_icmp_ne (tgt := 24) hx hb dX5_isOf_7 (by decide) (fun hc => ?_) (fun hc => ?_)
  · replace h := h.1 hc
    refine lv_iconst (v := 0) hx hb dX5_isOf_24 (by decide) ?_
    subst hQ
    exact W.zret (v := (0 : Int32)) hx hb hr bz0 (fun t ht _ => ⟨(0 : Int32), rfl, h, ht⟩) (fun _ hq => absurd hq List.not_mem_nil) dX5_isOf_25
  · replace h := h.2 hc
    refine lv_aload_n hx hb dX5_isOf_10 rfl (lv_at hl 0 rfl) ?_
    refine va_get (D := D) (ci := 5) (v := .ref A_t_lower) (C := RX5) (T := TX5) (N := 8) hx hb hts iX5 hown hK.1 hP 0 rfl rfl 1 (by decide) f1 (fun _ h9 => h9) rfl dX5_isOf_11 ?_
    refine lv_iload_n hx hb dX5_isOf_14 rfl (lv_at hl 1 rfl) ?_
    refine va_iald hx hb hK.1 hP 2 1 rfl rfl h.1 dX5_isOf_15 ?_
    replace h := h.2
    refine lv_iload_n hx hb dX5_isOf_16 rfl (lv_at hl 3 rfl) ?_
    refine lv_icmp_ne (tgt := 24) hx hb dX5_isOf_17 (by decide) (fun hc => ?_) (fun hc => ?_)
    · replace h := h.1 hc
      refine lv_iconst (v := 0) hx hb dX5_isOf_24 (by decide) ?_
      subst hQ
      exact W.zret (v := (0 : Int32)) hx hb hr bz0 (fun t ht _ => ⟨(0 : Int32), rfl, h, ht⟩) (fun _ hq => absurd hq List.not_mem_nil) dX5_isOf_25
    · replace h := h.2 hc
      refine lv_iconst (v := 1) hx hb dX5_isOf_20 (by decide) ?_
      refine lv_goto (tgt := 25) hx hb dX5_isOf_21 (by decide) ?_
      subst hQ
      exact W.zret (v := (1 : Int32)) hx hb hr bz1 (fun t ht _ => ⟨(1 : Int32), rfl, h, ht⟩) (fun _ hq => absurd hq List.not_mem_nil) dX5_isOf_25
theorem qX7_isThing : yX7_isThing.cls = RX7 ∧ yX7_isThing.cls ≠ "java/lang/invoke/MethodHandle" ∧ yX7_isThing.cls ≠ "java/lang/invoke/VarHandle" ∧ (parseMethodDescriptor yX7_isThing.desc).map (fun d => d.parameters.length) = some 1 := by decide +kernel
def P_X7_isThing (post : Int32 → Prop) (x0 : Int32) : Prop :=
  ((x0 < 0 → post (0 : Int32)) ∧ (¬ x0 < 0 → (((10 : Int32) ≤ x0 → post (0 : Int32)) ∧ (¬ (10 : Int32) ≤ x0 → post (1 : Int32)))))
set_option maxHeartbeats 4000000 in
set_option maxRecDepth 100000 in
theorem c_X7_isThing (l : Launch) (x0 : Int32) (post : Int32 → Prop) (h : P_X7_isThing post x0) : Met l yX7_isThing wsX7_isThing { frames := 0, cells := 0, slots := 0, locals := 0 } (pcN [.int x0]) (vp_Si post) 0 0 (fun _ => False) := by
  refine Met.ofW (cc := cX7_isThing) (maxL := 1) (ret := (some .boolean)) (by decide) rfl ?_
  intro p e s m args below meth c s₁ B hml hv
  obtain ⟨rfl, -⟩ := hv
  have hx := B.exec
  have hb := B.bytes
  have hr := B.returns
  have hts := atoms_spec (ws := wsX7_isThing) B.pre
  have hown : s.vm.findClass RX7 = some m.cls := findClass_of_methodNamed B.named
  have hlocks := B.notSynchronized
  have CF : CallFix p m c cX7_isThing 1 s ([.int x0] : List Value).toArray wsX7_isThing RX7 := ⟨hx, hb, hml, hown, hts⟩
  have hl := lv_entry [.int x0] (n := 1) (Nat.le_of_ble_eq_true rfl)
  rw [lg_entry_eq]
  generalize (lg_sl [.int x0] ++ List.replicate (1 - (lg_sl [.int x0]).length) Slot.unset).toArray = ls at hl ⊢
  have hl : lv_has ls 1 [(0, .int x0)] := hl
  refine W.gen (fun Q0 hQ => ?_)
  unfold P_X7_isThing at h
  refine lv_iload_n hx hb dX7_isThing_0 rfl (lv_at hl 0 rfl) ?_
  refine lv_if_lt (tgt := 14) hx hb dX7_isThing_1 (by decide) (fun hc => ?_) (fun hc => ?_)
  · replace h := h.1 hc
    refine lv_iconst (v := 0) hx hb dX7_isThing_14 (by decide) ?_
    subst hQ
    exact W.zret (v := (0 : Int32)) hx hb hr bz0 (fun t ht _ => ⟨(0 : Int32), rfl, h, ht⟩) (fun _ hq => absurd hq List.not_mem_nil) dX7_isThing_15
  · replace h := h.2 hc
    refine lv_iload_n hx hb dX7_isThing_4 rfl (lv_at hl 0 rfl) ?_
    refine lv_bipush (v := 10) hx hb dX7_isThing_5 (by decide) ?_
    refine lv_icmp_ge (tgt := 14) hx hb dX7_isThing_7 (by decide) (fun hc => ?_) (fun hc => ?_)
    · replace h := h.1 hc
      refine lv_iconst (v := 0) hx hb dX7_isThing_14 (by decide) ?_
      subst hQ
      exact W.zret (v := (0 : Int32)) hx hb hr bz0 (fun t ht _ => ⟨(0 : Int32), rfl, h, ht⟩) (fun _ hq => absurd hq List.not_mem_nil) dX7_isThing_15
    · replace h := h.2 hc
      refine lv_iconst (v := 1) hx hb dX7_isThing_10 (by decide) ?_
      refine lv_goto (tgt := 15) hx hb dX7_isThing_11 (by decide) ?_
      subst hQ
      exact W.zret (v := (1 : Int32)) hx hb hr bz1 (fun t ht _ => ⟨(1 : Int32), rfl, h, ht⟩) (fun _ hq => absurd hq List.not_mem_nil) dX7_isThing_15
theorem qX7_arePair : yX7_arePair.cls = RX7 ∧ yX7_arePair.cls ≠ "java/lang/invoke/MethodHandle" ∧ yX7_arePair.cls ≠ "java/lang/invoke/VarHandle" ∧ (parseMethodDescriptor yX7_arePair.desc).map (fun d => d.parameters.length) = some 2 := by decide +kernel
def P_X7_arePair (post : Int32 → Prop) (x0 : Int32) (x1 : Int32) : Prop :=
  P_X7_isThing (fun (r1 : Int32) => ((r1 = 0 → post (0 : Int32)) ∧ (¬ r1 = 0 → P_X7_isThing (fun (r2 : Int32) => ((r2 = 0 → post (0 : Int32)) ∧ (¬ r2 = 0 → ((x0 = x1 → post (0 : Int32)) ∧ (¬ x0 = x1 → post (1 : Int32)))))) x1))) x0
set_option maxHeartbeats 4000000 in
set_option maxRecDepth 100000 in
theorem c_X7_arePair (l : Launch) (x0 : Int32) (x1 : Int32) (post : Int32 → Prop) (h : P_X7_arePair post x0 x1) : Met l yX7_arePair wsX7_arePair { frames := 1, cells := 0, slots := 0, locals := 20 } (pcN [.int x0, .int x1]) (vp_Si post) 0 0 (fun _ => False) := by
  refine Met.ofW (cc := cX7_arePair) (maxL := 2) (ret := (some .boolean)) (by decide) rfl ?_
  intro p e s m args below meth c s₁ B hml hv
  obtain ⟨rfl, -⟩ := hv
  have hx := B.exec
  have hb := B.bytes
  have hr := B.returns
  have hts := atoms_spec (ws := wsX7_arePair) B.pre
  have hown : s.vm.findClass RX7 = some m.cls := findClass_of_methodNamed B.named
  have hlocks := B.notSynchronized
  have CF : CallFix p m c cX7_arePair 2 s ([.int x0, .int x1] : List Value).toArray wsX7_arePair RX7 := ⟨hx, hb, hml, hown, hts⟩
  have hl := lv_entry [.int x0, .int x1] (n := 2) (Nat.le_of_ble_eq_true rfl)
  rw [lg_entry_eq]
  generalize (lg_sl [.int x0, .int x1] ++ List.replicate (2 - (lg_sl [.int x0, .int x1]).length) Slot.unset).toArray = ls at hl ⊢
  have hl : lv_has ls 2 [(0, .int x0), (1, .int x1)] := hl
  refine W.gen (fun Q0 hQ => ?_)
  unfold P_X7_arePair at h
  refine lv_iload_n hx hb dX7_arePair_0 rfl (lv_at hl 0 rfl) ?_
  refine vp_callSi (W.runS (As := [.int x0]) (rest := []) CF (c_X7_isThing l x0 _ h) (va_cwS 1 hts gX7_arePair_X7_isThing rfl rfl rfl qX7_isThing.2 ⟨Nat.le_of_ble_eq_true rfl, Nat.le_of_ble_eq_true rfl⟩) mpSN rfl rfl hl.1 rfl (lv_room (Nat.le_of_ble_eq_true rfl)) dX7_arePair_1 ⟨Nat.zero_le _, Nat.zero_le _⟩) (fun r1 h => ?_)
  refine lv_if_eq (tgt := 23) hx hb dX7_arePair_4 (by decide) (fun hc => ?_) (fun hc => ?_)
  · replace h := h.1 hc
    refine lv_iconst (v := 0) hx hb dX7_arePair_23 (by decide) ?_
    subst hQ
    exact W.zret (v := (0 : Int32)) hx hb hr bz0 (fun t ht _ => ⟨(0 : Int32), rfl, h, ht⟩) (fun _ hq => absurd hq List.not_mem_nil) dX7_arePair_24
  · replace h := h.2 hc
    refine lv_iload_n hx hb dX7_arePair_7 rfl (lv_at hl 1 rfl) ?_
    refine vp_callSi (W.runS (As := [.int x1]) (rest := []) CF (c_X7_isThing l x1 _ h) (va_cwS 1 hts gX7_arePair_X7_isThing rfl rfl rfl qX7_isThing.2 ⟨Nat.le_of_ble_eq_true rfl, Nat.le_of_ble_eq_true rfl⟩) mpSN rfl rfl hl.1 rfl (lv_room (Nat.le_of_ble_eq_true rfl)) dX7_arePair_8 ⟨Nat.zero_le _, Nat.zero_le _⟩) (fun r2 h => ?_)
    refine lv_if_eq (tgt := 23) hx hb dX7_arePair_11 (by decide) (fun hc => ?_) (fun hc => ?_)
    · replace h := h.1 hc
      refine lv_iconst (v := 0) hx hb dX7_arePair_23 (by decide) ?_
      subst hQ
      exact W.zret (v := (0 : Int32)) hx hb hr bz0 (fun t ht _ => ⟨(0 : Int32), rfl, h, ht⟩) (fun _ hq => absurd hq List.not_mem_nil) dX7_arePair_24
    · replace h := h.2 hc
      refine lv_iload_n hx hb dX7_arePair_14 rfl (lv_at hl 0 rfl) ?_
      refine lv_iload_n hx hb dX7_arePair_15 rfl (lv_at hl 1 rfl) ?_
      refine lv_icmp_eq (tgt := 23) hx hb dX7_arePair_16 (by decide) (fun hc => ?_) (fun hc => ?_)
      · replace h := h.1 hc
        refine lv_iconst (v := 0) hx hb dX7_arePair_23 (by decide) ?_
        subst hQ
        exact W.zret (v := (0 : Int32)) hx hb hr bz0 (fun t ht _ => ⟨(0 : Int32), rfl, h, ht⟩) (fun _ hq => absurd hq List.not_mem_nil) dX7_arePair_24
      · replace h := h.2 hc
        refine lv_iconst (v := 1) hx hb dX7_arePair_19 (by decide) ?_
        refine lv_goto (tgt := 24) hx hb dX7_arePair_20 (by decide) ?_
        subst hQ
        exact W.zret (v := (1 : Int32)) hx hb hr bz1 (fun t ht _ => ⟨(1 : Int32), rfl, h, ht⟩) (fun _ hq => absurd hq List.not_mem_nil) dX7_arePair_24
theorem qX5_append : yX5_append.cls = RX5 ∧ yX5_append.cls ≠ "java/lang/invoke/MethodHandle" ∧ yX5_append.cls ≠ "java/lang/invoke/VarHandle" ∧ (parseMethodDescriptor yX5_append.desc).map (fun d => d.parameters.length) = some 4 := by decide +kernel
def P_X5_append (post : Int32 → (Nat → Int32) → (Nat → Int32) → (Nat → Int32) → (Nat → Int32) → Prop) (t_size : Int32) (t_upper : Nat → Int32) (t_lower : Nat → Int32) (t_limits : Nat → Int32) (t_stricts : Nat → Int32) (x1 : Int32) (x2 : Int32) (x3 : Int32) (x4 : Int32) : Prop :=
  (((24 : Int32) ≤ t_size → post t_size t_upper t_lower t_limits t_stricts) ∧ (¬ (24 : Int32) ≤ t_size → (vp_in t_size 24 ∧ (vp_in t_size 24 ∧ (vp_in t_size 24 ∧ (vp_in t_size 24 ∧ post (t_size + (1 : Int32)) (upd t_upper t_size.toNatClampNeg x1) (upd t_lower t_size.toNatClampNeg x2) (upd t_limits t_size.toNatClampNeg x3) (upd t_stricts t_size.toNatClampNeg x4)))))))
set_option maxHeartbeats 4000000 in
set_option maxRecDepth 100000 in
theorem c_X5_append (l : Launch) (D : va_G) (cy : Nat → ClassId) (sz : Nat) (A_t A_t_upper A_t_lower A_t_limits A_t_stricts A_t_marks : Nat) (t_size : Int32) (t_marked : Int32) (t_wholeness : Int32) (t_upper : Nat → Int32) (t_lower : Nat → Int32) (t_limits : Nat → Int32) (t_stricts : Nat → Int32) (x1 : Int32) (x2 : Int32) (x3 : Int32) (x4 : Int32) (post : Int32 → (Nat → Int32) → (Nat → Int32) → (Nat → Int32) → (Nat → Int32) → Prop) (h : P_X5_append post t_size t_upper t_lower t_limits t_stricts x1 x2 x3 x4) : Met l yX5_append wsX5_append { frames := 0, cells := 0, slots := 0, locals := 0 } (pcW D cy [(A_t, .inr (5, [.ref A_t_upper, .ref A_t_lower, .ref A_t_limits, .ref A_t_stricts, .ref A_t_marks, .int t_size, .int t_marked, .int t_wholeness])), (A_t_upper, .inl (cy 1, 24, .inl t_upper)), (A_t_lower, .inl (cy 1, 24, .inl t_lower)), (A_t_limits, .inl (cy 1, 24, .inl t_limits)), (A_t_stricts, .inl (cy 1, 24, .inl t_stricts))] sz [.ref A_t, .int x1, .int x2, .int x3, .int x4]) (va_Qv (fun (u : Int32 × (Nat → Int32) × (Nat → Int32) × (Nat → Int32) × (Nat → Int32)) => post u.1 u.2.1 u.2.2.1 u.2.2.2.1 u.2.2.2.2) (bW D [(A_t, .inr (5, [.ref A_t_upper, .ref A_t_lower, .ref A_t_limits, .ref A_t_stricts, .ref A_t_marks, .int t_size, .int t_marked, .int t_wholeness])), (A_t_upper, .inl (cy 1, 24, .inl t_upper)), (A_t_lower, .inl (cy 1, 24, .inl t_lower)), (A_t_limits, .inl (cy 1, 24, .inl t_limits)), (A_t_stricts, .inl (cy 1, 24, .inl t_stricts))] sz (fun u => [(A_t, .inr (5, [.ref A_t_upper, .ref A_t_lower, .ref A_t_limits, .ref A_t_stricts, .ref A_t_marks, .int (u.1), .int t_marked, .int t_wholeness])), (A_t_upper, .inl (cy 1, 24, .inl u.2.1)), (A_t_lower, .inl (cy 1, 24, .inl u.2.2.1)), (A_t_limits, .inl (cy 1, 24, .inl u.2.2.2.1)), (A_t_stricts, .inl (cy 1, 24, .inl u.2.2.2.2))])) (va_A [(A_t, .inr (5, [.ref A_t_upper, .ref A_t_lower, .ref A_t_limits, .ref A_t_stricts, .ref A_t_marks, .int t_size, .int t_marked, .int t_wholeness])), (A_t_upper, .inl (cy 1, 24, .inl t_upper)), (A_t_lower, .inl (cy 1, 24, .inl t_lower)), (A_t_limits, .inl (cy 1, 24, .inl t_limits)), (A_t_stricts, .inl (cy 1, 24, .inl t_stricts))] sz)) 0 0 (va_A [(A_t, .inr (5, [.ref A_t_upper, .ref A_t_lower, .ref A_t_limits, .ref A_t_stricts, .ref A_t_marks, .int t_size, .int t_marked, .int t_wholeness])), (A_t_upper, .inl (cy 1, 24, .inl t_upper)), (A_t_lower, .inl (cy 1, 24, .inl t_lower)), (A_t_limits, .inl (cy 1, 24, .inl t_limits)), (A_t_stricts, .inl (cy 1, 24, .inl t_stricts))] sz) := by
  refine Met.ofW (cc := cX5_append) (maxL := 5) (ret := none) (by decide) rfl ?_
  intro p e s m args below meth c s₁ B hml hv
  obtain ⟨rfl, hsz, hP, hK, hD0⟩ := hv
  have hx := B.exec
  have hb := B.bytes
  have hr := B.returns
  have hts := atoms_spec (ws := wsX5_append) B.pre
  have hown : s.vm.findClass RX5 = some m.cls := findClass_of_methodNamed B.named
  have hlocks := B.notSynchronized
  have CF : CallFix p m c cX5_append 5 s ([.ref A_t, .int x1, .int x2, .int x3, .int x4] : List Value).toArray wsX5_append RX5 := ⟨hx, hb, hml, hown, hts⟩
  have f0 := hts (.fieldLink RX5 31 "GapBounds$Store" "size" "I") (by decide +kernel)
  have f1 := hts (.fieldLink RX5 9 "GapBounds$Store" "upper" "[I") (by decide +kernel)
  have f2 := hts (.fieldLink RX5 15 "GapBounds$Store" "lower" "[I") (by decide +kernel)
  have f3 := hts (.fieldLink RX5 18 "GapBounds$Store" "limits" "[I") (by decide +kernel)
  have f4 := hts (.fieldLink RX5 21 "GapBounds$Store" "stricts" "[I") (by decide +kernel)
  have iX5 : ∀ w ∈ u_ws RX5 TX5 8, w ∈ wsX5_append := by decide +kernel
  subst hsz
  obtain ⟨A, hAe⟩ : ∃ A, A = va_A [(A_t, .inr (5, [.ref A_t_upper, .ref A_t_lower, .ref A_t_limits, .ref A_t_stricts, .ref A_t_marks, .int t_size, .int t_marked, .int t_wholeness])), (A_t_upper, .inl (cy 1, 24, .inl t_upper)), (A_t_lower, .inl (cy 1, 24, .inl t_lower)), (A_t_limits, .inl (cy 1, 24, .inl t_limits)), (A_t_stricts, .inl (cy 1, 24, .inl t_stricts))] s.heap.size := ⟨_, rfl⟩
  have hD : va_D A [(A_t, .inr (5, [.ref A_t_upper, .ref A_t_lower, .ref A_t_limits, .ref A_t_stricts, .ref A_t_marks, .int t_size, .int t_marked, .int t_wholeness])), (A_t_upper, .inl (cy 1, 24, .inl t_upper)), (A_t_lower, .inl (cy 1, 24, .inl t_lower)), (A_t_limits, .inl (cy 1, 24, .inl t_limits)), (A_t_stricts, .inl (cy 1, 24, .inl t_stricts))] := by rw [hAe]; exact hD0.self
  have hA : ∀ q : Nat, s.heap.size ≤ q → A q := fun q hq => by rw [hAe]; exact Or.inr hq
  have hS : va_S A s.heap s.heap [] := va_S.rf
  have hl := lv_entry [.ref A_t, .int x1, .int x2, .int x3, .int x4] (n := 5) (Nat.le_of_ble_eq_true rfl)
  rw [lg_entry_eq]
  generalize (lg_sl [.ref A_t, .int x1, .int x2, .int x3, .int x4] ++ List.replicate (5 - (lg_sl [.ref A_t, .int x1, .int x2, .int x3, .int x4]).length) Slot.unset).toArray = ls at hl ⊢
  have hl : lv_has ls 5 [(0, .ref A_t), (1, .int x1), (2, .int x2), (3, .int x3), (4, .int x4)] := hl
  refine W.gen (fun Q0 hQ => ?_)
  unfold P_X5_append at h
  refine lv_aload_n hx hb dX5_append_0 rfl (lv_at hl 0 rfl) ?_
  refine va_get (D := D) (ci := 5) (v := .int t_size) (C := RX5) (T := TX5) (N := 8) hx hb hts iX5 hown hK.1 hP 0 rfl rfl 5 (by decide) f0 (fun _ h9 => h9) rfl dX5_append_1 ?_
  refine lv_bipush (v := 24) hx hb dX5_append_4 (by decide) ?_
  refine lv_icmp_ge (tgt := 60) hx hb dX5_append_6 (by decide) (fun hc => ?_) (fun hc => ?_)
  · replace h := h.1 hc
    subst hQ
    subst hAe
    exact W.vret hx hb hr (fun t ht _ => ⟨⟨(t_size, t_upper, t_lower, t_limits, t_stricts), rfl, h, by rw [ht]; exact hP, hD⟩, hS.F ht⟩) hS.2.2 dX5_append_60
  · replace h := h.2 hc
    refine lv_aload_n hx hb dX5_append_9 rfl (lv_at hl 0 rfl) ?_
    refine va_get (D := D) (ci := 5) (v := .ref A_t_upper) (C := RX5) (T := TX5) (N := 8) hx hb hts iX5 hown hK.1 hP 0 rfl rfl 0 (by decide) f1 (fun _ h9 => h9) rfl dX5_append_10 ?_
    refine lv_aload_n hx hb dX5_append_13 rfl (lv_at hl 0 rfl) ?_
    refine va_get (D := D) (ci := 5) (v := .int t_size) (C := RX5) (T := TX5) (N := 8) hx hb hts iX5 hown hK.1 hP 0 rfl rfl 5 (by decide) f0 (fun _ h9 => h9) rfl dX5_append_14 ?_
    refine lv_iload_n hx hb dX5_append_17 rfl (lv_at hl 1 rfl) ?_
    refine va_iast hx hb hK.1 hP hD hS 1 1 rfl rfl h.1 dX5_append_18 (fun H locs hP hD hS => ?_)
    replace h := h.2
    have hP : va_P D vwCl [(A_t, .inr (5, [.ref A_t_upper, .ref A_t_lower, .ref A_t_limits, .ref A_t_stricts, .ref A_t_marks, .int t_size, .int t_marked, .int t_wholeness])), (A_t_upper, .inl (cy 1, 24, .inl (upd t_upper t_size.toNatClampNeg x1))), (A_t_lower, .inl (cy 1, 24, .inl t_lower)), (A_t_limits, .inl (cy 1, 24, .inl t_limits)), (A_t_stricts, .inl (cy 1, 24, .inl t_stricts))] H := hP
    have hD : va_D A [(A_t, .inr (5, [.ref A_t_upper, .ref A_t_lower, .ref A_t_limits, .ref A_t_stricts, .ref A_t_marks, .int t_size, .int t_marked, .int t_wholeness])), (A_t_upper, .inl (cy 1, 24, .inl (upd t_upper t_size.toNatClampNeg x1))), (A_t_lower, .inl (cy 1, 24, .inl t_lower)), (A_t_limits, .inl (cy 1, 24, .inl t_limits)), (A_t_stricts, .inl (cy 1, 24, .inl t_stricts))] := hD
    refine lv_aload_n hx hb dX5_append_19 rfl (lv_at hl 0 rfl) ?_
    refine va_get (D := D) (ci := 5) (v := .ref A_t_lower) (C := RX5) (T := TX5) (N := 8) hx hb hts iX5 hown hK.1 hP 0 rfl rfl 1 (by decide) f2 (fun _ h9 => h9) rfl dX5_append_20 ?_
    refine lv_aload_n hx hb dX5_append_23 rfl (lv_at hl 0 rfl) ?_
    refine va_get (D := D) (ci := 5) (v := .int t_size) (C := RX5) (T := TX5) (N := 8) hx hb hts iX5 hown hK.1 hP 0 rfl rfl 5 (by decide) f0 (fun _ h9 => h9) rfl dX5_append_24 ?_
    refine lv_iload_n hx hb dX5_append_27 rfl (lv_at hl 2 rfl) ?_
    refine va_iast hx hb hK.1 hP hD hS 2 1 rfl rfl h.1 dX5_append_28 (fun H locs hP hD hS => ?_)
    replace h := h.2
    have hP : va_P D vwCl [(A_t, .inr (5, [.ref A_t_upper, .ref A_t_lower, .ref A_t_limits, .ref A_t_stricts, .ref A_t_marks, .int t_size, .int t_marked, .int t_wholeness])), (A_t_upper, .inl (cy 1, 24, .inl (upd t_upper t_size.toNatClampNeg x1))), (A_t_lower, .inl (cy 1, 24, .inl (upd t_lower t_size.toNatClampNeg x2))), (A_t_limits, .inl (cy 1, 24, .inl t_limits)), (A_t_stricts, .inl (cy 1, 24, .inl t_stricts))] H := hP
    have hD : va_D A [(A_t, .inr (5, [.ref A_t_upper, .ref A_t_lower, .ref A_t_limits, .ref A_t_stricts, .ref A_t_marks, .int t_size, .int t_marked, .int t_wholeness])), (A_t_upper, .inl (cy 1, 24, .inl (upd t_upper t_size.toNatClampNeg x1))), (A_t_lower, .inl (cy 1, 24, .inl (upd t_lower t_size.toNatClampNeg x2))), (A_t_limits, .inl (cy 1, 24, .inl t_limits)), (A_t_stricts, .inl (cy 1, 24, .inl t_stricts))] := hD
    refine lv_aload_n hx hb dX5_append_29 rfl (lv_at hl 0 rfl) ?_
    refine va_get (D := D) (ci := 5) (v := .ref A_t_limits) (C := RX5) (T := TX5) (N := 8) hx hb hts iX5 hown hK.1 hP 0 rfl rfl 2 (by decide) f3 (fun _ h9 => h9) rfl dX5_append_30 ?_
    refine lv_aload_n hx hb dX5_append_33 rfl (lv_at hl 0 rfl) ?_
    refine va_get (D := D) (ci := 5) (v := .int t_size) (C := RX5) (T := TX5) (N := 8) hx hb hts iX5 hown hK.1 hP 0 rfl rfl 5 (by decide) f0 (fun _ h9 => h9) rfl dX5_append_34 ?_
    refine lv_iload_n hx hb dX5_append_37 rfl (lv_at hl 3 rfl) ?_
    refine va_iast hx hb hK.1 hP hD hS 3 1 rfl rfl h.1 dX5_append_38 (fun H locs hP hD hS => ?_)
    replace h := h.2
    have hP : va_P D vwCl [(A_t, .inr (5, [.ref A_t_upper, .ref A_t_lower, .ref A_t_limits, .ref A_t_stricts, .ref A_t_marks, .int t_size, .int t_marked, .int t_wholeness])), (A_t_upper, .inl (cy 1, 24, .inl (upd t_upper t_size.toNatClampNeg x1))), (A_t_lower, .inl (cy 1, 24, .inl (upd t_lower t_size.toNatClampNeg x2))), (A_t_limits, .inl (cy 1, 24, .inl (upd t_limits t_size.toNatClampNeg x3))), (A_t_stricts, .inl (cy 1, 24, .inl t_stricts))] H := hP
    have hD : va_D A [(A_t, .inr (5, [.ref A_t_upper, .ref A_t_lower, .ref A_t_limits, .ref A_t_stricts, .ref A_t_marks, .int t_size, .int t_marked, .int t_wholeness])), (A_t_upper, .inl (cy 1, 24, .inl (upd t_upper t_size.toNatClampNeg x1))), (A_t_lower, .inl (cy 1, 24, .inl (upd t_lower t_size.toNatClampNeg x2))), (A_t_limits, .inl (cy 1, 24, .inl (upd t_limits t_size.toNatClampNeg x3))), (A_t_stricts, .inl (cy 1, 24, .inl t_stricts))] := hD
    refine lv_aload_n hx hb dX5_append_39 rfl (lv_at hl 0 rfl) ?_
    refine va_get (D := D) (ci := 5) (v := .ref A_t_stricts) (C := RX5) (T := TX5) (N := 8) hx hb hts iX5 hown hK.1 hP 0 rfl rfl 3 (by decide) f4 (fun _ h9 => h9) rfl dX5_append_40 ?_
    refine lv_aload_n hx hb dX5_append_43 rfl (lv_at hl 0 rfl) ?_
    refine va_get (D := D) (ci := 5) (v := .int t_size) (C := RX5) (T := TX5) (N := 8) hx hb hts iX5 hown hK.1 hP 0 rfl rfl 5 (by decide) f0 (fun _ h9 => h9) rfl dX5_append_44 ?_
    refine lv_iload hx hb dX5_append_47 (lv_at hl 4 rfl) ?_
    refine va_iast hx hb hK.1 hP hD hS 4 1 rfl rfl h.1 dX5_append_49 (fun H locs hP hD hS => ?_)
    replace h := h.2
    have hP : va_P D vwCl [(A_t, .inr (5, [.ref A_t_upper, .ref A_t_lower, .ref A_t_limits, .ref A_t_stricts, .ref A_t_marks, .int t_size, .int t_marked, .int t_wholeness])), (A_t_upper, .inl (cy 1, 24, .inl (upd t_upper t_size.toNatClampNeg x1))), (A_t_lower, .inl (cy 1, 24, .inl (upd t_lower t_size.toNatClampNeg x2))), (A_t_limits, .inl (cy 1, 24, .inl (upd t_limits t_size.toNatClampNeg x3))), (A_t_stricts, .inl (cy 1, 24, .inl (upd t_stricts t_size.toNatClampNeg x4)))] H := hP
    have hD : va_D A [(A_t, .inr (5, [.ref A_t_upper, .ref A_t_lower, .ref A_t_limits, .ref A_t_stricts, .ref A_t_marks, .int t_size, .int t_marked, .int t_wholeness])), (A_t_upper, .inl (cy 1, 24, .inl (upd t_upper t_size.toNatClampNeg x1))), (A_t_lower, .inl (cy 1, 24, .inl (upd t_lower t_size.toNatClampNeg x2))), (A_t_limits, .inl (cy 1, 24, .inl (upd t_limits t_size.toNatClampNeg x3))), (A_t_stricts, .inl (cy 1, 24, .inl (upd t_stricts t_size.toNatClampNeg x4)))] := hD
    refine lv_aload_n hx hb dX5_append_50 rfl (lv_at hl 0 rfl) ?_
    refine lv_dup hx hb dX5_append_51 rfl ?_
    refine va_get (D := D) (ci := 5) (v := .int t_size) (C := RX5) (T := TX5) (N := 8) hx hb hts iX5 hown hK.1 hP 0 rfl rfl 5 (by decide) f0 (fun _ h9 => h9) rfl dX5_append_52 ?_
    refine lv_iconst (v := 1) hx hb dX5_append_55 (by decide) ?_
    refine lv_iadd hx hb dX5_append_56 ?_
    refine va_put (D := D) (ci := 5) (v := .int (t_size + (1 : Int32))) (ty := .int) (C := RX5) (T := TX5) (N := 8) hx hb hts iX5 tyX5 tyX5_ok nmX5 hown hK.1 hP hD hS 0 rfl rfl 5 (by decide) f0 (fun _ h9 => h9) rfl (tyX5_ok 5 (by decide)) rfl rfl (Nat.le_of_ble_eq_true rfl) dX5_append_57 (fun H locs hP hD hS => ?_)
    have hP : va_P D vwCl [(A_t, .inr (5, [.ref A_t_upper, .ref A_t_lower, .ref A_t_limits, .ref A_t_stricts, .ref A_t_marks, .int (t_size + (1 : Int32)), .int t_marked, .int t_wholeness])), (A_t_upper, .inl (cy 1, 24, .inl (upd t_upper t_size.toNatClampNeg x1))), (A_t_lower, .inl (cy 1, 24, .inl (upd t_lower t_size.toNatClampNeg x2))), (A_t_limits, .inl (cy 1, 24, .inl (upd t_limits t_size.toNatClampNeg x3))), (A_t_stricts, .inl (cy 1, 24, .inl (upd t_stricts t_size.toNatClampNeg x4)))] H := hP
    have hD : va_D A [(A_t, .inr (5, [.ref A_t_upper, .ref A_t_lower, .ref A_t_limits, .ref A_t_stricts, .ref A_t_marks, .int (t_size + (1 : Int32)), .int t_marked, .int t_wholeness])), (A_t_upper, .inl (cy 1, 24, .inl (upd t_upper t_size.toNatClampNeg x1))), (A_t_lower, .inl (cy 1, 24, .inl (upd t_lower t_size.toNatClampNeg x2))), (A_t_limits, .inl (cy 1, 24, .inl (upd t_limits t_size.toNatClampNeg x3))), (A_t_stricts, .inl (cy 1, 24, .inl (upd t_stricts t_size.toNatClampNeg x4)))] := hD
    subst hQ
    subst hAe
    exact W.vret hx hb hr (fun t ht _ => ⟨⟨(t_size + (1 : Int32), upd t_upper t_size.toNatClampNeg x1, upd t_lower t_size.toNatClampNeg x2, upd t_limits t_size.toNatClampNeg x3, upd t_stricts t_size.toNatClampNeg x4), rfl, h, by rw [ht]; exact hP, hD⟩, hS.F ht⟩) hS.2.2 dX5_append_60
theorem qX5_isFirstOfPair : yX5_isFirstOfPair.cls = RX5 ∧ yX5_isFirstOfPair.cls ≠ "java/lang/invoke/MethodHandle" ∧ yX5_isFirstOfPair.cls ≠ "java/lang/invoke/VarHandle" ∧ (parseMethodDescriptor yX5_isFirstOfPair.desc).map (fun d => d.parameters.length) = some 1 := by decide +kernel
def LB_X5_isFirstOfPair_2 (post : Int32 → Prop) (t_upper : Nat → Int32) (t_lower : Nat → Int32) (x1 : Int32) (K_2 : Int32 → Prop) (x2 : Int32) : Prop :=
  ((x1 ≤ x2 → post (1 : Int32)) ∧ (¬ x1 ≤ x2 → (vp_in x1 24 ∧ (vp_in x1 24 ∧ P_X5_isOf (fun (r1 : Int32) => ((r1 = 0 → K_2 (x2 + (1 : Int32))) ∧ (¬ r1 = 0 → post (0 : Int32)))) t_upper t_lower x2 (t_upper x1.toNatClampNeg) (t_lower x1.toNatClampNeg)))))
noncomputable def L_X5_isFirstOfPair_2 (post : Int32 → Prop) (t_upper : Nat → Int32) (t_lower : Nat → Int32) (x1 : Int32) (n : Nat) : Int32 → Prop := Nat.rec (motive := fun _ => Int32 → Prop) (fun _ => False) (fun _ K => LB_X5_isFirstOfPair_2 post t_upper t_lower x1 K) n
def P_X5_isFirstOfPair (post : Int32 → Prop) (t_upper : Nat → Int32) (t_lower : Nat → Int32) (x1 : Int32) : Prop :=
  ∃ n : Nat, L_X5_isFirstOfPair_2 post t_upper t_lower x1 n (0 : Int32)
set_option maxHeartbeats 4000000 in
set_option maxRecDepth 100000 in
theorem c_X5_isFirstOfPair (l : Launch) (D : va_G) (cy : Nat → ClassId) (A_t A_t_upper A_t_lower A_t_limits A_t_stricts A_t_marks : Nat) (t_size : Int32) (t_marked : Int32) (t_wholeness : Int32) (t_upper : Nat → Int32) (t_lower : Nat → Int32) (x1 : Int32) (post : Int32 → Prop) (h : P_X5_isFirstOfPair post t_upper t_lower x1) : Met l yX5_isFirstOfPair wsX5_isFirstOfPair { frames := 1, cells := 0, slots := 0, locals := 23 } (pcR D cy [(A_t, .inr (5, [.ref A_t_upper, .ref A_t_lower, .ref A_t_limits, .ref A_t_stricts, .ref A_t_marks, .int t_size, .int t_marked, .int t_wholeness])), (A_t_upper, .inl (cy 1, 24, .inl t_upper)), (A_t_lower, .inl (cy 1, 24, .inl t_lower))] [.ref A_t, .int x1]) (vp_Si post) 0 0 (fun _ => False) := by
  refine Met.ofW (cc := cX5_isFirstOfPair) (maxL := 3) (ret := (some .boolean)) (by decide) rfl ?_
  intro p e s m args below meth c s₁ B hml hv
  obtain ⟨rfl, hP, hK⟩ := hv
  have hx := B.exec
  have hb := B.bytes
  have hr := B.returns
  have hts := atoms_spec (ws := wsX5_isFirstOfPair) B.pre
  have hown : s.vm.findClass RX5 = some m.cls := findClass_of_methodNamed B.named
  have hlocks := B.notSynchronized
  have CF : CallFix p m c cX5_isFirstOfPair 3 s ([.ref A_t, .int x1] : List Value).toArray wsX5_isFirstOfPair RX5 := ⟨hx, hb, hml, hown, hts⟩
  have f0 := hts (.fieldLink RX5 9 "GapBounds$Store" "upper" "[I") (by decide +kernel)
  have f1 := hts (.fieldLink RX5 15 "GapBounds$Store" "lower" "[I") (by decide +kernel)
  have iX5 : ∀ w ∈ u_ws RX5 TX5 8, w ∈ wsX5_isFirstOfPair := by decide +kernel
  have hl := lv_entry [.ref A_t, .int x1] (n := 3) (Nat.le_of_ble_eq_true rfl)
  rw [lg_entry_eq]
  generalize (lg_sl [.ref A_t, .int x1] ++ List.replicate (3 - (lg_sl [.ref A_t, .int x1]).length) Slot.unset).toArray = ls at hl ⊢
  have hl : lv_has ls 3 [(0, .ref A_t), (1, .int x1)] := hl
  refine W.gen (fun Q0 hQ => ?_)
  have L2 : ∀ (n2 : Nat) (x2 : Int32) (ls : Array Slot), L_X5_isFirstOfPair_2 post t_upper t_lower x1 n2 x2 → lv_has ls 3 [(0, .ref A_t), (1, .int x1), (2, .int x2)] → W p l e (headSpec wsX5_isFirstOfPair { frames := 1, cells := 0, slots := 0, locals := 23 }).room s m ([.ref A_t, .int x1] : List Value).toArray below meth c s.heap [] 0 0 Q0 (F0 m 2 ls []) := by
    intro n2
    induction n2 with
    | zero => intro x2 ls h; exact False.elim h
    | succ n2 ih2 =>
      intro x2 ls h hl
      have h : LB_X5_isFirstOfPair_2 post t_upper t_lower x1 (L_X5_isFirstOfPair_2 post t_upper t_lower x1 n2) x2 := h
      unfold LB_X5_isFirstOfPair_2 at h
      refine lv_iload_n hx hb dX5_isFirstOfPair_2 rfl (lv_at hl 2 rfl) ?_
      refine lv_iload_n hx hb dX5_isFirstOfPair_3 rfl (lv_at hl 1 rfl) ?_
      refine lv_icmp_ge (tgt := 35) hx hb dX5_isFirstOfPair_4 (by decide) (fun hc => ?_) (fun hc => ?_)
      · replace h := h.1 hc
        refine lv_iconst (v := 1) hx hb dX5_isFirstOfPair_35 (by decide) ?_
        subst hQ
        exact W.zret (v := (1 : Int32)) hx hb hr bz1 (fun t ht _ => ⟨(1 : Int32), rfl, h, ht⟩) (fun _ hq => absurd hq List.not_mem_nil) dX5_isFirstOfPair_36
      · replace h := h.2 hc
        refine lv_aload_n hx hb dX5_isFirstOfPair_7 rfl (lv_at hl 0 rfl) ?_
        refine lv_iload_n hx hb dX5_isFirstOfPair_8 rfl (lv_at hl 2 rfl) ?_
        refine lv_aload_n hx hb dX5_isFirstOfPair_9 rfl (lv_at hl 0 rfl) ?_
        refine va_get (D := D) (ci := 5) (v := .ref A_t_upper) (C := RX5) (T := TX5) (N := 8) hx hb hts iX5 hown hK.1 hP 0 rfl rfl 0 (by decide) f0 (fun _ h9 => h9) rfl dX5_isFirstOfPair_10 ?_
        refine lv_iload_n hx hb dX5_isFirstOfPair_13 rfl (lv_at hl 1 rfl) ?_
        refine va_iald hx hb hK.1 hP 1 1 rfl rfl h.1 dX5_isFirstOfPair_14 ?_
        replace h := h.2
        refine lv_aload_n hx hb dX5_isFirstOfPair_15 rfl (lv_at hl 0 rfl) ?_
        refine va_get (D := D) (ci := 5) (v := .ref A_t_lower) (C := RX5) (T := TX5) (N := 8) hx hb hts iX5 hown hK.1 hP 0 rfl rfl 1 (by decide) f1 (fun _ h9 => h9) rfl dX5_isFirstOfPair_16 ?_
        refine lv_iload_n hx hb dX5_isFirstOfPair_19 rfl (lv_at hl 1 rfl) ?_
        refine va_iald hx hb hK.1 hP 2 1 rfl rfl h.1 dX5_isFirstOfPair_20 ?_
        replace h := h.2
        have hPc := hP.sub (ws' := [(A_t, .inr (5, [.ref A_t_upper, .ref A_t_lower, .ref A_t_limits, .ref A_t_stricts, .ref A_t_marks, .int t_size, .int t_marked, .int t_wholeness])), (A_t_upper, .inl (cy 1, 24, .inl t_upper)), (A_t_lower, .inl (cy 1, 24, .inl t_lower))]) [0, 1, 2] rfl
        refine vp_callSi (W.runV (As := [.int x2, .int (t_upper x1.toNatClampNeg), .int (t_lower x1.toNatClampNeg)]) (rest := []) CF (c_X5_isOf l D cy A_t A_t_upper A_t_lower A_t_limits A_t_stricts A_t_marks t_size t_marked t_wholeness t_upper t_lower x2 (t_upper x1.toNatClampNeg) (t_lower x1.toNatClampNeg) _ h) (cwV 3 hts gX5_isFirstOfPair_X5_isOf rfl rfl rfl qX5_isOf ⟨Nat.le_of_ble_eq_true rfl, Nat.le_of_ble_eq_true rfl⟩) (mpVR hK hPc (ci := 5) (q := (RX5, TX5, 8)) (q0 := 0) rfl rfl) rfl rfl hl.1 rfl (lv_room (Nat.le_of_ble_eq_true rfl)) dX5_isFirstOfPair_21 ⟨Nat.zero_le _, Nat.zero_le _⟩) (fun r1 h => ?_)
        refine lv_if_eq (tgt := 29) hx hb dX5_isFirstOfPair_24 (by decide) (fun hc => ?_) (fun hc => ?_)
        · replace h := h.1 hc
          refine lv_iinc (v := x2 + (1 : Int32)) (lv' := [(2, .int (x2 + (1 : Int32))), (0, .ref A_t), (1, .int x1)]) hx hb dX5_isFirstOfPair_29 hl (k := 2) rfl rfl (by decide) rfl (fun ls hl => ?_)
          refine lv_goto (tgt := 2) hx hb dX5_isFirstOfPair_32 (by decide) ?_
          exact ih2 (x2 + (1 : Int32)) ls h (lv_sub hl [1, 2, 0] rfl)
        · replace h := h.2 hc
          refine lv_iconst (v := 0) hx hb dX5_isFirstOfPair_27 (by decide) ?_
          subst hQ
          exact W.zret (v := (0 : Int32)) hx hb hr bz0 (fun t ht _ => ⟨(0 : Int32), rfl, h, ht⟩) (fun _ hq => absurd hq List.not_mem_nil) dX5_isFirstOfPair_28
  unfold P_X5_isFirstOfPair at h
  refine lv_iconst (v := 0) hx hb dX5_isFirstOfPair_0 (by decide) ?_
  refine lv_istore_n (lv' := [(2, .int (0 : Int32)), (0, .ref A_t), (1, .int x1)]) hx hb dX5_isFirstOfPair_1 rfl hl (by decide) rfl (fun ls hl => ?_)
  obtain ⟨nn, h⟩ := h
  exact L2 nn (0 : Int32) ls h (lv_sub hl [1, 2, 0] rfl)
theorem qX5_pairs : yX5_pairs.cls = RX5 ∧ yX5_pairs.cls ≠ "java/lang/invoke/MethodHandle" ∧ yX5_pairs.cls ≠ "java/lang/invoke/VarHandle" ∧ (parseMethodDescriptor yX5_pairs.desc).map (fun d => d.parameters.length) = some 0 := by decide +kernel
def B_X5_pairs_23 (K_4 : Int32 → Int32 → Prop) (x1 : Int32) (x2 : Int32) : Prop :=
  K_4 x1 (x2 + (1 : Int32))
def LB_X5_pairs_4 (post : Int32 → Prop) (t_size : Int32) (t_upper : Nat → Int32) (t_lower : Nat → Int32) (K_4 : Int32 → Int32 → Prop) (x1 : Int32) (x2 : Int32) : Prop :=
  ((t_size ≤ x2 → post x1) ∧ (¬ t_size ≤ x2 → P_X5_isFirstOfPair (fun (r1 : Int32) => ((r1 = 0 → B_X5_pairs_23 K_4 x1 x2) ∧ (¬ r1 = 0 → B_X5_pairs_23 K_4 (x1 + (1 : Int32)) x2))) t_upper t_lower x2))
noncomputable def L_X5_pairs_4 (post : Int32 → Prop) (t_size : Int32) (t_upper : Nat → Int32) (t_lower : Nat → Int32) (n : Nat) : Int32 → Int32 → Prop := Nat.rec (motive := fun _ => Int32 → Int32 → Prop) (fun _ _ => False) (fun _ K => LB_X5_pairs_4 post t_size t_upper t_lower K) n
def P_X5_pairs (post : Int32 → Prop) (t_size : Int32) (t_upper : Nat → Int32) (t_lower : Nat → Int32) : Prop :=
  ∃ n : Nat, L_X5_pairs_4 post t_size t_upper t_lower n (0 : Int32) (0 : Int32)
set_option maxHeartbeats 4000000 in
set_option maxRecDepth 100000 in
theorem c_X5_pairs (l : Launch) (D : va_G) (cy : Nat → ClassId) (A_t A_t_upper A_t_lower A_t_limits A_t_stricts A_t_marks : Nat) (t_size : Int32) (t_marked : Int32) (t_wholeness : Int32) (t_upper : Nat → Int32) (t_lower : Nat → Int32) (post : Int32 → Prop) (h : P_X5_pairs post t_size t_upper t_lower) : Met l yX5_pairs wsX5_pairs { frames := 2, cells := 0, slots := 0, locals := 45 } (pcR D cy [(A_t, .inr (5, [.ref A_t_upper, .ref A_t_lower, .ref A_t_limits, .ref A_t_stricts, .ref A_t_marks, .int t_size, .int t_marked, .int t_wholeness])), (A_t_upper, .inl (cy 1, 24, .inl t_upper)), (A_t_lower, .inl (cy 1, 24, .inl t_lower))] [.ref A_t]) (vp_Si post) 0 0 (fun _ => False) := by
  refine Met.ofW (cc := cX5_pairs) (maxL := 3) (ret := (some .int)) (by decide) rfl ?_
  intro p e s m args below meth c s₁ B hml hv
  obtain ⟨rfl, hP, hK⟩ := hv
  have hx := B.exec
  have hb := B.bytes
  have hr := B.returns
  have hts := atoms_spec (ws := wsX5_pairs) B.pre
  have hown : s.vm.findClass RX5 = some m.cls := findClass_of_methodNamed B.named
  have hlocks := B.notSynchronized
  have CF : CallFix p m c cX5_pairs 3 s ([.ref A_t] : List Value).toArray wsX5_pairs RX5 := ⟨hx, hb, hml, hown, hts⟩
  have f0 := hts (.fieldLink RX5 31 "GapBounds$Store" "size" "I") (by decide +kernel)
  have iX5 : ∀ w ∈ u_ws RX5 TX5 8, w ∈ wsX5_pairs := by decide +kernel
  have hl := lv_entry [.ref A_t] (n := 3) (Nat.le_of_ble_eq_true rfl)
  rw [lg_entry_eq]
  generalize (lg_sl [.ref A_t] ++ List.replicate (3 - (lg_sl [.ref A_t]).length) Slot.unset).toArray = ls at hl ⊢
  have hl : lv_has ls 3 [(0, .ref A_t)] := hl
  refine W.gen (fun Q0 hQ => ?_)
  have L4 : ∀ (n4 : Nat) (x1 : Int32) (x2 : Int32) (ls : Array Slot), L_X5_pairs_4 post t_size t_upper t_lower n4 x1 x2 → lv_has ls 3 [(0, .ref A_t), (1, .int x1), (2, .int x2)] → W p l e (headSpec wsX5_pairs { frames := 2, cells := 0, slots := 0, locals := 45 }).room s m ([.ref A_t] : List Value).toArray below meth c s.heap [] 0 0 Q0 (F0 m 4 ls []) := by
    intro n4
    induction n4 with
    | zero => intro x1 x2 ls h; exact False.elim h
    | succ n4 ih4 =>
      intro x1 x2 ls h hl
      have h : LB_X5_pairs_4 post t_size t_upper t_lower (L_X5_pairs_4 post t_size t_upper t_lower n4) x1 x2 := h
      unfold LB_X5_pairs_4 at h
      have J23 : ∀ (x1 : Int32) (x2 : Int32) (ls : Array Slot), B_X5_pairs_23 (L_X5_pairs_4 post t_size t_upper t_lower n4) x1 x2 → lv_has ls 3 [(0, .ref A_t), (1, .int x1), (2, .int x2)] → W p l e (headSpec wsX5_pairs { frames := 2, cells := 0, slots := 0, locals := 45 }).room s m ([.ref A_t] : List Value).toArray below meth c s.heap [] 0 0 Q0 (F0 m 23 ls []) := by
        intro x1 x2 ls h hl
        unfold B_X5_pairs_23 at h
        refine lv_iinc (v := x2 + (1 : Int32)) (lv' := [(2, .int (x2 + (1 : Int32))), (0, .ref A_t), (1, .int x1)]) hx hb dX5_pairs_23 hl (k := 2) rfl rfl (by decide) rfl (fun ls hl => ?_)
        refine lv_goto (tgt := 4) hx hb dX5_pairs_26 (by decide) ?_
        exact ih4 x1 (x2 + (1 : Int32)) ls h (lv_sub hl [1, 2, 0] rfl)
      refine lv_iload_n hx hb dX5_pairs_4 rfl (lv_at hl 2 rfl) ?_
      refine lv_aload_n hx hb dX5_pairs_5 rfl (lv_at hl 0 rfl) ?_
      refine va_get (D := D) (ci := 5) (v := .int t_size) (C := RX5) (T := TX5) (N := 8) hx hb hts iX5 hown hK.1 hP 0 rfl rfl 5 (by decide) f0 (fun _ h9 => h9) rfl dX5_pairs_6 ?_
      refine lv_icmp_ge (tgt := 29) hx hb dX5_pairs_9 (by decide) (fun hc => ?_) (fun hc => ?_)
      · replace h := h.1 hc
        refine lv_iload_n hx hb dX5_pairs_29 rfl (lv_at hl 1 rfl) ?_
        subst hQ
        exact W.iret (v := x1) hx hb hr (fun t ht _ => ⟨x1, rfl, h, ht⟩) (fun _ hq => absurd hq List.not_mem_nil) dX5_pairs_30
      · replace h := h.2 hc
        refine lv_aload_n hx hb dX5_pairs_12 rfl (lv_at hl 0 rfl) ?_
        refine lv_iload_n hx hb dX5_pairs_13 rfl (lv_at hl 2 rfl) ?_
        have hPc := hP.sub (ws' := [(A_t, .inr (5, [.ref A_t_upper, .ref A_t_lower, .ref A_t_limits, .ref A_t_stricts, .ref A_t_marks, .int t_size, .int t_marked, .int t_wholeness])), (A_t_upper, .inl (cy 1, 24, .inl t_upper)), (A_t_lower, .inl (cy 1, 24, .inl t_lower))]) [0, 1, 2] rfl
        refine vp_callSi (W.runV (As := [.int x2]) (rest := []) CF (c_X5_isFirstOfPair l D cy A_t A_t_upper A_t_lower A_t_limits A_t_stricts A_t_marks t_size t_marked t_wholeness t_upper t_lower x2 _ h) (cwV 1 hts gX5_pairs_X5_isFirstOfPair rfl rfl rfl qX5_isFirstOfPair ⟨Nat.le_of_ble_eq_true rfl, Nat.le_of_ble_eq_true rfl⟩) (mpVR hK hPc (ci := 5) (q := (RX5, TX5, 8)) (q0 := 0) rfl rfl) rfl rfl hl.1 rfl (lv_room (Nat.le_of_ble_eq_true rfl)) dX5_pairs_14 ⟨Nat.zero_le _, Nat.zero_le _⟩) (fun r1 h => ?_)
        refine lv_if_eq (tgt := 23) hx hb dX5_pairs_17 (by decide) (fun hc => ?_) (fun hc => ?_)
        · replace h := h.1 hc
          exact J23 x1 x2 ls h (lv_sub hl [0, 1, 2] rfl)
        · replace h := h.2 hc
          refine lv_iinc (v := x1 + (1 : Int32)) (lv' := [(1, .int (x1 + (1 : Int32))), (0, .ref A_t), (2, .int x2)]) hx hb dX5_pairs_20 hl (k := 1) rfl rfl (by decide) rfl (fun ls hl => ?_)
          exact J23 (x1 + (1 : Int32)) x2 ls h (lv_sub hl [1, 0, 2] rfl)
  unfold P_X5_pairs at h
  refine lv_iconst (v := 0) hx hb dX5_pairs_0 (by decide) ?_
  refine lv_istore_n (lv' := [(1, .int (0 : Int32)), (0, .ref A_t)]) hx hb dX5_pairs_1 rfl hl (by decide) rfl (fun ls hl => ?_)
  refine lv_iconst (v := 0) hx hb dX5_pairs_2 (by decide) ?_
  refine lv_istore_n (lv' := [(2, .int (0 : Int32)), (1, .int (0 : Int32)), (0, .ref A_t)]) hx hb dX5_pairs_3 rfl hl (by decide) rfl (fun ls hl => ?_)
  obtain ⟨nn, h⟩ := h
  exact L4 nn (0 : Int32) (0 : Int32) ls h (lv_sub hl [2, 1, 0] rfl)
theorem qX7_weigh : yX7_weigh.cls = RX7 ∧ yX7_weigh.cls ≠ "java/lang/invoke/MethodHandle" ∧ yX7_weigh.cls ≠ "java/lang/invoke/VarHandle" ∧ (parseMethodDescriptor yX7_weigh.desc).map (fun d => d.parameters.length) = some 3 := by decide +kernel
def P_X7_weigh (post : Int64 → Prop) (x0 : Int32) (x1 : Int32) (x2 : Int32) : Prop :=
  ((¬ x2 = (1 : Int32) → post ((x0.toInt64 * (1024 : Int64)) - x1.toInt64)) ∧ (x2 = (1 : Int32) → post ((x0.toInt64 - x1.toInt64) * (1024 : Int64))))
set_option maxHeartbeats 4000000 in
set_option maxRecDepth 100000 in
theorem c_X7_weigh (l : Launch) (x0 : Int32) (x1 : Int32) (x2 : Int32) (post : Int64 → Prop) (h : P_X7_weigh post x0 x1 x2) : Met l yX7_weigh wsX7_weigh { frames := 0, cells := 0, slots := 0, locals := 0 } (pcN [.int x0, .int x1, .int x2]) (vp_Sl post) 0 0 (fun _ => False) := by
  refine Met.ofW (cc := cX7_weigh) (maxL := 3) (ret := (some .long)) (by decide) rfl ?_
  intro p e s m args below meth c s₁ B hml hv
  obtain ⟨rfl, -⟩ := hv
  have hx := B.exec
  have hb := B.bytes
  have hr := B.returns
  have hts := atoms_spec (ws := wsX7_weigh) B.pre
  have hown : s.vm.findClass RX7 = some m.cls := findClass_of_methodNamed B.named
  have hlocks := B.notSynchronized
  have CF : CallFix p m c cX7_weigh 3 s ([.int x0, .int x1, .int x2] : List Value).toArray wsX7_weigh RX7 := ⟨hx, hb, hml, hown, hts⟩
  have f0 := hts (.constantLong RX7 281 (1024)) (by decide +kernel)
  have hl := lv_entry [.int x0, .int x1, .int x2] (n := 3) (Nat.le_of_ble_eq_true rfl)
  rw [lg_entry_eq]
  generalize (lg_sl [.int x0, .int x1, .int x2] ++ List.replicate (3 - (lg_sl [.int x0, .int x1, .int x2]).length) Slot.unset).toArray = ls at hl ⊢
  have hl : lv_has ls 3 [(0, .int x0), (1, .int x1), (2, .int x2)] := hl
  refine W.gen (fun Q0 hQ => ?_)
  unfold P_X7_weigh at h
  refine lv_iload_n hx hb dX7_weigh_0 rfl (lv_at hl 2 rfl) ?_
  refine lv_iconst (v := 1) hx hb dX7_weigh_1 (by decide) ?_
  refine lv_icmp_ne (tgt := 15) hx hb dX7_weigh_2 (by decide) (fun hc => ?_) (fun hc => ?_)
  · replace h := h.1 hc
    refine lv_iload_n hx hb dX7_weigh_15 rfl (lv_at hl 0 rfl) ?_
    refine lv_i2l (v := x0.toInt64) hx hb dX7_weigh_16 rfl ?_
    refine lv_ldc2 (v := 1024) hx hb hown f0 dX7_weigh_17 ?_
    refine lv_lmul hx hb dX7_weigh_20 ?_
    refine lv_iload_n hx hb dX7_weigh_21 rfl (lv_at hl 1 rfl) ?_
    refine lv_i2l (v := x1.toInt64) hx hb dX7_weigh_22 rfl ?_
    refine lv_lsub hx hb dX7_weigh_23 ?_
    subst hQ
    exact W.lret (v := (x0.toInt64 * (1024 : Int64)) - x1.toInt64) hx hb hr (fun t ht _ => ⟨(x0.toInt64 * (1024 : Int64)) - x1.toInt64, rfl, h, ht⟩) (fun _ hq => absurd hq List.not_mem_nil) dX7_weigh_24
  · replace h := h.2 hc
    refine lv_iload_n hx hb dX7_weigh_5 rfl (lv_at hl 0 rfl) ?_
    refine lv_i2l (v := x0.toInt64) hx hb dX7_weigh_6 rfl ?_
    refine lv_iload_n hx hb dX7_weigh_7 rfl (lv_at hl 1 rfl) ?_
    refine lv_i2l (v := x1.toInt64) hx hb dX7_weigh_8 rfl ?_
    refine lv_lsub hx hb dX7_weigh_9 ?_
    refine lv_ldc2 (v := 1024) hx hb hown f0 dX7_weigh_10 ?_
    refine lv_lmul hx hb dX7_weigh_13 ?_
    subst hQ
    exact W.lret (v := (x0.toInt64 - x1.toInt64) * (1024 : Int64)) hx hb hr (fun t ht _ => ⟨(x0.toInt64 - x1.toInt64) * (1024 : Int64), rfl, h, ht⟩) (fun _ hq => absurd hq List.not_mem_nil) dX7_weigh_14
theorem qX5_weightOf : yX5_weightOf.cls = RX5 ∧ yX5_weightOf.cls ≠ "java/lang/invoke/MethodHandle" ∧ yX5_weightOf.cls ≠ "java/lang/invoke/VarHandle" ∧ (parseMethodDescriptor yX5_weightOf.desc).map (fun d => d.parameters.length) = some 1 := by decide +kernel
def P_X5_weightOf (post : Int64 → Prop) (t_wholeness : Int32) (t_limits : Nat → Int32) (t_stricts : Nat → Int32) (x1 : Int32) : Prop :=
  (vp_in x1 24 ∧ (vp_in x1 24 ∧ P_X7_weigh (fun (r1 : Int64) => post r1) (t_limits x1.toNatClampNeg) (t_stricts x1.toNatClampNeg) t_wholeness))
set_option maxHeartbeats 4000000 in
set_option maxRecDepth 100000 in
theorem c_X5_weightOf (l : Launch) (D : va_G) (cy : Nat → ClassId) (A_t A_t_upper A_t_lower A_t_limits A_t_stricts A_t_marks : Nat) (t_size : Int32) (t_marked : Int32) (t_wholeness : Int32) (t_limits : Nat → Int32) (t_stricts : Nat → Int32) (x1 : Int32) (post : Int64 → Prop) (h : P_X5_weightOf post t_wholeness t_limits t_stricts x1) : Met l yX5_weightOf wsX5_weightOf { frames := 1, cells := 0, slots := 0, locals := 22 } (pcR D cy [(A_t, .inr (5, [.ref A_t_upper, .ref A_t_lower, .ref A_t_limits, .ref A_t_stricts, .ref A_t_marks, .int t_size, .int t_marked, .int t_wholeness])), (A_t_limits, .inl (cy 1, 24, .inl t_limits)), (A_t_stricts, .inl (cy 1, 24, .inl t_stricts))] [.ref A_t, .int x1]) (vp_Sl post) 0 0 (fun _ => False) := by
  refine Met.ofW (cc := cX5_weightOf) (maxL := 2) (ret := (some .long)) (by decide) rfl ?_
  intro p e s m args below meth c s₁ B hml hv
  obtain ⟨rfl, hP, hK⟩ := hv
  have hx := B.exec
  have hb := B.bytes
  have hr := B.returns
  have hts := atoms_spec (ws := wsX5_weightOf) B.pre
  have hown : s.vm.findClass RX5 = some m.cls := findClass_of_methodNamed B.named
  have hlocks := B.notSynchronized
  have CF : CallFix p m c cX5_weightOf 2 s ([.ref A_t, .int x1] : List Value).toArray wsX5_weightOf RX5 := ⟨hx, hb, hml, hown, hts⟩
  have f0 := hts (.fieldLink RX5 18 "GapBounds$Store" "limits" "[I") (by decide +kernel)
  have f1 := hts (.fieldLink RX5 21 "GapBounds$Store" "stricts" "[I") (by decide +kernel)
  have f2 := hts (.fieldLink RX5 27 "GapBounds$Store" "wholeness" "I") (by decide +kernel)
  have f3 := hts (.initialized RX7) (by decide +kernel)
  have f4 := hts (.static yX7_weigh) (by decide +kernel)
  have iX5 : ∀ w ∈ u_ws RX5 TX5 8, w ∈ wsX5_weightOf := by decide +kernel
  have hl := lv_entry [.ref A_t, .int x1] (n := 2) (Nat.le_of_ble_eq_true rfl)
  rw [lg_entry_eq]
  generalize (lg_sl [.ref A_t, .int x1] ++ List.replicate (2 - (lg_sl [.ref A_t, .int x1]).length) Slot.unset).toArray = ls at hl ⊢
  have hl : lv_has ls 2 [(0, .ref A_t), (1, .int x1)] := hl
  refine W.gen (fun Q0 hQ => ?_)
  unfold P_X5_weightOf at h
  refine lv_aload_n hx hb dX5_weightOf_0 rfl (lv_at hl 0 rfl) ?_
  refine va_get (D := D) (ci := 5) (v := .ref A_t_limits) (C := RX5) (T := TX5) (N := 8) hx hb hts iX5 hown hK.1 hP 0 rfl rfl 2 (by decide) f0 (fun _ h9 => h9) rfl dX5_weightOf_1 ?_
  refine lv_iload_n hx hb dX5_weightOf_4 rfl (lv_at hl 1 rfl) ?_
  refine va_iald hx hb hK.1 hP 1 1 rfl rfl h.1 dX5_weightOf_5 ?_
  replace h := h.2
  refine lv_aload_n hx hb dX5_weightOf_6 rfl (lv_at hl 0 rfl) ?_
  refine va_get (D := D) (ci := 5) (v := .ref A_t_stricts) (C := RX5) (T := TX5) (N := 8) hx hb hts iX5 hown hK.1 hP 0 rfl rfl 3 (by decide) f1 (fun _ h9 => h9) rfl dX5_weightOf_7 ?_
  refine lv_iload_n hx hb dX5_weightOf_10 rfl (lv_at hl 1 rfl) ?_
  refine va_iald hx hb hK.1 hP 2 1 rfl rfl h.1 dX5_weightOf_11 ?_
  replace h := h.2
  refine lv_aload_n hx hb dX5_weightOf_12 rfl (lv_at hl 0 rfl) ?_
  refine va_get (D := D) (ci := 5) (v := .int t_wholeness) (C := RX5) (T := TX5) (N := 8) hx hb hts iX5 hown hK.1 hP 0 rfl rfl 7 (by decide) f2 (fun _ h9 => h9) rfl dX5_weightOf_13 ?_
  refine vp_callSl (va_Run.run (va_runSN (As := [.int (t_limits x1.toNatClampNeg), .int (t_stricts x1.toNatClampNeg), .int t_wholeness]) (rest := []) CF (c_X7_weigh l (t_limits x1.toNatClampNeg) (t_stricts x1.toNatClampNeg) t_wholeness _ h) ⟨va_cnB 3 hts gX5_weightOf_X7_weigh_n43 rfl rfl rfl (hK.nest (w := .methodLinkNest RX5 43 yX7_weigh RX7) (List.mem_of_getElem? (i := 11) rfl)) f3 qX7_weigh.2 ⟨Nat.le_of_ble_eq_true rfl, Nat.le_of_ble_eq_true rfl⟩, f4, trivial⟩ mpSN rfl rfl hl.1 rfl (lv_room (Nat.le_of_ble_eq_true rfl)) dX5_weightOf_16 ⟨Nat.zero_le _, Nat.zero_le _⟩)) (fun r1 h => ?_)
  subst hQ
  exact W.lret (v := r1) hx hb hr (fun t ht _ => ⟨r1, rfl, h, ht⟩) (fun _ hq => absurd hq List.not_mem_nil) dX5_weightOf_19
theorem qX2_goOver : yX2_goOver.cls = RX2 ∧ yX2_goOver.cls ≠ "java/lang/invoke/MethodHandle" ∧ yX2_goOver.cls ≠ "java/lang/invoke/VarHandle" ∧ (parseMethodDescriptor yX2_goOver.desc).map (fun d => d.parameters.length) = some 3 := by decide +kernel
def B_X2_goOver_102 (K_6 : (Nat → Int64) → Int32 → Int32 → Prop) (t_least : Nat → Int64) (x4 : Int32) (x5 : Int32) : Prop :=
  K_6 t_least x4 (x5 + (1 : Int32))
def LB_X2_goOver_6 (post : Int32 → (Nat → Int64) → Prop) (s_size : Int32) (s_lower : Nat → Int32) (s_limits : Nat → Int32) (s_stricts : Nat → Int32) (s_upper : Nat → Int32) (x2 : Int32) (x3 : Int32) (K_6 : (Nat → Int64) → Int32 → Int32 → Prop) (t_least : Nat → Int64) (x4 : Int32) (x5 : Int32) : Prop :=
  ((s_size ≤ x5 → (bz x4 ∧ post x4 t_least)) ∧ (¬ s_size ≤ x5 → (vp_in x5 24 ∧ (vp_in (s_lower x5.toNatClampNeg) 10 ∧ ((x5 = x3 → B_X2_goOver_102 K_6 t_least x4 x5) ∧ (¬ x5 = x3 → ((t_least (s_lower x5.toNatClampNeg).toNatClampNeg = (4611686018427387904 : Int64) → B_X2_goOver_102 K_6 t_least x4 x5) ∧ (¬ t_least (s_lower x5.toNatClampNeg).toNatClampNeg = (4611686018427387904 : Int64) → (vp_in x5 24 ∧ (vp_in x5 24 ∧ P_X7_weigh (fun (r1 : Int64) => (vp_in x5 24 ∧ (vp_in (s_upper x5.toNatClampNeg) 10 ∧ ((t_least (s_upper x5.toNatClampNeg).toNatClampNeg ≤ (t_least (s_lower x5.toNatClampNeg).toNatClampNeg) + r1 → B_X2_goOver_102 K_6 t_least x4 x5) ∧ (¬ t_least (s_upper x5.toNatClampNeg).toNatClampNeg ≤ (t_least (s_lower x5.toNatClampNeg).toNatClampNeg) + r1 → (vp_in x5 24 ∧ (vp_in (s_upper x5.toNatClampNeg) 10 ∧ B_X2_goOver_102 K_6 (vp_updL t_least (s_upper x5.toNatClampNeg).toNatClampNeg ((t_least (s_lower x5.toNatClampNeg).toNatClampNeg) + r1)) (1 : Int32) x5))))))) (s_limits x5.toNatClampNeg) (s_stricts x5.toNatClampNeg) x2))))))))))
noncomputable def L_X2_goOver_6 (post : Int32 → (Nat → Int64) → Prop) (s_size : Int32) (s_lower : Nat → Int32) (s_limits : Nat → Int32) (s_stricts : Nat → Int32) (s_upper : Nat → Int32) (x2 : Int32) (x3 : Int32) (n : Nat) : (Nat → Int64) → Int32 → Int32 → Prop := Nat.rec (motive := fun _ => (Nat → Int64) → Int32 → Int32 → Prop) (fun _ _ _ => False) (fun _ K => LB_X2_goOver_6 post s_size s_lower s_limits s_stricts s_upper x2 x3 K) n
def P_X2_goOver (post : Int32 → (Nat → Int64) → Prop) (s_size : Int32) (s_lower : Nat → Int32) (t_least : Nat → Int64) (s_limits : Nat → Int32) (s_stricts : Nat → Int32) (s_upper : Nat → Int32) (x2 : Int32) (x3 : Int32) : Prop :=
  ∃ n : Nat, L_X2_goOver_6 post s_size s_lower s_limits s_stricts s_upper x2 x3 n t_least (0 : Int32) (0 : Int32)
set_option maxHeartbeats 4000000 in
set_option maxRecDepth 100000 in
theorem c_X2_goOver (l : Launch) (D : va_G) (cy : Nat → ClassId) (sz : Nat) (A_s A_s_upper A_s_lower A_s_limits A_s_stricts A_s_marks A_t A_t_least A_t_table : Nat) (s_size : Int32) (s_marked : Int32) (s_wholeness : Int32) (s_lower : Nat → Int32) (t_least : Nat → Int64) (s_limits : Nat → Int32) (s_stricts : Nat → Int32) (s_upper : Nat → Int32) (x2 : Int32) (x3 : Int32) (post : Int32 → (Nat → Int64) → Prop) (h : P_X2_goOver post s_size s_lower t_least s_limits s_stricts s_upper x2 x3) : Met l yX2_goOver wsX2_goOver { frames := 1, cells := 0, slots := 0, locals := 22 } (pcW D cy [(A_s, .inr (5, [.ref A_s_upper, .ref A_s_lower, .ref A_s_limits, .ref A_s_stricts, .ref A_s_marks, .int s_size, .int s_marked, .int s_wholeness])), (A_t, .inr (2, [.ref A_t_least, .ref A_t_table])), (A_s_lower, .inl (cy 1, 24, .inl s_lower)), (A_t_least, .inl (cy 2, 10, .inr (.inl t_least))), (A_s_limits, .inl (cy 1, 24, .inl s_limits)), (A_s_stricts, .inl (cy 1, 24, .inl s_stricts)), (A_s_upper, .inl (cy 1, 24, .inl s_upper))] sz [.ref A_t, .ref A_s, .int x2, .int x3]) (va_Qi (fun r (u : (Nat → Int64)) => post r u) (bW D [(A_s, .inr (5, [.ref A_s_upper, .ref A_s_lower, .ref A_s_limits, .ref A_s_stricts, .ref A_s_marks, .int s_size, .int s_marked, .int s_wholeness])), (A_t, .inr (2, [.ref A_t_least, .ref A_t_table])), (A_s_lower, .inl (cy 1, 24, .inl s_lower)), (A_t_least, .inl (cy 2, 10, .inr (.inl t_least))), (A_s_limits, .inl (cy 1, 24, .inl s_limits)), (A_s_stricts, .inl (cy 1, 24, .inl s_stricts)), (A_s_upper, .inl (cy 1, 24, .inl s_upper))] sz (fun u => [(A_s, .inr (5, [.ref A_s_upper, .ref A_s_lower, .ref A_s_limits, .ref A_s_stricts, .ref A_s_marks, .int s_size, .int s_marked, .int s_wholeness])), (A_t, .inr (2, [.ref A_t_least, .ref A_t_table])), (A_s_lower, .inl (cy 1, 24, .inl s_lower)), (A_t_least, .inl (cy 2, 10, .inr (.inl u))), (A_s_limits, .inl (cy 1, 24, .inl s_limits)), (A_s_stricts, .inl (cy 1, 24, .inl s_stricts)), (A_s_upper, .inl (cy 1, 24, .inl s_upper))])) (va_A [(A_s, .inr (5, [.ref A_s_upper, .ref A_s_lower, .ref A_s_limits, .ref A_s_stricts, .ref A_s_marks, .int s_size, .int s_marked, .int s_wholeness])), (A_t, .inr (2, [.ref A_t_least, .ref A_t_table])), (A_s_lower, .inl (cy 1, 24, .inl s_lower)), (A_t_least, .inl (cy 2, 10, .inr (.inl t_least))), (A_s_limits, .inl (cy 1, 24, .inl s_limits)), (A_s_stricts, .inl (cy 1, 24, .inl s_stricts)), (A_s_upper, .inl (cy 1, 24, .inl s_upper))] sz)) 0 0 (va_A [(A_s, .inr (5, [.ref A_s_upper, .ref A_s_lower, .ref A_s_limits, .ref A_s_stricts, .ref A_s_marks, .int s_size, .int s_marked, .int s_wholeness])), (A_t, .inr (2, [.ref A_t_least, .ref A_t_table])), (A_s_lower, .inl (cy 1, 24, .inl s_lower)), (A_t_least, .inl (cy 2, 10, .inr (.inl t_least))), (A_s_limits, .inl (cy 1, 24, .inl s_limits)), (A_s_stricts, .inl (cy 1, 24, .inl s_stricts)), (A_s_upper, .inl (cy 1, 24, .inl s_upper))] sz) := by
  refine Met.ofW (cc := cX2_goOver) (maxL := 10) (ret := (some .boolean)) (by decide) rfl ?_
  intro p e s m args below meth c s₁ B hml hv
  obtain ⟨rfl, hsz, hP, hK, hD0⟩ := hv
  have hx := B.exec
  have hb := B.bytes
  have hr := B.returns
  have hts := atoms_spec (ws := wsX2_goOver) B.pre
  have hown : s.vm.findClass RX2 = some m.cls := findClass_of_methodNamed B.named
  have hlocks := B.notSynchronized
  have CF : CallFix p m c cX2_goOver 10 s ([.ref A_t, .ref A_s, .int x2, .int x3] : List Value).toArray wsX2_goOver RX2 := ⟨hx, hb, hml, hown, hts⟩
  have f0 := hts (.fieldLink RX2 60 "GapBounds$Store" "size" "I") (by decide +kernel)
  have f1 := hts (.fieldLink RX2 9 "GapBounds$Rows" "least" "[J") (by decide +kernel)
  have f2 := hts (.fieldLink RX2 63 "GapBounds$Store" "lower" "[I") (by decide +kernel)
  have f3 := hts (.constantLong RX2 20 (4611686018427387904)) (by decide +kernel)
  have f4 := hts (.fieldLink RX2 67 "GapBounds$Store" "limits" "[I") (by decide +kernel)
  have f5 := hts (.fieldLink RX2 70 "GapBounds$Store" "stricts" "[I") (by decide +kernel)
  have f6 := hts (.initialized RX7) (by decide +kernel)
  have f7 := hts (.static yX7_weigh) (by decide +kernel)
  have f8 := hts (.fieldLink RX2 77 "GapBounds$Store" "upper" "[I") (by decide +kernel)
  have iX2 : ∀ w ∈ u_ws RX2 TX2 2, w ∈ wsX2_goOver := by decide +kernel
  have iX5 : ∀ w ∈ u_ws RX5 TX5 8, w ∈ wsX2_goOver := by decide +kernel
  subst hsz
  obtain ⟨A, hAe⟩ : ∃ A, A = va_A [(A_s, .inr (5, [.ref A_s_upper, .ref A_s_lower, .ref A_s_limits, .ref A_s_stricts, .ref A_s_marks, .int s_size, .int s_marked, .int s_wholeness])), (A_t, .inr (2, [.ref A_t_least, .ref A_t_table])), (A_s_lower, .inl (cy 1, 24, .inl s_lower)), (A_t_least, .inl (cy 2, 10, .inr (.inl t_least))), (A_s_limits, .inl (cy 1, 24, .inl s_limits)), (A_s_stricts, .inl (cy 1, 24, .inl s_stricts)), (A_s_upper, .inl (cy 1, 24, .inl s_upper))] s.heap.size := ⟨_, rfl⟩
  have hD : va_D A [(A_s, .inr (5, [.ref A_s_upper, .ref A_s_lower, .ref A_s_limits, .ref A_s_stricts, .ref A_s_marks, .int s_size, .int s_marked, .int s_wholeness])), (A_t, .inr (2, [.ref A_t_least, .ref A_t_table])), (A_s_lower, .inl (cy 1, 24, .inl s_lower)), (A_t_least, .inl (cy 2, 10, .inr (.inl t_least))), (A_s_limits, .inl (cy 1, 24, .inl s_limits)), (A_s_stricts, .inl (cy 1, 24, .inl s_stricts)), (A_s_upper, .inl (cy 1, 24, .inl s_upper))] := by rw [hAe]; exact hD0.self
  have hA : ∀ q : Nat, s.heap.size ≤ q → A q := fun q hq => by rw [hAe]; exact Or.inr hq
  have hS : va_S A s.heap s.heap [] := va_S.rf
  have hl := lv_entry [.ref A_t, .ref A_s, .int x2, .int x3] (n := 10) (Nat.le_of_ble_eq_true rfl)
  rw [lg_entry_eq]
  generalize (lg_sl [.ref A_t, .ref A_s, .int x2, .int x3] ++ List.replicate (10 - (lg_sl [.ref A_t, .ref A_s, .int x2, .int x3]).length) Slot.unset).toArray = ls at hl ⊢
  have hl : lv_has ls 10 [(0, .ref A_t), (1, .ref A_s), (2, .int x2), (3, .int x3)] := hl
  refine W.gen (fun Q0 hQ => ?_)
  have L6 : ∀ (n6 : Nat) (t_least : Nat → Int64) (x4 : Int32) (x5 : Int32) (H : Heap) (locs : List Loc) (ls : Array Slot), L_X2_goOver_6 post s_size s_lower s_limits s_stricts s_upper x2 x3 n6 t_least x4 x5 → va_P D vwCl [(A_s, .inr (5, [.ref A_s_upper, .ref A_s_lower, .ref A_s_limits, .ref A_s_stricts, .ref A_s_marks, .int s_size, .int s_marked, .int s_wholeness])), (A_t, .inr (2, [.ref A_t_least, .ref A_t_table])), (A_s_lower, .inl (cy 1, 24, .inl s_lower)), (A_t_least, .inl (cy 2, 10, .inr (.inl t_least))), (A_s_limits, .inl (cy 1, 24, .inl s_limits)), (A_s_stricts, .inl (cy 1, 24, .inl s_stricts)), (A_s_upper, .inl (cy 1, 24, .inl s_upper))] H → va_D A [(A_s, .inr (5, [.ref A_s_upper, .ref A_s_lower, .ref A_s_limits, .ref A_s_stricts, .ref A_s_marks, .int s_size, .int s_marked, .int s_wholeness])), (A_t, .inr (2, [.ref A_t_least, .ref A_t_table])), (A_s_lower, .inl (cy 1, 24, .inl s_lower)), (A_t_least, .inl (cy 2, 10, .inr (.inl t_least))), (A_s_limits, .inl (cy 1, 24, .inl s_limits)), (A_s_stricts, .inl (cy 1, 24, .inl s_stricts)), (A_s_upper, .inl (cy 1, 24, .inl s_upper))] → va_S A s.heap H locs → lv_has ls 10 [(0, .ref A_t), (1, .ref A_s), (2, .int x2), (3, .int x3), (4, .int x4), (5, .int x5)] → W p l e (headSpec wsX2_goOver { frames := 1, cells := 0, slots := 0, locals := 22 }).room s m ([.ref A_t, .ref A_s, .int x2, .int x3] : List Value).toArray below meth c H locs 0 0 Q0 (F0 m 6 ls []) := by
    intro n6
    induction n6 with
    | zero => intro t_least x4 x5 H locs ls h; exact False.elim h
    | succ n6 ih6 =>
      intro t_least x4 x5 H locs ls h hP hD hS hl
      have h : LB_X2_goOver_6 post s_size s_lower s_limits s_stricts s_upper x2 x3 (L_X2_goOver_6 post s_size s_lower s_limits s_stricts s_upper x2 x3 n6) t_least x4 x5 := h
      unfold LB_X2_goOver_6 at h
      have J102 : ∀ (t_least : Nat → Int64) (x4 : Int32) (x5 : Int32) (H : Heap) (locs : List Loc) (ls : Array Slot), B_X2_goOver_102 (L_X2_goOver_6 post s_size s_lower s_limits s_stricts s_upper x2 x3 n6) t_least x4 x5 → va_P D vwCl [(A_s, .inr (5, [.ref A_s_upper, .ref A_s_lower, .ref A_s_limits, .ref A_s_stricts, .ref A_s_marks, .int s_size, .int s_marked, .int s_wholeness])), (A_t, .inr (2, [.ref A_t_least, .ref A_t_table])), (A_s_lower, .inl (cy 1, 24, .inl s_lower)), (A_t_least, .inl (cy 2, 10, .inr (.inl t_least))), (A_s_limits, .inl (cy 1, 24, .inl s_limits)), (A_s_stricts, .inl (cy 1, 24, .inl s_stricts)), (A_s_upper, .inl (cy 1, 24, .inl s_upper))] H → va_D A [(A_s, .inr (5, [.ref A_s_upper, .ref A_s_lower, .ref A_s_limits, .ref A_s_stricts, .ref A_s_marks, .int s_size, .int s_marked, .int s_wholeness])), (A_t, .inr (2, [.ref A_t_least, .ref A_t_table])), (A_s_lower, .inl (cy 1, 24, .inl s_lower)), (A_t_least, .inl (cy 2, 10, .inr (.inl t_least))), (A_s_limits, .inl (cy 1, 24, .inl s_limits)), (A_s_stricts, .inl (cy 1, 24, .inl s_stricts)), (A_s_upper, .inl (cy 1, 24, .inl s_upper))] → va_S A s.heap H locs → lv_has ls 10 [(0, .ref A_t), (1, .ref A_s), (2, .int x2), (3, .int x3), (4, .int x4), (5, .int x5)] → W p l e (headSpec wsX2_goOver { frames := 1, cells := 0, slots := 0, locals := 22 }).room s m ([.ref A_t, .ref A_s, .int x2, .int x3] : List Value).toArray below meth c H locs 0 0 Q0 (F0 m 102 ls []) := by
        intro t_least x4 x5 H locs ls h hP hD hS hl
        unfold B_X2_goOver_102 at h
        refine lv_iinc (v := x5 + (1 : Int32)) (lv' := [(5, .int (x5 + (1 : Int32))), (0, .ref A_t), (1, .ref A_s), (2, .int x2), (3, .int x3), (4, .int x4)]) hx hb dX2_goOver_102 hl (k := 5) rfl rfl (by decide) rfl (fun ls hl => ?_)
        refine lv_goto (tgt := 6) hx hb dX2_goOver_105 (by decide) ?_
        exact ih6 t_least x4 (x5 + (1 : Int32)) H locs ls h hP hD hS (lv_sub hl [1, 2, 3, 4, 5, 0] rfl)
      refine lv_iload hx hb dX2_goOver_6 (lv_at hl 5 rfl) ?_
      refine lv_aload_n hx hb dX2_goOver_8 rfl (lv_at hl 1 rfl) ?_
      refine va_get (D := D) (ci := 5) (v := .int s_size) (C := RX5) (T := TX5) (N := 8) hx hb hts iX5 hown hK.1 hP 0 rfl rfl 5 (by decide) f0 (fun _ h9 => h9) rfl dX2_goOver_9 ?_
      refine lv_icmp_ge (tgt := 108) hx hb dX2_goOver_12 (by decide) (fun hc => ?_) (fun hc => ?_)
      · replace h := h.1 hc
        refine lv_iload hx hb dX2_goOver_108 (lv_at hl 4 rfl) ?_
        subst hQ
        subst hAe
        exact W.zret (v := x4) hx hb hr h.1 (fun t ht _ => ⟨⟨x4, t_least, rfl, h.2, by rw [ht]; exact hP, hD⟩, hS.F ht⟩) hS.2.2 dX2_goOver_110
      · replace h := h.2 hc
        refine lv_aload_n hx hb dX2_goOver_15 rfl (lv_at hl 0 rfl) ?_
        refine va_get (D := D) (ci := 2) (v := .ref A_t_least) (C := RX2) (T := TX2) (N := 2) hx hb hts iX2 hown hK.1 hP 1 rfl rfl 0 (by decide) f1 (fun _ h9 => h9) rfl dX2_goOver_16 ?_
        refine lv_aload_n hx hb dX2_goOver_19 rfl (lv_at hl 1 rfl) ?_
        refine va_get (D := D) (ci := 5) (v := .ref A_s_lower) (C := RX5) (T := TX5) (N := 8) hx hb hts iX5 hown hK.1 hP 0 rfl rfl 1 (by decide) f2 (fun _ h9 => h9) rfl dX2_goOver_20 ?_
        refine lv_iload hx hb dX2_goOver_23 (lv_at hl 5 rfl) ?_
        refine va_iald hx hb hK.1 hP 2 1 rfl rfl h.1 dX2_goOver_25 ?_
        replace h := h.2
        refine va_lald hx hb hK.1 hP 3 2 rfl rfl h.1 dX2_goOver_26 ?_
        replace h := h.2
        refine lv_lstore (lv' := [(6, .long (t_least (s_lower x5.toNatClampNeg).toNatClampNeg)), (0, .ref A_t), (1, .ref A_s), (2, .int x2), (3, .int x3), (4, .int x4), (5, .int x5)]) hx hb dX2_goOver_27 hl (by decide) rfl (fun ls hl => ?_)
        refine lv_iload hx hb dX2_goOver_29 (lv_at hl 6 rfl) ?_
        refine lv_iload_n hx hb dX2_goOver_31 rfl (lv_at hl 4 rfl) ?_
        refine lv_icmp_eq (tgt := 102) hx hb dX2_goOver_32 (by decide) (fun hc => ?_) (fun hc => ?_)
        · replace h := h.1 hc
          exact J102 t_least x4 x5 H locs ls h hP hD hS (lv_sub hl [1, 2, 3, 4, 5, 6] rfl)
        · replace h := h.2 hc
          refine lv_lload hx hb dX2_goOver_35 (lv_at hl 0 rfl) ?_
          refine lv_ldc2 (v := 4611686018427387904) hx hb hown f3 dX2_goOver_37 ?_
          refine lx_eq (tgt := 102) hx hb dX2_goOver_40 dX2_goOver_41 (by decide) (fun hc => ?_) (fun hc => ?_)
          · replace h := h.1 hc
            exact J102 t_least x4 x5 H locs ls h hP hD hS (lv_sub hl [1, 2, 3, 4, 5, 6] rfl)
          · replace h := h.2 hc
            refine lv_lload hx hb dX2_goOver_44 (lv_at hl 0 rfl) ?_
            refine lv_aload_n hx hb dX2_goOver_46 rfl (lv_at hl 2 rfl) ?_
            refine va_get (D := D) (ci := 5) (v := .ref A_s_limits) (C := RX5) (T := TX5) (N := 8) hx hb hts iX5 hown hK.1 hP 0 rfl rfl 2 (by decide) f4 (fun _ h9 => h9) rfl dX2_goOver_47 ?_
            refine lv_iload hx hb dX2_goOver_50 (lv_at hl 6 rfl) ?_
            refine va_iald hx hb hK.1 hP 4 1 rfl rfl h.1 dX2_goOver_52 ?_
            replace h := h.2
            refine lv_aload_n hx hb dX2_goOver_53 rfl (lv_at hl 2 rfl) ?_
            refine va_get (D := D) (ci := 5) (v := .ref A_s_stricts) (C := RX5) (T := TX5) (N := 8) hx hb hts iX5 hown hK.1 hP 0 rfl rfl 3 (by decide) f5 (fun _ h9 => h9) rfl dX2_goOver_54 ?_
            refine lv_iload hx hb dX2_goOver_57 (lv_at hl 6 rfl) ?_
            refine va_iald hx hb hK.1 hP 5 1 rfl rfl h.1 dX2_goOver_59 ?_
            replace h := h.2
            refine lv_iload_n hx hb dX2_goOver_60 rfl (lv_at hl 3 rfl) ?_
            refine vp_callSl (va_Run.run (va_runSN (As := [.int (s_limits x5.toNatClampNeg), .int (s_stricts x5.toNatClampNeg), .int x2]) (rest := [.long (t_least (s_lower x5.toNatClampNeg).toNatClampNeg)]) CF (c_X7_weigh l (s_limits x5.toNatClampNeg) (s_stricts x5.toNatClampNeg) x2 _ h) ⟨va_cnB 3 hts gX2_goOver_X7_weigh_n73 rfl rfl rfl (hK.nest (w := .methodLinkNest RX2 73 yX7_weigh RX7) (List.mem_of_getElem? (i := 10) rfl)) f6 qX7_weigh.2 ⟨Nat.le_of_ble_eq_true rfl, Nat.le_of_ble_eq_true rfl⟩, f7, trivial⟩ mpSN rfl rfl hl.1 rfl (lv_room (Nat.le_of_ble_eq_true rfl)) dX2_goOver_61 ⟨Nat.zero_le _, Nat.zero_le _⟩)) (fun r1 h => ?_)
            refine lv_ladd hx hb dX2_goOver_64 ?_
            refine lv_lstore (lv' := [(8, .long ((t_least (s_lower x5.toNatClampNeg).toNatClampNeg) + r1)), (6, .long (t_least (s_lower x5.toNatClampNeg).toNatClampNeg)), (0, .ref A_t), (1, .ref A_s), (2, .int x2), (3, .int x3), (4, .int x4), (5, .int x5)]) hx hb dX2_goOver_65 hl (by decide) rfl (fun ls hl => ?_)
            refine lv_lload hx hb dX2_goOver_67 (lv_at hl 0 rfl) ?_
            refine lv_aload_n hx hb dX2_goOver_69 rfl (lv_at hl 2 rfl) ?_
            refine va_get (D := D) (ci := 2) (v := .ref A_t_least) (C := RX2) (T := TX2) (N := 2) hx hb hts iX2 hown hK.1 hP 1 rfl rfl 0 (by decide) f1 (fun _ h9 => h9) rfl dX2_goOver_70 ?_
            refine lv_aload_n hx hb dX2_goOver_73 rfl (lv_at hl 3 rfl) ?_
            refine va_get (D := D) (ci := 5) (v := .ref A_s_upper) (C := RX5) (T := TX5) (N := 8) hx hb hts iX5 hown hK.1 hP 0 rfl rfl 0 (by decide) f8 (fun _ h9 => h9) rfl dX2_goOver_74 ?_
            refine lv_iload hx hb dX2_goOver_77 (lv_at hl 7 rfl) ?_
            refine va_iald hx hb hK.1 hP 6 1 rfl rfl h.1 dX2_goOver_79 ?_
            replace h := h.2
            refine va_lald hx hb hK.1 hP 3 2 rfl rfl h.1 dX2_goOver_80 ?_
            replace h := h.2
            refine lx_ge (tgt := 102) hx hb dX2_goOver_81 dX2_goOver_82 (by decide) (fun hc => ?_) (fun hc => ?_)
            · replace h := h.1 hc
              exact J102 t_least x4 x5 H locs ls h hP hD hS (lv_sub hl [2, 3, 4, 5, 6, 7] rfl)
            · replace h := h.2 hc
              refine lv_aload_n hx hb dX2_goOver_85 rfl (lv_at hl 2 rfl) ?_
              refine va_get (D := D) (ci := 2) (v := .ref A_t_least) (C := RX2) (T := TX2) (N := 2) hx hb hts iX2 hown hK.1 hP 1 rfl rfl 0 (by decide) f1 (fun _ h9 => h9) rfl dX2_goOver_86 ?_
              refine lv_aload_n hx hb dX2_goOver_89 rfl (lv_at hl 3 rfl) ?_
              refine va_get (D := D) (ci := 5) (v := .ref A_s_upper) (C := RX5) (T := TX5) (N := 8) hx hb hts iX5 hown hK.1 hP 0 rfl rfl 0 (by decide) f8 (fun _ h9 => h9) rfl dX2_goOver_90 ?_
              refine lv_iload hx hb dX2_goOver_93 (lv_at hl 7 rfl) ?_
              refine va_iald hx hb hK.1 hP 6 1 rfl rfl h.1 dX2_goOver_95 ?_
              replace h := h.2
              refine lv_lload hx hb dX2_goOver_96 (lv_at hl 0 rfl) ?_
              refine va_last hx hb hK.1 hP hD hS 3 2 rfl rfl h.1 dX2_goOver_98 (fun H locs hP hD hS => ?_)
              replace h := h.2
              have hP : va_P D vwCl [(A_s, .inr (5, [.ref A_s_upper, .ref A_s_lower, .ref A_s_limits, .ref A_s_stricts, .ref A_s_marks, .int s_size, .int s_marked, .int s_wholeness])), (A_t, .inr (2, [.ref A_t_least, .ref A_t_table])), (A_s_lower, .inl (cy 1, 24, .inl s_lower)), (A_t_least, .inl (cy 2, 10, .inr (.inl (vp_updL t_least (s_upper x5.toNatClampNeg).toNatClampNeg ((t_least (s_lower x5.toNatClampNeg).toNatClampNeg) + r1))))), (A_s_limits, .inl (cy 1, 24, .inl s_limits)), (A_s_stricts, .inl (cy 1, 24, .inl s_stricts)), (A_s_upper, .inl (cy 1, 24, .inl s_upper))] H := hP
              have hD : va_D A [(A_s, .inr (5, [.ref A_s_upper, .ref A_s_lower, .ref A_s_limits, .ref A_s_stricts, .ref A_s_marks, .int s_size, .int s_marked, .int s_wholeness])), (A_t, .inr (2, [.ref A_t_least, .ref A_t_table])), (A_s_lower, .inl (cy 1, 24, .inl s_lower)), (A_t_least, .inl (cy 2, 10, .inr (.inl (vp_updL t_least (s_upper x5.toNatClampNeg).toNatClampNeg ((t_least (s_lower x5.toNatClampNeg).toNatClampNeg) + r1))))), (A_s_limits, .inl (cy 1, 24, .inl s_limits)), (A_s_stricts, .inl (cy 1, 24, .inl s_stricts)), (A_s_upper, .inl (cy 1, 24, .inl s_upper))] := hD
              refine lv_iconst (v := 1) hx hb dX2_goOver_99 (by decide) ?_
              refine lv_istore (lv' := [(4, .int (1 : Int32)), (8, .long ((t_least (s_lower x5.toNatClampNeg).toNatClampNeg) + r1)), (6, .long (t_least (s_lower x5.toNatClampNeg).toNatClampNeg)), (0, .ref A_t), (1, .ref A_s), (2, .int x2), (3, .int x3), (5, .int x5)]) hx hb dX2_goOver_100 hl (by decide) rfl (fun ls hl => ?_)
              exact J102 (vp_updL t_least (s_upper x5.toNatClampNeg).toNatClampNeg ((t_least (s_lower x5.toNatClampNeg).toNatClampNeg) + r1)) (1 : Int32) x5 H locs ls h hP hD hS (lv_sub hl [3, 4, 5, 6, 0, 7] rfl)
  unfold P_X2_goOver at h
  refine lv_iconst (v := 0) hx hb dX2_goOver_0 (by decide) ?_
  refine lv_istore (lv' := [(4, .int (0 : Int32)), (0, .ref A_t), (1, .ref A_s), (2, .int x2), (3, .int x3)]) hx hb dX2_goOver_1 hl (by decide) rfl (fun ls hl => ?_)
  refine lv_iconst (v := 0) hx hb dX2_goOver_3 (by decide) ?_
  refine lv_istore (lv' := [(5, .int (0 : Int32)), (4, .int (0 : Int32)), (0, .ref A_t), (1, .ref A_s), (2, .int x2), (3, .int x3)]) hx hb dX2_goOver_4 hl (by decide) rfl (fun ls hl => ?_)
  obtain ⟨nn, h⟩ := h
  exact L6 nn t_least (0 : Int32) (0 : Int32) s.heap [] ls h hP hD hS (lv_sub hl [2, 3, 4, 5, 1, 0] rfl)
