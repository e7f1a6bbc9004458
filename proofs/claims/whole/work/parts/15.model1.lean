theorem qX8_in : yX8_in.cls = RX8 ∧ yX8_in.cls ≠ "java/lang/invoke/MethodHandle" ∧ yX8_in.cls ≠ "java/lang/invoke/VarHandle" ∧ (parseMethodDescriptor yX8_in.desc).map (fun d => d.parameters.length) = some 3 := by decide +kernel
def P_X8_in (post : Int32 → Prop) (y0 : Int64) (y2 : Int64) (y4 : Int64) : Prop :=
  ((y0 < y2 → post (0 : Int32)) ∧ (¬ y0 < y2 → ((y4 < y0 → post (0 : Int32)) ∧ (¬ y4 < y0 → post (1 : Int32)))))
set_option maxHeartbeats 4000000 in
set_option maxRecDepth 100000 in
theorem c_X8_in (l : Launch) (y0 : Int64) (y2 : Int64) (y4 : Int64) (post : Int32 → Prop) (h : P_X8_in post y0 y2 y4) : Met l yX8_in wsX8_in { frames := 0, cells := 0, slots := 0, locals := 0 } (pcN [.long y0, .long y2, .long y4]) (vp_Si post) 0 0 (fun _ => False) := by
  refine Met.ofW (cc := cX8_in) (maxL := 6) (ret := (some .boolean)) (by decide) rfl ?_
  intro p e s m args below meth c s₁ B hml hv
  obtain ⟨rfl, -⟩ := hv
  have hx := B.exec
  have hb := B.bytes
  have hr := B.returns
  have hts := atoms_spec (ws := wsX8_in) B.pre
  have hown : s.vm.findClass RX8 = some m.cls := findClass_of_methodNamed B.named
  have hlocks := B.notSynchronized
  have CF : CallFix p m c cX8_in 6 s ([.long y0, .long y2, .long y4] : List Value).toArray wsX8_in RX8 := ⟨hx, hb, hml, hown, hts⟩
  have hl := lv_entry [.long y0, .long y2, .long y4] (n := 6) (Nat.le_of_ble_eq_true rfl)
  rw [lg_entry_eq]
  generalize (lg_sl [.long y0, .long y2, .long y4] ++ List.replicate (6 - (lg_sl [.long y0, .long y2, .long y4]).length) Slot.unset).toArray = ls at hl ⊢
  have hl : lv_has ls 6 [(0, .long y0), (2, .long y2), (4, .long y4)] := hl
  refine W.gen (fun Q0 hQ => ?_)
  unfold P_X8_in at h
  refine lv_lload_n hx hb dX8_in_0 rfl (lv_at hl 0 rfl) ?_
  refine lv_lload_n hx hb dX8_in_1 rfl (lv_at hl 1 rfl) ?_
  refine lx_lt (tgt := 17) hx hb dX8_in_2 dX8_in_3 (by decide) (fun hc => ?_) (fun hc => ?_)
  · replace h := h.1 hc
    refine lv_iconst (v := 0) hx hb dX8_in_17 (by decide) ?_
    subst hQ
    exact W.zret (v := (0 : Int32)) hx hb hr bz0 (fun t ht _ => ⟨(0 : Int32), rfl, h, ht⟩) (fun _ hq => absurd hq List.not_mem_nil) dX8_in_18
  · replace h := h.2 hc
    refine lv_lload_n hx hb dX8_in_6 rfl (lv_at hl 0 rfl) ?_
    refine lv_lload hx hb dX8_in_7 (lv_at hl 2 rfl) ?_
    refine lx_gt (tgt := 17) hx hb dX8_in_9 dX8_in_10 (by decide) (fun hc => ?_) (fun hc => ?_)
    · replace h := h.1 hc
      refine lv_iconst (v := 0) hx hb dX8_in_17 (by decide) ?_
      subst hQ
      exact W.zret (v := (0 : Int32)) hx hb hr bz0 (fun t ht _ => ⟨(0 : Int32), rfl, h, ht⟩) (fun _ hq => absurd hq List.not_mem_nil) dX8_in_18
    · replace h := h.2 hc
      refine lv_iconst (v := 1) hx hb dX8_in_13 (by decide) ?_
      refine lv_goto (tgt := 18) hx hb dX8_in_14 (by decide) ?_
      subst hQ
      exact W.zret (v := (1 : Int32)) hx hb hr bz1 (fun t ht _ => ⟨(1 : Int32), rfl, h, ht⟩) (fun _ hq => absurd hq List.not_mem_nil) dX8_in_18
theorem qX8_feed : yX8_feed.cls = RX8 ∧ yX8_feed.cls ≠ "java/lang/invoke/MethodHandle" ∧ yX8_feed.cls ≠ "java/lang/invoke/VarHandle" ∧ (parseMethodDescriptor yX8_feed.desc).map (fun d => d.parameters.length) = some 1 := by decide +kernel
def P_X8_feed (post : Int32 → Int32 → (Nat → Int32) → Prop) (t_taped : Int32) (t_tape : Nat → Int32) (x1 : Int32) : Prop :=
  P_X8_in (fun (r1 : Int32) => ((¬ r1 = 0 → ((¬ t_taped = (320 : Int32) → (vp_in t_taped 320 ∧ post (t_taped + (1 : Int32)) (t_taped + (1 : Int32)) (upd t_tape t_taped.toNatClampNeg x1))) ∧ (t_taped = (320 : Int32) → post (-3 : Int32) t_taped t_tape))) ∧ (r1 = 0 → post (-1 : Int32) t_taped t_tape))) x1.toInt64 (0 : Int64) (127 : Int64)
set_option maxHeartbeats 4000000 in
set_option maxRecDepth 100000 in
theorem c_X8_feed (l : Launch) (D : va_G) (cy : Nat → ClassId) (sz : Nat) (A_t A_t_state A_t_tape A_t_ends A_t_letters A_t_least A_t_conflicts A_t_behind A_t_placed A_t_isKept A_t_lanes A_t_lengths A_t_cells : Nat) (t_taped : Int32) (t_fault : Int32) (t_broken : Int32) (t_brokenAt : Int32) (t_spot : Int32) (t_here : Int32) (t_token : Int32) (t_value : Int32) (t_isRealTold : Int32) (t_conflictMany : Int32) (t_torn : Int32) (t_tape : Nat → Int32) (x1 : Int32) (post : Int32 → Int32 → (Nat → Int32) → Prop) (h : P_X8_feed post t_taped t_tape x1) : Met l yX8_feed wsX8_feed { frames := 1, cells := 0, slots := 0, locals := 25 } (pcW D cy [(A_t, .inr (8, [.ref A_t_state, .ref A_t_tape, .int t_taped, .int t_fault, .int t_broken, .int t_brokenAt, .int t_spot, .int t_here, .int t_token, .int t_value, .int t_isRealTold, .ref A_t_ends, .ref A_t_letters, .ref A_t_least, .ref A_t_conflicts, .int t_conflictMany, .ref A_t_behind, .ref A_t_placed, .ref A_t_isKept, .ref A_t_lanes, .ref A_t_lengths, .ref A_t_cells, .int t_torn])), (A_t_tape, .inl (cy 1, 320, .inl t_tape))] sz [.ref A_t, .int x1]) (va_Qi (fun r (u : Int32 × (Nat → Int32)) => post r u.1 u.2) (bW D [(A_t, .inr (8, [.ref A_t_state, .ref A_t_tape, .int t_taped, .int t_fault, .int t_broken, .int t_brokenAt, .int t_spot, .int t_here, .int t_token, .int t_value, .int t_isRealTold, .ref A_t_ends, .ref A_t_letters, .ref A_t_least, .ref A_t_conflicts, .int t_conflictMany, .ref A_t_behind, .ref A_t_placed, .ref A_t_isKept, .ref A_t_lanes, .ref A_t_lengths, .ref A_t_cells, .int t_torn])), (A_t_tape, .inl (cy 1, 320, .inl t_tape))] sz (fun u => [(A_t, .inr (8, [.ref A_t_state, .ref A_t_tape, .int (u.1), .int t_fault, .int t_broken, .int t_brokenAt, .int t_spot, .int t_here, .int t_token, .int t_value, .int t_isRealTold, .ref A_t_ends, .ref A_t_letters, .ref A_t_least, .ref A_t_conflicts, .int t_conflictMany, .ref A_t_behind, .ref A_t_placed, .ref A_t_isKept, .ref A_t_lanes, .ref A_t_lengths, .ref A_t_cells, .int t_torn])), (A_t_tape, .inl (cy 1, 320, .inl u.2))])) (va_A [(A_t, .inr (8, [.ref A_t_state, .ref A_t_tape, .int t_taped, .int t_fault, .int t_broken, .int t_brokenAt, .int t_spot, .int t_here, .int t_token, .int t_value, .int t_isRealTold, .ref A_t_ends, .ref A_t_letters, .ref A_t_least, .ref A_t_conflicts, .int t_conflictMany, .ref A_t_behind, .ref A_t_placed, .ref A_t_isKept, .ref A_t_lanes, .ref A_t_lengths, .ref A_t_cells, .int t_torn])), (A_t_tape, .inl (cy 1, 320, .inl t_tape))] sz)) 0 0 (va_A [(A_t, .inr (8, [.ref A_t_state, .ref A_t_tape, .int t_taped, .int t_fault, .int t_broken, .int t_brokenAt, .int t_spot, .int t_here, .int t_token, .int t_value, .int t_isRealTold, .ref A_t_ends, .ref A_t_letters, .ref A_t_least, .ref A_t_conflicts, .int t_conflictMany, .ref A_t_behind, .ref A_t_placed, .ref A_t_isKept, .ref A_t_lanes, .ref A_t_lengths, .ref A_t_cells, .int t_torn])), (A_t_tape, .inl (cy 1, 320, .inl t_tape))] sz) := by
  refine Met.ofW (cc := cX8_feed) (maxL := 2) (ret := (some .int)) (by decide) rfl ?_
  intro p e s m args below meth c s₁ B hml hv
  obtain ⟨rfl, hsz, hP, hK, hD0⟩ := hv
  have hx := B.exec
  have hb := B.bytes
  have hr := B.returns
  have hts := atoms_spec (ws := wsX8_feed) B.pre
  have hown : s.vm.findClass RX8 = some m.cls := findClass_of_methodNamed B.named
  have hlocks := B.notSynchronized
  have CF : CallFix p m c cX8_feed 2 s ([.ref A_t, .int x1] : List Value).toArray wsX8_feed RX8 := ⟨hx, hb, hml, hown, hts⟩
  have f0 := hts (.constantLong RX8 48 (127)) (by decide +kernel)
  have f1 := hts (.fieldLink RX8 54 "GapBoundsModel" "taped" "I") (by decide +kernel)
  have f2 := hts (.fieldLink RX8 13 "GapBoundsModel" "tape" "[I") (by decide +kernel)
  have iX8 : ∀ w ∈ u_ws RX8 TX8 23, w ∈ wsX8_feed := by decide +kernel
  subst hsz
  obtain ⟨A, hAe⟩ : ∃ A, A = va_A [(A_t, .inr (8, [.ref A_t_state, .ref A_t_tape, .int t_taped, .int t_fault, .int t_broken, .int t_brokenAt, .int t_spot, .int t_here, .int t_token, .int t_value, .int t_isRealTold, .ref A_t_ends, .ref A_t_letters, .ref A_t_least, .ref A_t_conflicts, .int t_conflictMany, .ref A_t_behind, .ref A_t_placed, .ref A_t_isKept, .ref A_t_lanes, .ref A_t_lengths, .ref A_t_cells, .int t_torn])), (A_t_tape, .inl (cy 1, 320, .inl t_tape))] s.heap.size := ⟨_, rfl⟩
  have hD : va_D A [(A_t, .inr (8, [.ref A_t_state, .ref A_t_tape, .int t_taped, .int t_fault, .int t_broken, .int t_brokenAt, .int t_spot, .int t_here, .int t_token, .int t_value, .int t_isRealTold, .ref A_t_ends, .ref A_t_letters, .ref A_t_least, .ref A_t_conflicts, .int t_conflictMany, .ref A_t_behind, .ref A_t_placed, .ref A_t_isKept, .ref A_t_lanes, .ref A_t_lengths, .ref A_t_cells, .int t_torn])), (A_t_tape, .inl (cy 1, 320, .inl t_tape))] := by rw [hAe]; exact hD0.self
  have hA : ∀ q : Nat, s.heap.size ≤ q → A q := fun q hq => by rw [hAe]; exact Or.inr hq
  have hS : va_S A s.heap s.heap [] := va_S.rf
  have hl := lv_entry [.ref A_t, .int x1] (n := 2) (Nat.le_of_ble_eq_true rfl)
  rw [lg_entry_eq]
  generalize (lg_sl [.ref A_t, .int x1] ++ List.replicate (2 - (lg_sl [.ref A_t, .int x1]).length) Slot.unset).toArray = ls at hl ⊢
  have hl : lv_has ls 2 [(0, .ref A_t), (1, .int x1)] := hl
  refine W.gen (fun Q0 hQ => ?_)
  unfold P_X8_feed at h
  refine lv_iload_n hx hb dX8_feed_0 rfl (lv_at hl 1 rfl) ?_
  refine lv_i2l (v := x1.toInt64) hx hb dX8_feed_1 rfl ?_
  refine lv_lconst (v := 0) hx hb dX8_feed_2 (by decide) ?_
  refine lv_ldc2 (v := 127) hx hb hown f0 dX8_feed_3 ?_
  refine vp_callSi (W.runS (As := [.long x1.toInt64, .long (0 : Int64), .long (127 : Int64)]) (rest := []) CF (c_X8_in l x1.toInt64 (0 : Int64) (127 : Int64) _ h) (va_cwS 3 hts gX8_feed_X8_in rfl rfl rfl qX8_in.2 ⟨Nat.le_of_ble_eq_true rfl, Nat.le_of_ble_eq_true rfl⟩) mpSN rfl rfl hl.1 rfl (lv_room (Nat.le_of_ble_eq_true rfl)) dX8_feed_6 ⟨Nat.zero_le _, Nat.zero_le _⟩) (fun r1 h => ?_)
  refine lv_if_ne (tgt := 14) hx hb dX8_feed_9 (by decide) (fun hc => ?_) (fun hc => ?_)
  · replace h := h.1 hc
    refine lv_aload_n hx hb dX8_feed_14 rfl (lv_at hl 0 rfl) ?_
    refine va_get (D := D) (ci := 8) (v := .int t_taped) (C := RX8) (T := TX8) (N := 23) hx hb hts iX8 hown hK.1 hP 0 rfl rfl 2 (by decide) f1 (fun _ h9 => h9) rfl dX8_feed_15 ?_
    refine lv_sipush (v := 320) hx hb dX8_feed_18 (by decide) ?_
    refine lv_icmp_ne (tgt := 27) hx hb dX8_feed_21 (by decide) (fun hc => ?_) (fun hc => ?_)
    · replace h := h.1 hc
      refine lv_aload_n hx hb dX8_feed_27 rfl (lv_at hl 0 rfl) ?_
      refine va_get (D := D) (ci := 8) (v := .ref A_t_tape) (C := RX8) (T := TX8) (N := 23) hx hb hts iX8 hown hK.1 hP 0 rfl rfl 1 (by decide) f2 (fun _ h9 => h9) rfl dX8_feed_28 ?_
      refine lv_aload_n hx hb dX8_feed_31 rfl (lv_at hl 0 rfl) ?_
      refine va_get (D := D) (ci := 8) (v := .int t_taped) (C := RX8) (T := TX8) (N := 23) hx hb hts iX8 hown hK.1 hP 0 rfl rfl 2 (by decide) f1 (fun _ h9 => h9) rfl dX8_feed_32 ?_
      refine lv_iload_n hx hb dX8_feed_35 rfl (lv_at hl 1 rfl) ?_
      refine va_iast hx hb hK.1 hP hD hS 1 1 rfl rfl h.1 dX8_feed_36 (fun H locs hP hD hS => ?_)
      replace h := h.2
      have hP : va_P D vwCl [(A_t, .inr (8, [.ref A_t_state, .ref A_t_tape, .int t_taped, .int t_fault, .int t_broken, .int t_brokenAt, .int t_spot, .int t_here, .int t_token, .int t_value, .int t_isRealTold, .ref A_t_ends, .ref A_t_letters, .ref A_t_least, .ref A_t_conflicts, .int t_conflictMany, .ref A_t_behind, .ref A_t_placed, .ref A_t_isKept, .ref A_t_lanes, .ref A_t_lengths, .ref A_t_cells, .int t_torn])), (A_t_tape, .inl (cy 1, 320, .inl (upd t_tape t_taped.toNatClampNeg x1)))] H := hP
      have hD : va_D A [(A_t, .inr (8, [.ref A_t_state, .ref A_t_tape, .int t_taped, .int t_fault, .int t_broken, .int t_brokenAt, .int t_spot, .int t_here, .int t_token, .int t_value, .int t_isRealTold, .ref A_t_ends, .ref A_t_letters, .ref A_t_least, .ref A_t_conflicts, .int t_conflictMany, .ref A_t_behind, .ref A_t_placed, .ref A_t_isKept, .ref A_t_lanes, .ref A_t_lengths, .ref A_t_cells, .int t_torn])), (A_t_tape, .inl (cy 1, 320, .inl (upd t_tape t_taped.toNatClampNeg x1)))] := hD
      refine lv_aload_n hx hb dX8_feed_37 rfl (lv_at hl 0 rfl) ?_
      refine lv_dup hx hb dX8_feed_38 rfl ?_
      refine va_get (D := D) (ci := 8) (v := .int t_taped) (C := RX8) (T := TX8) (N := 23) hx hb hts iX8 hown hK.1 hP 0 rfl rfl 2 (by decide) f1 (fun _ h9 => h9) rfl dX8_feed_39 ?_
      refine lv_iconst (v := 1) hx hb dX8_feed_42 (by decide) ?_
      refine lv_iadd hx hb dX8_feed_43 ?_
      refine va_put (D := D) (ci := 8) (v := .int (t_taped + (1 : Int32))) (ty := .int) (C := RX8) (T := TX8) (N := 23) hx hb hts iX8 tyX8 tyX8_ok nmX8 hown hK.1 hP hD hS 0 rfl rfl 2 (by decide) f1 (fun _ h9 => h9) rfl (tyX8_ok 2 (by decide)) rfl rfl (Nat.le_of_ble_eq_true rfl) dX8_feed_44 (fun H locs hP hD hS => ?_)
      have hP : va_P D vwCl [(A_t, .inr (8, [.ref A_t_state, .ref A_t_tape, .int (t_taped + (1 : Int32)), .int t_fault, .int t_broken, .int t_brokenAt, .int t_spot, .int t_here, .int t_token, .int t_value, .int t_isRealTold, .ref A_t_ends, .ref A_t_letters, .ref A_t_least, .ref A_t_conflicts, .int t_conflictMany, .ref A_t_behind, .ref A_t_placed, .ref A_t_isKept, .ref A_t_lanes, .ref A_t_lengths, .ref A_t_cells, .int t_torn])), (A_t_tape, .inl (cy 1, 320, .inl (upd t_tape t_taped.toNatClampNeg x1)))] H := hP
      have hD : va_D A [(A_t, .inr (8, [.ref A_t_state, .ref A_t_tape, .int (t_taped + (1 : Int32)), .int t_fault, .int t_broken, .int t_brokenAt, .int t_spot, .int t_here, .int t_token, .int t_value, .int t_isRealTold, .ref A_t_ends, .ref A_t_letters, .ref A_t_least, .ref A_t_conflicts, .int t_conflictMany, .ref A_t_behind, .ref A_t_placed, .ref A_t_isKept, .ref A_t_lanes, .ref A_t_lengths, .ref A_t_cells, .int t_torn])), (A_t_tape, .inl (cy 1, 320, .inl (upd t_tape t_taped.toNatClampNeg x1)))] := hD
      refine lv_aload_n hx hb dX8_feed_47 rfl (lv_at hl 0 rfl) ?_
      refine va_get (D := D) (ci := 8) (v := .int (t_taped + (1 : Int32))) (C := RX8) (T := TX8) (N := 23) hx hb hts iX8 hown hK.1 hP 0 rfl rfl 2 (by decide) f1 (fun _ h9 => h9) rfl dX8_feed_48 ?_
      subst hQ
      subst hAe
      exact W.iret (v := t_taped + (1 : Int32)) hx hb hr (fun t ht _ => ⟨⟨t_taped + (1 : Int32), (t_taped + (1 : Int32), upd t_tape t_taped.toNatClampNeg x1), rfl, h, by rw [ht]; exact hP, hD⟩, hS.F ht⟩) hS.2.2 dX8_feed_51
    · replace h := h.2 hc
      refine lv_bipush (v := -3) hx hb dX8_feed_24 (by decide) ?_
      subst hQ
      subst hAe
      exact W.iret (v := (-3 : Int32)) hx hb hr (fun t ht _ => ⟨⟨(-3 : Int32), (t_taped, t_tape), rfl, h, by rw [ht]; exact hP, hD⟩, hS.F ht⟩) hS.2.2 dX8_feed_26
  · replace h := h.2 hc
    refine lv_iconst (v := -1) hx hb dX8_feed_12 (by decide) ?_
    subst hQ
    subst hAe
    exact W.iret (v := (-1 : Int32)) hx hb hr (fun t ht _ => ⟨⟨(-1 : Int32), (t_taped, t_tape), rfl, h, by rw [ht]; exact hP, hD⟩, hS.F ht⟩) hS.2.2 dX8_feed_13
theorem qX8_end : yX8_end.cls = RX8 ∧ yX8_end.cls ≠ "java/lang/invoke/MethodHandle" ∧ yX8_end.cls ≠ "java/lang/invoke/VarHandle" ∧ (parseMethodDescriptor yX8_end.desc).map (fun d => d.parameters.length) = some 1 := by decide +kernel
def P_X8_end (post : Int32 → Int32 → Prop) (t_taped : Int32) (x1 : Int32) : Prop :=
  P_X8_in (fun (r1 : Int32) => ((¬ r1 = 0 → post t_taped x1) ∧ (r1 = 0 → post (-1 : Int32) t_taped))) x1.toInt64 (0 : Int64) t_taped.toInt64
set_option maxHeartbeats 4000000 in
set_option maxRecDepth 100000 in
theorem c_X8_end (l : Launch) (D : va_G) (cy : Nat → ClassId) (sz : Nat) (A_t A_t_state A_t_tape A_t_ends A_t_letters A_t_least A_t_conflicts A_t_behind A_t_placed A_t_isKept A_t_lanes A_t_lengths A_t_cells : Nat) (t_taped : Int32) (t_fault : Int32) (t_broken : Int32) (t_brokenAt : Int32) (t_spot : Int32) (t_here : Int32) (t_token : Int32) (t_value : Int32) (t_isRealTold : Int32) (t_conflictMany : Int32) (t_torn : Int32) (x1 : Int32) (post : Int32 → Int32 → Prop) (h : P_X8_end post t_taped x1) : Met l yX8_end wsX8_end { frames := 1, cells := 0, slots := 0, locals := 25 } (pcW D cy [(A_t, .inr (8, [.ref A_t_state, .ref A_t_tape, .int t_taped, .int t_fault, .int t_broken, .int t_brokenAt, .int t_spot, .int t_here, .int t_token, .int t_value, .int t_isRealTold, .ref A_t_ends, .ref A_t_letters, .ref A_t_least, .ref A_t_conflicts, .int t_conflictMany, .ref A_t_behind, .ref A_t_placed, .ref A_t_isKept, .ref A_t_lanes, .ref A_t_lengths, .ref A_t_cells, .int t_torn]))] sz [.ref A_t, .int x1]) (va_Qi (fun r (u : Int32) => post r u) (bW D [(A_t, .inr (8, [.ref A_t_state, .ref A_t_tape, .int t_taped, .int t_fault, .int t_broken, .int t_brokenAt, .int t_spot, .int t_here, .int t_token, .int t_value, .int t_isRealTold, .ref A_t_ends, .ref A_t_letters, .ref A_t_least, .ref A_t_conflicts, .int t_conflictMany, .ref A_t_behind, .ref A_t_placed, .ref A_t_isKept, .ref A_t_lanes, .ref A_t_lengths, .ref A_t_cells, .int t_torn]))] sz (fun u => [(A_t, .inr (8, [.ref A_t_state, .ref A_t_tape, .int u, .int t_fault, .int t_broken, .int t_brokenAt, .int t_spot, .int t_here, .int t_token, .int t_value, .int t_isRealTold, .ref A_t_ends, .ref A_t_letters, .ref A_t_least, .ref A_t_conflicts, .int t_conflictMany, .ref A_t_behind, .ref A_t_placed, .ref A_t_isKept, .ref A_t_lanes, .ref A_t_lengths, .ref A_t_cells, .int t_torn]))])) (va_A [(A_t, .inr (8, [.ref A_t_state, .ref A_t_tape, .int t_taped, .int t_fault, .int t_broken, .int t_brokenAt, .int t_spot, .int t_here, .int t_token, .int t_value, .int t_isRealTold, .ref A_t_ends, .ref A_t_letters, .ref A_t_least, .ref A_t_conflicts, .int t_conflictMany, .ref A_t_behind, .ref A_t_placed, .ref A_t_isKept, .ref A_t_lanes, .ref A_t_lengths, .ref A_t_cells, .int t_torn]))] sz)) 0 0 (va_A [(A_t, .inr (8, [.ref A_t_state, .ref A_t_tape, .int t_taped, .int t_fault, .int t_broken, .int t_brokenAt, .int t_spot, .int t_here, .int t_token, .int t_value, .int t_isRealTold, .ref A_t_ends, .ref A_t_letters, .ref A_t_least, .ref A_t_conflicts, .int t_conflictMany, .ref A_t_behind, .ref A_t_placed, .ref A_t_isKept, .ref A_t_lanes, .ref A_t_lengths, .ref A_t_cells, .int t_torn]))] sz) := by
  refine Met.ofW (cc := cX8_end) (maxL := 3) (ret := (some .int)) (by decide) rfl ?_
  intro p e s m args below meth c s₁ B hml hv
  obtain ⟨rfl, hsz, hP, hK, hD0⟩ := hv
  have hx := B.exec
  have hb := B.bytes
  have hr := B.returns
  have hts := atoms_spec (ws := wsX8_end) B.pre
  have hown : s.vm.findClass RX8 = some m.cls := findClass_of_methodNamed B.named
  have hlocks := B.notSynchronized
  have CF : CallFix p m c cX8_end 3 s ([.ref A_t, .int x1] : List Value).toArray wsX8_end RX8 := ⟨hx, hb, hml, hown, hts⟩
  have f0 := hts (.fieldLink RX8 54 "GapBoundsModel" "taped" "I") (by decide +kernel)
  have iX8 : ∀ w ∈ u_ws RX8 TX8 23, w ∈ wsX8_end := by decide +kernel
  subst hsz
  obtain ⟨A, hAe⟩ : ∃ A, A = va_A [(A_t, .inr (8, [.ref A_t_state, .ref A_t_tape, .int t_taped, .int t_fault, .int t_broken, .int t_brokenAt, .int t_spot, .int t_here, .int t_token, .int t_value, .int t_isRealTold, .ref A_t_ends, .ref A_t_letters, .ref A_t_least, .ref A_t_conflicts, .int t_conflictMany, .ref A_t_behind, .ref A_t_placed, .ref A_t_isKept, .ref A_t_lanes, .ref A_t_lengths, .ref A_t_cells, .int t_torn]))] s.heap.size := ⟨_, rfl⟩
  have hD : va_D A [(A_t, .inr (8, [.ref A_t_state, .ref A_t_tape, .int t_taped, .int t_fault, .int t_broken, .int t_brokenAt, .int t_spot, .int t_here, .int t_token, .int t_value, .int t_isRealTold, .ref A_t_ends, .ref A_t_letters, .ref A_t_least, .ref A_t_conflicts, .int t_conflictMany, .ref A_t_behind, .ref A_t_placed, .ref A_t_isKept, .ref A_t_lanes, .ref A_t_lengths, .ref A_t_cells, .int t_torn]))] := by rw [hAe]; exact hD0.self
  have hA : ∀ q : Nat, s.heap.size ≤ q → A q := fun q hq => by rw [hAe]; exact Or.inr hq
  have hS : va_S A s.heap s.heap [] := va_S.rf
  have hl := lv_entry [.ref A_t, .int x1] (n := 3) (Nat.le_of_ble_eq_true rfl)
  rw [lg_entry_eq]
  generalize (lg_sl [.ref A_t, .int x1] ++ List.replicate (3 - (lg_sl [.ref A_t, .int x1]).length) Slot.unset).toArray = ls at hl ⊢
  have hl : lv_has ls 3 [(0, .ref A_t), (1, .int x1)] := hl
  refine W.gen (fun Q0 hQ => ?_)
  unfold P_X8_end at h
  refine lv_iload_n hx hb dX8_end_0 rfl (lv_at hl 1 rfl) ?_
  refine lv_i2l (v := x1.toInt64) hx hb dX8_end_1 rfl ?_
  refine lv_lconst (v := 0) hx hb dX8_end_2 (by decide) ?_
  refine lv_aload_n hx hb dX8_end_3 rfl (lv_at hl 0 rfl) ?_
  refine va_get (D := D) (ci := 8) (v := .int t_taped) (C := RX8) (T := TX8) (N := 23) hx hb hts iX8 hown hK.1 hP 0 rfl rfl 2 (by decide) f0 (fun _ h9 => h9) rfl dX8_end_4 ?_
  refine lv_i2l (v := t_taped.toInt64) hx hb dX8_end_7 rfl ?_
  refine vp_callSi (W.runS (As := [.long x1.toInt64, .long (0 : Int64), .long t_taped.toInt64]) (rest := []) CF (c_X8_in l x1.toInt64 (0 : Int64) t_taped.toInt64 _ h) (va_cwS 3 hts gX8_end_X8_in rfl rfl rfl qX8_in.2 ⟨Nat.le_of_ble_eq_true rfl, Nat.le_of_ble_eq_true rfl⟩) mpSN rfl rfl hl.1 rfl (lv_room (Nat.le_of_ble_eq_true rfl)) dX8_end_8 ⟨Nat.zero_le _, Nat.zero_le _⟩) (fun r1 h => ?_)
  refine lv_if_ne (tgt := 16) hx hb dX8_end_11 (by decide) (fun hc => ?_) (fun hc => ?_)
  · replace h := h.1 hc
    refine lv_aload_n hx hb dX8_end_16 rfl (lv_at hl 0 rfl) ?_
    refine va_get (D := D) (ci := 8) (v := .int t_taped) (C := RX8) (T := TX8) (N := 23) hx hb hts iX8 hown hK.1 hP 0 rfl rfl 2 (by decide) f0 (fun _ h9 => h9) rfl dX8_end_17 ?_
    refine lv_istore_n (lv' := [(2, .int t_taped), (0, .ref A_t), (1, .int x1)]) hx hb dX8_end_20 rfl hl (by decide) rfl (fun ls hl => ?_)
    refine lv_aload_n hx hb dX8_end_21 rfl (lv_at hl 1 rfl) ?_
    refine lv_iload_n hx hb dX8_end_22 rfl (lv_at hl 2 rfl) ?_
    refine va_put (D := D) (ci := 8) (v := .int x1) (ty := .int) (C := RX8) (T := TX8) (N := 23) hx hb hts iX8 tyX8 tyX8_ok nmX8 hown hK.1 hP hD hS 0 rfl rfl 2 (by decide) f0 (fun _ h9 => h9) rfl (tyX8_ok 2 (by decide)) rfl rfl (Nat.le_of_ble_eq_true rfl) dX8_end_23 (fun H locs hP hD hS => ?_)
    have hP : va_P D vwCl [(A_t, .inr (8, [.ref A_t_state, .ref A_t_tape, .int x1, .int t_fault, .int t_broken, .int t_brokenAt, .int t_spot, .int t_here, .int t_token, .int t_value, .int t_isRealTold, .ref A_t_ends, .ref A_t_letters, .ref A_t_least, .ref A_t_conflicts, .int t_conflictMany, .ref A_t_behind, .ref A_t_placed, .ref A_t_isKept, .ref A_t_lanes, .ref A_t_lengths, .ref A_t_cells, .int t_torn]))] H := hP
    have hD : va_D A [(A_t, .inr (8, [.ref A_t_state, .ref A_t_tape, .int x1, .int t_fault, .int t_broken, .int t_brokenAt, .int t_spot, .int t_here, .int t_token, .int t_value, .int t_isRealTold, .ref A_t_ends, .ref A_t_letters, .ref A_t_least, .ref A_t_conflicts, .int t_conflictMany, .ref A_t_behind, .ref A_t_placed, .ref A_t_isKept, .ref A_t_lanes, .ref A_t_lengths, .ref A_t_cells, .int t_torn]))] := hD
    refine lv_iload_n hx hb dX8_end_26 rfl (lv_at hl 0 rfl) ?_
    subst hQ
    subst hAe
    exact W.iret (v := t_taped) hx hb hr (fun t ht _ => ⟨⟨t_taped, x1, rfl, h, by rw [ht]; exact hP, hD⟩, hS.F ht⟩) hS.2.2 dX8_end_27
  · replace h := h.2 hc
    refine lv_iconst (v := -1) hx hb dX8_end_14 (by decide) ?_
    subst hQ
    subst hAe
    exact W.iret (v := (-1 : Int32)) hx hb hr (fun t ht _ => ⟨⟨(-1 : Int32), t_taped, rfl, h, by rw [ht]; exact hP, hD⟩, hS.F ht⟩) hS.2.2 dX8_end_15
theorem qX8_byteAt : yX8_byteAt.cls = RX8 ∧ yX8_byteAt.cls ≠ "java/lang/invoke/MethodHandle" ∧ yX8_byteAt.cls ≠ "java/lang/invoke/VarHandle" ∧ (parseMethodDescriptor yX8_byteAt.desc).map (fun d => d.parameters.length) = some 1 := by decide +kernel
def P_X8_byteAt (post : Int32 → Prop) (t_taped : Int32) (t_tape : Nat → Int32) (x1 : Int32) : Prop :=
  ((t_taped ≤ x1 → post (-4 : Int32)) ∧ (¬ t_taped ≤ x1 → (vp_in x1 320 ∧ post (t_tape x1.toNatClampNeg))))
set_option maxHeartbeats 4000000 in
set_option maxRecDepth 100000 in
theorem c_X8_byteAt (l : Launch) (D : va_G) (cy : Nat → ClassId) (A_t A_t_state A_t_tape A_t_ends A_t_letters A_t_least A_t_conflicts A_t_behind A_t_placed A_t_isKept A_t_lanes A_t_lengths A_t_cells : Nat) (t_taped : Int32) (t_fault : Int32) (t_broken : Int32) (t_brokenAt : Int32) (t_spot : Int32) (t_here : Int32) (t_token : Int32) (t_value : Int32) (t_isRealTold : Int32) (t_conflictMany : Int32) (t_torn : Int32) (t_tape : Nat → Int32) (x1 : Int32) (post : Int32 → Prop) (h : P_X8_byteAt post t_taped t_tape x1) : Met l yX8_byteAt wsX8_byteAt { frames := 0, cells := 0, slots := 0, locals := 0 } (pcR D cy [(A_t, .inr (8, [.ref A_t_state, .ref A_t_tape, .int t_taped, .int t_fault, .int t_broken, .int t_brokenAt, .int t_spot, .int t_here, .int t_token, .int t_value, .int t_isRealTold, .ref A_t_ends, .ref A_t_letters, .ref A_t_least, .ref A_t_conflicts, .int t_conflictMany, .ref A_t_behind, .ref A_t_placed, .ref A_t_isKept, .ref A_t_lanes, .ref A_t_lengths, .ref A_t_cells, .int t_torn])), (A_t_tape, .inl (cy 1, 320, .inl t_tape))] [.ref A_t, .int x1]) (vp_Si post) 0 0 (fun _ => False) := by
  refine Met.ofW (cc := cX8_byteAt) (maxL := 2) (ret := (some .int)) (by decide) rfl ?_
  intro p e s m args below meth c s₁ B hml hv
  obtain ⟨rfl, hP, hK⟩ := hv
  have hx := B.exec
  have hb := B.bytes
  have hr := B.returns
  have hts := atoms_spec (ws := wsX8_byteAt) B.pre
  have hown : s.vm.findClass RX8 = some m.cls := findClass_of_methodNamed B.named
  have hlocks := B.notSynchronized
  have CF : CallFix p m c cX8_byteAt 2 s ([.ref A_t, .int x1] : List Value).toArray wsX8_byteAt RX8 := ⟨hx, hb, hml, hown, hts⟩
  have f0 := hts (.fieldLink RX8 54 "GapBoundsModel" "taped" "I") (by decide +kernel)
  have f1 := hts (.fieldLink RX8 13 "GapBoundsModel" "tape" "[I") (by decide +kernel)
  have iX8 : ∀ w ∈ u_ws RX8 TX8 23, w ∈ wsX8_byteAt := by decide +kernel
  have hl := lv_entry [.ref A_t, .int x1] (n := 2) (Nat.le_of_ble_eq_true rfl)
  rw [lg_entry_eq]
  generalize (lg_sl [.ref A_t, .int x1] ++ List.replicate (2 - (lg_sl [.ref A_t, .int x1]).length) Slot.unset).toArray = ls at hl ⊢
  have hl : lv_has ls 2 [(0, .ref A_t), (1, .int x1)] := hl
  refine W.gen (fun Q0 hQ => ?_)
  unfold P_X8_byteAt at h
  refine lv_iload_n hx hb dX8_byteAt_0 rfl (lv_at hl 1 rfl) ?_
  refine lv_aload_n hx hb dX8_byteAt_1 rfl (lv_at hl 0 rfl) ?_
  refine va_get (D := D) (ci := 8) (v := .int t_taped) (C := RX8) (T := TX8) (N := 23) hx hb hts iX8 hown hK.1 hP 0 rfl rfl 2 (by decide) f0 (fun _ h9 => h9) rfl dX8_byteAt_2 ?_
  refine lv_icmp_ge (tgt := 17) hx hb dX8_byteAt_5 (by decide) (fun hc => ?_) (fun hc => ?_)
  · replace h := h.1 hc
    refine lv_bipush (v := -4) hx hb dX8_byteAt_17 (by decide) ?_
    subst hQ
    exact W.iret (v := (-4 : Int32)) hx hb hr (fun t ht _ => ⟨(-4 : Int32), rfl, h, ht⟩) (fun _ hq => absurd hq List.not_mem_nil) dX8_byteAt_19
  · replace h := h.2 hc
    refine lv_aload_n hx hb dX8_byteAt_8 rfl (lv_at hl 0 rfl) ?_
    refine va_get (D := D) (ci := 8) (v := .ref A_t_tape) (C := RX8) (T := TX8) (N := 23) hx hb hts iX8 hown hK.1 hP 0 rfl rfl 1 (by decide) f1 (fun _ h9 => h9) rfl dX8_byteAt_9 ?_
    refine lv_iload_n hx hb dX8_byteAt_12 rfl (lv_at hl 1 rfl) ?_
    refine va_iald hx hb hK.1 hP 1 1 rfl rfl h.1 dX8_byteAt_13 ?_
    replace h := h.2
    refine lv_goto (tgt := 19) hx hb dX8_byteAt_14 (by decide) ?_
    subst hQ
    exact W.iret (v := t_tape x1.toNatClampNeg) hx hb hr (fun t ht _ => ⟨t_tape x1.toNatClampNeg, rfl, h, ht⟩) (fun _ hq => absurd hq List.not_mem_nil) dX8_byteAt_19
theorem qX8_fails : yX8_fails.cls = RX8 ∧ yX8_fails.cls ≠ "java/lang/invoke/MethodHandle" ∧ yX8_fails.cls ≠ "java/lang/invoke/VarHandle" ∧ (parseMethodDescriptor yX8_fails.desc).map (fun d => d.parameters.length) = some 1 := by decide +kernel
def P_X8_fails (post : Int32 → Int32 → Prop) (t_broken : Int32) (t_brokenAt : Int32) (t_here : Int32) (x1 : Int32) : Prop :=
  ((¬ t_broken = 0 → post t_broken t_brokenAt) ∧ (t_broken = 0 → post x1 t_here))
set_option maxHeartbeats 4000000 in
set_option maxRecDepth 100000 in
theorem c_X8_fails (l : Launch) (D : va_G) (cy : Nat → ClassId) (sz : Nat) (A_t A_t_state A_t_tape A_t_ends A_t_letters A_t_least A_t_conflicts A_t_behind A_t_placed A_t_isKept A_t_lanes A_t_lengths A_t_cells : Nat) (t_taped : Int32) (t_fault : Int32) (t_broken : Int32) (t_brokenAt : Int32) (t_spot : Int32) (t_here : Int32) (t_token : Int32) (t_value : Int32) (t_isRealTold : Int32) (t_conflictMany : Int32) (t_torn : Int32) (x1 : Int32) (post : Int32 → Int32 → Prop) (h : P_X8_fails post t_broken t_brokenAt t_here x1) : Met l yX8_fails wsX8_fails { frames := 0, cells := 0, slots := 0, locals := 0 } (pcW D cy [(A_t, .inr (8, [.ref A_t_state, .ref A_t_tape, .int t_taped, .int t_fault, .int t_broken, .int t_brokenAt, .int t_spot, .int t_here, .int t_token, .int t_value, .int t_isRealTold, .ref A_t_ends, .ref A_t_letters, .ref A_t_least, .ref A_t_conflicts, .int t_conflictMany, .ref A_t_behind, .ref A_t_placed, .ref A_t_isKept, .ref A_t_lanes, .ref A_t_lengths, .ref A_t_cells, .int t_torn]))] sz [.ref A_t, .int x1]) (va_Qv (fun (u : Int32 × Int32) => post u.1 u.2) (bW D [(A_t, .inr (8, [.ref A_t_state, .ref A_t_tape, .int t_taped, .int t_fault, .int t_broken, .int t_brokenAt, .int t_spot, .int t_here, .int t_token, .int t_value, .int t_isRealTold, .ref A_t_ends, .ref A_t_letters, .ref A_t_least, .ref A_t_conflicts, .int t_conflictMany, .ref A_t_behind, .ref A_t_placed, .ref A_t_isKept, .ref A_t_lanes, .ref A_t_lengths, .ref A_t_cells, .int t_torn]))] sz (fun u => [(A_t, .inr (8, [.ref A_t_state, .ref A_t_tape, .int t_taped, .int t_fault, .int (u.1), .int (u.2), .int t_spot, .int t_here, .int t_token, .int t_value, .int t_isRealTold, .ref A_t_ends, .ref A_t_letters, .ref A_t_least, .ref A_t_conflicts, .int t_conflictMany, .ref A_t_behind, .ref A_t_placed, .ref A_t_isKept, .ref A_t_lanes, .ref A_t_lengths, .ref A_t_cells, .int t_torn]))])) (va_A [(A_t, .inr (8, [.ref A_t_state, .ref A_t_tape, .int t_taped, .int t_fault, .int t_broken, .int t_brokenAt, .int t_spot, .int t_here, .int t_token, .int t_value, .int t_isRealTold, .ref A_t_ends, .ref A_t_letters, .ref A_t_least, .ref A_t_conflicts, .int t_conflictMany, .ref A_t_behind, .ref A_t_placed, .ref A_t_isKept, .ref A_t_lanes, .ref A_t_lengths, .ref A_t_cells, .int t_torn]))] sz)) 0 0 (va_A [(A_t, .inr (8, [.ref A_t_state, .ref A_t_tape, .int t_taped, .int t_fault, .int t_broken, .int t_brokenAt, .int t_spot, .int t_here, .int t_token, .int t_value, .int t_isRealTold, .ref A_t_ends, .ref A_t_letters, .ref A_t_least, .ref A_t_conflicts, .int t_conflictMany, .ref A_t_behind, .ref A_t_placed, .ref A_t_isKept, .ref A_t_lanes, .ref A_t_lengths, .ref A_t_cells, .int t_torn]))] sz) := by
  refine Met.ofW (cc := cX8_fails) (maxL := 2) (ret := none) (by decide) rfl ?_
  intro p e s m args below meth c s₁ B hml hv
  obtain ⟨rfl, hsz, hP, hK, hD0⟩ := hv
  have hx := B.exec
  have hb := B.bytes
  have hr := B.returns
  have hts := atoms_spec (ws := wsX8_fails) B.pre
  have hown : s.vm.findClass RX8 = some m.cls := findClass_of_methodNamed B.named
  have hlocks := B.notSynchronized
  have CF : CallFix p m c cX8_fails 2 s ([.ref A_t, .int x1] : List Value).toArray wsX8_fails RX8 := ⟨hx, hb, hml, hown, hts⟩
  have f0 := hts (.fieldLink RX8 58 "GapBoundsModel" "broken" "I") (by decide +kernel)
  have f1 := hts (.fieldLink RX8 61 "GapBoundsModel" "here" "I") (by decide +kernel)
  have f2 := hts (.fieldLink RX8 64 "GapBoundsModel" "brokenAt" "I") (by decide +kernel)
  have iX8 : ∀ w ∈ u_ws RX8 TX8 23, w ∈ wsX8_fails := by decide +kernel
  subst hsz
  obtain ⟨A, hAe⟩ : ∃ A, A = va_A [(A_t, .inr (8, [.ref A_t_state, .ref A_t_tape, .int t_taped, .int t_fault, .int t_broken, .int t_brokenAt, .int t_spot, .int t_here, .int t_token, .int t_value, .int t_isRealTold, .ref A_t_ends, .ref A_t_letters, .ref A_t_least, .ref A_t_conflicts, .int t_conflictMany, .ref A_t_behind, .ref A_t_placed, .ref A_t_isKept, .ref A_t_lanes, .ref A_t_lengths, .ref A_t_cells, .int t_torn]))] s.heap.size := ⟨_, rfl⟩
  have hD : va_D A [(A_t, .inr (8, [.ref A_t_state, .ref A_t_tape, .int t_taped, .int t_fault, .int t_broken, .int t_brokenAt, .int t_spot, .int t_here, .int t_token, .int t_value, .int t_isRealTold, .ref A_t_ends, .ref A_t_letters, .ref A_t_least, .ref A_t_conflicts, .int t_conflictMany, .ref A_t_behind, .ref A_t_placed, .ref A_t_isKept, .ref A_t_lanes, .ref A_t_lengths, .ref A_t_cells, .int t_torn]))] := by rw [hAe]; exact hD0.self
  have hA : ∀ q : Nat, s.heap.size ≤ q → A q := fun q hq => by rw [hAe]; exact Or.inr hq
  have hS : va_S A s.heap s.heap [] := va_S.rf
  have hl := lv_entry [.ref A_t, .int x1] (n := 2) (Nat.le_of_ble_eq_true rfl)
  rw [lg_entry_eq]
  generalize (lg_sl [.ref A_t, .int x1] ++ List.replicate (2 - (lg_sl [.ref A_t, .int x1]).length) Slot.unset).toArray = ls at hl ⊢
  have hl : lv_has ls 2 [(0, .ref A_t), (1, .int x1)] := hl
  refine W.gen (fun Q0 hQ => ?_)
  unfold P_X8_fails at h
  refine lv_aload_n hx hb dX8_fails_0 rfl (lv_at hl 0 rfl) ?_
  refine va_get (D := D) (ci := 8) (v := .int t_broken) (C := RX8) (T := TX8) (N := 23) hx hb hts iX8 hown hK.1 hP 0 rfl rfl 4 (by decide) f0 (fun _ h9 => h9) rfl dX8_fails_1 ?_
  refine lv_if_ne (tgt := 20) hx hb dX8_fails_4 (by decide) (fun hc => ?_) (fun hc => ?_)
  · replace h := h.1 hc
    subst hQ
    subst hAe
    exact W.vret hx hb hr (fun t ht _ => ⟨⟨(t_broken, t_brokenAt), rfl, h, by rw [ht]; exact hP, hD⟩, hS.F ht⟩) hS.2.2 dX8_fails_20
  · replace h := h.2 hc
    refine lv_aload_n hx hb dX8_fails_7 rfl (lv_at hl 0 rfl) ?_
    refine lv_iload_n hx hb dX8_fails_8 rfl (lv_at hl 1 rfl) ?_
    refine va_put (D := D) (ci := 8) (v := .int x1) (ty := .int) (C := RX8) (T := TX8) (N := 23) hx hb hts iX8 tyX8 tyX8_ok nmX8 hown hK.1 hP hD hS 0 rfl rfl 4 (by decide) f0 (fun _ h9 => h9) rfl (tyX8_ok 4 (by decide)) rfl rfl (Nat.le_of_ble_eq_true rfl) dX8_fails_9 (fun H locs hP hD hS => ?_)
    have hP : va_P D vwCl [(A_t, .inr (8, [.ref A_t_state, .ref A_t_tape, .int t_taped, .int t_fault, .int x1, .int t_brokenAt, .int t_spot, .int t_here, .int t_token, .int t_value, .int t_isRealTold, .ref A_t_ends, .ref A_t_letters, .ref A_t_least, .ref A_t_conflicts, .int t_conflictMany, .ref A_t_behind, .ref A_t_placed, .ref A_t_isKept, .ref A_t_lanes, .ref A_t_lengths, .ref A_t_cells, .int t_torn]))] H := hP
    have hD : va_D A [(A_t, .inr (8, [.ref A_t_state, .ref A_t_tape, .int t_taped, .int t_fault, .int x1, .int t_brokenAt, .int t_spot, .int t_here, .int t_token, .int t_value, .int t_isRealTold, .ref A_t_ends, .ref A_t_letters, .ref A_t_least, .ref A_t_conflicts, .int t_conflictMany, .ref A_t_behind, .ref A_t_placed, .ref A_t_isKept, .ref A_t_lanes, .ref A_t_lengths, .ref A_t_cells, .int t_torn]))] := hD
    refine lv_aload_n hx hb dX8_fails_12 rfl (lv_at hl 0 rfl) ?_
    refine lv_aload_n hx hb dX8_fails_13 rfl (lv_at hl 0 rfl) ?_
    refine va_get (D := D) (ci := 8) (v := .int t_here) (C := RX8) (T := TX8) (N := 23) hx hb hts iX8 hown hK.1 hP 0 rfl rfl 7 (by decide) f1 (fun _ h9 => h9) rfl dX8_fails_14 ?_
    refine va_put (D := D) (ci := 8) (v := .int t_here) (ty := .int) (C := RX8) (T := TX8) (N := 23) hx hb hts iX8 tyX8 tyX8_ok nmX8 hown hK.1 hP hD hS 0 rfl rfl 5 (by decide) f2 (fun _ h9 => h9) rfl (tyX8_ok 5 (by decide)) rfl rfl (Nat.le_of_ble_eq_true rfl) dX8_fails_17 (fun H locs hP hD hS => ?_)
    have hP : va_P D vwCl [(A_t, .inr (8, [.ref A_t_state, .ref A_t_tape, .int t_taped, .int t_fault, .int x1, .int t_here, .int t_spot, .int t_here, .int t_token, .int t_value, .int t_isRealTold, .ref A_t_ends, .ref A_t_letters, .ref A_t_least, .ref A_t_conflicts, .int t_conflictMany, .ref A_t_behind, .ref A_t_placed, .ref A_t_isKept, .ref A_t_lanes, .ref A_t_lengths, .ref A_t_cells, .int t_torn]))] H := hP
    have hD : va_D A [(A_t, .inr (8, [.ref A_t_state, .ref A_t_tape, .int t_taped, .int t_fault, .int x1, .int t_here, .int t_spot, .int t_here, .int t_token, .int t_value, .int t_isRealTold, .ref A_t_ends, .ref A_t_letters, .ref A_t_least, .ref A_t_conflicts, .int t_conflictMany, .ref A_t_behind, .ref A_t_placed, .ref A_t_isKept, .ref A_t_lanes, .ref A_t_lengths, .ref A_t_cells, .int t_torn]))] := hD
    subst hQ
    subst hAe
    exact W.vret hx hb hr (fun t ht _ => ⟨⟨(x1, t_here), rfl, h, by rw [ht]; exact hP, hD⟩, hS.F ht⟩) hS.2.2 dX8_fails_20
theorem qX8_nameHere : yX8_nameHere.cls = RX8 ∧ yX8_nameHere.cls ≠ "java/lang/invoke/MethodHandle" ∧ yX8_nameHere.cls ≠ "java/lang/invoke/VarHandle" ∧ (parseMethodDescriptor yX8_nameHere.desc).map (fun d => d.parameters.length) = some 0 := by decide +kernel
def B_X8_nameHere_106 (post : Int32 → Prop) (K_2 : Int32 → Prop) (x1 : Int32) (x2 : Int32) : Prop :=
  ((x2 = 0 → K_2 (x1 + (1 : Int32))) ∧ (¬ x2 = 0 → post x1))
def B_X8_nameHere_99 (K_51 : Int32 → Int32 → Prop) (k0 : Int32) (x3 : Int32) : Prop :=
  K_51 k0 (x3 + (1 : Int32))
def LB_X8_nameHere_51 (post : Int32 → Prop) (K_2 : Int32 → Prop) (t_taped : Int32) (t_spot : Int32) (t_here : Int32) (t_ends : Nat → Int32) (t_tape : Nat → Int32) (t_letters : Nat → Int32) (x1 : Int32) (K_51 : Int32 → Int32 → Prop) (x2 : Int32) (x3 : Int32) : Prop :=
  ((x2 = 0 → B_X8_nameHere_106 post K_2 x1 x2) ∧ (¬ x2 = 0 → ((t_spot - t_here ≤ x3 → B_X8_nameHere_106 post K_2 x1 x2) ∧ (¬ t_spot - t_here ≤ x3 → P_X8_byteAt (fun (r1 : Int32) => (vp_in x1 7 ∧ (vp_in ((t_ends x1.toNatClampNeg) + x3) 25 ∧ ((¬ r1 = t_letters ((t_ends x1.toNatClampNeg) + x3).toNatClampNeg → B_X8_nameHere_99 K_51 (0 : Int32) x3) ∧ (r1 = t_letters ((t_ends x1.toNatClampNeg) + x3).toNatClampNeg → B_X8_nameHere_99 K_51 (1 : Int32) x3))))) t_taped t_tape (t_here + x3)))))
noncomputable def L_X8_nameHere_51 (post : Int32 → Prop) (K_2 : Int32 → Prop) (t_taped : Int32) (t_spot : Int32) (t_here : Int32) (t_ends : Nat → Int32) (t_tape : Nat → Int32) (t_letters : Nat → Int32) (x1 : Int32) (n : Nat) : Int32 → Int32 → Prop := Nat.rec (motive := fun _ => Int32 → Int32 → Prop) (fun _ _ => False) (fun _ K => LB_X8_nameHere_51 post K_2 t_taped t_spot t_here t_ends t_tape t_letters x1 K) n
def B_X8_nameHere_48 (post : Int32 → Prop) (K_2 : Int32 → Prop) (t_taped : Int32) (t_spot : Int32) (t_here : Int32) (t_ends : Nat → Int32) (t_tape : Nat → Int32) (t_letters : Nat → Int32) (k0 : Int32) (x1 : Int32) : Prop :=
  ∃ n : Nat, L_X8_nameHere_51 post K_2 t_taped t_spot t_here t_ends t_tape t_letters x1 n k0 (0 : Int32)
def LB_X8_nameHere_2 (post : Int32 → Prop) (t_taped : Int32) (t_spot : Int32) (t_here : Int32) (t_token : Int32) (t_ends : Nat → Int32) (t_tape : Nat → Int32) (t_letters : Nat → Int32) (K_2 : Int32 → Prop) (x1 : Int32) : Prop :=
  (((6 : Int32) ≤ x1 → post (-4 : Int32)) ∧ (¬ (6 : Int32) ≤ x1 → ((¬ t_token = (1 : Int32) → post (-4 : Int32)) ∧ (t_token = (1 : Int32) → (vp_in (x1 + (1 : Int32)) 7 ∧ (vp_in x1 7 ∧ ((¬ t_spot - t_here = (t_ends (x1 + (1 : Int32)).toNatClampNeg) - (t_ends x1.toNatClampNeg) → B_X8_nameHere_48 post K_2 t_taped t_spot t_here t_ends t_tape t_letters (0 : Int32) x1) ∧ (t_spot - t_here = (t_ends (x1 + (1 : Int32)).toNatClampNeg) - (t_ends x1.toNatClampNeg) → B_X8_nameHere_48 post K_2 t_taped t_spot t_here t_ends t_tape t_letters (1 : Int32) x1))))))))
noncomputable def L_X8_nameHere_2 (post : Int32 → Prop) (t_taped : Int32) (t_spot : Int32) (t_here : Int32) (t_token : Int32) (t_ends : Nat → Int32) (t_tape : Nat → Int32) (t_letters : Nat → Int32) (n : Nat) : Int32 → Prop := Nat.rec (motive := fun _ => Int32 → Prop) (fun _ => False) (fun _ K => LB_X8_nameHere_2 post t_taped t_spot t_here t_token t_ends t_tape t_letters K) n
def P_X8_nameHere (post : Int32 → Prop) (t_taped : Int32) (t_spot : Int32) (t_here : Int32) (t_token : Int32) (t_ends : Nat → Int32) (t_tape : Nat → Int32) (t_letters : Nat → Int32) : Prop :=
  ∃ n : Nat, L_X8_nameHere_2 post t_taped t_spot t_here t_token t_ends t_tape t_letters n (0 : Int32)
set_option maxHeartbeats 4000000 in
set_option maxRecDepth 100000 in
theorem c_X8_nameHere (l : Launch) (D : va_G) (cy : Nat → ClassId) (A_t A_t_state A_t_tape A_t_ends A_t_letters A_t_least A_t_conflicts A_t_behind A_t_placed A_t_isKept A_t_lanes A_t_lengths A_t_cells : Nat) (t_taped : Int32) (t_fault : Int32) (t_broken : Int32) (t_brokenAt : Int32) (t_spot : Int32) (t_here : Int32) (t_token : Int32) (t_value : Int32) (t_isRealTold : Int32) (t_conflictMany : Int32) (t_torn : Int32) (t_ends : Nat → Int32) (t_tape : Nat → Int32) (t_letters : Nat → Int32) (post : Int32 → Prop) (h : P_X8_nameHere post t_taped t_spot t_here t_token t_ends t_tape t_letters) : Met l yX8_nameHere wsX8_nameHere { frames := 1, cells := 0, slots := 0, locals := 21 } (pcR D cy [(A_t, .inr (8, [.ref A_t_state, .ref A_t_tape, .int t_taped, .int t_fault, .int t_broken, .int t_brokenAt, .int t_spot, .int t_here, .int t_token, .int t_value, .int t_isRealTold, .ref A_t_ends, .ref A_t_letters, .ref A_t_least, .ref A_t_conflicts, .int t_conflictMany, .ref A_t_behind, .ref A_t_placed, .ref A_t_isKept, .ref A_t_lanes, .ref A_t_lengths, .ref A_t_cells, .int t_torn])), (A_t_ends, .inl (cy 1, 7, .inl t_ends)), (A_t_tape, .inl (cy 1, 320, .inl t_tape)), (A_t_letters, .inl (cy 1, 25, .inl t_letters))] [.ref A_t]) (vp_Si post) 0 0 (fun _ => False) := by
  refine Met.ofW (cc := cX8_nameHere) (maxL := 4) (ret := (some .int)) (by decide) rfl ?_
  intro p e s m args below meth c s₁ B hml hv
  obtain ⟨rfl, hP, hK⟩ := hv
  have hx := B.exec
  have hb := B.bytes
  have hr := B.returns
  have hts := atoms_spec (ws := wsX8_nameHere) B.pre
  have hown : s.vm.findClass RX8 = some m.cls := findClass_of_methodNamed B.named
  have hlocks := B.notSynchronized
  have CF : CallFix p m c cX8_nameHere 4 s ([.ref A_t] : List Value).toArray wsX8_nameHere RX8 := ⟨hx, hb, hml, hown, hts⟩
  have f0 := hts (.fieldLink RX8 67 "GapBoundsModel" "token" "I") (by decide +kernel)
  have f1 := hts (.fieldLink RX8 70 "GapBoundsModel" "spot" "I") (by decide +kernel)
  have f2 := hts (.fieldLink RX8 61 "GapBoundsModel" "here" "I") (by decide +kernel)
  have f3 := hts (.fieldLink RX8 16 "GapBoundsModel" "ends" "[I") (by decide +kernel)
  have f4 := hts (.fieldLink RX8 19 "GapBoundsModel" "letters" "[I") (by decide +kernel)
  have iX8 : ∀ w ∈ u_ws RX8 TX8 23, w ∈ wsX8_nameHere := by decide +kernel
  have hl := lv_entry [.ref A_t] (n := 4) (Nat.le_of_ble_eq_true rfl)
  rw [lg_entry_eq]
  generalize (lg_sl [.ref A_t] ++ List.replicate (4 - (lg_sl [.ref A_t]).length) Slot.unset).toArray = ls at hl ⊢
  have hl : lv_has ls 4 [(0, .ref A_t)] := hl
  refine W.gen (fun Q0 hQ => ?_)
  have L2 : ∀ (n2 : Nat) (x1 : Int32) (ls : Array Slot), L_X8_nameHere_2 post t_taped t_spot t_here t_token t_ends t_tape t_letters n2 x1 → lv_has ls 4 [(0, .ref A_t), (1, .int x1)] → W p l e (headSpec wsX8_nameHere { frames := 1, cells := 0, slots := 0, locals := 21 }).room s m ([.ref A_t] : List Value).toArray below meth c s.heap [] 0 0 Q0 (F0 m 2 ls []) := by
    intro n2
    induction n2 with
    | zero => intro x1 ls h; exact False.elim h
    | succ n2 ih2 =>
      intro x1 ls h hl
      have h : LB_X8_nameHere_2 post t_taped t_spot t_here t_token t_ends t_tape t_letters (L_X8_nameHere_2 post t_taped t_spot t_here t_token t_ends t_tape t_letters n2) x1 := h
      unfold LB_X8_nameHere_2 at h
      have J106 : ∀ (x1 : Int32) (x2 : Int32) (ls : Array Slot), B_X8_nameHere_106 post (L_X8_nameHere_2 post t_taped t_spot t_here t_token t_ends t_tape t_letters n2) x1 x2 → lv_has ls 4 [(0, .ref A_t), (1, .int x1), (2, .int x2)] → W p l e (headSpec wsX8_nameHere { frames := 1, cells := 0, slots := 0, locals := 21 }).room s m ([.ref A_t] : List Value).toArray below meth c s.heap [] 0 0 Q0 (F0 m 106 ls []) := by
        intro x1 x2 ls h hl
        unfold B_X8_nameHere_106 at h
        refine lv_iload_n hx hb dX8_nameHere_106 rfl (lv_at hl 2 rfl) ?_
        refine lv_if_eq (tgt := 112) hx hb dX8_nameHere_107 (by decide) (fun hc => ?_) (fun hc => ?_)
        · replace h := h.1 hc
          refine lv_iinc (v := x1 + (1 : Int32)) (lv' := [(1, .int (x1 + (1 : Int32))), (0, .ref A_t), (2, .int x2)]) hx hb dX8_nameHere_112 hl (k := 1) rfl rfl (by decide) rfl (fun ls hl => ?_)
          refine lv_goto (tgt := 2) hx hb dX8_nameHere_115 (by decide) ?_
          exact ih2 (x1 + (1 : Int32)) ls h (lv_sub hl [1, 0] rfl)
        · replace h := h.2 hc
          refine lv_iload_n hx hb dX8_nameHere_110 rfl (lv_at hl 1 rfl) ?_
          subst hQ
          exact W.iret (v := x1) hx hb hr (fun t ht _ => ⟨x1, rfl, h, ht⟩) (fun _ hq => absurd hq List.not_mem_nil) dX8_nameHere_111
      have L51 : ∀ (n51 : Nat) (x1 : Int32) (x2 : Int32) (x3 : Int32) (ls : Array Slot), L_X8_nameHere_51 post (L_X8_nameHere_2 post t_taped t_spot t_here t_token t_ends t_tape t_letters n2) t_taped t_spot t_here t_ends t_tape t_letters x1 n51 x2 x3 → lv_has ls 4 [(0, .ref A_t), (1, .int x1), (2, .int x2), (3, .int x3)] → W p l e (headSpec wsX8_nameHere { frames := 1, cells := 0, slots := 0, locals := 21 }).room s m ([.ref A_t] : List Value).toArray below meth c s.heap [] 0 0 Q0 (F0 m 51 ls []) := by
        intro n51
        induction n51 with
        | zero => intro x1 x2 x3 ls h; exact False.elim h
        | succ n51 ih51 =>
          intro x1 x2 x3 ls h hl
          have h : LB_X8_nameHere_51 post (L_X8_nameHere_2 post t_taped t_spot t_here t_token t_ends t_tape t_letters n2) t_taped t_spot t_here t_ends t_tape t_letters x1 (L_X8_nameHere_51 post (L_X8_nameHere_2 post t_taped t_spot t_here t_token t_ends t_tape t_letters n2) t_taped t_spot t_here t_ends t_tape t_letters x1 n51) x2 x3 := h
          unfold LB_X8_nameHere_51 at h
          have J99 : ∀ (x1 : Int32) (x3 : Int32) (k0 : Int32) (ls : Array Slot), B_X8_nameHere_99 (L_X8_nameHere_51 post (L_X8_nameHere_2 post t_taped t_spot t_here t_token t_ends t_tape t_letters n2) t_taped t_spot t_here t_ends t_tape t_letters x1 n51) k0 x3 → lv_has ls 4 [(0, .ref A_t), (1, .int x1), (3, .int x3)] → W p l e (headSpec wsX8_nameHere { frames := 1, cells := 0, slots := 0, locals := 21 }).room s m ([.ref A_t] : List Value).toArray below meth c s.heap [] 0 0 Q0 (F0 m 99 ls [.int k0]) := by
            intro x1 x3 k0 ls h hl
            unfold B_X8_nameHere_99 at h
            refine lv_istore_n (lv' := [(2, .int k0), (0, .ref A_t), (1, .int x1), (3, .int x3)]) hx hb dX8_nameHere_99 rfl hl (by decide) rfl (fun ls hl => ?_)
            refine lv_iinc (v := x3 + (1 : Int32)) (lv' := [(3, .int (x3 + (1 : Int32))), (2, .int k0), (0, .ref A_t), (1, .int x1)]) hx hb dX8_nameHere_100 hl (k := 3) rfl rfl (by decide) rfl (fun ls hl => ?_)
            refine lv_goto (tgt := 51) hx hb dX8_nameHere_103 (by decide) ?_
            exact ih51 x1 k0 (x3 + (1 : Int32)) ls h (lv_sub hl [2, 3, 1, 0] rfl)
          refine lv_iload_n hx hb dX8_nameHere_51 rfl (lv_at hl 2 rfl) ?_
          refine lv_if_eq (tgt := 106) hx hb dX8_nameHere_52 (by decide) (fun hc => ?_) (fun hc => ?_)
          · replace h := h.1 hc
            exact J106 x1 x2 ls h (lv_sub hl [0, 1, 2] rfl)
          · replace h := h.2 hc
            refine lv_iload_n hx hb dX8_nameHere_55 rfl (lv_at hl 3 rfl) ?_
            refine lv_aload_n hx hb dX8_nameHere_56 rfl (lv_at hl 0 rfl) ?_
            refine va_get (D := D) (ci := 8) (v := .int t_spot) (C := RX8) (T := TX8) (N := 23) hx hb hts iX8 hown hK.1 hP 0 rfl rfl 6 (by decide) f1 (fun _ h9 => h9) rfl dX8_nameHere_57 ?_
            refine lv_aload_n hx hb dX8_nameHere_60 rfl (lv_at hl 0 rfl) ?_
            refine va_get (D := D) (ci := 8) (v := .int t_here) (C := RX8) (T := TX8) (N := 23) hx hb hts iX8 hown hK.1 hP 0 rfl rfl 7 (by decide) f2 (fun _ h9 => h9) rfl dX8_nameHere_61 ?_
            refine lv_isub hx hb dX8_nameHere_64 ?_
            refine lv_icmp_ge (tgt := 106) hx hb dX8_nameHere_65 (by decide) (fun hc => ?_) (fun hc => ?_)
            · replace h := h.1 hc
              exact J106 x1 x2 ls h (lv_sub hl [0, 1, 2] rfl)
            · replace h := h.2 hc
              refine lv_aload_n hx hb dX8_nameHere_68 rfl (lv_at hl 0 rfl) ?_
              refine lv_aload_n hx hb dX8_nameHere_69 rfl (lv_at hl 0 rfl) ?_
              refine va_get (D := D) (ci := 8) (v := .int t_here) (C := RX8) (T := TX8) (N := 23) hx hb hts iX8 hown hK.1 hP 0 rfl rfl 7 (by decide) f2 (fun _ h9 => h9) rfl dX8_nameHere_70 ?_
              refine lv_iload_n hx hb dX8_nameHere_73 rfl (lv_at hl 3 rfl) ?_
              refine lv_iadd hx hb dX8_nameHere_74 ?_
              have hPc := hP.sub (ws' := [(A_t, .inr (8, [.ref A_t_state, .ref A_t_tape, .int t_taped, .int t_fault, .int t_broken, .int t_brokenAt, .int t_spot, .int t_here, .int t_token, .int t_value, .int t_isRealTold, .ref A_t_ends, .ref A_t_letters, .ref A_t_least, .ref A_t_conflicts, .int t_conflictMany, .ref A_t_behind, .ref A_t_placed, .ref A_t_isKept, .ref A_t_lanes, .ref A_t_lengths, .ref A_t_cells, .int t_torn])), (A_t_tape, .inl (cy 1, 320, .inl t_tape))]) [0, 2] rfl
              refine vp_callSi (W.runV (As := [.int (t_here + x3)]) (rest := []) CF (c_X8_byteAt l D cy A_t A_t_state A_t_tape A_t_ends A_t_letters A_t_least A_t_conflicts A_t_behind A_t_placed A_t_isKept A_t_lanes A_t_lengths A_t_cells t_taped t_fault t_broken t_brokenAt t_spot t_here t_token t_value t_isRealTold t_conflictMany t_torn t_tape (t_here + x3) _ h) (cwV 1 hts gX8_nameHere_X8_byteAt rfl rfl rfl qX8_byteAt ⟨Nat.le_of_ble_eq_true rfl, Nat.le_of_ble_eq_true rfl⟩) (mpVR hK hPc (ci := 8) (q := (RX8, TX8, 23)) (q0 := 0) rfl rfl) rfl rfl hl.1 rfl (lv_room (Nat.le_of_ble_eq_true rfl)) dX8_nameHere_75 ⟨Nat.zero_le _, Nat.zero_le _⟩) (fun r1 h => ?_)
              refine lv_aload_n hx hb dX8_nameHere_78 rfl (lv_at hl 0 rfl) ?_
              refine va_get (D := D) (ci := 8) (v := .ref A_t_letters) (C := RX8) (T := TX8) (N := 23) hx hb hts iX8 hown hK.1 hP 0 rfl rfl 12 (by decide) f4 (fun _ h9 => h9) rfl dX8_nameHere_79 ?_
              refine lv_aload_n hx hb dX8_nameHere_82 rfl (lv_at hl 0 rfl) ?_
              refine va_get (D := D) (ci := 8) (v := .ref A_t_ends) (C := RX8) (T := TX8) (N := 23) hx hb hts iX8 hown hK.1 hP 0 rfl rfl 11 (by decide) f3 (fun _ h9 => h9) rfl dX8_nameHere_83 ?_
              refine lv_iload_n hx hb dX8_nameHere_86 rfl (lv_at hl 1 rfl) ?_
              refine va_iald hx hb hK.1 hP 1 1 rfl rfl h.1 dX8_nameHere_87 ?_
              replace h := h.2
              refine lv_iload_n hx hb dX8_nameHere_88 rfl (lv_at hl 3 rfl) ?_
              refine lv_iadd hx hb dX8_nameHere_89 ?_
              refine va_iald hx hb hK.1 hP 3 1 rfl rfl h.1 dX8_nameHere_90 ?_
              replace h := h.2
              refine lv_icmp_ne (tgt := 98) hx hb dX8_nameHere_91 (by decide) (fun hc => ?_) (fun hc => ?_)
              · replace h := h.1 hc
                refine lv_iconst (v := 0) hx hb dX8_nameHere_98 (by decide) ?_
                exact J99 x1 x3 (0 : Int32) ls h (lv_sub hl [0, 1, 3] rfl)
              · replace h := h.2 hc
                refine lv_iconst (v := 1) hx hb dX8_nameHere_94 (by decide) ?_
                refine lv_goto (tgt := 99) hx hb dX8_nameHere_95 (by decide) ?_
                exact J99 x1 x3 (1 : Int32) ls h (lv_sub hl [0, 1, 3] rfl)
      have J48 : ∀ (x1 : Int32) (k0 : Int32) (ls : Array Slot), B_X8_nameHere_48 post (L_X8_nameHere_2 post t_taped t_spot t_here t_token t_ends t_tape t_letters n2) t_taped t_spot t_here t_ends t_tape t_letters k0 x1 → lv_has ls 4 [(0, .ref A_t), (1, .int x1)] → W p l e (headSpec wsX8_nameHere { frames := 1, cells := 0, slots := 0, locals := 21 }).room s m ([.ref A_t] : List Value).toArray below meth c s.heap [] 0 0 Q0 (F0 m 48 ls [.int k0]) := by
        intro x1 k0 ls h hl
        unfold B_X8_nameHere_48 at h
        refine lv_istore_n (lv' := [(2, .int k0), (0, .ref A_t), (1, .int x1)]) hx hb dX8_nameHere_48 rfl hl (by decide) rfl (fun ls hl => ?_)
        refine lv_iconst (v := 0) hx hb dX8_nameHere_49 (by decide) ?_
        refine lv_istore_n (lv' := [(3, .int (0 : Int32)), (2, .int k0), (0, .ref A_t), (1, .int x1)]) hx hb dX8_nameHere_50 rfl hl (by decide) rfl (fun ls hl => ?_)
        obtain ⟨nn, h⟩ := h
        exact L51 nn x1 k0 (0 : Int32) ls h (lv_sub hl [2, 3, 1, 0] rfl)
      refine lv_iload_n hx hb dX8_nameHere_2 rfl (lv_at hl 1 rfl) ?_
      refine lv_bipush (v := 6) hx hb dX8_nameHere_3 (by decide) ?_
      refine lv_icmp_ge (tgt := 118) hx hb dX8_nameHere_5 (by decide) (fun hc => ?_) (fun hc => ?_)
      · replace h := h.1 hc
        refine lv_bipush (v := -4) hx hb dX8_nameHere_118 (by decide) ?_
        subst hQ
        exact W.iret (v := (-4 : Int32)) hx hb hr (fun t ht _ => ⟨(-4 : Int32), rfl, h, ht⟩) (fun _ hq => absurd hq List.not_mem_nil) dX8_nameHere_120
      · replace h := h.2 hc
        refine lv_aload_n hx hb dX8_nameHere_8 rfl (lv_at hl 0 rfl) ?_
        refine va_get (D := D) (ci := 8) (v := .int t_token) (C := RX8) (T := TX8) (N := 23) hx hb hts iX8 hown hK.1 hP 0 rfl rfl 8 (by decide) f0 (fun _ h9 => h9) rfl dX8_nameHere_9 ?_
        refine lv_iconst (v := 1) hx hb dX8_nameHere_12 (by decide) ?_
        refine lv_icmp_ne (tgt := 118) hx hb dX8_nameHere_13 (by decide) (fun hc => ?_) (fun hc => ?_)
        · replace h := h.1 hc
          refine lv_bipush (v := -4) hx hb dX8_nameHere_118 (by decide) ?_
          subst hQ
          exact W.iret (v := (-4 : Int32)) hx hb hr (fun t ht _ => ⟨(-4 : Int32), rfl, h, ht⟩) (fun _ hq => absurd hq List.not_mem_nil) dX8_nameHere_120
        · replace h := h.2 hc
          refine lv_aload_n hx hb dX8_nameHere_16 rfl (lv_at hl 0 rfl) ?_
          refine va_get (D := D) (ci := 8) (v := .int t_spot) (C := RX8) (T := TX8) (N := 23) hx hb hts iX8 hown hK.1 hP 0 rfl rfl 6 (by decide) f1 (fun _ h9 => h9) rfl dX8_nameHere_17 ?_
          refine lv_aload_n hx hb dX8_nameHere_20 rfl (lv_at hl 0 rfl) ?_
          refine va_get (D := D) (ci := 8) (v := .int t_here) (C := RX8) (T := TX8) (N := 23) hx hb hts iX8 hown hK.1 hP 0 rfl rfl 7 (by decide) f2 (fun _ h9 => h9) rfl dX8_nameHere_21 ?_
          refine lv_isub hx hb dX8_nameHere_24 ?_
          refine lv_aload_n hx hb dX8_nameHere_25 rfl (lv_at hl 0 rfl) ?_
          refine va_get (D := D) (ci := 8) (v := .ref A_t_ends) (C := RX8) (T := TX8) (N := 23) hx hb hts iX8 hown hK.1 hP 0 rfl rfl 11 (by decide) f3 (fun _ h9 => h9) rfl dX8_nameHere_26 ?_
          refine lv_iload_n hx hb dX8_nameHere_29 rfl (lv_at hl 1 rfl) ?_
          refine lv_iconst (v := 1) hx hb dX8_nameHere_30 (by decide) ?_
          refine lv_iadd hx hb dX8_nameHere_31 ?_
          refine va_iald hx hb hK.1 hP 1 1 rfl rfl h.1 dX8_nameHere_32 ?_
          replace h := h.2
          refine lv_aload_n hx hb dX8_nameHere_33 rfl (lv_at hl 0 rfl) ?_
          refine va_get (D := D) (ci := 8) (v := .ref A_t_ends) (C := RX8) (T := TX8) (N := 23) hx hb hts iX8 hown hK.1 hP 0 rfl rfl 11 (by decide) f3 (fun _ h9 => h9) rfl dX8_nameHere_34 ?_
          refine lv_iload_n hx hb dX8_nameHere_37 rfl (lv_at hl 1 rfl) ?_
          refine va_iald hx hb hK.1 hP 1 1 rfl rfl h.1 dX8_nameHere_38 ?_
          replace h := h.2
          refine lv_isub hx hb dX8_nameHere_39 ?_
          refine lv_icmp_ne (tgt := 47) hx hb dX8_nameHere_40 (by decide) (fun hc => ?_) (fun hc => ?_)
          · replace h := h.1 hc
            refine lv_iconst (v := 0) hx hb dX8_nameHere_47 (by decide) ?_
            exact J48 x1 (0 : Int32) ls h (lv_sub hl [0, 1] rfl)
          · replace h := h.2 hc
            refine lv_iconst (v := 1) hx hb dX8_nameHere_43 (by decide) ?_
            refine lv_goto (tgt := 48) hx hb dX8_nameHere_44 (by decide) ?_
            exact J48 x1 (1 : Int32) ls h (lv_sub hl [0, 1] rfl)
  unfold P_X8_nameHere at h
  refine lv_iconst (v := 0) hx hb dX8_nameHere_0 (by decide) ?_
  refine lv_istore_n (lv' := [(1, .int (0 : Int32)), (0, .ref A_t)]) hx hb dX8_nameHere_1 rfl hl (by decide) rfl (fun ls hl => ?_)
  obtain ⟨nn, h⟩ := h
  exact L2 nn (0 : Int32) ls h (lv_sub hl [1, 0] rfl)
theorem qX8_readsOn : yX8_readsOn.cls = RX8 ∧ yX8_readsOn.cls ≠ "java/lang/invoke/MethodHandle" ∧ yX8_readsOn.cls ≠ "java/lang/invoke/VarHandle" ∧ (parseMethodDescriptor yX8_readsOn.desc).map (fun d => d.parameters.length) = some 0 := by decide +kernel
def B_X8_readsOn_255 (post : Int32 → Int32 → Int32 → Int32 → Int32 → Int32 → Prop) (t_broken : Int32) (t_brokenAt : Int32) (t_spot : Int32) (t_here : Int32) (t_value : Int32) (k1 : Int32) (x1 : Int32) : Prop :=
  ((x1 = (59 : Int32) → post t_broken t_brokenAt (t_spot + (1 : Int32)) t_here k1 t_value) ∧ (¬ x1 = (59 : Int32) → ((x1 = (45 : Int32) → post t_broken t_brokenAt (t_spot + (1 : Int32)) t_here k1 t_value) ∧ (¬ x1 = (45 : Int32) → P_X8_fails (fun (t_broken_v5 : Int32) (t_brokenAt_v5 : Int32) => post t_broken_v5 t_brokenAt_v5 (t_spot + (1 : Int32)) t_here k1 t_value) t_broken t_brokenAt t_here (1 : Int32)))))
def B_X8_readsOn_201 (K_140 : Int32 → Int32 → Prop) (t_spot : Int32) (k1 : Int32) : Prop :=
  K_140 (t_spot + (1 : Int32)) k1
def LB_X8_readsOn_140 (post : Int32 → Int32 → Int32 → Int32 → Int32 → Int32 → Prop) (t_taped : Int32) (t_broken : Int32) (t_brokenAt : Int32) (t_here : Int32) (t_tape : Nat → Int32) (K_140 : Int32 → Int32 → Prop) (t_spot : Int32) (t_value : Int32) : Prop :=
  P_X8_byteAt (fun (r6 : Int32) => P_X8_in (fun (r7 : Int32) => ((r7 = 0 → ((t_spot - t_here ≤ (4 : Int32) → post t_broken t_brokenAt t_spot t_here (2 : Int32) t_value) ∧ (¬ t_spot - t_here ≤ (4 : Int32) → P_X8_fails (fun (t_broken_v8 : Int32) (t_brokenAt_v8 : Int32) => post t_broken_v8 t_brokenAt_v8 t_spot t_here (2 : Int32) t_value) t_broken t_brokenAt t_here (1 : Int32)))) ∧ (¬ r7 = 0 → (((4 : Int32) ≤ t_spot - t_here → B_X8_readsOn_201 K_140 t_spot t_value) ∧ (¬ (4 : Int32) ≤ t_spot - t_here → P_X8_byteAt (fun (r9 : Int32) => B_X8_readsOn_201 K_140 t_spot ((((10 : Int32) * t_value) + r9) - (48 : Int32))) t_taped t_tape t_spot))))) r6.toInt64 (48 : Int64) (57 : Int64)) t_taped t_tape t_spot
noncomputable def L_X8_readsOn_140 (post : Int32 → Int32 → Int32 → Int32 → Int32 → Int32 → Prop) (t_taped : Int32) (t_broken : Int32) (t_brokenAt : Int32) (t_here : Int32) (t_tape : Nat → Int32) (n : Nat) : Int32 → Int32 → Prop := Nat.rec (motive := fun _ => Int32 → Int32 → Prop) (fun _ _ => False) (fun _ K => LB_X8_readsOn_140 post t_taped t_broken t_brokenAt t_here t_tape K) n
def LB_X8_readsOn_84 (post : Int32 → Int32 → Int32 → Int32 → Int32 → Int32 → Prop) (t_taped : Int32) (t_broken : Int32) (t_brokenAt : Int32) (t_here : Int32) (t_value : Int32) (t_tape : Nat → Int32) (K_84 : Int32 → Prop) (t_spot : Int32) : Prop :=
  P_X8_byteAt (fun (r10 : Int32) => P_X8_in (fun (r11 : Int32) => ((r11 = 0 → post t_broken t_brokenAt t_spot t_here (1 : Int32) t_value) ∧ (¬ r11 = 0 → K_84 (t_spot + (1 : Int32))))) r10.toInt64 (97 : Int64) (122 : Int64)) t_taped t_tape t_spot
noncomputable def L_X8_readsOn_84 (post : Int32 → Int32 → Int32 → Int32 → Int32 → Int32 → Prop) (t_taped : Int32) (t_broken : Int32) (t_brokenAt : Int32) (t_here : Int32) (t_value : Int32) (t_tape : Nat → Int32) (n : Nat) : Int32 → Prop := Nat.rec (motive := fun _ => Int32 → Prop) (fun _ => False) (fun _ K => LB_X8_readsOn_84 post t_taped t_broken t_brokenAt t_here t_value t_tape K) n
def LB_X8_readsOn_8 (post : Int32 → Int32 → Int32 → Int32 → Int32 → Int32 → Prop) (t_taped : Int32) (t_broken : Int32) (t_brokenAt : Int32) (t_tape : Nat → Int32) (K_8 : Int32 → Prop) (t_spot : Int32) : Prop :=
  P_X8_byteAt (fun (r1 : Int32) => ((¬ r1 = (32 : Int32) → P_X8_byteAt (fun (r2 : Int32) => ((¬ r2 = (-4 : Int32) → P_X8_in (fun (r3 : Int32) => ((r3 = 0 → P_X8_in (fun (r4 : Int32) => ((r4 = 0 → ((¬ r2 = (45 : Int32) → B_X8_readsOn_255 post t_broken t_brokenAt t_spot t_spot (0 : Int32) (3 : Int32) r2) ∧ (r2 = (45 : Int32) → B_X8_readsOn_255 post t_broken t_brokenAt t_spot t_spot (0 : Int32) (4 : Int32) r2))) ∧ (¬ r4 = 0 → ∃ n : Nat, L_X8_readsOn_140 post t_taped t_broken t_brokenAt t_spot t_tape n t_spot (0 : Int32)))) r2.toInt64 (48 : Int64) (57 : Int64)) ∧ (¬ r3 = 0 → ∃ n : Nat, L_X8_readsOn_84 post t_taped t_broken t_brokenAt t_spot (0 : Int32) t_tape n t_spot))) r2.toInt64 (97 : Int64) (122 : Int64)) ∧ (r2 = (-4 : Int32) → post t_broken t_brokenAt t_spot t_spot (0 : Int32) (0 : Int32)))) t_taped t_tape t_spot) ∧ (r1 = (32 : Int32) → K_8 (t_spot + (1 : Int32))))) t_taped t_tape t_spot
noncomputable def L_X8_readsOn_8 (post : Int32 → Int32 → Int32 → Int32 → Int32 → Int32 → Prop) (t_taped : Int32) (t_broken : Int32) (t_brokenAt : Int32) (t_tape : Nat → Int32) (n : Nat) : Int32 → Prop := Nat.rec (motive := fun _ => Int32 → Prop) (fun _ => False) (fun _ K => LB_X8_readsOn_8 post t_taped t_broken t_brokenAt t_tape K) n
def P_X8_readsOn (post : Int32 → Int32 → Int32 → Int32 → Int32 → Int32 → Prop) (t_taped : Int32) (t_broken : Int32) (t_brokenAt : Int32) (t_spot : Int32) (t_here : Int32) (t_token : Int32) (t_value : Int32) (t_tape : Nat → Int32) : Prop :=
  ((t_broken ≤ 0 → ∃ n : Nat, L_X8_readsOn_8 post t_taped t_broken t_brokenAt t_tape n t_spot) ∧ (¬ t_broken ≤ 0 → post t_broken t_brokenAt t_spot t_here t_token t_value))
set_option maxHeartbeats 4000000 in
set_option maxRecDepth 100000 in
theorem c_X8_readsOn (l : Launch) (D : va_G) (cy : Nat → ClassId) (sz : Nat) (A_t A_t_state A_t_tape A_t_ends A_t_letters A_t_least A_t_conflicts A_t_behind A_t_placed A_t_isKept A_t_lanes A_t_lengths A_t_cells : Nat) (t_taped : Int32) (t_fault : Int32) (t_broken : Int32) (t_brokenAt : Int32) (t_spot : Int32) (t_here : Int32) (t_token : Int32) (t_value : Int32) (t_isRealTold : Int32) (t_conflictMany : Int32) (t_torn : Int32) (t_tape : Nat → Int32) (post : Int32 → Int32 → Int32 → Int32 → Int32 → Int32 → Prop) (h : P_X8_readsOn post t_taped t_broken t_brokenAt t_spot t_here t_token t_value t_tape) : Met l yX8_readsOn wsX8_readsOn { frames := 1, cells := 0, slots := 0, locals := 25 } (pcW D cy [(A_t, .inr (8, [.ref A_t_state, .ref A_t_tape, .int t_taped, .int t_fault, .int t_broken, .int t_brokenAt, .int t_spot, .int t_here, .int t_token, .int t_value, .int t_isRealTold, .ref A_t_ends, .ref A_t_letters, .ref A_t_least, .ref A_t_conflicts, .int t_conflictMany, .ref A_t_behind, .ref A_t_placed, .ref A_t_isKept, .ref A_t_lanes, .ref A_t_lengths, .ref A_t_cells, .int t_torn])), (A_t_tape, .inl (cy 1, 320, .inl t_tape))] sz [.ref A_t]) (va_Qv (fun (u : Int32 × Int32 × Int32 × Int32 × Int32 × Int32) => post u.1 u.2.1 u.2.2.1 u.2.2.2.1 u.2.2.2.2.1 u.2.2.2.2.2) (bW D [(A_t, .inr (8, [.ref A_t_state, .ref A_t_tape, .int t_taped, .int t_fault, .int t_broken, .int t_brokenAt, .int t_spot, .int t_here, .int t_token, .int t_value, .int t_isRealTold, .ref A_t_ends, .ref A_t_letters, .ref A_t_least, .ref A_t_conflicts, .int t_conflictMany, .ref A_t_behind, .ref A_t_placed, .ref A_t_isKept, .ref A_t_lanes, .ref A_t_lengths, .ref A_t_cells, .int t_torn])), (A_t_tape, .inl (cy 1, 320, .inl t_tape))] sz (fun u => [(A_t, .inr (8, [.ref A_t_state, .ref A_t_tape, .int t_taped, .int t_fault, .int (u.1), .int (u.2.1), .int (u.2.2.1), .int (u.2.2.2.1), .int (u.2.2.2.2.1), .int (u.2.2.2.2.2), .int t_isRealTold, .ref A_t_ends, .ref A_t_letters, .ref A_t_least, .ref A_t_conflicts, .int t_conflictMany, .ref A_t_behind, .ref A_t_placed, .ref A_t_isKept, .ref A_t_lanes, .ref A_t_lengths, .ref A_t_cells, .int t_torn])), (A_t_tape, .inl (cy 1, 320, .inl t_tape))])) (va_A [(A_t, .inr (8, [.ref A_t_state, .ref A_t_tape, .int t_taped, .int t_fault, .int t_broken, .int t_brokenAt, .int t_spot, .int t_here, .int t_token, .int t_value, .int t_isRealTold, .ref A_t_ends, .ref A_t_letters, .ref A_t_least, .ref A_t_conflicts, .int t_conflictMany, .ref A_t_behind, .ref A_t_placed, .ref A_t_isKept, .ref A_t_lanes, .ref A_t_lengths, .ref A_t_cells, .int t_torn])), (A_t_tape, .inl (cy 1, 320, .inl t_tape))] sz)) 0 0 (va_A [(A_t, .inr (8, [.ref A_t_state, .ref A_t_tape, .int t_taped, .int t_fault, .int t_broken, .int t_brokenAt, .int t_spot, .int t_here, .int t_token, .int t_value, .int t_isRealTold, .ref A_t_ends, .ref A_t_letters, .ref A_t_least, .ref A_t_conflicts, .int t_conflictMany, .ref A_t_behind, .ref A_t_placed, .ref A_t_isKept, .ref A_t_lanes, .ref A_t_lengths, .ref A_t_cells, .int t_torn])), (A_t_tape, .inl (cy 1, 320, .inl t_tape))] sz) := by
  refine Met.ofW (cc := cX8_readsOn) (maxL := 2) (ret := none) (by decide) rfl ?_
  intro p e s m args below meth c s₁ B hml hv
  obtain ⟨rfl, hsz, hP, hK, hD0⟩ := hv
  have hx := B.exec
  have hb := B.bytes
  have hr := B.returns
  have hts := atoms_spec (ws := wsX8_readsOn) B.pre
  have hown : s.vm.findClass RX8 = some m.cls := findClass_of_methodNamed B.named
  have hlocks := B.notSynchronized
  have CF : CallFix p m c cX8_readsOn 2 s ([.ref A_t] : List Value).toArray wsX8_readsOn RX8 := ⟨hx, hb, hml, hown, hts⟩
  have f0 := hts (.fieldLink RX8 58 "GapBoundsModel" "broken" "I") (by decide +kernel)
  have f1 := hts (.fieldLink RX8 70 "GapBoundsModel" "spot" "I") (by decide +kernel)
  have f2 := hts (.fieldLink RX8 61 "GapBoundsModel" "here" "I") (by decide +kernel)
  have f3 := hts (.fieldLink RX8 77 "GapBoundsModel" "value" "I") (by decide +kernel)
  have f4 := hts (.constantLong RX8 80 (97)) (by decide +kernel)
  have f5 := hts (.constantLong RX8 82 (122)) (by decide +kernel)
  have f6 := hts (.constantLong RX8 84 (48)) (by decide +kernel)
  have f7 := hts (.constantLong RX8 86 (57)) (by decide +kernel)
  have f8 := hts (.fieldLink RX8 67 "GapBoundsModel" "token" "I") (by decide +kernel)
  have iX8 : ∀ w ∈ u_ws RX8 TX8 23, w ∈ wsX8_readsOn := by decide +kernel
  subst hsz
  obtain ⟨A, hAe⟩ : ∃ A, A = va_A [(A_t, .inr (8, [.ref A_t_state, .ref A_t_tape, .int t_taped, .int t_fault, .int t_broken, .int t_brokenAt, .int t_spot, .int t_here, .int t_token, .int t_value, .int t_isRealTold, .ref A_t_ends, .ref A_t_letters, .ref A_t_least, .ref A_t_conflicts, .int t_conflictMany, .ref A_t_behind, .ref A_t_placed, .ref A_t_isKept, .ref A_t_lanes, .ref A_t_lengths, .ref A_t_cells, .int t_torn])), (A_t_tape, .inl (cy 1, 320, .inl t_tape))] s.heap.size := ⟨_, rfl⟩
  have hD : va_D A [(A_t, .inr (8, [.ref A_t_state, .ref A_t_tape, .int t_taped, .int t_fault, .int t_broken, .int t_brokenAt, .int t_spot, .int t_here, .int t_token, .int t_value, .int t_isRealTold, .ref A_t_ends, .ref A_t_letters, .ref A_t_least, .ref A_t_conflicts, .int t_conflictMany, .ref A_t_behind, .ref A_t_placed, .ref A_t_isKept, .ref A_t_lanes, .ref A_t_lengths, .ref A_t_cells, .int t_torn])), (A_t_tape, .inl (cy 1, 320, .inl t_tape))] := by rw [hAe]; exact hD0.self
  have hA : ∀ q : Nat, s.heap.size ≤ q → A q := fun q hq => by rw [hAe]; exact Or.inr hq
  have hS : va_S A s.heap s.heap [] := va_S.rf
  have hl := lv_entry [.ref A_t] (n := 2) (Nat.le_of_ble_eq_true rfl)
  rw [lg_entry_eq]
  generalize (lg_sl [.ref A_t] ++ List.replicate (2 - (lg_sl [.ref A_t]).length) Slot.unset).toArray = ls at hl ⊢
  have hl : lv_has ls 2 [(0, .ref A_t)] := hl
  refine W.gen (fun Q0 hQ => ?_)
  have J255 : ∀ (t_broken : Int32) (t_brokenAt : Int32) (t_spot : Int32) (t_here : Int32) (t_token : Int32) (t_value : Int32) (x1 : Int32) (k1 : Int32) (H : Heap) (locs : List Loc) (ls : Array Slot), B_X8_readsOn_255 post t_broken t_brokenAt t_spot t_here t_value k1 x1 → va_P D vwCl [(A_t, .inr (8, [.ref A_t_state, .ref A_t_tape, .int t_taped, .int t_fault, .int t_broken, .int t_brokenAt, .int t_spot, .int t_here, .int t_token, .int t_value, .int t_isRealTold, .ref A_t_ends, .ref A_t_letters, .ref A_t_least, .ref A_t_conflicts, .int t_conflictMany, .ref A_t_behind, .ref A_t_placed, .ref A_t_isKept, .ref A_t_lanes, .ref A_t_lengths, .ref A_t_cells, .int t_torn])), (A_t_tape, .inl (cy 1, 320, .inl t_tape))] H → va_D A [(A_t, .inr (8, [.ref A_t_state, .ref A_t_tape, .int t_taped, .int t_fault, .int t_broken, .int t_brokenAt, .int t_spot, .int t_here, .int t_token, .int t_value, .int t_isRealTold, .ref A_t_ends, .ref A_t_letters, .ref A_t_least, .ref A_t_conflicts, .int t_conflictMany, .ref A_t_behind, .ref A_t_placed, .ref A_t_isKept, .ref A_t_lanes, .ref A_t_lengths, .ref A_t_cells, .int t_torn])), (A_t_tape, .inl (cy 1, 320, .inl t_tape))] → va_S A s.heap H locs → lv_has ls 2 [(0, .ref A_t), (1, .int x1)] → W p l e (headSpec wsX8_readsOn { frames := 1, cells := 0, slots := 0, locals := 25 }).room s m ([.ref A_t] : List Value).toArray below meth c H locs 0 0 Q0 (F0 m 255 ls [.int k1, .ref A_t]) := by
    intro t_broken t_brokenAt t_spot t_here t_token t_value x1 k1 H locs ls h hP hD hS hl
    unfold B_X8_readsOn_255 at h
    refine va_put (D := D) (ci := 8) (v := .int k1) (ty := .int) (C := RX8) (T := TX8) (N := 23) hx hb hts iX8 tyX8 tyX8_ok nmX8 hown hK.1 hP hD hS 0 rfl rfl 8 (by decide) f8 (fun _ h9 => h9) rfl (tyX8_ok 8 (by decide)) rfl rfl (Nat.le_of_ble_eq_true rfl) dX8_readsOn_255 (fun H locs hP hD hS => ?_)
    have hP : va_P D vwCl [(A_t, .inr (8, [.ref A_t_state, .ref A_t_tape, .int t_taped, .int t_fault, .int t_broken, .int t_brokenAt, .int t_spot, .int t_here, .int k1, .int t_value, .int t_isRealTold, .ref A_t_ends, .ref A_t_letters, .ref A_t_least, .ref A_t_conflicts, .int t_conflictMany, .ref A_t_behind, .ref A_t_placed, .ref A_t_isKept, .ref A_t_lanes, .ref A_t_lengths, .ref A_t_cells, .int t_torn])), (A_t_tape, .inl (cy 1, 320, .inl t_tape))] H := hP
    have hD : va_D A [(A_t, .inr (8, [.ref A_t_state, .ref A_t_tape, .int t_taped, .int t_fault, .int t_broken, .int t_brokenAt, .int t_spot, .int t_here, .int k1, .int t_value, .int t_isRealTold, .ref A_t_ends, .ref A_t_letters, .ref A_t_least, .ref A_t_conflicts, .int t_conflictMany, .ref A_t_behind, .ref A_t_placed, .ref A_t_isKept, .ref A_t_lanes, .ref A_t_lengths, .ref A_t_cells, .int t_torn])), (A_t_tape, .inl (cy 1, 320, .inl t_tape))] := hD
    refine lv_aload_n hx hb dX8_readsOn_258 rfl (lv_at hl 0 rfl) ?_
    refine lv_dup hx hb dX8_readsOn_259 rfl ?_
    refine va_get (D := D) (ci := 8) (v := .int t_spot) (C := RX8) (T := TX8) (N := 23) hx hb hts iX8 hown hK.1 hP 0 rfl rfl 6 (by decide) f1 (fun _ h9 => h9) rfl dX8_readsOn_260 ?_
    refine lv_iconst (v := 1) hx hb dX8_readsOn_263 (by decide) ?_
    refine lv_iadd hx hb dX8_readsOn_264 ?_
    refine va_put (D := D) (ci := 8) (v := .int (t_spot + (1 : Int32))) (ty := .int) (C := RX8) (T := TX8) (N := 23) hx hb hts iX8 tyX8 tyX8_ok nmX8 hown hK.1 hP hD hS 0 rfl rfl 6 (by decide) f1 (fun _ h9 => h9) rfl (tyX8_ok 6 (by decide)) rfl rfl (Nat.le_of_ble_eq_true rfl) dX8_readsOn_265 (fun H locs hP hD hS => ?_)
    have hP : va_P D vwCl [(A_t, .inr (8, [.ref A_t_state, .ref A_t_tape, .int t_taped, .int t_fault, .int t_broken, .int t_brokenAt, .int (t_spot + (1 : Int32)), .int t_here, .int k1, .int t_value, .int t_isRealTold, .ref A_t_ends, .ref A_t_letters, .ref A_t_least, .ref A_t_conflicts, .int t_conflictMany, .ref A_t_behind, .ref A_t_placed, .ref A_t_isKept, .ref A_t_lanes, .ref A_t_lengths, .ref A_t_cells, .int t_torn])), (A_t_tape, .inl (cy 1, 320, .inl t_tape))] H := hP
    have hD : va_D A [(A_t, .inr (8, [.ref A_t_state, .ref A_t_tape, .int t_taped, .int t_fault, .int t_broken, .int t_brokenAt, .int (t_spot + (1 : Int32)), .int t_here, .int k1, .int t_value, .int t_isRealTold, .ref A_t_ends, .ref A_t_letters, .ref A_t_least, .ref A_t_conflicts, .int t_conflictMany, .ref A_t_behind, .ref A_t_placed, .ref A_t_isKept, .ref A_t_lanes, .ref A_t_lengths, .ref A_t_cells, .int t_torn])), (A_t_tape, .inl (cy 1, 320, .inl t_tape))] := hD
    refine lv_iload_n hx hb dX8_readsOn_268 rfl (lv_at hl 1 rfl) ?_
    refine lv_bipush (v := 59) hx hb dX8_readsOn_269 (by decide) ?_
    refine lv_icmp_eq (tgt := 285) hx hb dX8_readsOn_271 (by decide) (fun hc => ?_) (fun hc => ?_)
    · replace h := h.1 hc
      subst hQ
      subst hAe
      exact W.vret hx hb hr (fun t ht _ => ⟨⟨(t_broken, t_brokenAt, t_spot + (1 : Int32), t_here, k1, t_value), rfl, h, by rw [ht]; exact hP, hD⟩, hS.F ht⟩) hS.2.2 dX8_readsOn_285
    · replace h := h.2 hc
      refine lv_iload_n hx hb dX8_readsOn_274 rfl (lv_at hl 1 rfl) ?_
      refine lv_bipush (v := 45) hx hb dX8_readsOn_275 (by decide) ?_
      refine lv_icmp_eq (tgt := 285) hx hb dX8_readsOn_277 (by decide) (fun hc => ?_) (fun hc => ?_)
      · replace h := h.1 hc
        subst hQ
        subst hAe
        exact W.vret hx hb hr (fun t ht _ => ⟨⟨(t_broken, t_brokenAt, t_spot + (1 : Int32), t_here, k1, t_value), rfl, h, by rw [ht]; exact hP, hD⟩, hS.F ht⟩) hS.2.2 dX8_readsOn_285
      · replace h := h.2 hc
        refine lv_aload_n hx hb dX8_readsOn_280 rfl (lv_at hl 0 rfl) ?_
        refine lv_iconst (v := 1) hx hb dX8_readsOn_281 (by decide) ?_
        have hPn : va_P D vwCl ([(A_t_tape, .inl (cy 1, 320, .inl t_tape))] ++ [(A_t, .inr (8, [.ref A_t_state, .ref A_t_tape, .int t_taped, .int t_fault, .int t_broken, .int t_brokenAt, .int (t_spot + (1 : Int32)), .int t_here, .int k1, .int t_value, .int t_isRealTold, .ref A_t_ends, .ref A_t_letters, .ref A_t_least, .ref A_t_conflicts, .int t_conflictMany, .ref A_t_behind, .ref A_t_placed, .ref A_t_isKept, .ref A_t_lanes, .ref A_t_lengths, .ref A_t_cells, .int t_torn]))]) H := hP.sub [1, 0] rfl
        have hDn : va_D A ([(A_t_tape, .inl (cy 1, 320, .inl t_tape))] ++ [(A_t, .inr (8, [.ref A_t_state, .ref A_t_tape, .int t_taped, .int t_fault, .int t_broken, .int t_brokenAt, .int (t_spot + (1 : Int32)), .int t_here, .int k1, .int t_value, .int t_isRealTold, .ref A_t_ends, .ref A_t_letters, .ref A_t_least, .ref A_t_conflicts, .int t_conflictMany, .ref A_t_behind, .ref A_t_placed, .ref A_t_isKept, .ref A_t_lanes, .ref A_t_lengths, .ref A_t_cells, .int t_torn]))]) := hD.sub [1, 0] (by decide) rfl
        have hPc := gPR hPn
        have hDc := gDR hDn
        refine mw_v (va_runV (As := [.int (1 : Int32)]) (rest := []) CF (c_X8_fails l D cy H.size A_t A_t_state A_t_tape A_t_ends A_t_letters A_t_least A_t_conflicts A_t_behind A_t_placed A_t_isKept A_t_lanes A_t_lengths A_t_cells t_taped t_fault t_broken t_brokenAt (t_spot + (1 : Int32)) t_here k1 t_value t_isRealTold t_conflictMany t_torn (1 : Int32) _ h) (cwV 1 hts gX8_readsOn_X8_fails rfl rfl rfl qX8_fails ⟨Nat.le_of_ble_eq_true rfl, Nat.le_of_ble_eq_true rfl⟩) (mpVW hK hPc hDc (ci := 8) (q := (RX8, TX8, 23)) (q0 := 0) rfl rfl) rfl rfl hl.1 rfl (lv_room (Nat.le_of_ble_eq_true rfl)) dX8_readsOn_282 ⟨Nat.zero_le _, Nat.zero_le _⟩) hPn hDn hS hA (fun u H locs h hP hD hS => ?_)
        obtain ⟨t_broken_v5, t_brokenAt_v5⟩ := u
        have hP : va_P D vwCl [(A_t, .inr (8, [.ref A_t_state, .ref A_t_tape, .int t_taped, .int t_fault, .int t_broken_v5, .int t_brokenAt_v5, .int (t_spot + (1 : Int32)), .int t_here, .int k1, .int t_value, .int t_isRealTold, .ref A_t_ends, .ref A_t_letters, .ref A_t_least, .ref A_t_conflicts, .int t_conflictMany, .ref A_t_behind, .ref A_t_placed, .ref A_t_isKept, .ref A_t_lanes, .ref A_t_lengths, .ref A_t_cells, .int t_torn])), (A_t_tape, .inl (cy 1, 320, .inl t_tape))] H := hP.sub [1, 0] rfl
        have hD : va_D A [(A_t, .inr (8, [.ref A_t_state, .ref A_t_tape, .int t_taped, .int t_fault, .int t_broken_v5, .int t_brokenAt_v5, .int (t_spot + (1 : Int32)), .int t_here, .int k1, .int t_value, .int t_isRealTold, .ref A_t_ends, .ref A_t_letters, .ref A_t_least, .ref A_t_conflicts, .int t_conflictMany, .ref A_t_behind, .ref A_t_placed, .ref A_t_isKept, .ref A_t_lanes, .ref A_t_lengths, .ref A_t_cells, .int t_torn])), (A_t_tape, .inl (cy 1, 320, .inl t_tape))] := hD.sub [1, 0] (by decide) rfl
        try dsimp only at h
        subst hQ
        subst hAe
        exact W.vret hx hb hr (fun t ht _ => ⟨⟨(t_broken_v5, t_brokenAt_v5, t_spot + (1 : Int32), t_here, k1, t_value), rfl, h, by rw [ht]; exact hP, hD⟩, hS.F ht⟩) hS.2.2 dX8_readsOn_285
  have L140 : ∀ (n140 : Nat) (t_broken : Int32) (t_brokenAt : Int32) (t_spot : Int32) (t_here : Int32) (t_token : Int32) (t_value : Int32) (H : Heap) (locs : List Loc) (ls : Array Slot), L_X8_readsOn_140 post t_taped t_broken t_brokenAt t_here t_tape n140 t_spot t_value → va_P D vwCl [(A_t, .inr (8, [.ref A_t_state, .ref A_t_tape, .int t_taped, .int t_fault, .int t_broken, .int t_brokenAt, .int t_spot, .int t_here, .int t_token, .int t_value, .int t_isRealTold, .ref A_t_ends, .ref A_t_letters, .ref A_t_least, .ref A_t_conflicts, .int t_conflictMany, .ref A_t_behind, .ref A_t_placed, .ref A_t_isKept, .ref A_t_lanes, .ref A_t_lengths, .ref A_t_cells, .int t_torn])), (A_t_tape, .inl (cy 1, 320, .inl t_tape))] H → va_D A [(A_t, .inr (8, [.ref A_t_state, .ref A_t_tape, .int t_taped, .int t_fault, .int t_broken, .int t_brokenAt, .int t_spot, .int t_here, .int t_token, .int t_value, .int t_isRealTold, .ref A_t_ends, .ref A_t_letters, .ref A_t_least, .ref A_t_conflicts, .int t_conflictMany, .ref A_t_behind, .ref A_t_placed, .ref A_t_isKept, .ref A_t_lanes, .ref A_t_lengths, .ref A_t_cells, .int t_torn])), (A_t_tape, .inl (cy 1, 320, .inl t_tape))] → va_S A s.heap H locs → lv_has ls 2 [(0, .ref A_t)] → W p l e (headSpec wsX8_readsOn { frames := 1, cells := 0, slots := 0, locals := 25 }).room s m ([.ref A_t] : List Value).toArray below meth c H locs 0 0 Q0 (F0 m 140 ls []) := by
    intro n140
    induction n140 with
    | zero => intro t_broken t_brokenAt t_spot t_here t_token t_value H locs ls h; exact False.elim h
    | succ n140 ih140 =>
      intro t_broken t_brokenAt t_spot t_here t_token t_value H locs ls h hP hD hS hl
      have h : LB_X8_readsOn_140 post t_taped t_broken t_brokenAt t_here t_tape (L_X8_readsOn_140 post t_taped t_broken t_brokenAt t_here t_tape n140) t_spot t_value := h
      unfold LB_X8_readsOn_140 at h
      have J201 : ∀ (t_broken : Int32) (t_brokenAt : Int32) (t_spot : Int32) (t_here : Int32) (t_token : Int32) (t_value : Int32) (k1 : Int32) (H : Heap) (locs : List Loc) (ls : Array Slot), B_X8_readsOn_201 (L_X8_readsOn_140 post t_taped t_broken t_brokenAt t_here t_tape n140) t_spot k1 → va_P D vwCl [(A_t, .inr (8, [.ref A_t_state, .ref A_t_tape, .int t_taped, .int t_fault, .int t_broken, .int t_brokenAt, .int t_spot, .int t_here, .int t_token, .int t_value, .int t_isRealTold, .ref A_t_ends, .ref A_t_letters, .ref A_t_least, .ref A_t_conflicts, .int t_conflictMany, .ref A_t_behind, .ref A_t_placed, .ref A_t_isKept, .ref A_t_lanes, .ref A_t_lengths, .ref A_t_cells, .int t_torn])), (A_t_tape, .inl (cy 1, 320, .inl t_tape))] H → va_D A [(A_t, .inr (8, [.ref A_t_state, .ref A_t_tape, .int t_taped, .int t_fault, .int t_broken, .int t_brokenAt, .int t_spot, .int t_here, .int t_token, .int t_value, .int t_isRealTold, .ref A_t_ends, .ref A_t_letters, .ref A_t_least, .ref A_t_conflicts, .int t_conflictMany, .ref A_t_behind, .ref A_t_placed, .ref A_t_isKept, .ref A_t_lanes, .ref A_t_lengths, .ref A_t_cells, .int t_torn])), (A_t_tape, .inl (cy 1, 320, .inl t_tape))] → va_S A s.heap H locs → lv_has ls 2 [(0, .ref A_t)] → W p l e (headSpec wsX8_readsOn { frames := 1, cells := 0, slots := 0, locals := 25 }).room s m ([.ref A_t] : List Value).toArray below meth c H locs 0 0 Q0 (F0 m 201 ls [.int k1, .ref A_t]) := by
        intro t_broken t_brokenAt t_spot t_here t_token t_value k1 H locs ls h hP hD hS hl
        unfold B_X8_readsOn_201 at h
        refine va_put (D := D) (ci := 8) (v := .int k1) (ty := .int) (C := RX8) (T := TX8) (N := 23) hx hb hts iX8 tyX8 tyX8_ok nmX8 hown hK.1 hP hD hS 0 rfl rfl 9 (by decide) f3 (fun _ h9 => h9) rfl (tyX8_ok 9 (by decide)) rfl rfl (Nat.le_of_ble_eq_true rfl) dX8_readsOn_201 (fun H locs hP hD hS => ?_)
        have hP : va_P D vwCl [(A_t, .inr (8, [.ref A_t_state, .ref A_t_tape, .int t_taped, .int t_fault, .int t_broken, .int t_brokenAt, .int t_spot, .int t_here, .int t_token, .int k1, .int t_isRealTold, .ref A_t_ends, .ref A_t_letters, .ref A_t_least, .ref A_t_conflicts, .int t_conflictMany, .ref A_t_behind, .ref A_t_placed, .ref A_t_isKept, .ref A_t_lanes, .ref A_t_lengths, .ref A_t_cells, .int t_torn])), (A_t_tape, .inl (cy 1, 320, .inl t_tape))] H := hP
        have hD : va_D A [(A_t, .inr (8, [.ref A_t_state, .ref A_t_tape, .int t_taped, .int t_fault, .int t_broken, .int t_brokenAt, .int t_spot, .int t_here, .int t_token, .int k1, .int t_isRealTold, .ref A_t_ends, .ref A_t_letters, .ref A_t_least, .ref A_t_conflicts, .int t_conflictMany, .ref A_t_behind, .ref A_t_placed, .ref A_t_isKept, .ref A_t_lanes, .ref A_t_lengths, .ref A_t_cells, .int t_torn])), (A_t_tape, .inl (cy 1, 320, .inl t_tape))] := hD
        refine lv_aload_n hx hb dX8_readsOn_204 rfl (lv_at hl 0 rfl) ?_
        refine lv_dup hx hb dX8_readsOn_205 rfl ?_
        refine va_get (D := D) (ci := 8) (v := .int t_spot) (C := RX8) (T := TX8) (N := 23) hx hb hts iX8 hown hK.1 hP 0 rfl rfl 6 (by decide) f1 (fun _ h9 => h9) rfl dX8_readsOn_206 ?_
        refine lv_iconst (v := 1) hx hb dX8_readsOn_209 (by decide) ?_
        refine lv_iadd hx hb dX8_readsOn_210 ?_
        refine va_put (D := D) (ci := 8) (v := .int (t_spot + (1 : Int32))) (ty := .int) (C := RX8) (T := TX8) (N := 23) hx hb hts iX8 tyX8 tyX8_ok nmX8 hown hK.1 hP hD hS 0 rfl rfl 6 (by decide) f1 (fun _ h9 => h9) rfl (tyX8_ok 6 (by decide)) rfl rfl (Nat.le_of_ble_eq_true rfl) dX8_readsOn_211 (fun H locs hP hD hS => ?_)
        have hP : va_P D vwCl [(A_t, .inr (8, [.ref A_t_state, .ref A_t_tape, .int t_taped, .int t_fault, .int t_broken, .int t_brokenAt, .int (t_spot + (1 : Int32)), .int t_here, .int t_token, .int k1, .int t_isRealTold, .ref A_t_ends, .ref A_t_letters, .ref A_t_least, .ref A_t_conflicts, .int t_conflictMany, .ref A_t_behind, .ref A_t_placed, .ref A_t_isKept, .ref A_t_lanes, .ref A_t_lengths, .ref A_t_cells, .int t_torn])), (A_t_tape, .inl (cy 1, 320, .inl t_tape))] H := hP
        have hD : va_D A [(A_t, .inr (8, [.ref A_t_state, .ref A_t_tape, .int t_taped, .int t_fault, .int t_broken, .int t_brokenAt, .int (t_spot + (1 : Int32)), .int t_here, .int t_token, .int k1, .int t_isRealTold, .ref A_t_ends, .ref A_t_letters, .ref A_t_least, .ref A_t_conflicts, .int t_conflictMany, .ref A_t_behind, .ref A_t_placed, .ref A_t_isKept, .ref A_t_lanes, .ref A_t_lengths, .ref A_t_cells, .int t_torn])), (A_t_tape, .inl (cy 1, 320, .inl t_tape))] := hD
        refine lv_goto (tgt := 140) hx hb dX8_readsOn_214 (by decide) ?_
        exact ih140 t_broken t_brokenAt (t_spot + (1 : Int32)) t_here t_token k1 H locs ls h hP hD hS (lv_sub hl [0] rfl)
      refine lv_aload_n hx hb dX8_readsOn_140 rfl (lv_at hl 0 rfl) ?_
      refine lv_aload_n hx hb dX8_readsOn_141 rfl (lv_at hl 0 rfl) ?_
      refine va_get (D := D) (ci := 8) (v := .int t_spot) (C := RX8) (T := TX8) (N := 23) hx hb hts iX8 hown hK.1 hP 0 rfl rfl 6 (by decide) f1 (fun _ h9 => h9) rfl dX8_readsOn_142 ?_
      have hPc := hP.sub (ws' := [(A_t, .inr (8, [.ref A_t_state, .ref A_t_tape, .int t_taped, .int t_fault, .int t_broken, .int t_brokenAt, .int t_spot, .int t_here, .int t_token, .int t_value, .int t_isRealTold, .ref A_t_ends, .ref A_t_letters, .ref A_t_least, .ref A_t_conflicts, .int t_conflictMany, .ref A_t_behind, .ref A_t_placed, .ref A_t_isKept, .ref A_t_lanes, .ref A_t_lengths, .ref A_t_cells, .int t_torn])), (A_t_tape, .inl (cy 1, 320, .inl t_tape))]) [0, 1] rfl
      refine vp_callSi (W.runV (As := [.int t_spot]) (rest := []) CF (c_X8_byteAt l D cy A_t A_t_state A_t_tape A_t_ends A_t_letters A_t_least A_t_conflicts A_t_behind A_t_placed A_t_isKept A_t_lanes A_t_lengths A_t_cells t_taped t_fault t_broken t_brokenAt t_spot t_here t_token t_value t_isRealTold t_conflictMany t_torn t_tape t_spot _ h) (cwV 1 hts gX8_readsOn_X8_byteAt rfl rfl rfl qX8_byteAt ⟨Nat.le_of_ble_eq_true rfl, Nat.le_of_ble_eq_true rfl⟩) (mpVR hK hPc (ci := 8) (q := (RX8, TX8, 23)) (q0 := 0) rfl rfl) rfl rfl hl.1 rfl (lv_room (Nat.le_of_ble_eq_true rfl)) dX8_readsOn_145 ⟨Nat.zero_le _, Nat.zero_le _⟩) (fun r6 h => ?_)
      refine lv_i2l (v := r6.toInt64) hx hb dX8_readsOn_148 rfl ?_
      refine lv_ldc2 (v := 48) hx hb hown f6 dX8_readsOn_149 ?_
      refine lv_ldc2 (v := 57) hx hb hown f7 dX8_readsOn_152 ?_
      refine vp_callSi (W.runS (As := [.long r6.toInt64, .long (48 : Int64), .long (57 : Int64)]) (rest := []) CF (c_X8_in l r6.toInt64 (48 : Int64) (57 : Int64) _ h) (va_cwS 3 hts gX8_readsOn_X8_in rfl rfl rfl qX8_in.2 ⟨Nat.le_of_ble_eq_true rfl, Nat.le_of_ble_eq_true rfl⟩) mpSN rfl rfl hl.1 rfl (lv_room (Nat.le_of_ble_eq_true rfl)) dX8_readsOn_155 ⟨Nat.zero_le _, Nat.zero_le _⟩) (fun r7 h => ?_)
      refine lv_if_eq (tgt := 217) hx hb dX8_readsOn_158 (by decide) (fun hc => ?_) (fun hc => ?_)
      · replace h := h.1 hc
        refine lv_aload_n hx hb dX8_readsOn_217 rfl (lv_at hl 0 rfl) ?_
        refine lv_iconst (v := 2) hx hb dX8_readsOn_218 (by decide) ?_
        refine va_put (D := D) (ci := 8) (v := .int (2 : Int32)) (ty := .int) (C := RX8) (T := TX8) (N := 23) hx hb hts iX8 tyX8 tyX8_ok nmX8 hown hK.1 hP hD hS 0 rfl rfl 8 (by decide) f8 (fun _ h9 => h9) rfl (tyX8_ok 8 (by decide)) rfl rfl (Nat.le_of_ble_eq_true rfl) dX8_readsOn_219 (fun H locs hP hD hS => ?_)
        have hP : va_P D vwCl [(A_t, .inr (8, [.ref A_t_state, .ref A_t_tape, .int t_taped, .int t_fault, .int t_broken, .int t_brokenAt, .int t_spot, .int t_here, .int ((2 : Int32)), .int t_value, .int t_isRealTold, .ref A_t_ends, .ref A_t_letters, .ref A_t_least, .ref A_t_conflicts, .int t_conflictMany, .ref A_t_behind, .ref A_t_placed, .ref A_t_isKept, .ref A_t_lanes, .ref A_t_lengths, .ref A_t_cells, .int t_torn])), (A_t_tape, .inl (cy 1, 320, .inl t_tape))] H := hP
        have hD : va_D A [(A_t, .inr (8, [.ref A_t_state, .ref A_t_tape, .int t_taped, .int t_fault, .int t_broken, .int t_brokenAt, .int t_spot, .int t_here, .int ((2 : Int32)), .int t_value, .int t_isRealTold, .ref A_t_ends, .ref A_t_letters, .ref A_t_least, .ref A_t_conflicts, .int t_conflictMany, .ref A_t_behind, .ref A_t_placed, .ref A_t_isKept, .ref A_t_lanes, .ref A_t_lengths, .ref A_t_cells, .int t_torn])), (A_t_tape, .inl (cy 1, 320, .inl t_tape))] := hD
        refine lv_aload_n hx hb dX8_readsOn_222 rfl (lv_at hl 0 rfl) ?_
        refine va_get (D := D) (ci := 8) (v := .int t_spot) (C := RX8) (T := TX8) (N := 23) hx hb hts iX8 hown hK.1 hP 0 rfl rfl 6 (by decide) f1 (fun _ h9 => h9) rfl dX8_readsOn_223 ?_
        refine lv_aload_n hx hb dX8_readsOn_226 rfl (lv_at hl 0 rfl) ?_
        refine va_get (D := D) (ci := 8) (v := .int t_here) (C := RX8) (T := TX8) (N := 23) hx hb hts iX8 hown hK.1 hP 0 rfl rfl 7 (by decide) f2 (fun _ h9 => h9) rfl dX8_readsOn_227 ?_
        refine lv_isub hx hb dX8_readsOn_230 ?_
        refine lv_iconst (v := 4) hx hb dX8_readsOn_231 (by decide) ?_
        refine lv_icmp_le (tgt := 285) hx hb dX8_readsOn_232 (by decide) (fun hc => ?_) (fun hc => ?_)
        · replace h := h.1 hc
          subst hQ
          subst hAe
          exact W.vret hx hb hr (fun t ht _ => ⟨⟨(t_broken, t_brokenAt, t_spot, t_here, (2 : Int32), t_value), rfl, h, by rw [ht]; exact hP, hD⟩, hS.F ht⟩) hS.2.2 dX8_readsOn_285
        · replace h := h.2 hc
          refine lv_aload_n hx hb dX8_readsOn_235 rfl (lv_at hl 0 rfl) ?_
          refine lv_iconst (v := 1) hx hb dX8_readsOn_236 (by decide) ?_
          have hPn : va_P D vwCl ([(A_t_tape, .inl (cy 1, 320, .inl t_tape))] ++ [(A_t, .inr (8, [.ref A_t_state, .ref A_t_tape, .int t_taped, .int t_fault, .int t_broken, .int t_brokenAt, .int t_spot, .int t_here, .int ((2 : Int32)), .int t_value, .int t_isRealTold, .ref A_t_ends, .ref A_t_letters, .ref A_t_least, .ref A_t_conflicts, .int t_conflictMany, .ref A_t_behind, .ref A_t_placed, .ref A_t_isKept, .ref A_t_lanes, .ref A_t_lengths, .ref A_t_cells, .int t_torn]))]) H := hP.sub [1, 0] rfl
          have hDn : va_D A ([(A_t_tape, .inl (cy 1, 320, .inl t_tape))] ++ [(A_t, .inr (8, [.ref A_t_state, .ref A_t_tape, .int t_taped, .int t_fault, .int t_broken, .int t_brokenAt, .int t_spot, .int t_here, .int ((2 : Int32)), .int t_value, .int t_isRealTold, .ref A_t_ends, .ref A_t_letters, .ref A_t_least, .ref A_t_conflicts, .int t_conflictMany, .ref A_t_behind, .ref A_t_placed, .ref A_t_isKept, .ref A_t_lanes, .ref A_t_lengths, .ref A_t_cells, .int t_torn]))]) := hD.sub [1, 0] (by decide) rfl
          have hPc := gPR hPn
          have hDc := gDR hDn
          refine mw_v (va_runV (As := [.int (1 : Int32)]) (rest := []) CF (c_X8_fails l D cy H.size A_t A_t_state A_t_tape A_t_ends A_t_letters A_t_least A_t_conflicts A_t_behind A_t_placed A_t_isKept A_t_lanes A_t_lengths A_t_cells t_taped t_fault t_broken t_brokenAt t_spot t_here (2 : Int32) t_value t_isRealTold t_conflictMany t_torn (1 : Int32) _ h) (cwV 1 hts gX8_readsOn_X8_fails rfl rfl rfl qX8_fails ⟨Nat.le_of_ble_eq_true rfl, Nat.le_of_ble_eq_true rfl⟩) (mpVW hK hPc hDc (ci := 8) (q := (RX8, TX8, 23)) (q0 := 0) rfl rfl) rfl rfl hl.1 rfl (lv_room (Nat.le_of_ble_eq_true rfl)) dX8_readsOn_237 ⟨Nat.zero_le _, Nat.zero_le _⟩) hPn hDn hS hA (fun u H locs h hP hD hS => ?_)
          obtain ⟨t_broken_v8, t_brokenAt_v8⟩ := u
          have hP : va_P D vwCl [(A_t, .inr (8, [.ref A_t_state, .ref A_t_tape, .int t_taped, .int t_fault, .int t_broken_v8, .int t_brokenAt_v8, .int t_spot, .int t_here, .int ((2 : Int32)), .int t_value, .int t_isRealTold, .ref A_t_ends, .ref A_t_letters, .ref A_t_least, .ref A_t_conflicts, .int t_conflictMany, .ref A_t_behind, .ref A_t_placed, .ref A_t_isKept, .ref A_t_lanes, .ref A_t_lengths, .ref A_t_cells, .int t_torn])), (A_t_tape, .inl (cy 1, 320, .inl t_tape))] H := hP.sub [1, 0] rfl
          have hD : va_D A [(A_t, .inr (8, [.ref A_t_state, .ref A_t_tape, .int t_taped, .int t_fault, .int t_broken_v8, .int t_brokenAt_v8, .int t_spot, .int t_here, .int ((2 : Int32)), .int t_value, .int t_isRealTold, .ref A_t_ends, .ref A_t_letters, .ref A_t_least, .ref A_t_conflicts, .int t_conflictMany, .ref A_t_behind, .ref A_t_placed, .ref A_t_isKept, .ref A_t_lanes, .ref A_t_lengths, .ref A_t_cells, .int t_torn])), (A_t_tape, .inl (cy 1, 320, .inl t_tape))] := hD.sub [1, 0] (by decide) rfl
          try dsimp only at h
          refine lv_goto (tgt := 285) hx hb dX8_readsOn_240 (by decide) ?_
          subst hQ
          subst hAe
          exact W.vret hx hb hr (fun t ht _ => ⟨⟨(t_broken_v8, t_brokenAt_v8, t_spot, t_here, (2 : Int32), t_value), rfl, h, by rw [ht]; exact hP, hD⟩, hS.F ht⟩) hS.2.2 dX8_readsOn_285
      · replace h := h.2 hc
        refine lv_aload_n hx hb dX8_readsOn_161 rfl (lv_at hl 0 rfl) ?_
        refine lv_aload_n hx hb dX8_readsOn_162 rfl (lv_at hl 0 rfl) ?_
        refine va_get (D := D) (ci := 8) (v := .int t_spot) (C := RX8) (T := TX8) (N := 23) hx hb hts iX8 hown hK.1 hP 0 rfl rfl 6 (by decide) f1 (fun _ h9 => h9) rfl dX8_readsOn_163 ?_
        refine lv_aload_n hx hb dX8_readsOn_166 rfl (lv_at hl 0 rfl) ?_
        refine va_get (D := D) (ci := 8) (v := .int t_here) (C := RX8) (T := TX8) (N := 23) hx hb hts iX8 hown hK.1 hP 0 rfl rfl 7 (by decide) f2 (fun _ h9 => h9) rfl dX8_readsOn_167 ?_
        refine lv_isub hx hb dX8_readsOn_170 ?_
        refine lv_iconst (v := 4) hx hb dX8_readsOn_171 (by decide) ?_
        refine lv_icmp_ge (tgt := 197) hx hb dX8_readsOn_172 (by decide) (fun hc => ?_) (fun hc => ?_)
        · replace h := h.1 hc
          refine lv_aload_n hx hb dX8_readsOn_197 rfl (lv_at hl 0 rfl) ?_
          refine va_get (D := D) (ci := 8) (v := .int t_value) (C := RX8) (T := TX8) (N := 23) hx hb hts iX8 hown hK.1 hP 0 rfl rfl 9 (by decide) f3 (fun _ h9 => h9) rfl dX8_readsOn_198 ?_
          exact J201 t_broken t_brokenAt t_spot t_here t_token t_value t_value H locs ls h hP hD hS (lv_sub hl [0] rfl)
        · replace h := h.2 hc
          refine lv_bipush (v := 10) hx hb dX8_readsOn_175 (by decide) ?_
          refine lv_aload_n hx hb dX8_readsOn_177 rfl (lv_at hl 0 rfl) ?_
          refine va_get (D := D) (ci := 8) (v := .int t_value) (C := RX8) (T := TX8) (N := 23) hx hb hts iX8 hown hK.1 hP 0 rfl rfl 9 (by decide) f3 (fun _ h9 => h9) rfl dX8_readsOn_178 ?_
          refine lv_imul hx hb dX8_readsOn_181 ?_
          refine lv_aload_n hx hb dX8_readsOn_182 rfl (lv_at hl 0 rfl) ?_
          refine lv_aload_n hx hb dX8_readsOn_183 rfl (lv_at hl 0 rfl) ?_
          refine va_get (D := D) (ci := 8) (v := .int t_spot) (C := RX8) (T := TX8) (N := 23) hx hb hts iX8 hown hK.1 hP 0 rfl rfl 6 (by decide) f1 (fun _ h9 => h9) rfl dX8_readsOn_184 ?_
          have hPc := hP.sub (ws' := [(A_t, .inr (8, [.ref A_t_state, .ref A_t_tape, .int t_taped, .int t_fault, .int t_broken, .int t_brokenAt, .int t_spot, .int t_here, .int t_token, .int t_value, .int t_isRealTold, .ref A_t_ends, .ref A_t_letters, .ref A_t_least, .ref A_t_conflicts, .int t_conflictMany, .ref A_t_behind, .ref A_t_placed, .ref A_t_isKept, .ref A_t_lanes, .ref A_t_lengths, .ref A_t_cells, .int t_torn])), (A_t_tape, .inl (cy 1, 320, .inl t_tape))]) [0, 1] rfl
          refine vp_callSi (W.runV (As := [.int t_spot]) (rest := [.int ((10 : Int32) * t_value), .ref A_t]) CF (c_X8_byteAt l D cy A_t A_t_state A_t_tape A_t_ends A_t_letters A_t_least A_t_conflicts A_t_behind A_t_placed A_t_isKept A_t_lanes A_t_lengths A_t_cells t_taped t_fault t_broken t_brokenAt t_spot t_here t_token t_value t_isRealTold t_conflictMany t_torn t_tape t_spot _ h) (cwV 1 hts gX8_readsOn_X8_byteAt rfl rfl rfl qX8_byteAt ⟨Nat.le_of_ble_eq_true rfl, Nat.le_of_ble_eq_true rfl⟩) (mpVR hK hPc (ci := 8) (q := (RX8, TX8, 23)) (q0 := 0) rfl rfl) rfl rfl hl.1 rfl (lv_room (Nat.le_of_ble_eq_true rfl)) dX8_readsOn_187 ⟨Nat.zero_le _, Nat.zero_le _⟩) (fun r9 h => ?_)
          refine lv_iadd hx hb dX8_readsOn_190 ?_
          refine lv_bipush (v := 48) hx hb dX8_readsOn_191 (by decide) ?_
          refine lv_isub hx hb dX8_readsOn_193 ?_
          refine lv_goto (tgt := 201) hx hb dX8_readsOn_194 (by decide) ?_
          exact J201 t_broken t_brokenAt t_spot t_here t_token t_value ((((10 : Int32) * t_value) + r9) - (48 : Int32)) H locs ls h hP hD hS (lv_sub hl [0] rfl)
  have L84 : ∀ (n84 : Nat) (t_broken : Int32) (t_brokenAt : Int32) (t_spot : Int32) (t_here : Int32) (t_token : Int32) (t_value : Int32) (H : Heap) (locs : List Loc) (ls : Array Slot), L_X8_readsOn_84 post t_taped t_broken t_brokenAt t_here t_value t_tape n84 t_spot → va_P D vwCl [(A_t, .inr (8, [.ref A_t_state, .ref A_t_tape, .int t_taped, .int t_fault, .int t_broken, .int t_brokenAt, .int t_spot, .int t_here, .int t_token, .int t_value, .int t_isRealTold, .ref A_t_ends, .ref A_t_letters, .ref A_t_least, .ref A_t_conflicts, .int t_conflictMany, .ref A_t_behind, .ref A_t_placed, .ref A_t_isKept, .ref A_t_lanes, .ref A_t_lengths, .ref A_t_cells, .int t_torn])), (A_t_tape, .inl (cy 1, 320, .inl t_tape))] H → va_D A [(A_t, .inr (8, [.ref A_t_state, .ref A_t_tape, .int t_taped, .int t_fault, .int t_broken, .int t_brokenAt, .int t_spot, .int t_here, .int t_token, .int t_value, .int t_isRealTold, .ref A_t_ends, .ref A_t_letters, .ref A_t_least, .ref A_t_conflicts, .int t_conflictMany, .ref A_t_behind, .ref A_t_placed, .ref A_t_isKept, .ref A_t_lanes, .ref A_t_lengths, .ref A_t_cells, .int t_torn])), (A_t_tape, .inl (cy 1, 320, .inl t_tape))] → va_S A s.heap H locs → lv_has ls 2 [(0, .ref A_t)] → W p l e (headSpec wsX8_readsOn { frames := 1, cells := 0, slots := 0, locals := 25 }).room s m ([.ref A_t] : List Value).toArray below meth c H locs 0 0 Q0 (F0 m 84 ls []) := by
    intro n84
    induction n84 with
    | zero => intro t_broken t_brokenAt t_spot t_here t_token t_value H locs ls h; exact False.elim h
    | succ n84 ih84 =>
      intro t_broken t_brokenAt t_spot t_here t_token t_value H locs ls h hP hD hS hl
      have h : LB_X8_readsOn_84 post t_taped t_broken t_brokenAt t_here t_value t_tape (L_X8_readsOn_84 post t_taped t_broken t_brokenAt t_here t_value t_tape n84) t_spot := h
      unfold LB_X8_readsOn_84 at h
      refine lv_aload_n hx hb dX8_readsOn_84 rfl (lv_at hl 0 rfl) ?_
      refine lv_aload_n hx hb dX8_readsOn_85 rfl (lv_at hl 0 rfl) ?_
      refine va_get (D := D) (ci := 8) (v := .int t_spot) (C := RX8) (T := TX8) (N := 23) hx hb hts iX8 hown hK.1 hP 0 rfl rfl 6 (by decide) f1 (fun _ h9 => h9) rfl dX8_readsOn_86 ?_
      have hPc := hP.sub (ws' := [(A_t, .inr (8, [.ref A_t_state, .ref A_t_tape, .int t_taped, .int t_fault, .int t_broken, .int t_brokenAt, .int t_spot, .int t_here, .int t_token, .int t_value, .int t_isRealTold, .ref A_t_ends, .ref A_t_letters, .ref A_t_least, .ref A_t_conflicts, .int t_conflictMany, .ref A_t_behind, .ref A_t_placed, .ref A_t_isKept, .ref A_t_lanes, .ref A_t_lengths, .ref A_t_cells, .int t_torn])), (A_t_tape, .inl (cy 1, 320, .inl t_tape))]) [0, 1] rfl
      refine vp_callSi (W.runV (As := [.int t_spot]) (rest := []) CF (c_X8_byteAt l D cy A_t A_t_state A_t_tape A_t_ends A_t_letters A_t_least A_t_conflicts A_t_behind A_t_placed A_t_isKept A_t_lanes A_t_lengths A_t_cells t_taped t_fault t_broken t_brokenAt t_spot t_here t_token t_value t_isRealTold t_conflictMany t_torn t_tape t_spot _ h) (cwV 1 hts gX8_readsOn_X8_byteAt rfl rfl rfl qX8_byteAt ⟨Nat.le_of_ble_eq_true rfl, Nat.le_of_ble_eq_true rfl⟩) (mpVR hK hPc (ci := 8) (q := (RX8, TX8, 23)) (q0 := 0) rfl rfl) rfl rfl hl.1 rfl (lv_room (Nat.le_of_ble_eq_true rfl)) dX8_readsOn_89 ⟨Nat.zero_le _, Nat.zero_le _⟩) (fun r10 h => ?_)
      refine lv_i2l (v := r10.toInt64) hx hb dX8_readsOn_92 rfl ?_
      refine lv_ldc2 (v := 97) hx hb hown f4 dX8_readsOn_93 ?_
      refine lv_ldc2 (v := 122) hx hb hown f5 dX8_readsOn_96 ?_
      refine vp_callSi (W.runS (As := [.long r10.toInt64, .long (97 : Int64), .long (122 : Int64)]) (rest := []) CF (c_X8_in l r10.toInt64 (97 : Int64) (122 : Int64) _ h) (va_cwS 3 hts gX8_readsOn_X8_in rfl rfl rfl qX8_in.2 ⟨Nat.le_of_ble_eq_true rfl, Nat.le_of_ble_eq_true rfl⟩) mpSN rfl rfl hl.1 rfl (lv_room (Nat.le_of_ble_eq_true rfl)) dX8_readsOn_99 ⟨Nat.zero_le _, Nat.zero_le _⟩) (fun r11 h => ?_)
      refine lv_if_eq (tgt := 118) hx hb dX8_readsOn_102 (by decide) (fun hc => ?_) (fun hc => ?_)
      · replace h := h.1 hc
        refine lv_aload_n hx hb dX8_readsOn_118 rfl (lv_at hl 0 rfl) ?_
        refine lv_iconst (v := 1) hx hb dX8_readsOn_119 (by decide) ?_
        refine va_put (D := D) (ci := 8) (v := .int (1 : Int32)) (ty := .int) (C := RX8) (T := TX8) (N := 23) hx hb hts iX8 tyX8 tyX8_ok nmX8 hown hK.1 hP hD hS 0 rfl rfl 8 (by decide) f8 (fun _ h9 => h9) rfl (tyX8_ok 8 (by decide)) rfl rfl (Nat.le_of_ble_eq_true rfl) dX8_readsOn_120 (fun H locs hP hD hS => ?_)
        have hP : va_P D vwCl [(A_t, .inr (8, [.ref A_t_state, .ref A_t_tape, .int t_taped, .int t_fault, .int t_broken, .int t_brokenAt, .int t_spot, .int t_here, .int ((1 : Int32)), .int t_value, .int t_isRealTold, .ref A_t_ends, .ref A_t_letters, .ref A_t_least, .ref A_t_conflicts, .int t_conflictMany, .ref A_t_behind, .ref A_t_placed, .ref A_t_isKept, .ref A_t_lanes, .ref A_t_lengths, .ref A_t_cells, .int t_torn])), (A_t_tape, .inl (cy 1, 320, .inl t_tape))] H := hP
        have hD : va_D A [(A_t, .inr (8, [.ref A_t_state, .ref A_t_tape, .int t_taped, .int t_fault, .int t_broken, .int t_brokenAt, .int t_spot, .int t_here, .int ((1 : Int32)), .int t_value, .int t_isRealTold, .ref A_t_ends, .ref A_t_letters, .ref A_t_least, .ref A_t_conflicts, .int t_conflictMany, .ref A_t_behind, .ref A_t_placed, .ref A_t_isKept, .ref A_t_lanes, .ref A_t_lengths, .ref A_t_cells, .int t_torn])), (A_t_tape, .inl (cy 1, 320, .inl t_tape))] := hD
        refine lv_goto (tgt := 285) hx hb dX8_readsOn_123 (by decide) ?_
        subst hQ
        subst hAe
        exact W.vret hx hb hr (fun t ht _ => ⟨⟨(t_broken, t_brokenAt, t_spot, t_here, (1 : Int32), t_value), rfl, h, by rw [ht]; exact hP, hD⟩, hS.F ht⟩) hS.2.2 dX8_readsOn_285
      · replace h := h.2 hc
        refine lv_aload_n hx hb dX8_readsOn_105 rfl (lv_at hl 0 rfl) ?_
        refine lv_dup hx hb dX8_readsOn_106 rfl ?_
        refine va_get (D := D) (ci := 8) (v := .int t_spot) (C := RX8) (T := TX8) (N := 23) hx hb hts iX8 hown hK.1 hP 0 rfl rfl 6 (by decide) f1 (fun _ h9 => h9) rfl dX8_readsOn_107 ?_
        refine lv_iconst (v := 1) hx hb dX8_readsOn_110 (by decide) ?_
        refine lv_iadd hx hb dX8_readsOn_111 ?_
        refine va_put (D := D) (ci := 8) (v := .int (t_spot + (1 : Int32))) (ty := .int) (C := RX8) (T := TX8) (N := 23) hx hb hts iX8 tyX8 tyX8_ok nmX8 hown hK.1 hP hD hS 0 rfl rfl 6 (by decide) f1 (fun _ h9 => h9) rfl (tyX8_ok 6 (by decide)) rfl rfl (Nat.le_of_ble_eq_true rfl) dX8_readsOn_112 (fun H locs hP hD hS => ?_)
        have hP : va_P D vwCl [(A_t, .inr (8, [.ref A_t_state, .ref A_t_tape, .int t_taped, .int t_fault, .int t_broken, .int t_brokenAt, .int (t_spot + (1 : Int32)), .int t_here, .int t_token, .int t_value, .int t_isRealTold, .ref A_t_ends, .ref A_t_letters, .ref A_t_least, .ref A_t_conflicts, .int t_conflictMany, .ref A_t_behind, .ref A_t_placed, .ref A_t_isKept, .ref A_t_lanes, .ref A_t_lengths, .ref A_t_cells, .int t_torn])), (A_t_tape, .inl (cy 1, 320, .inl t_tape))] H := hP
        have hD : va_D A [(A_t, .inr (8, [.ref A_t_state, .ref A_t_tape, .int t_taped, .int t_fault, .int t_broken, .int t_brokenAt, .int (t_spot + (1 : Int32)), .int t_here, .int t_token, .int t_value, .int t_isRealTold, .ref A_t_ends, .ref A_t_letters, .ref A_t_least, .ref A_t_conflicts, .int t_conflictMany, .ref A_t_behind, .ref A_t_placed, .ref A_t_isKept, .ref A_t_lanes, .ref A_t_lengths, .ref A_t_cells, .int t_torn])), (A_t_tape, .inl (cy 1, 320, .inl t_tape))] := hD
        refine lv_goto (tgt := 84) hx hb dX8_readsOn_115 (by decide) ?_
        exact ih84 t_broken t_brokenAt (t_spot + (1 : Int32)) t_here t_token t_value H locs ls h hP hD hS (lv_sub hl [0] rfl)
  have L8 : ∀ (n8 : Nat) (t_broken : Int32) (t_brokenAt : Int32) (t_spot : Int32) (t_here : Int32) (t_token : Int32) (t_value : Int32) (H : Heap) (locs : List Loc) (ls : Array Slot), L_X8_readsOn_8 post t_taped t_broken t_brokenAt t_tape n8 t_spot → va_P D vwCl [(A_t, .inr (8, [.ref A_t_state, .ref A_t_tape, .int t_taped, .int t_fault, .int t_broken, .int t_brokenAt, .int t_spot, .int t_here, .int t_token, .int t_value, .int t_isRealTold, .ref A_t_ends, .ref A_t_letters, .ref A_t_least, .ref A_t_conflicts, .int t_conflictMany, .ref A_t_behind, .ref A_t_placed, .ref A_t_isKept, .ref A_t_lanes, .ref A_t_lengths, .ref A_t_cells, .int t_torn])), (A_t_tape, .inl (cy 1, 320, .inl t_tape))] H → va_D A [(A_t, .inr (8, [.ref A_t_state, .ref A_t_tape, .int t_taped, .int t_fault, .int t_broken, .int t_brokenAt, .int t_spot, .int t_here, .int t_token, .int t_value, .int t_isRealTold, .ref A_t_ends, .ref A_t_letters, .ref A_t_least, .ref A_t_conflicts, .int t_conflictMany, .ref A_t_behind, .ref A_t_placed, .ref A_t_isKept, .ref A_t_lanes, .ref A_t_lengths, .ref A_t_cells, .int t_torn])), (A_t_tape, .inl (cy 1, 320, .inl t_tape))] → va_S A s.heap H locs → lv_has ls 2 [(0, .ref A_t)] → W p l e (headSpec wsX8_readsOn { frames := 1, cells := 0, slots := 0, locals := 25 }).room s m ([.ref A_t] : List Value).toArray below meth c H locs 0 0 Q0 (F0 m 8 ls []) := by
    intro n8
    induction n8 with
    | zero => intro t_broken t_brokenAt t_spot t_here t_token t_value H locs ls h; exact False.elim h
    | succ n8 ih8 =>
      intro t_broken t_brokenAt t_spot t_here t_token t_value H locs ls h hP hD hS hl
      have h : LB_X8_readsOn_8 post t_taped t_broken t_brokenAt t_tape (L_X8_readsOn_8 post t_taped t_broken t_brokenAt t_tape n8) t_spot := h
      unfold LB_X8_readsOn_8 at h
      refine lv_aload_n hx hb dX8_readsOn_8 rfl (lv_at hl 0 rfl) ?_
      refine lv_aload_n hx hb dX8_readsOn_9 rfl (lv_at hl 0 rfl) ?_
      refine va_get (D := D) (ci := 8) (v := .int t_spot) (C := RX8) (T := TX8) (N := 23) hx hb hts iX8 hown hK.1 hP 0 rfl rfl 6 (by decide) f1 (fun _ h9 => h9) rfl dX8_readsOn_10 ?_
      have hPc := hP.sub (ws' := [(A_t, .inr (8, [.ref A_t_state, .ref A_t_tape, .int t_taped, .int t_fault, .int t_broken, .int t_brokenAt, .int t_spot, .int t_here, .int t_token, .int t_value, .int t_isRealTold, .ref A_t_ends, .ref A_t_letters, .ref A_t_least, .ref A_t_conflicts, .int t_conflictMany, .ref A_t_behind, .ref A_t_placed, .ref A_t_isKept, .ref A_t_lanes, .ref A_t_lengths, .ref A_t_cells, .int t_torn])), (A_t_tape, .inl (cy 1, 320, .inl t_tape))]) [0, 1] rfl
      refine vp_callSi (W.runV (As := [.int t_spot]) (rest := []) CF (c_X8_byteAt l D cy A_t A_t_state A_t_tape A_t_ends A_t_letters A_t_least A_t_conflicts A_t_behind A_t_placed A_t_isKept A_t_lanes A_t_lengths A_t_cells t_taped t_fault t_broken t_brokenAt t_spot t_here t_token t_value t_isRealTold t_conflictMany t_torn t_tape t_spot _ h) (cwV 1 hts gX8_readsOn_X8_byteAt rfl rfl rfl qX8_byteAt ⟨Nat.le_of_ble_eq_true rfl, Nat.le_of_ble_eq_true rfl⟩) (mpVR hK hPc (ci := 8) (q := (RX8, TX8, 23)) (q0 := 0) rfl rfl) rfl rfl hl.1 rfl (lv_room (Nat.le_of_ble_eq_true rfl)) dX8_readsOn_13 ⟨Nat.zero_le _, Nat.zero_le _⟩) (fun r1 h => ?_)
      refine lv_bipush (v := 32) hx hb dX8_readsOn_16 (by decide) ?_
      refine lv_icmp_ne (tgt := 34) hx hb dX8_readsOn_18 (by decide) (fun hc => ?_) (fun hc => ?_)
      · replace h := h.1 hc
        refine lv_aload_n hx hb dX8_readsOn_34 rfl (lv_at hl 0 rfl) ?_
        refine lv_aload_n hx hb dX8_readsOn_35 rfl (lv_at hl 0 rfl) ?_
        refine va_get (D := D) (ci := 8) (v := .int t_spot) (C := RX8) (T := TX8) (N := 23) hx hb hts iX8 hown hK.1 hP 0 rfl rfl 6 (by decide) f1 (fun _ h9 => h9) rfl dX8_readsOn_36 ?_
        refine va_put (D := D) (ci := 8) (v := .int t_spot) (ty := .int) (C := RX8) (T := TX8) (N := 23) hx hb hts iX8 tyX8 tyX8_ok nmX8 hown hK.1 hP hD hS 0 rfl rfl 7 (by decide) f2 (fun _ h9 => h9) rfl (tyX8_ok 7 (by decide)) rfl rfl (Nat.le_of_ble_eq_true rfl) dX8_readsOn_39 (fun H locs hP hD hS => ?_)
        have hP : va_P D vwCl [(A_t, .inr (8, [.ref A_t_state, .ref A_t_tape, .int t_taped, .int t_fault, .int t_broken, .int t_brokenAt, .int t_spot, .int t_spot, .int t_token, .int t_value, .int t_isRealTold, .ref A_t_ends, .ref A_t_letters, .ref A_t_least, .ref A_t_conflicts, .int t_conflictMany, .ref A_t_behind, .ref A_t_placed, .ref A_t_isKept, .ref A_t_lanes, .ref A_t_lengths, .ref A_t_cells, .int t_torn])), (A_t_tape, .inl (cy 1, 320, .inl t_tape))] H := hP
        have hD : va_D A [(A_t, .inr (8, [.ref A_t_state, .ref A_t_tape, .int t_taped, .int t_fault, .int t_broken, .int t_brokenAt, .int t_spot, .int t_spot, .int t_token, .int t_value, .int t_isRealTold, .ref A_t_ends, .ref A_t_letters, .ref A_t_least, .ref A_t_conflicts, .int t_conflictMany, .ref A_t_behind, .ref A_t_placed, .ref A_t_isKept, .ref A_t_lanes, .ref A_t_lengths, .ref A_t_cells, .int t_torn])), (A_t_tape, .inl (cy 1, 320, .inl t_tape))] := hD
        refine lv_aload_n hx hb dX8_readsOn_42 rfl (lv_at hl 0 rfl) ?_
        refine lv_aload_n hx hb dX8_readsOn_43 rfl (lv_at hl 0 rfl) ?_
        refine va_get (D := D) (ci := 8) (v := .int t_spot) (C := RX8) (T := TX8) (N := 23) hx hb hts iX8 hown hK.1 hP 0 rfl rfl 6 (by decide) f1 (fun _ h9 => h9) rfl dX8_readsOn_44 ?_
        have hPc := hP.sub (ws' := [(A_t, .inr (8, [.ref A_t_state, .ref A_t_tape, .int t_taped, .int t_fault, .int t_broken, .int t_brokenAt, .int t_spot, .int t_spot, .int t_token, .int t_value, .int t_isRealTold, .ref A_t_ends, .ref A_t_letters, .ref A_t_least, .ref A_t_conflicts, .int t_conflictMany, .ref A_t_behind, .ref A_t_placed, .ref A_t_isKept, .ref A_t_lanes, .ref A_t_lengths, .ref A_t_cells, .int t_torn])), (A_t_tape, .inl (cy 1, 320, .inl t_tape))]) [0, 1] rfl
        refine vp_callSi (W.runV (As := [.int t_spot]) (rest := []) CF (c_X8_byteAt l D cy A_t A_t_state A_t_tape A_t_ends A_t_letters A_t_least A_t_conflicts A_t_behind A_t_placed A_t_isKept A_t_lanes A_t_lengths A_t_cells t_taped t_fault t_broken t_brokenAt t_spot t_spot t_token t_value t_isRealTold t_conflictMany t_torn t_tape t_spot _ h) (cwV 1 hts gX8_readsOn_X8_byteAt rfl rfl rfl qX8_byteAt ⟨Nat.le_of_ble_eq_true rfl, Nat.le_of_ble_eq_true rfl⟩) (mpVR hK hPc (ci := 8) (q := (RX8, TX8, 23)) (q0 := 0) rfl rfl) rfl rfl hl.1 rfl (lv_room (Nat.le_of_ble_eq_true rfl)) dX8_readsOn_47 ⟨Nat.zero_le _, Nat.zero_le _⟩) (fun r2 h => ?_)
        refine lv_istore_n (lv' := [(1, .int r2), (0, .ref A_t)]) hx hb dX8_readsOn_50 rfl hl (by decide) rfl (fun ls hl => ?_)
        refine lv_aload_n hx hb dX8_readsOn_51 rfl (lv_at hl 1 rfl) ?_
        refine lv_iconst (v := 0) hx hb dX8_readsOn_52 (by decide) ?_
        refine va_put (D := D) (ci := 8) (v := .int (0 : Int32)) (ty := .int) (C := RX8) (T := TX8) (N := 23) hx hb hts iX8 tyX8 tyX8_ok nmX8 hown hK.1 hP hD hS 0 rfl rfl 9 (by decide) f3 (fun _ h9 => h9) rfl (tyX8_ok 9 (by decide)) rfl rfl (Nat.le_of_ble_eq_true rfl) dX8_readsOn_53 (fun H locs hP hD hS => ?_)
        have hP : va_P D vwCl [(A_t, .inr (8, [.ref A_t_state, .ref A_t_tape, .int t_taped, .int t_fault, .int t_broken, .int t_brokenAt, .int t_spot, .int t_spot, .int t_token, .int ((0 : Int32)), .int t_isRealTold, .ref A_t_ends, .ref A_t_letters, .ref A_t_least, .ref A_t_conflicts, .int t_conflictMany, .ref A_t_behind, .ref A_t_placed, .ref A_t_isKept, .ref A_t_lanes, .ref A_t_lengths, .ref A_t_cells, .int t_torn])), (A_t_tape, .inl (cy 1, 320, .inl t_tape))] H := hP
        have hD : va_D A [(A_t, .inr (8, [.ref A_t_state, .ref A_t_tape, .int t_taped, .int t_fault, .int t_broken, .int t_brokenAt, .int t_spot, .int t_spot, .int t_token, .int ((0 : Int32)), .int t_isRealTold, .ref A_t_ends, .ref A_t_letters, .ref A_t_least, .ref A_t_conflicts, .int t_conflictMany, .ref A_t_behind, .ref A_t_placed, .ref A_t_isKept, .ref A_t_lanes, .ref A_t_lengths, .ref A_t_cells, .int t_torn])), (A_t_tape, .inl (cy 1, 320, .inl t_tape))] := hD
        refine lv_iload_n hx hb dX8_readsOn_56 rfl (lv_at hl 0 rfl) ?_
        refine lv_bipush (v := -4) hx hb dX8_readsOn_57 (by decide) ?_
        refine lv_icmp_ne (tgt := 70) hx hb dX8_readsOn_59 (by decide) (fun hc => ?_) (fun hc => ?_)
        · replace h := h.1 hc
          refine lv_iload_n hx hb dX8_readsOn_70 rfl (lv_at hl 0 rfl) ?_
          refine lv_i2l (v := r2.toInt64) hx hb dX8_readsOn_71 rfl ?_
          refine lv_ldc2 (v := 97) hx hb hown f4 dX8_readsOn_72 ?_
          refine lv_ldc2 (v := 122) hx hb hown f5 dX8_readsOn_75 ?_
          refine vp_callSi (W.runS (As := [.long r2.toInt64, .long (97 : Int64), .long (122 : Int64)]) (rest := []) CF (c_X8_in l r2.toInt64 (97 : Int64) (122 : Int64) _ h) (va_cwS 3 hts gX8_readsOn_X8_in rfl rfl rfl qX8_in.2 ⟨Nat.le_of_ble_eq_true rfl, Nat.le_of_ble_eq_true rfl⟩) mpSN rfl rfl hl.1 rfl (lv_room (Nat.le_of_ble_eq_true rfl)) dX8_readsOn_78 ⟨Nat.zero_le _, Nat.zero_le _⟩) (fun r3 h => ?_)
          refine lv_if_eq (tgt := 126) hx hb dX8_readsOn_81 (by decide) (fun hc => ?_) (fun hc => ?_)
          · replace h := h.1 hc
            refine lv_iload_n hx hb dX8_readsOn_126 rfl (lv_at hl 0 rfl) ?_
            refine lv_i2l (v := r2.toInt64) hx hb dX8_readsOn_127 rfl ?_
            refine lv_ldc2 (v := 48) hx hb hown f6 dX8_readsOn_128 ?_
            refine lv_ldc2 (v := 57) hx hb hown f7 dX8_readsOn_131 ?_
            refine vp_callSi (W.runS (As := [.long r2.toInt64, .long (48 : Int64), .long (57 : Int64)]) (rest := []) CF (c_X8_in l r2.toInt64 (48 : Int64) (57 : Int64) _ h) (va_cwS 3 hts gX8_readsOn_X8_in rfl rfl rfl qX8_in.2 ⟨Nat.le_of_ble_eq_true rfl, Nat.le_of_ble_eq_true rfl⟩) mpSN rfl rfl hl.1 rfl (lv_room (Nat.le_of_ble_eq_true rfl)) dX8_readsOn_134 ⟨Nat.zero_le _, Nat.zero_le _⟩) (fun r4 h => ?_)
            refine lv_if_eq (tgt := 243) hx hb dX8_readsOn_137 (by decide) (fun hc => ?_) (fun hc => ?_)
            · replace h := h.1 hc
              refine lv_aload_n hx hb dX8_readsOn_243 rfl (lv_at hl 1 rfl) ?_
              refine lv_iload_n hx hb dX8_readsOn_244 rfl (lv_at hl 0 rfl) ?_
              refine lv_bipush (v := 45) hx hb dX8_readsOn_245 (by decide) ?_
              refine lv_icmp_ne (tgt := 254) hx hb dX8_readsOn_247 (by decide) (fun hc => ?_) (fun hc => ?_)
              · replace h := h.1 hc
                refine lv_iconst (v := 3) hx hb dX8_readsOn_254 (by decide) ?_
                exact J255 t_broken t_brokenAt t_spot t_spot t_token (0 : Int32) r2 (3 : Int32) H locs ls h hP hD hS (lv_sub hl [1, 0] rfl)
              · replace h := h.2 hc
                refine lv_iconst (v := 4) hx hb dX8_readsOn_250 (by decide) ?_
                refine lv_goto (tgt := 255) hx hb dX8_readsOn_251 (by decide) ?_
                exact J255 t_broken t_brokenAt t_spot t_spot t_token (0 : Int32) r2 (4 : Int32) H locs ls h hP hD hS (lv_sub hl [1, 0] rfl)
            · replace h := h.2 hc
              obtain ⟨nn, h⟩ := h
              exact L140 nn t_broken t_brokenAt t_spot t_spot t_token (0 : Int32) H locs ls h hP hD hS (lv_sub hl [1] rfl)
          · replace h := h.2 hc
            obtain ⟨nn, h⟩ := h
            exact L84 nn t_broken t_brokenAt t_spot t_spot t_token (0 : Int32) H locs ls h hP hD hS (lv_sub hl [1] rfl)
        · replace h := h.2 hc
          refine lv_aload_n hx hb dX8_readsOn_62 rfl (lv_at hl 1 rfl) ?_
          refine lv_iconst (v := 0) hx hb dX8_readsOn_63 (by decide) ?_
          refine va_put (D := D) (ci := 8) (v := .int (0 : Int32)) (ty := .int) (C := RX8) (T := TX8) (N := 23) hx hb hts iX8 tyX8 tyX8_ok nmX8 hown hK.1 hP hD hS 0 rfl rfl 8 (by decide) f8 (fun _ h9 => h9) rfl (tyX8_ok 8 (by decide)) rfl rfl (Nat.le_of_ble_eq_true rfl) dX8_readsOn_64 (fun H locs hP hD hS => ?_)
          have hP : va_P D vwCl [(A_t, .inr (8, [.ref A_t_state, .ref A_t_tape, .int t_taped, .int t_fault, .int t_broken, .int t_brokenAt, .int t_spot, .int t_spot, .int ((0 : Int32)), .int ((0 : Int32)), .int t_isRealTold, .ref A_t_ends, .ref A_t_letters, .ref A_t_least, .ref A_t_conflicts, .int t_conflictMany, .ref A_t_behind, .ref A_t_placed, .ref A_t_isKept, .ref A_t_lanes, .ref A_t_lengths, .ref A_t_cells, .int t_torn])), (A_t_tape, .inl (cy 1, 320, .inl t_tape))] H := hP
          have hD : va_D A [(A_t, .inr (8, [.ref A_t_state, .ref A_t_tape, .int t_taped, .int t_fault, .int t_broken, .int t_brokenAt, .int t_spot, .int t_spot, .int ((0 : Int32)), .int ((0 : Int32)), .int t_isRealTold, .ref A_t_ends, .ref A_t_letters, .ref A_t_least, .ref A_t_conflicts, .int t_conflictMany, .ref A_t_behind, .ref A_t_placed, .ref A_t_isKept, .ref A_t_lanes, .ref A_t_lengths, .ref A_t_cells, .int t_torn])), (A_t_tape, .inl (cy 1, 320, .inl t_tape))] := hD
          refine lv_goto (tgt := 285) hx hb dX8_readsOn_67 (by decide) ?_
          subst hQ
          subst hAe
          exact W.vret hx hb hr (fun t ht _ => ⟨⟨(t_broken, t_brokenAt, t_spot, t_spot, (0 : Int32), (0 : Int32)), rfl, h, by rw [ht]; exact hP, hD⟩, hS.F ht⟩) hS.2.2 dX8_readsOn_285
      · replace h := h.2 hc
        refine lv_aload_n hx hb dX8_readsOn_21 rfl (lv_at hl 0 rfl) ?_
        refine lv_dup hx hb dX8_readsOn_22 rfl ?_
        refine va_get (D := D) (ci := 8) (v := .int t_spot) (C := RX8) (T := TX8) (N := 23) hx hb hts iX8 hown hK.1 hP 0 rfl rfl 6 (by decide) f1 (fun _ h9 => h9) rfl dX8_readsOn_23 ?_
        refine lv_iconst (v := 1) hx hb dX8_readsOn_26 (by decide) ?_
        refine lv_iadd hx hb dX8_readsOn_27 ?_
        refine va_put (D := D) (ci := 8) (v := .int (t_spot + (1 : Int32))) (ty := .int) (C := RX8) (T := TX8) (N := 23) hx hb hts iX8 tyX8 tyX8_ok nmX8 hown hK.1 hP hD hS 0 rfl rfl 6 (by decide) f1 (fun _ h9 => h9) rfl (tyX8_ok 6 (by decide)) rfl rfl (Nat.le_of_ble_eq_true rfl) dX8_readsOn_28 (fun H locs hP hD hS => ?_)
        have hP : va_P D vwCl [(A_t, .inr (8, [.ref A_t_state, .ref A_t_tape, .int t_taped, .int t_fault, .int t_broken, .int t_brokenAt, .int (t_spot + (1 : Int32)), .int t_here, .int t_token, .int t_value, .int t_isRealTold, .ref A_t_ends, .ref A_t_letters, .ref A_t_least, .ref A_t_conflicts, .int t_conflictMany, .ref A_t_behind, .ref A_t_placed, .ref A_t_isKept, .ref A_t_lanes, .ref A_t_lengths, .ref A_t_cells, .int t_torn])), (A_t_tape, .inl (cy 1, 320, .inl t_tape))] H := hP
        have hD : va_D A [(A_t, .inr (8, [.ref A_t_state, .ref A_t_tape, .int t_taped, .int t_fault, .int t_broken, .int t_brokenAt, .int (t_spot + (1 : Int32)), .int t_here, .int t_token, .int t_value, .int t_isRealTold, .ref A_t_ends, .ref A_t_letters, .ref A_t_least, .ref A_t_conflicts, .int t_conflictMany, .ref A_t_behind, .ref A_t_placed, .ref A_t_isKept, .ref A_t_lanes, .ref A_t_lengths, .ref A_t_cells, .int t_torn])), (A_t_tape, .inl (cy 1, 320, .inl t_tape))] := hD
        refine lv_goto (tgt := 8) hx hb dX8_readsOn_31 (by decide) ?_
        exact ih8 t_broken t_brokenAt (t_spot + (1 : Int32)) t_here t_token t_value H locs ls h hP hD hS (lv_sub hl [0] rfl)
  unfold P_X8_readsOn at h
  refine lv_aload_n hx hb dX8_readsOn_0 rfl (lv_at hl 0 rfl) ?_
  refine va_get (D := D) (ci := 8) (v := .int t_broken) (C := RX8) (T := TX8) (N := 23) hx hb hts iX8 hown hK.1 hP 0 rfl rfl 4 (by decide) f0 (fun _ h9 => h9) rfl dX8_readsOn_1 ?_
  refine lv_if_le (tgt := 8) hx hb dX8_readsOn_4 (by decide) (fun hc => ?_) (fun hc => ?_)
  · replace h := h.1 hc
    obtain ⟨nn, h⟩ := h
    exact L8 nn t_broken t_brokenAt t_spot t_here t_token t_value s.heap [] ls h hP hD hS (lv_sub hl [0] rfl)
  · replace h := h.2 hc
    subst hQ
    subst hAe
    exact W.vret hx hb hr (fun t ht _ => ⟨⟨(t_broken, t_brokenAt, t_spot, t_here, t_token, t_value), rfl, h, by rw [ht]; exact hP, hD⟩, hS.F ht⟩) hS.2.2 dX8_readsOn_7
theorem qX8_thingRead : yX8_thingRead.cls = RX8 ∧ yX8_thingRead.cls ≠ "java/lang/invoke/MethodHandle" ∧ yX8_thingRead.cls ≠ "java/lang/invoke/VarHandle" ∧ (parseMethodDescriptor yX8_thingRead.desc).map (fun d => d.parameters.length) = some 1 := by decide +kernel
def B_X8_thingRead_104 (post : Int32 → Int32 → Int32 → Int32 → Int32 → Int32 → Int32 → Prop) (t_taped : Int32) (t_broken : Int32) (t_brokenAt : Int32) (t_spot : Int32) (t_here : Int32) (t_token : Int32) (t_value : Int32) (t_tape : Nat → Int32) (x3 : Int32) : Prop :=
  P_X8_readsOn (fun (t_broken_v1 : Int32) (t_brokenAt_v1 : Int32) (t_spot_v1 : Int32) (t_here_v1 : Int32) (t_token_v1 : Int32) (t_value_v1 : Int32) => post x3 t_broken_v1 t_brokenAt_v1 t_spot_v1 t_here_v1 t_token_v1 t_value_v1) t_taped t_broken t_brokenAt t_spot t_here t_token t_value t_tape
def B_X8_thingRead_86 (post : Int32 → Int32 → Int32 → Int32 → Int32 → Int32 → Int32 → Prop) (t_taped : Int32) (t_broken : Int32) (t_brokenAt : Int32) (t_spot : Int32) (t_here : Int32) (t_token : Int32) (t_value : Int32) (t_tape : Nat → Int32) (k0 : Int32) (x1 : Int32) : Prop :=
  ((¬ t_broken = 0 → B_X8_thingRead_104 post t_taped t_broken t_brokenAt t_spot t_here t_token t_value t_tape k0) ∧ (t_broken = 0 → ((¬ k0 = x1 → B_X8_thingRead_104 post t_taped t_broken t_brokenAt t_spot t_here t_token t_value t_tape k0) ∧ (k0 = x1 → P_X8_fails (fun (t_broken_v2 : Int32) (t_brokenAt_v2 : Int32) => B_X8_thingRead_104 post t_taped t_broken_v2 t_brokenAt_v2 t_spot t_here t_token t_value t_tape k0) t_broken t_brokenAt t_here (4 : Int32)))))
def B_X8_thingRead_64 (post : Int32 → Int32 → Int32 → Int32 → Int32 → Int32 → Int32 → Prop) (t_taped : Int32) (t_broken : Int32) (t_brokenAt : Int32) (t_spot : Int32) (t_here : Int32) (t_token : Int32) (t_value : Int32) (t_tape : Nat → Int32) (x1 : Int32) : Prop :=
  ((¬ t_broken = 0 → B_X8_thingRead_86 post t_taped t_broken t_brokenAt t_spot t_here t_token t_value t_tape (0 : Int32) x1) ∧ (t_broken = 0 → P_X8_byteAt (fun (r3 : Int32) => B_X8_thingRead_86 post t_taped t_broken t_brokenAt t_spot t_here t_token t_value t_tape (r3 - (97 : Int32)) x1) t_taped t_tape t_here))
def B_X8_thingRead_47 (post : Int32 → Int32 → Int32 → Int32 → Int32 → Int32 → Int32 → Prop) (t_taped : Int32) (t_broken : Int32) (t_brokenAt : Int32) (t_spot : Int32) (t_here : Int32) (t_token : Int32) (t_value : Int32) (t_tape : Nat → Int32) (k0 : Int32) (x1 : Int32) : Prop :=
  ((¬ t_broken = 0 → B_X8_thingRead_64 post t_taped t_broken t_brokenAt t_spot t_here t_token t_value t_tape x1) ∧ (t_broken = 0 → ((¬ k0 = 0 → B_X8_thingRead_64 post t_taped t_broken t_brokenAt t_spot t_here t_token t_value t_tape x1) ∧ (k0 = 0 → P_X8_fails (fun (t_broken_v4 : Int32) (t_brokenAt_v4 : Int32) => B_X8_thingRead_64 post t_taped t_broken_v4 t_brokenAt_v4 t_spot t_here t_token t_value t_tape x1) t_broken t_brokenAt t_here (2 : Int32)))))
def B_X8_thingRead_46 (post : Int32 → Int32 → Int32 → Int32 → Int32 → Int32 → Int32 → Prop) (t_taped : Int32) (t_broken : Int32) (t_brokenAt : Int32) (t_spot : Int32) (t_here : Int32) (t_token : Int32) (t_value : Int32) (t_tape : Nat → Int32) (x1 : Int32) : Prop :=
  B_X8_thingRead_47 post t_taped t_broken t_brokenAt t_spot t_here t_token t_value t_tape (0 : Int32) x1
def P_X8_thingRead (post : Int32 → Int32 → Int32 → Int32 → Int32 → Int32 → Int32 → Prop) (t_taped : Int32) (t_broken : Int32) (t_brokenAt : Int32) (t_spot : Int32) (t_here : Int32) (t_token : Int32) (t_value : Int32) (t_tape : Nat → Int32) (x1 : Int32) : Prop :=
  ((¬ t_token = (1 : Int32) → B_X8_thingRead_46 post t_taped t_broken t_brokenAt t_spot t_here t_token t_value t_tape x1) ∧ (t_token = (1 : Int32) → ((¬ t_spot - t_here = (1 : Int32) → B_X8_thingRead_46 post t_taped t_broken t_brokenAt t_spot t_here t_token t_value t_tape x1) ∧ (t_spot - t_here = (1 : Int32) → P_X8_byteAt (fun (r5 : Int32) => P_X8_in (fun (r6 : Int32) => ((r6 = 0 → B_X8_thingRead_46 post t_taped t_broken t_brokenAt t_spot t_here t_token t_value t_tape x1) ∧ (¬ r6 = 0 → B_X8_thingRead_47 post t_taped t_broken t_brokenAt t_spot t_here t_token t_value t_tape (1 : Int32) x1))) r5.toInt64 (97 : Int64) (106 : Int64)) t_taped t_tape t_here))))
set_option maxHeartbeats 4000000 in
set_option maxRecDepth 100000 in
theorem c_X8_thingRead (l : Launch) (D : va_G) (cy : Nat → ClassId) (sz : Nat) (A_t A_t_state A_t_tape A_t_ends A_t_letters A_t_least A_t_conflicts A_t_behind A_t_placed A_t_isKept A_t_lanes A_t_lengths A_t_cells : Nat) (t_taped : Int32) (t_fault : Int32) (t_broken : Int32) (t_brokenAt : Int32) (t_spot : Int32) (t_here : Int32) (t_token : Int32) (t_value : Int32) (t_isRealTold : Int32) (t_conflictMany : Int32) (t_torn : Int32) (t_tape : Nat → Int32) (x1 : Int32) (post : Int32 → Int32 → Int32 → Int32 → Int32 → Int32 → Int32 → Prop) (h : P_X8_thingRead post t_taped t_broken t_brokenAt t_spot t_here t_token t_value t_tape x1) : Met l yX8_thingRead wsX8_thingRead { frames := 2, cells := 0, slots := 0, locals := 46 } (pcW D cy [(A_t, .inr (8, [.ref A_t_state, .ref A_t_tape, .int t_taped, .int t_fault, .int t_broken, .int t_brokenAt, .int t_spot, .int t_here, .int t_token, .int t_value, .int t_isRealTold, .ref A_t_ends, .ref A_t_letters, .ref A_t_least, .ref A_t_conflicts, .int t_conflictMany, .ref A_t_behind, .ref A_t_placed, .ref A_t_isKept, .ref A_t_lanes, .ref A_t_lengths, .ref A_t_cells, .int t_torn])), (A_t_tape, .inl (cy 1, 320, .inl t_tape))] sz [.ref A_t, .int x1]) (va_Qi (fun r (u : Int32 × Int32 × Int32 × Int32 × Int32 × Int32) => post r u.1 u.2.1 u.2.2.1 u.2.2.2.1 u.2.2.2.2.1 u.2.2.2.2.2) (bW D [(A_t, .inr (8, [.ref A_t_state, .ref A_t_tape, .int t_taped, .int t_fault, .int t_broken, .int t_brokenAt, .int t_spot, .int t_here, .int t_token, .int t_value, .int t_isRealTold, .ref A_t_ends, .ref A_t_letters, .ref A_t_least, .ref A_t_conflicts, .int t_conflictMany, .ref A_t_behind, .ref A_t_placed, .ref A_t_isKept, .ref A_t_lanes, .ref A_t_lengths, .ref A_t_cells, .int t_torn])), (A_t_tape, .inl (cy 1, 320, .inl t_tape))] sz (fun u => [(A_t, .inr (8, [.ref A_t_state, .ref A_t_tape, .int t_taped, .int t_fault, .int (u.1), .int (u.2.1), .int (u.2.2.1), .int (u.2.2.2.1), .int (u.2.2.2.2.1), .int (u.2.2.2.2.2), .int t_isRealTold, .ref A_t_ends, .ref A_t_letters, .ref A_t_least, .ref A_t_conflicts, .int t_conflictMany, .ref A_t_behind, .ref A_t_placed, .ref A_t_isKept, .ref A_t_lanes, .ref A_t_lengths, .ref A_t_cells, .int t_torn])), (A_t_tape, .inl (cy 1, 320, .inl t_tape))])) (va_A [(A_t, .inr (8, [.ref A_t_state, .ref A_t_tape, .int t_taped, .int t_fault, .int t_broken, .int t_brokenAt, .int t_spot, .int t_here, .int t_token, .int t_value, .int t_isRealTold, .ref A_t_ends, .ref A_t_letters, .ref A_t_least, .ref A_t_conflicts, .int t_conflictMany, .ref A_t_behind, .ref A_t_placed, .ref A_t_isKept, .ref A_t_lanes, .ref A_t_lengths, .ref A_t_cells, .int t_torn])), (A_t_tape, .inl (cy 1, 320, .inl t_tape))] sz)) 0 0 (va_A [(A_t, .inr (8, [.ref A_t_state, .ref A_t_tape, .int t_taped, .int t_fault, .int t_broken, .int t_brokenAt, .int t_spot, .int t_here, .int t_token, .int t_value, .int t_isRealTold, .ref A_t_ends, .ref A_t_letters, .ref A_t_least, .ref A_t_conflicts, .int t_conflictMany, .ref A_t_behind, .ref A_t_placed, .ref A_t_isKept, .ref A_t_lanes, .ref A_t_lengths, .ref A_t_cells, .int t_torn])), (A_t_tape, .inl (cy 1, 320, .inl t_tape))] sz) := by
  refine Met.ofW (cc := cX8_thingRead) (maxL := 4) (ret := (some .int)) (by decide) rfl ?_
  intro p e s m args below meth c s₁ B hml hv
  obtain ⟨rfl, hsz, hP, hK, hD0⟩ := hv
  have hx := B.exec
  have hb := B.bytes
  have hr := B.returns
  have hts := atoms_spec (ws := wsX8_thingRead) B.pre
  have hown : s.vm.findClass RX8 = some m.cls := findClass_of_methodNamed B.named
  have hlocks := B.notSynchronized
  have CF : CallFix p m c cX8_thingRead 4 s ([.ref A_t, .int x1] : List Value).toArray wsX8_thingRead RX8 := ⟨hx, hb, hml, hown, hts⟩
  have f0 := hts (.fieldLink RX8 67 "GapBoundsModel" "token" "I") (by decide +kernel)
  have f1 := hts (.fieldLink RX8 58 "GapBoundsModel" "broken" "I") (by decide +kernel)
  have f2 := hts (.fieldLink RX8 61 "GapBoundsModel" "here" "I") (by decide +kernel)
  have f3 := hts (.fieldLink RX8 70 "GapBoundsModel" "spot" "I") (by decide +kernel)
  have f4 := hts (.constantLong RX8 80 (97)) (by decide +kernel)
  have f5 := hts (.constantLong RX8 92 (106)) (by decide +kernel)
  have iX8 : ∀ w ∈ u_ws RX8 TX8 23, w ∈ wsX8_thingRead := by decide +kernel
  subst hsz
  obtain ⟨A, hAe⟩ : ∃ A, A = va_A [(A_t, .inr (8, [.ref A_t_state, .ref A_t_tape, .int t_taped, .int t_fault, .int t_broken, .int t_brokenAt, .int t_spot, .int t_here, .int t_token, .int t_value, .int t_isRealTold, .ref A_t_ends, .ref A_t_letters, .ref A_t_least, .ref A_t_conflicts, .int t_conflictMany, .ref A_t_behind, .ref A_t_placed, .ref A_t_isKept, .ref A_t_lanes, .ref A_t_lengths, .ref A_t_cells, .int t_torn])), (A_t_tape, .inl (cy 1, 320, .inl t_tape))] s.heap.size := ⟨_, rfl⟩
  have hD : va_D A [(A_t, .inr (8, [.ref A_t_state, .ref A_t_tape, .int t_taped, .int t_fault, .int t_broken, .int t_brokenAt, .int t_spot, .int t_here, .int t_token, .int t_value, .int t_isRealTold, .ref A_t_ends, .ref A_t_letters, .ref A_t_least, .ref A_t_conflicts, .int t_conflictMany, .ref A_t_behind, .ref A_t_placed, .ref A_t_isKept, .ref A_t_lanes, .ref A_t_lengths, .ref A_t_cells, .int t_torn])), (A_t_tape, .inl (cy 1, 320, .inl t_tape))] := by rw [hAe]; exact hD0.self
  have hA : ∀ q : Nat, s.heap.size ≤ q → A q := fun q hq => by rw [hAe]; exact Or.inr hq
  have hS : va_S A s.heap s.heap [] := va_S.rf
  have hl := lv_entry [.ref A_t, .int x1] (n := 4) (Nat.le_of_ble_eq_true rfl)
  rw [lg_entry_eq]
  generalize (lg_sl [.ref A_t, .int x1] ++ List.replicate (4 - (lg_sl [.ref A_t, .int x1]).length) Slot.unset).toArray = ls at hl ⊢
  have hl : lv_has ls 4 [(0, .ref A_t), (1, .int x1)] := hl
  refine W.gen (fun Q0 hQ => ?_)
  have J104 : ∀ (t_broken : Int32) (t_brokenAt : Int32) (t_spot : Int32) (t_here : Int32) (t_token : Int32) (t_value : Int32) (x3 : Int32) (H : Heap) (locs : List Loc) (ls : Array Slot), B_X8_thingRead_104 post t_taped t_broken t_brokenAt t_spot t_here t_token t_value t_tape x3 → va_P D vwCl [(A_t, .inr (8, [.ref A_t_state, .ref A_t_tape, .int t_taped, .int t_fault, .int t_broken, .int t_brokenAt, .int t_spot, .int t_here, .int t_token, .int t_value, .int t_isRealTold, .ref A_t_ends, .ref A_t_letters, .ref A_t_least, .ref A_t_conflicts, .int t_conflictMany, .ref A_t_behind, .ref A_t_placed, .ref A_t_isKept, .ref A_t_lanes, .ref A_t_lengths, .ref A_t_cells, .int t_torn])), (A_t_tape, .inl (cy 1, 320, .inl t_tape))] H → va_D A [(A_t, .inr (8, [.ref A_t_state, .ref A_t_tape, .int t_taped, .int t_fault, .int t_broken, .int t_brokenAt, .int t_spot, .int t_here, .int t_token, .int t_value, .int t_isRealTold, .ref A_t_ends, .ref A_t_letters, .ref A_t_least, .ref A_t_conflicts, .int t_conflictMany, .ref A_t_behind, .ref A_t_placed, .ref A_t_isKept, .ref A_t_lanes, .ref A_t_lengths, .ref A_t_cells, .int t_torn])), (A_t_tape, .inl (cy 1, 320, .inl t_tape))] → va_S A s.heap H locs → lv_has ls 4 [(0, .ref A_t), (3, .int x3)] → W p l e (headSpec wsX8_thingRead { frames := 2, cells := 0, slots := 0, locals := 46 }).room s m ([.ref A_t, .int x1] : List Value).toArray below meth c H locs 0 0 Q0 (F0 m 104 ls []) := by
    intro t_broken t_brokenAt t_spot t_here t_token t_value x3 H locs ls h hP hD hS hl
    unfold B_X8_thingRead_104 at h
    refine lv_aload_n hx hb dX8_thingRead_104 rfl (lv_at hl 0 rfl) ?_
    have hPn : va_P D vwCl ([] ++ [(A_t, .inr (8, [.ref A_t_state, .ref A_t_tape, .int t_taped, .int t_fault, .int t_broken, .int t_brokenAt, .int t_spot, .int t_here, .int t_token, .int t_value, .int t_isRealTold, .ref A_t_ends, .ref A_t_letters, .ref A_t_least, .ref A_t_conflicts, .int t_conflictMany, .ref A_t_behind, .ref A_t_placed, .ref A_t_isKept, .ref A_t_lanes, .ref A_t_lengths, .ref A_t_cells, .int t_torn])), (A_t_tape, .inl (cy 1, 320, .inl t_tape))]) H := hP.sub [0, 1] rfl
    have hDn : va_D A ([] ++ [(A_t, .inr (8, [.ref A_t_state, .ref A_t_tape, .int t_taped, .int t_fault, .int t_broken, .int t_brokenAt, .int t_spot, .int t_here, .int t_token, .int t_value, .int t_isRealTold, .ref A_t_ends, .ref A_t_letters, .ref A_t_least, .ref A_t_conflicts, .int t_conflictMany, .ref A_t_behind, .ref A_t_placed, .ref A_t_isKept, .ref A_t_lanes, .ref A_t_lengths, .ref A_t_cells, .int t_torn])), (A_t_tape, .inl (cy 1, 320, .inl t_tape))]) := hD.sub [0, 1] (by decide) rfl
    have hPc := gPR hPn
    have hDc := gDR hDn
    refine mw_v (va_runV (As := []) (rest := []) CF (c_X8_readsOn l D cy H.size A_t A_t_state A_t_tape A_t_ends A_t_letters A_t_least A_t_conflicts A_t_behind A_t_placed A_t_isKept A_t_lanes A_t_lengths A_t_cells t_taped t_fault t_broken t_brokenAt t_spot t_here t_token t_value t_isRealTold t_conflictMany t_torn t_tape _ h) (cwV 0 hts gX8_thingRead_X8_readsOn rfl rfl rfl qX8_readsOn ⟨Nat.le_of_ble_eq_true rfl, Nat.le_of_ble_eq_true rfl⟩) (mpVW hK hPc hDc (ci := 8) (q := (RX8, TX8, 23)) (q0 := 0) rfl rfl) rfl rfl hl.1 rfl (lv_room (Nat.le_of_ble_eq_true rfl)) dX8_thingRead_105 ⟨Nat.zero_le _, Nat.zero_le _⟩) hPn hDn hS hA (fun u H locs h hP hD hS => ?_)
    obtain ⟨t_broken_v1, t_brokenAt_v1, t_spot_v1, t_here_v1, t_token_v1, t_value_v1⟩ := u
    have hP : va_P D vwCl [(A_t, .inr (8, [.ref A_t_state, .ref A_t_tape, .int t_taped, .int t_fault, .int t_broken_v1, .int t_brokenAt_v1, .int t_spot_v1, .int t_here_v1, .int t_token_v1, .int t_value_v1, .int t_isRealTold, .ref A_t_ends, .ref A_t_letters, .ref A_t_least, .ref A_t_conflicts, .int t_conflictMany, .ref A_t_behind, .ref A_t_placed, .ref A_t_isKept, .ref A_t_lanes, .ref A_t_lengths, .ref A_t_cells, .int t_torn])), (A_t_tape, .inl (cy 1, 320, .inl t_tape))] H := hP.sub [0, 1] rfl
    have hD : va_D A [(A_t, .inr (8, [.ref A_t_state, .ref A_t_tape, .int t_taped, .int t_fault, .int t_broken_v1, .int t_brokenAt_v1, .int t_spot_v1, .int t_here_v1, .int t_token_v1, .int t_value_v1, .int t_isRealTold, .ref A_t_ends, .ref A_t_letters, .ref A_t_least, .ref A_t_conflicts, .int t_conflictMany, .ref A_t_behind, .ref A_t_placed, .ref A_t_isKept, .ref A_t_lanes, .ref A_t_lengths, .ref A_t_cells, .int t_torn])), (A_t_tape, .inl (cy 1, 320, .inl t_tape))] := hD.sub [0, 1] (by decide) rfl
    try dsimp only at h
    refine lv_iload_n hx hb dX8_thingRead_108 rfl (lv_at hl 1 rfl) ?_
    subst hQ
    subst hAe
    exact W.iret (v := x3) hx hb hr (fun t ht _ => ⟨⟨x3, (t_broken_v1, t_brokenAt_v1, t_spot_v1, t_here_v1, t_token_v1, t_value_v1), rfl, h, by rw [ht]; exact hP, hD⟩, hS.F ht⟩) hS.2.2 dX8_thingRead_109
  have J86 : ∀ (t_broken : Int32) (t_brokenAt : Int32) (t_spot : Int32) (t_here : Int32) (t_token : Int32) (t_value : Int32) (k0 : Int32) (H : Heap) (locs : List Loc) (ls : Array Slot), B_X8_thingRead_86 post t_taped t_broken t_brokenAt t_spot t_here t_token t_value t_tape k0 x1 → va_P D vwCl [(A_t, .inr (8, [.ref A_t_state, .ref A_t_tape, .int t_taped, .int t_fault, .int t_broken, .int t_brokenAt, .int t_spot, .int t_here, .int t_token, .int t_value, .int t_isRealTold, .ref A_t_ends, .ref A_t_letters, .ref A_t_least, .ref A_t_conflicts, .int t_conflictMany, .ref A_t_behind, .ref A_t_placed, .ref A_t_isKept, .ref A_t_lanes, .ref A_t_lengths, .ref A_t_cells, .int t_torn])), (A_t_tape, .inl (cy 1, 320, .inl t_tape))] H → va_D A [(A_t, .inr (8, [.ref A_t_state, .ref A_t_tape, .int t_taped, .int t_fault, .int t_broken, .int t_brokenAt, .int t_spot, .int t_here, .int t_token, .int t_value, .int t_isRealTold, .ref A_t_ends, .ref A_t_letters, .ref A_t_least, .ref A_t_conflicts, .int t_conflictMany, .ref A_t_behind, .ref A_t_placed, .ref A_t_isKept, .ref A_t_lanes, .ref A_t_lengths, .ref A_t_cells, .int t_torn])), (A_t_tape, .inl (cy 1, 320, .inl t_tape))] → va_S A s.heap H locs → lv_has ls 4 [(0, .ref A_t), (1, .int x1)] → W p l e (headSpec wsX8_thingRead { frames := 2, cells := 0, slots := 0, locals := 46 }).room s m ([.ref A_t, .int x1] : List Value).toArray below meth c H locs 0 0 Q0 (F0 m 86 ls [.int k0]) := by
    intro t_broken t_brokenAt t_spot t_here t_token t_value k0 H locs ls h hP hD hS hl
    unfold B_X8_thingRead_86 at h
    refine lv_istore_n (lv' := [(3, .int k0), (0, .ref A_t), (1, .int x1)]) hx hb dX8_thingRead_86 rfl hl (by decide) rfl (fun ls hl => ?_)
    refine lv_aload_n hx hb dX8_thingRead_87 rfl (lv_at hl 1 rfl) ?_
    refine va_get (D := D) (ci := 8) (v := .int t_broken) (C := RX8) (T := TX8) (N := 23) hx hb hts iX8 hown hK.1 hP 0 rfl rfl 4 (by decide) f1 (fun _ h9 => h9) rfl dX8_thingRead_88 ?_
    refine lv_if_ne (tgt := 104) hx hb dX8_thingRead_91 (by decide) (fun hc => ?_) (fun hc => ?_)
    · replace h := h.1 hc
      exact J104 t_broken t_brokenAt t_spot t_here t_token t_value k0 H locs ls h hP hD hS (lv_sub hl [1, 0] rfl)
    · replace h := h.2 hc
      refine lv_iload_n hx hb dX8_thingRead_94 rfl (lv_at hl 0 rfl) ?_
      refine lv_iload_n hx hb dX8_thingRead_95 rfl (lv_at hl 2 rfl) ?_
      refine lv_icmp_ne (tgt := 104) hx hb dX8_thingRead_96 (by decide) (fun hc => ?_) (fun hc => ?_)
      · replace h := h.1 hc
        exact J104 t_broken t_brokenAt t_spot t_here t_token t_value k0 H locs ls h hP hD hS (lv_sub hl [1, 0] rfl)
      · replace h := h.2 hc
        refine lv_aload_n hx hb dX8_thingRead_99 rfl (lv_at hl 1 rfl) ?_
        refine lv_iconst (v := 4) hx hb dX8_thingRead_100 (by decide) ?_
        have hPn : va_P D vwCl ([(A_t_tape, .inl (cy 1, 320, .inl t_tape))] ++ [(A_t, .inr (8, [.ref A_t_state, .ref A_t_tape, .int t_taped, .int t_fault, .int t_broken, .int t_brokenAt, .int t_spot, .int t_here, .int t_token, .int t_value, .int t_isRealTold, .ref A_t_ends, .ref A_t_letters, .ref A_t_least, .ref A_t_conflicts, .int t_conflictMany, .ref A_t_behind, .ref A_t_placed, .ref A_t_isKept, .ref A_t_lanes, .ref A_t_lengths, .ref A_t_cells, .int t_torn]))]) H := hP.sub [1, 0] rfl
        have hDn : va_D A ([(A_t_tape, .inl (cy 1, 320, .inl t_tape))] ++ [(A_t, .inr (8, [.ref A_t_state, .ref A_t_tape, .int t_taped, .int t_fault, .int t_broken, .int t_brokenAt, .int t_spot, .int t_here, .int t_token, .int t_value, .int t_isRealTold, .ref A_t_ends, .ref A_t_letters, .ref A_t_least, .ref A_t_conflicts, .int t_conflictMany, .ref A_t_behind, .ref A_t_placed, .ref A_t_isKept, .ref A_t_lanes, .ref A_t_lengths, .ref A_t_cells, .int t_torn]))]) := hD.sub [1, 0] (by decide) rfl
        have hPc := gPR hPn
        have hDc := gDR hDn
        refine mw_v (va_runV (As := [.int (4 : Int32)]) (rest := []) CF (c_X8_fails l D cy H.size A_t A_t_state A_t_tape A_t_ends A_t_letters A_t_least A_t_conflicts A_t_behind A_t_placed A_t_isKept A_t_lanes A_t_lengths A_t_cells t_taped t_fault t_broken t_brokenAt t_spot t_here t_token t_value t_isRealTold t_conflictMany t_torn (4 : Int32) _ h) (cwV 1 hts gX8_thingRead_X8_fails rfl rfl rfl qX8_fails ⟨Nat.le_of_ble_eq_true rfl, Nat.le_of_ble_eq_true rfl⟩) (mpVW hK hPc hDc (ci := 8) (q := (RX8, TX8, 23)) (q0 := 0) rfl rfl) rfl rfl hl.1 rfl (lv_room (Nat.le_of_ble_eq_true rfl)) dX8_thingRead_101 ⟨Nat.zero_le _, Nat.zero_le _⟩) hPn hDn hS hA (fun u H locs h hP hD hS => ?_)
        obtain ⟨t_broken_v2, t_brokenAt_v2⟩ := u
        have hP : va_P D vwCl [(A_t, .inr (8, [.ref A_t_state, .ref A_t_tape, .int t_taped, .int t_fault, .int t_broken_v2, .int t_brokenAt_v2, .int t_spot, .int t_here, .int t_token, .int t_value, .int t_isRealTold, .ref A_t_ends, .ref A_t_letters, .ref A_t_least, .ref A_t_conflicts, .int t_conflictMany, .ref A_t_behind, .ref A_t_placed, .ref A_t_isKept, .ref A_t_lanes, .ref A_t_lengths, .ref A_t_cells, .int t_torn])), (A_t_tape, .inl (cy 1, 320, .inl t_tape))] H := hP.sub [1, 0] rfl
        have hD : va_D A [(A_t, .inr (8, [.ref A_t_state, .ref A_t_tape, .int t_taped, .int t_fault, .int t_broken_v2, .int t_brokenAt_v2, .int t_spot, .int t_here, .int t_token, .int t_value, .int t_isRealTold, .ref A_t_ends, .ref A_t_letters, .ref A_t_least, .ref A_t_conflicts, .int t_conflictMany, .ref A_t_behind, .ref A_t_placed, .ref A_t_isKept, .ref A_t_lanes, .ref A_t_lengths, .ref A_t_cells, .int t_torn])), (A_t_tape, .inl (cy 1, 320, .inl t_tape))] := hD.sub [1, 0] (by decide) rfl
        try dsimp only at h
        exact J104 t_broken_v2 t_brokenAt_v2 t_spot t_here t_token t_value k0 H locs ls h hP hD hS (lv_sub hl [1, 0] rfl)
  have J64 : ∀ (t_broken : Int32) (t_brokenAt : Int32) (t_spot : Int32) (t_here : Int32) (t_token : Int32) (t_value : Int32) (H : Heap) (locs : List Loc) (ls : Array Slot), B_X8_thingRead_64 post t_taped t_broken t_brokenAt t_spot t_here t_token t_value t_tape x1 → va_P D vwCl [(A_t, .inr (8, [.ref A_t_state, .ref A_t_tape, .int t_taped, .int t_fault, .int t_broken, .int t_brokenAt, .int t_spot, .int t_here, .int t_token, .int t_value, .int t_isRealTold, .ref A_t_ends, .ref A_t_letters, .ref A_t_least, .ref A_t_conflicts, .int t_conflictMany, .ref A_t_behind, .ref A_t_placed, .ref A_t_isKept, .ref A_t_lanes, .ref A_t_lengths, .ref A_t_cells, .int t_torn])), (A_t_tape, .inl (cy 1, 320, .inl t_tape))] H → va_D A [(A_t, .inr (8, [.ref A_t_state, .ref A_t_tape, .int t_taped, .int t_fault, .int t_broken, .int t_brokenAt, .int t_spot, .int t_here, .int t_token, .int t_value, .int t_isRealTold, .ref A_t_ends, .ref A_t_letters, .ref A_t_least, .ref A_t_conflicts, .int t_conflictMany, .ref A_t_behind, .ref A_t_placed, .ref A_t_isKept, .ref A_t_lanes, .ref A_t_lengths, .ref A_t_cells, .int t_torn])), (A_t_tape, .inl (cy 1, 320, .inl t_tape))] → va_S A s.heap H locs → lv_has ls 4 [(0, .ref A_t), (1, .int x1)] → W p l e (headSpec wsX8_thingRead { frames := 2, cells := 0, slots := 0, locals := 46 }).room s m ([.ref A_t, .int x1] : List Value).toArray below meth c H locs 0 0 Q0 (F0 m 64 ls []) := by
    intro t_broken t_brokenAt t_spot t_here t_token t_value H locs ls h hP hD hS hl
    unfold B_X8_thingRead_64 at h
    refine lv_aload_n hx hb dX8_thingRead_64 rfl (lv_at hl 0 rfl) ?_
    refine va_get (D := D) (ci := 8) (v := .int t_broken) (C := RX8) (T := TX8) (N := 23) hx hb hts iX8 hown hK.1 hP 0 rfl rfl 4 (by decide) f1 (fun _ h9 => h9) rfl dX8_thingRead_65 ?_
    refine lv_if_ne (tgt := 85) hx hb dX8_thingRead_68 (by decide) (fun hc => ?_) (fun hc => ?_)
    · replace h := h.1 hc
      refine lv_iconst (v := 0) hx hb dX8_thingRead_85 (by decide) ?_
      exact J86 t_broken t_brokenAt t_spot t_here t_token t_value (0 : Int32) H locs ls h hP hD hS (lv_sub hl [0, 1] rfl)
    · replace h := h.2 hc
      refine lv_aload_n hx hb dX8_thingRead_71 rfl (lv_at hl 0 rfl) ?_
      refine lv_aload_n hx hb dX8_thingRead_72 rfl (lv_at hl 0 rfl) ?_
      refine va_get (D := D) (ci := 8) (v := .int t_here) (C := RX8) (T := TX8) (N := 23) hx hb hts iX8 hown hK.1 hP 0 rfl rfl 7 (by decide) f2 (fun _ h9 => h9) rfl dX8_thingRead_73 ?_
      have hPc := hP.sub (ws' := [(A_t, .inr (8, [.ref A_t_state, .ref A_t_tape, .int t_taped, .int t_fault, .int t_broken, .int t_brokenAt, .int t_spot, .int t_here, .int t_token, .int t_value, .int t_isRealTold, .ref A_t_ends, .ref A_t_letters, .ref A_t_least, .ref A_t_conflicts, .int t_conflictMany, .ref A_t_behind, .ref A_t_placed, .ref A_t_isKept, .ref A_t_lanes, .ref A_t_lengths, .ref A_t_cells, .int t_torn])), (A_t_tape, .inl (cy 1, 320, .inl t_tape))]) [0, 1] rfl
      refine vp_callSi (W.runV (As := [.int t_here]) (rest := []) CF (c_X8_byteAt l D cy A_t A_t_state A_t_tape A_t_ends A_t_letters A_t_least A_t_conflicts A_t_behind A_t_placed A_t_isKept A_t_lanes A_t_lengths A_t_cells t_taped t_fault t_broken t_brokenAt t_spot t_here t_token t_value t_isRealTold t_conflictMany t_torn t_tape t_here _ h) (cwV 1 hts gX8_thingRead_X8_byteAt rfl rfl rfl qX8_byteAt ⟨Nat.le_of_ble_eq_true rfl, Nat.le_of_ble_eq_true rfl⟩) (mpVR hK hPc (ci := 8) (q := (RX8, TX8, 23)) (q0 := 0) rfl rfl) rfl rfl hl.1 rfl (lv_room (Nat.le_of_ble_eq_true rfl)) dX8_thingRead_76 ⟨Nat.zero_le _, Nat.zero_le _⟩) (fun r3 h => ?_)
      refine lv_bipush (v := 97) hx hb dX8_thingRead_79 (by decide) ?_
      refine lv_isub hx hb dX8_thingRead_81 ?_
      refine lv_goto (tgt := 86) hx hb dX8_thingRead_82 (by decide) ?_
      exact J86 t_broken t_brokenAt t_spot t_here t_token t_value (r3 - (97 : Int32)) H locs ls h hP hD hS (lv_sub hl [0, 1] rfl)
  have J47 : ∀ (t_broken : Int32) (t_brokenAt : Int32) (t_spot : Int32) (t_here : Int32) (t_token : Int32) (t_value : Int32) (k0 : Int32) (H : Heap) (locs : List Loc) (ls : Array Slot), B_X8_thingRead_47 post t_taped t_broken t_brokenAt t_spot t_here t_token t_value t_tape k0 x1 → va_P D vwCl [(A_t, .inr (8, [.ref A_t_state, .ref A_t_tape, .int t_taped, .int t_fault, .int t_broken, .int t_brokenAt, .int t_spot, .int t_here, .int t_token, .int t_value, .int t_isRealTold, .ref A_t_ends, .ref A_t_letters, .ref A_t_least, .ref A_t_conflicts, .int t_conflictMany, .ref A_t_behind, .ref A_t_placed, .ref A_t_isKept, .ref A_t_lanes, .ref A_t_lengths, .ref A_t_cells, .int t_torn])), (A_t_tape, .inl (cy 1, 320, .inl t_tape))] H → va_D A [(A_t, .inr (8, [.ref A_t_state, .ref A_t_tape, .int t_taped, .int t_fault, .int t_broken, .int t_brokenAt, .int t_spot, .int t_here, .int t_token, .int t_value, .int t_isRealTold, .ref A_t_ends, .ref A_t_letters, .ref A_t_least, .ref A_t_conflicts, .int t_conflictMany, .ref A_t_behind, .ref A_t_placed, .ref A_t_isKept, .ref A_t_lanes, .ref A_t_lengths, .ref A_t_cells, .int t_torn])), (A_t_tape, .inl (cy 1, 320, .inl t_tape))] → va_S A s.heap H locs → lv_has ls 4 [(0, .ref A_t), (1, .int x1)] → W p l e (headSpec wsX8_thingRead { frames := 2, cells := 0, slots := 0, locals := 46 }).room s m ([.ref A_t, .int x1] : List Value).toArray below meth c H locs 0 0 Q0 (F0 m 47 ls [.int k0]) := by
    intro t_broken t_brokenAt t_spot t_here t_token t_value k0 H locs ls h hP hD hS hl
    unfold B_X8_thingRead_47 at h
    refine lv_istore_n (lv' := [(2, .int k0), (0, .ref A_t), (1, .int x1)]) hx hb dX8_thingRead_47 rfl hl (by decide) rfl (fun ls hl => ?_)
    refine lv_aload_n hx hb dX8_thingRead_48 rfl (lv_at hl 1 rfl) ?_
    refine va_get (D := D) (ci := 8) (v := .int t_broken) (C := RX8) (T := TX8) (N := 23) hx hb hts iX8 hown hK.1 hP 0 rfl rfl 4 (by decide) f1 (fun _ h9 => h9) rfl dX8_thingRead_49 ?_
    refine lv_if_ne (tgt := 64) hx hb dX8_thingRead_52 (by decide) (fun hc => ?_) (fun hc => ?_)
    · replace h := h.1 hc
      exact J64 t_broken t_brokenAt t_spot t_here t_token t_value H locs ls h hP hD hS (lv_sub hl [1, 2] rfl)
    · replace h := h.2 hc
      refine lv_iload_n hx hb dX8_thingRead_55 rfl (lv_at hl 0 rfl) ?_
      refine lv_if_ne (tgt := 64) hx hb dX8_thingRead_56 (by decide) (fun hc => ?_) (fun hc => ?_)
      · replace h := h.1 hc
        exact J64 t_broken t_brokenAt t_spot t_here t_token t_value H locs ls h hP hD hS (lv_sub hl [1, 2] rfl)
      · replace h := h.2 hc
        refine lv_aload_n hx hb dX8_thingRead_59 rfl (lv_at hl 1 rfl) ?_
        refine lv_iconst (v := 2) hx hb dX8_thingRead_60 (by decide) ?_
        have hPn : va_P D vwCl ([(A_t_tape, .inl (cy 1, 320, .inl t_tape))] ++ [(A_t, .inr (8, [.ref A_t_state, .ref A_t_tape, .int t_taped, .int t_fault, .int t_broken, .int t_brokenAt, .int t_spot, .int t_here, .int t_token, .int t_value, .int t_isRealTold, .ref A_t_ends, .ref A_t_letters, .ref A_t_least, .ref A_t_conflicts, .int t_conflictMany, .ref A_t_behind, .ref A_t_placed, .ref A_t_isKept, .ref A_t_lanes, .ref A_t_lengths, .ref A_t_cells, .int t_torn]))]) H := hP.sub [1, 0] rfl
        have hDn : va_D A ([(A_t_tape, .inl (cy 1, 320, .inl t_tape))] ++ [(A_t, .inr (8, [.ref A_t_state, .ref A_t_tape, .int t_taped, .int t_fault, .int t_broken, .int t_brokenAt, .int t_spot, .int t_here, .int t_token, .int t_value, .int t_isRealTold, .ref A_t_ends, .ref A_t_letters, .ref A_t_least, .ref A_t_conflicts, .int t_conflictMany, .ref A_t_behind, .ref A_t_placed, .ref A_t_isKept, .ref A_t_lanes, .ref A_t_lengths, .ref A_t_cells, .int t_torn]))]) := hD.sub [1, 0] (by decide) rfl
        have hPc := gPR hPn
        have hDc := gDR hDn
        refine mw_v (va_runV (As := [.int (2 : Int32)]) (rest := []) CF (c_X8_fails l D cy H.size A_t A_t_state A_t_tape A_t_ends A_t_letters A_t_least A_t_conflicts A_t_behind A_t_placed A_t_isKept A_t_lanes A_t_lengths A_t_cells t_taped t_fault t_broken t_brokenAt t_spot t_here t_token t_value t_isRealTold t_conflictMany t_torn (2 : Int32) _ h) (cwV 1 hts gX8_thingRead_X8_fails rfl rfl rfl qX8_fails ⟨Nat.le_of_ble_eq_true rfl, Nat.le_of_ble_eq_true rfl⟩) (mpVW hK hPc hDc (ci := 8) (q := (RX8, TX8, 23)) (q0 := 0) rfl rfl) rfl rfl hl.1 rfl (lv_room (Nat.le_of_ble_eq_true rfl)) dX8_thingRead_61 ⟨Nat.zero_le _, Nat.zero_le _⟩) hPn hDn hS hA (fun u H locs h hP hD hS => ?_)
        obtain ⟨t_broken_v4, t_brokenAt_v4⟩ := u
        have hP : va_P D vwCl [(A_t, .inr (8, [.ref A_t_state, .ref A_t_tape, .int t_taped, .int t_fault, .int t_broken_v4, .int t_brokenAt_v4, .int t_spot, .int t_here, .int t_token, .int t_value, .int t_isRealTold, .ref A_t_ends, .ref A_t_letters, .ref A_t_least, .ref A_t_conflicts, .int t_conflictMany, .ref A_t_behind, .ref A_t_placed, .ref A_t_isKept, .ref A_t_lanes, .ref A_t_lengths, .ref A_t_cells, .int t_torn])), (A_t_tape, .inl (cy 1, 320, .inl t_tape))] H := hP.sub [1, 0] rfl
        have hD : va_D A [(A_t, .inr (8, [.ref A_t_state, .ref A_t_tape, .int t_taped, .int t_fault, .int t_broken_v4, .int t_brokenAt_v4, .int t_spot, .int t_here, .int t_token, .int t_value, .int t_isRealTold, .ref A_t_ends, .ref A_t_letters, .ref A_t_least, .ref A_t_conflicts, .int t_conflictMany, .ref A_t_behind, .ref A_t_placed, .ref A_t_isKept, .ref A_t_lanes, .ref A_t_lengths, .ref A_t_cells, .int t_torn])), (A_t_tape, .inl (cy 1, 320, .inl t_tape))] := hD.sub [1, 0] (by decide) rfl
        try dsimp only at h
        exact J64 t_broken_v4 t_brokenAt_v4 t_spot t_here t_token t_value H locs ls h hP hD hS (lv_sub hl [1, 2] rfl)
  have J46 : ∀ (t_broken : Int32) (t_brokenAt : Int32) (t_spot : Int32) (t_here : Int32) (t_token : Int32) (t_value : Int32) (H : Heap) (locs : List Loc) (ls : Array Slot), B_X8_thingRead_46 post t_taped t_broken t_brokenAt t_spot t_here t_token t_value t_tape x1 → va_P D vwCl [(A_t, .inr (8, [.ref A_t_state, .ref A_t_tape, .int t_taped, .int t_fault, .int t_broken, .int t_brokenAt, .int t_spot, .int t_here, .int t_token, .int t_value, .int t_isRealTold, .ref A_t_ends, .ref A_t_letters, .ref A_t_least, .ref A_t_conflicts, .int t_conflictMany, .ref A_t_behind, .ref A_t_placed, .ref A_t_isKept, .ref A_t_lanes, .ref A_t_lengths, .ref A_t_cells, .int t_torn])), (A_t_tape, .inl (cy 1, 320, .inl t_tape))] H → va_D A [(A_t, .inr (8, [.ref A_t_state, .ref A_t_tape, .int t_taped, .int t_fault, .int t_broken, .int t_brokenAt, .int t_spot, .int t_here, .int t_token, .int t_value, .int t_isRealTold, .ref A_t_ends, .ref A_t_letters, .ref A_t_least, .ref A_t_conflicts, .int t_conflictMany, .ref A_t_behind, .ref A_t_placed, .ref A_t_isKept, .ref A_t_lanes, .ref A_t_lengths, .ref A_t_cells, .int t_torn])), (A_t_tape, .inl (cy 1, 320, .inl t_tape))] → va_S A s.heap H locs → lv_has ls 4 [(0, .ref A_t), (1, .int x1)] → W p l e (headSpec wsX8_thingRead { frames := 2, cells := 0, slots := 0, locals := 46 }).room s m ([.ref A_t, .int x1] : List Value).toArray below meth c H locs 0 0 Q0 (F0 m 46 ls []) := by
    intro t_broken t_brokenAt t_spot t_here t_token t_value H locs ls h hP hD hS hl
    unfold B_X8_thingRead_46 at h
    refine lv_iconst (v := 0) hx hb dX8_thingRead_46 (by decide) ?_
    exact J47 t_broken t_brokenAt t_spot t_here t_token t_value (0 : Int32) H locs ls h hP hD hS (lv_sub hl [0, 1] rfl)
  unfold P_X8_thingRead at h
  refine lv_aload_n hx hb dX8_thingRead_0 rfl (lv_at hl 0 rfl) ?_
  refine va_get (D := D) (ci := 8) (v := .int t_token) (C := RX8) (T := TX8) (N := 23) hx hb hts iX8 hown hK.1 hP 0 rfl rfl 8 (by decide) f0 (fun _ h9 => h9) rfl dX8_thingRead_1 ?_
  refine lv_iconst (v := 1) hx hb dX8_thingRead_4 (by decide) ?_
  refine lv_icmp_ne (tgt := 46) hx hb dX8_thingRead_5 (by decide) (fun hc => ?_) (fun hc => ?_)
  · replace h := h.1 hc
    exact J46 t_broken t_brokenAt t_spot t_here t_token t_value s.heap [] ls h hP hD hS (lv_sub hl [0, 1] rfl)
  · replace h := h.2 hc
    refine lv_aload_n hx hb dX8_thingRead_8 rfl (lv_at hl 0 rfl) ?_
    refine va_get (D := D) (ci := 8) (v := .int t_spot) (C := RX8) (T := TX8) (N := 23) hx hb hts iX8 hown hK.1 hP 0 rfl rfl 6 (by decide) f3 (fun _ h9 => h9) rfl dX8_thingRead_9 ?_
    refine lv_aload_n hx hb dX8_thingRead_12 rfl (lv_at hl 0 rfl) ?_
    refine va_get (D := D) (ci := 8) (v := .int t_here) (C := RX8) (T := TX8) (N := 23) hx hb hts iX8 hown hK.1 hP 0 rfl rfl 7 (by decide) f2 (fun _ h9 => h9) rfl dX8_thingRead_13 ?_
    refine lv_isub hx hb dX8_thingRead_16 ?_
    refine lv_iconst (v := 1) hx hb dX8_thingRead_17 (by decide) ?_
    refine lv_icmp_ne (tgt := 46) hx hb dX8_thingRead_18 (by decide) (fun hc => ?_) (fun hc => ?_)
    · replace h := h.1 hc
      exact J46 t_broken t_brokenAt t_spot t_here t_token t_value s.heap [] ls h hP hD hS (lv_sub hl [0, 1] rfl)
    · replace h := h.2 hc
      refine lv_aload_n hx hb dX8_thingRead_21 rfl (lv_at hl 0 rfl) ?_
      refine lv_aload_n hx hb dX8_thingRead_22 rfl (lv_at hl 0 rfl) ?_
      refine va_get (D := D) (ci := 8) (v := .int t_here) (C := RX8) (T := TX8) (N := 23) hx hb hts iX8 hown hK.1 hP 0 rfl rfl 7 (by decide) f2 (fun _ h9 => h9) rfl dX8_thingRead_23 ?_
      have hPc := hP.sub (ws' := [(A_t, .inr (8, [.ref A_t_state, .ref A_t_tape, .int t_taped, .int t_fault, .int t_broken, .int t_brokenAt, .int t_spot, .int t_here, .int t_token, .int t_value, .int t_isRealTold, .ref A_t_ends, .ref A_t_letters, .ref A_t_least, .ref A_t_conflicts, .int t_conflictMany, .ref A_t_behind, .ref A_t_placed, .ref A_t_isKept, .ref A_t_lanes, .ref A_t_lengths, .ref A_t_cells, .int t_torn])), (A_t_tape, .inl (cy 1, 320, .inl t_tape))]) [0, 1] rfl
      refine vp_callSi (W.runV (As := [.int t_here]) (rest := []) CF (c_X8_byteAt l D cy A_t A_t_state A_t_tape A_t_ends A_t_letters A_t_least A_t_conflicts A_t_behind A_t_placed A_t_isKept A_t_lanes A_t_lengths A_t_cells t_taped t_fault t_broken t_brokenAt t_spot t_here t_token t_value t_isRealTold t_conflictMany t_torn t_tape t_here _ h) (cwV 1 hts gX8_thingRead_X8_byteAt rfl rfl rfl qX8_byteAt ⟨Nat.le_of_ble_eq_true rfl, Nat.le_of_ble_eq_true rfl⟩) (mpVR hK hPc (ci := 8) (q := (RX8, TX8, 23)) (q0 := 0) rfl rfl) rfl rfl hl.1 rfl (lv_room (Nat.le_of_ble_eq_true rfl)) dX8_thingRead_26 ⟨Nat.zero_le _, Nat.zero_le _⟩) (fun r5 h => ?_)
      refine lv_i2l (v := r5.toInt64) hx hb dX8_thingRead_29 rfl ?_
      refine lv_ldc2 (v := 97) hx hb hown f4 dX8_thingRead_30 ?_
      refine lv_ldc2 (v := 106) hx hb hown f5 dX8_thingRead_33 ?_
      refine vp_callSi (W.runS (As := [.long r5.toInt64, .long (97 : Int64), .long (106 : Int64)]) (rest := []) CF (c_X8_in l r5.toInt64 (97 : Int64) (106 : Int64) _ h) (va_cwS 3 hts gX8_thingRead_X8_in rfl rfl rfl qX8_in.2 ⟨Nat.le_of_ble_eq_true rfl, Nat.le_of_ble_eq_true rfl⟩) mpSN rfl rfl hl.1 rfl (lv_room (Nat.le_of_ble_eq_true rfl)) dX8_thingRead_36 ⟨Nat.zero_le _, Nat.zero_le _⟩) (fun r6 h => ?_)
      refine lv_if_eq (tgt := 46) hx hb dX8_thingRead_39 (by decide) (fun hc => ?_) (fun hc => ?_)
      · replace h := h.1 hc
        exact J46 t_broken t_brokenAt t_spot t_here t_token t_value s.heap [] ls h hP hD hS (lv_sub hl [0, 1] rfl)
      · replace h := h.2 hc
        refine lv_iconst (v := 1) hx hb dX8_thingRead_42 (by decide) ?_
        refine lv_goto (tgt := 47) hx hb dX8_thingRead_43 (by decide) ?_
        exact J47 t_broken t_brokenAt t_spot t_here t_token t_value (1 : Int32) s.heap [] ls h hP hD hS (lv_sub hl [0, 1] rfl)
theorem qX8_numberRead : yX8_numberRead.cls = RX8 ∧ yX8_numberRead.cls ≠ "java/lang/invoke/MethodHandle" ∧ yX8_numberRead.cls ≠ "java/lang/invoke/VarHandle" ∧ (parseMethodDescriptor yX8_numberRead.desc).map (fun d => d.parameters.length) = some 0 := by decide +kernel
def B_X8_numberRead_64 (post : Int32 → Int32 → Int32 → Int32 → Int32 → Int32 → Int32 → Prop) (t_taped : Int32) (t_broken : Int32) (t_brokenAt : Int32) (t_spot : Int32) (t_here : Int32) (t_token : Int32) (t_value : Int32) (t_tape : Nat → Int32) (k0 : Int32) (x1 : Int32) : Prop :=
  P_X8_readsOn (fun (t_broken_v1 : Int32) (t_brokenAt_v1 : Int32) (t_spot_v1 : Int32) (t_here_v1 : Int32) (t_token_v1 : Int32) (t_value_v1 : Int32) => ((x1 = 0 → post k0 t_broken_v1 t_brokenAt_v1 t_spot_v1 t_here_v1 t_token_v1 t_value_v1) ∧ (¬ x1 = 0 → post (-k0) t_broken_v1 t_brokenAt_v1 t_spot_v1 t_here_v1 t_token_v1 t_value_v1))) t_taped t_broken t_brokenAt t_spot t_here t_token t_value t_tape
def B_X8_numberRead_49 (post : Int32 → Int32 → Int32 → Int32 → Int32 → Int32 → Int32 → Prop) (t_taped : Int32) (t_broken : Int32) (t_brokenAt : Int32) (t_spot : Int32) (t_here : Int32) (t_token : Int32) (t_value : Int32) (t_tape : Nat → Int32) (x1 : Int32) : Prop :=
  ((¬ t_broken = 0 → B_X8_numberRead_64 post t_taped t_broken t_brokenAt t_spot t_here t_token t_value t_tape (0 : Int32) x1) ∧ (t_broken = 0 → B_X8_numberRead_64 post t_taped t_broken t_brokenAt t_spot t_here t_token t_value t_tape t_value x1))
def B_X8_numberRead_29 (post : Int32 → Int32 → Int32 → Int32 → Int32 → Int32 → Int32 → Prop) (t_taped : Int32) (t_broken : Int32) (t_brokenAt : Int32) (t_spot : Int32) (t_here : Int32) (t_token : Int32) (t_value : Int32) (t_tape : Nat → Int32) (x1 : Int32) : Prop :=
  ((¬ t_broken = 0 → B_X8_numberRead_49 post t_taped t_broken t_brokenAt t_spot t_here t_token t_value t_tape x1) ∧ (t_broken = 0 → ((t_token = (2 : Int32) → B_X8_numberRead_49 post t_taped t_broken t_brokenAt t_spot t_here t_token t_value t_tape x1) ∧ (¬ t_token = (2 : Int32) → P_X8_fails (fun (t_broken_v2 : Int32) (t_brokenAt_v2 : Int32) => B_X8_numberRead_49 post t_taped t_broken_v2 t_brokenAt_v2 t_spot t_here t_token t_value t_tape x1) t_broken t_brokenAt t_here (2 : Int32)))))
def B_X8_numberRead_20 (post : Int32 → Int32 → Int32 → Int32 → Int32 → Int32 → Int32 → Prop) (t_taped : Int32) (t_broken : Int32) (t_brokenAt : Int32) (t_spot : Int32) (t_here : Int32) (t_token : Int32) (t_value : Int32) (t_tape : Nat → Int32) (k0 : Int32) : Prop :=
  ((k0 = 0 → B_X8_numberRead_29 post t_taped t_broken t_brokenAt t_spot t_here t_token t_value t_tape k0) ∧ (¬ k0 = 0 → P_X8_readsOn (fun (t_broken_v3 : Int32) (t_brokenAt_v3 : Int32) (t_spot_v3 : Int32) (t_here_v3 : Int32) (t_token_v3 : Int32) (t_value_v3 : Int32) => B_X8_numberRead_29 post t_taped t_broken_v3 t_brokenAt_v3 t_spot_v3 t_here_v3 t_token_v3 t_value_v3 t_tape k0) t_taped t_broken t_brokenAt t_spot t_here t_token t_value t_tape))
def B_X8_numberRead_19 (post : Int32 → Int32 → Int32 → Int32 → Int32 → Int32 → Int32 → Prop) (t_taped : Int32) (t_broken : Int32) (t_brokenAt : Int32) (t_spot : Int32) (t_here : Int32) (t_token : Int32) (t_value : Int32) (t_tape : Nat → Int32) : Prop :=
  B_X8_numberRead_20 post t_taped t_broken t_brokenAt t_spot t_here t_token t_value t_tape (0 : Int32)
def P_X8_numberRead (post : Int32 → Int32 → Int32 → Int32 → Int32 → Int32 → Int32 → Prop) (t_taped : Int32) (t_broken : Int32) (t_brokenAt : Int32) (t_spot : Int32) (t_here : Int32) (t_token : Int32) (t_value : Int32) (t_tape : Nat → Int32) : Prop :=
  ((¬ t_broken = 0 → B_X8_numberRead_19 post t_taped t_broken t_brokenAt t_spot t_here t_token t_value t_tape) ∧ (t_broken = 0 → ((¬ t_token = (4 : Int32) → B_X8_numberRead_19 post t_taped t_broken t_brokenAt t_spot t_here t_token t_value t_tape) ∧ (t_token = (4 : Int32) → B_X8_numberRead_20 post t_taped t_broken t_brokenAt t_spot t_here t_token t_value t_tape (1 : Int32)))))
set_option maxHeartbeats 4000000 in
set_option maxRecDepth 100000 in
theorem c_X8_numberRead (l : Launch) (D : va_G) (cy : Nat → ClassId) (sz : Nat) (A_t A_t_state A_t_tape A_t_ends A_t_letters A_t_least A_t_conflicts A_t_behind A_t_placed A_t_isKept A_t_lanes A_t_lengths A_t_cells : Nat) (t_taped : Int32) (t_fault : Int32) (t_broken : Int32) (t_brokenAt : Int32) (t_spot : Int32) (t_here : Int32) (t_token : Int32) (t_value : Int32) (t_isRealTold : Int32) (t_conflictMany : Int32) (t_torn : Int32) (t_tape : Nat → Int32) (post : Int32 → Int32 → Int32 → Int32 → Int32 → Int32 → Int32 → Prop) (h : P_X8_numberRead post t_taped t_broken t_brokenAt t_spot t_here t_token t_value t_tape) : Met l yX8_numberRead wsX8_numberRead { frames := 2, cells := 0, slots := 0, locals := 46 } (pcW D cy [(A_t, .inr (8, [.ref A_t_state, .ref A_t_tape, .int t_taped, .int t_fault, .int t_broken, .int t_brokenAt, .int t_spot, .int t_here, .int t_token, .int t_value, .int t_isRealTold, .ref A_t_ends, .ref A_t_letters, .ref A_t_least, .ref A_t_conflicts, .int t_conflictMany, .ref A_t_behind, .ref A_t_placed, .ref A_t_isKept, .ref A_t_lanes, .ref A_t_lengths, .ref A_t_cells, .int t_torn])), (A_t_tape, .inl (cy 1, 320, .inl t_tape))] sz [.ref A_t]) (va_Qi (fun r (u : Int32 × Int32 × Int32 × Int32 × Int32 × Int32) => post r u.1 u.2.1 u.2.2.1 u.2.2.2.1 u.2.2.2.2.1 u.2.2.2.2.2) (bW D [(A_t, .inr (8, [.ref A_t_state, .ref A_t_tape, .int t_taped, .int t_fault, .int t_broken, .int t_brokenAt, .int t_spot, .int t_here, .int t_token, .int t_value, .int t_isRealTold, .ref A_t_ends, .ref A_t_letters, .ref A_t_least, .ref A_t_conflicts, .int t_conflictMany, .ref A_t_behind, .ref A_t_placed, .ref A_t_isKept, .ref A_t_lanes, .ref A_t_lengths, .ref A_t_cells, .int t_torn])), (A_t_tape, .inl (cy 1, 320, .inl t_tape))] sz (fun u => [(A_t, .inr (8, [.ref A_t_state, .ref A_t_tape, .int t_taped, .int t_fault, .int (u.1), .int (u.2.1), .int (u.2.2.1), .int (u.2.2.2.1), .int (u.2.2.2.2.1), .int (u.2.2.2.2.2), .int t_isRealTold, .ref A_t_ends, .ref A_t_letters, .ref A_t_least, .ref A_t_conflicts, .int t_conflictMany, .ref A_t_behind, .ref A_t_placed, .ref A_t_isKept, .ref A_t_lanes, .ref A_t_lengths, .ref A_t_cells, .int t_torn])), (A_t_tape, .inl (cy 1, 320, .inl t_tape))])) (va_A [(A_t, .inr (8, [.ref A_t_state, .ref A_t_tape, .int t_taped, .int t_fault, .int t_broken, .int t_brokenAt, .int t_spot, .int t_here, .int t_token, .int t_value, .int t_isRealTold, .ref A_t_ends, .ref A_t_letters, .ref A_t_least, .ref A_t_conflicts, .int t_conflictMany, .ref A_t_behind, .ref A_t_placed, .ref A_t_isKept, .ref A_t_lanes, .ref A_t_lengths, .ref A_t_cells, .int t_torn])), (A_t_tape, .inl (cy 1, 320, .inl t_tape))] sz)) 0 0 (va_A [(A_t, .inr (8, [.ref A_t_state, .ref A_t_tape, .int t_taped, .int t_fault, .int t_broken, .int t_brokenAt, .int t_spot, .int t_here, .int t_token, .int t_value, .int t_isRealTold, .ref A_t_ends, .ref A_t_letters, .ref A_t_least, .ref A_t_conflicts, .int t_conflictMany, .ref A_t_behind, .ref A_t_placed, .ref A_t_isKept, .ref A_t_lanes, .ref A_t_lengths, .ref A_t_cells, .int t_torn])), (A_t_tape, .inl (cy 1, 320, .inl t_tape))] sz) := by
  refine Met.ofW (cc := cX8_numberRead) (maxL := 3) (ret := (some .int)) (by decide) rfl ?_
  intro p e s m args below meth c s₁ B hml hv
  obtain ⟨rfl, hsz, hP, hK, hD0⟩ := hv
  have hx := B.exec
  have hb := B.bytes
  have hr := B.returns
  have hts := atoms_spec (ws := wsX8_numberRead) B.pre
  have hown : s.vm.findClass RX8 = some m.cls := findClass_of_methodNamed B.named
  have hlocks := B.notSynchronized
  have CF : CallFix p m c cX8_numberRead 3 s ([.ref A_t] : List Value).toArray wsX8_numberRead RX8 := ⟨hx, hb, hml, hown, hts⟩
  have f0 := hts (.fieldLink RX8 58 "GapBoundsModel" "broken" "I") (by decide +kernel)
  have f1 := hts (.fieldLink RX8 77 "GapBoundsModel" "value" "I") (by decide +kernel)
  have f2 := hts (.fieldLink RX8 67 "GapBoundsModel" "token" "I") (by decide +kernel)
  have iX8 : ∀ w ∈ u_ws RX8 TX8 23, w ∈ wsX8_numberRead := by decide +kernel
  subst hsz
  obtain ⟨A, hAe⟩ : ∃ A, A = va_A [(A_t, .inr (8, [.ref A_t_state, .ref A_t_tape, .int t_taped, .int t_fault, .int t_broken, .int t_brokenAt, .int t_spot, .int t_here, .int t_token, .int t_value, .int t_isRealTold, .ref A_t_ends, .ref A_t_letters, .ref A_t_least, .ref A_t_conflicts, .int t_conflictMany, .ref A_t_behind, .ref A_t_placed, .ref A_t_isKept, .ref A_t_lanes, .ref A_t_lengths, .ref A_t_cells, .int t_torn])), (A_t_tape, .inl (cy 1, 320, .inl t_tape))] s.heap.size := ⟨_, rfl⟩
  have hD : va_D A [(A_t, .inr (8, [.ref A_t_state, .ref A_t_tape, .int t_taped, .int t_fault, .int t_broken, .int t_brokenAt, .int t_spot, .int t_here, .int t_token, .int t_value, .int t_isRealTold, .ref A_t_ends, .ref A_t_letters, .ref A_t_least, .ref A_t_conflicts, .int t_conflictMany, .ref A_t_behind, .ref A_t_placed, .ref A_t_isKept, .ref A_t_lanes, .ref A_t_lengths, .ref A_t_cells, .int t_torn])), (A_t_tape, .inl (cy 1, 320, .inl t_tape))] := by rw [hAe]; exact hD0.self
  have hA : ∀ q : Nat, s.heap.size ≤ q → A q := fun q hq => by rw [hAe]; exact Or.inr hq
  have hS : va_S A s.heap s.heap [] := va_S.rf
  have hl := lv_entry [.ref A_t] (n := 3) (Nat.le_of_ble_eq_true rfl)
  rw [lg_entry_eq]
  generalize (lg_sl [.ref A_t] ++ List.replicate (3 - (lg_sl [.ref A_t]).length) Slot.unset).toArray = ls at hl ⊢
  have hl : lv_has ls 3 [(0, .ref A_t)] := hl
  refine W.gen (fun Q0 hQ => ?_)
  have J64 : ∀ (t_broken : Int32) (t_brokenAt : Int32) (t_spot : Int32) (t_here : Int32) (t_token : Int32) (t_value : Int32) (x1 : Int32) (k0 : Int32) (H : Heap) (locs : List Loc) (ls : Array Slot), B_X8_numberRead_64 post t_taped t_broken t_brokenAt t_spot t_here t_token t_value t_tape k0 x1 → va_P D vwCl [(A_t, .inr (8, [.ref A_t_state, .ref A_t_tape, .int t_taped, .int t_fault, .int t_broken, .int t_brokenAt, .int t_spot, .int t_here, .int t_token, .int t_value, .int t_isRealTold, .ref A_t_ends, .ref A_t_letters, .ref A_t_least, .ref A_t_conflicts, .int t_conflictMany, .ref A_t_behind, .ref A_t_placed, .ref A_t_isKept, .ref A_t_lanes, .ref A_t_lengths, .ref A_t_cells, .int t_torn])), (A_t_tape, .inl (cy 1, 320, .inl t_tape))] H → va_D A [(A_t, .inr (8, [.ref A_t_state, .ref A_t_tape, .int t_taped, .int t_fault, .int t_broken, .int t_brokenAt, .int t_spot, .int t_here, .int t_token, .int t_value, .int t_isRealTold, .ref A_t_ends, .ref A_t_letters, .ref A_t_least, .ref A_t_conflicts, .int t_conflictMany, .ref A_t_behind, .ref A_t_placed, .ref A_t_isKept, .ref A_t_lanes, .ref A_t_lengths, .ref A_t_cells, .int t_torn])), (A_t_tape, .inl (cy 1, 320, .inl t_tape))] → va_S A s.heap H locs → lv_has ls 3 [(0, .ref A_t), (1, .int x1)] → W p l e (headSpec wsX8_numberRead { frames := 2, cells := 0, slots := 0, locals := 46 }).room s m ([.ref A_t] : List Value).toArray below meth c H locs 0 0 Q0 (F0 m 64 ls [.int k0]) := by
    intro t_broken t_brokenAt t_spot t_here t_token t_value x1 k0 H locs ls h hP hD hS hl
    unfold B_X8_numberRead_64 at h
    refine lv_istore_n (lv' := [(2, .int k0), (0, .ref A_t), (1, .int x1)]) hx hb dX8_numberRead_64 rfl hl (by decide) rfl (fun ls hl => ?_)
    refine lv_aload_n hx hb dX8_numberRead_65 rfl (lv_at hl 1 rfl) ?_
    have hPn : va_P D vwCl ([] ++ [(A_t, .inr (8, [.ref A_t_state, .ref A_t_tape, .int t_taped, .int t_fault, .int t_broken, .int t_brokenAt, .int t_spot, .int t_here, .int t_token, .int t_value, .int t_isRealTold, .ref A_t_ends, .ref A_t_letters, .ref A_t_least, .ref A_t_conflicts, .int t_conflictMany, .ref A_t_behind, .ref A_t_placed, .ref A_t_isKept, .ref A_t_lanes, .ref A_t_lengths, .ref A_t_cells, .int t_torn])), (A_t_tape, .inl (cy 1, 320, .inl t_tape))]) H := hP.sub [0, 1] rfl
    have hDn : va_D A ([] ++ [(A_t, .inr (8, [.ref A_t_state, .ref A_t_tape, .int t_taped, .int t_fault, .int t_broken, .int t_brokenAt, .int t_spot, .int t_here, .int t_token, .int t_value, .int t_isRealTold, .ref A_t_ends, .ref A_t_letters, .ref A_t_least, .ref A_t_conflicts, .int t_conflictMany, .ref A_t_behind, .ref A_t_placed, .ref A_t_isKept, .ref A_t_lanes, .ref A_t_lengths, .ref A_t_cells, .int t_torn])), (A_t_tape, .inl (cy 1, 320, .inl t_tape))]) := hD.sub [0, 1] (by decide) rfl
    have hPc := gPR hPn
    have hDc := gDR hDn
    refine mw_v (va_runV (As := []) (rest := []) CF (c_X8_readsOn l D cy H.size A_t A_t_state A_t_tape A_t_ends A_t_letters A_t_least A_t_conflicts A_t_behind A_t_placed A_t_isKept A_t_lanes A_t_lengths A_t_cells t_taped t_fault t_broken t_brokenAt t_spot t_here t_token t_value t_isRealTold t_conflictMany t_torn t_tape _ h) (cwV 0 hts gX8_numberRead_X8_readsOn rfl rfl rfl qX8_readsOn ⟨Nat.le_of_ble_eq_true rfl, Nat.le_of_ble_eq_true rfl⟩) (mpVW hK hPc hDc (ci := 8) (q := (RX8, TX8, 23)) (q0 := 0) rfl rfl) rfl rfl hl.1 rfl (lv_room (Nat.le_of_ble_eq_true rfl)) dX8_numberRead_66 ⟨Nat.zero_le _, Nat.zero_le _⟩) hPn hDn hS hA (fun u H locs h hP hD hS => ?_)
    obtain ⟨t_broken_v1, t_brokenAt_v1, t_spot_v1, t_here_v1, t_token_v1, t_value_v1⟩ := u
    have hP : va_P D vwCl [(A_t, .inr (8, [.ref A_t_state, .ref A_t_tape, .int t_taped, .int t_fault, .int t_broken_v1, .int t_brokenAt_v1, .int t_spot_v1, .int t_here_v1, .int t_token_v1, .int t_value_v1, .int t_isRealTold, .ref A_t_ends, .ref A_t_letters, .ref A_t_least, .ref A_t_conflicts, .int t_conflictMany, .ref A_t_behind, .ref A_t_placed, .ref A_t_isKept, .ref A_t_lanes, .ref A_t_lengths, .ref A_t_cells, .int t_torn])), (A_t_tape, .inl (cy 1, 320, .inl t_tape))] H := hP.sub [0, 1] rfl
    have hD : va_D A [(A_t, .inr (8, [.ref A_t_state, .ref A_t_tape, .int t_taped, .int t_fault, .int t_broken_v1, .int t_brokenAt_v1, .int t_spot_v1, .int t_here_v1, .int t_token_v1, .int t_value_v1, .int t_isRealTold, .ref A_t_ends, .ref A_t_letters, .ref A_t_least, .ref A_t_conflicts, .int t_conflictMany, .ref A_t_behind, .ref A_t_placed, .ref A_t_isKept, .ref A_t_lanes, .ref A_t_lengths, .ref A_t_cells, .int t_torn])), (A_t_tape, .inl (cy 1, 320, .inl t_tape))] := hD.sub [0, 1] (by decide) rfl
    try dsimp only at h
    refine lv_iload_n hx hb dX8_numberRead_69 rfl (lv_at hl 2 rfl) ?_
    refine lv_if_eq (tgt := 78) hx hb dX8_numberRead_70 (by decide) (fun hc => ?_) (fun hc => ?_)
    · replace h := h.1 hc
      refine lv_iload_n hx hb dX8_numberRead_78 rfl (lv_at hl 0 rfl) ?_
      subst hQ
      subst hAe
      exact W.iret (v := k0) hx hb hr (fun t ht _ => ⟨⟨k0, (t_broken_v1, t_brokenAt_v1, t_spot_v1, t_here_v1, t_token_v1, t_value_v1), rfl, h, by rw [ht]; exact hP, hD⟩, hS.F ht⟩) hS.2.2 dX8_numberRead_79
    · replace h := h.2 hc
      refine lv_iload_n hx hb dX8_numberRead_73 rfl (lv_at hl 0 rfl) ?_
      refine lv_ineg hx hb dX8_numberRead_74 ?_
      refine lv_goto (tgt := 79) hx hb dX8_numberRead_75 (by decide) ?_
      subst hQ
      subst hAe
      exact W.iret (v := -k0) hx hb hr (fun t ht _ => ⟨⟨-k0, (t_broken_v1, t_brokenAt_v1, t_spot_v1, t_here_v1, t_token_v1, t_value_v1), rfl, h, by rw [ht]; exact hP, hD⟩, hS.F ht⟩) hS.2.2 dX8_numberRead_79
  have J49 : ∀ (t_broken : Int32) (t_brokenAt : Int32) (t_spot : Int32) (t_here : Int32) (t_token : Int32) (t_value : Int32) (x1 : Int32) (H : Heap) (locs : List Loc) (ls : Array Slot), B_X8_numberRead_49 post t_taped t_broken t_brokenAt t_spot t_here t_token t_value t_tape x1 → va_P D vwCl [(A_t, .inr (8, [.ref A_t_state, .ref A_t_tape, .int t_taped, .int t_fault, .int t_broken, .int t_brokenAt, .int t_spot, .int t_here, .int t_token, .int t_value, .int t_isRealTold, .ref A_t_ends, .ref A_t_letters, .ref A_t_least, .ref A_t_conflicts, .int t_conflictMany, .ref A_t_behind, .ref A_t_placed, .ref A_t_isKept, .ref A_t_lanes, .ref A_t_lengths, .ref A_t_cells, .int t_torn])), (A_t_tape, .inl (cy 1, 320, .inl t_tape))] H → va_D A [(A_t, .inr (8, [.ref A_t_state, .ref A_t_tape, .int t_taped, .int t_fault, .int t_broken, .int t_brokenAt, .int t_spot, .int t_here, .int t_token, .int t_value, .int t_isRealTold, .ref A_t_ends, .ref A_t_letters, .ref A_t_least, .ref A_t_conflicts, .int t_conflictMany, .ref A_t_behind, .ref A_t_placed, .ref A_t_isKept, .ref A_t_lanes, .ref A_t_lengths, .ref A_t_cells, .int t_torn])), (A_t_tape, .inl (cy 1, 320, .inl t_tape))] → va_S A s.heap H locs → lv_has ls 3 [(0, .ref A_t), (1, .int x1)] → W p l e (headSpec wsX8_numberRead { frames := 2, cells := 0, slots := 0, locals := 46 }).room s m ([.ref A_t] : List Value).toArray below meth c H locs 0 0 Q0 (F0 m 49 ls []) := by
    intro t_broken t_brokenAt t_spot t_here t_token t_value x1 H locs ls h hP hD hS hl
    unfold B_X8_numberRead_49 at h
    refine lv_aload_n hx hb dX8_numberRead_49 rfl (lv_at hl 0 rfl) ?_
    refine va_get (D := D) (ci := 8) (v := .int t_broken) (C := RX8) (T := TX8) (N := 23) hx hb hts iX8 hown hK.1 hP 0 rfl rfl 4 (by decide) f0 (fun _ h9 => h9) rfl dX8_numberRead_50 ?_
    refine lv_if_ne (tgt := 63) hx hb dX8_numberRead_53 (by decide) (fun hc => ?_) (fun hc => ?_)
    · replace h := h.1 hc
      refine lv_iconst (v := 0) hx hb dX8_numberRead_63 (by decide) ?_
      exact J64 t_broken t_brokenAt t_spot t_here t_token t_value x1 (0 : Int32) H locs ls h hP hD hS (lv_sub hl [0, 1] rfl)
    · replace h := h.2 hc
      refine lv_aload_n hx hb dX8_numberRead_56 rfl (lv_at hl 0 rfl) ?_
      refine va_get (D := D) (ci := 8) (v := .int t_value) (C := RX8) (T := TX8) (N := 23) hx hb hts iX8 hown hK.1 hP 0 rfl rfl 9 (by decide) f1 (fun _ h9 => h9) rfl dX8_numberRead_57 ?_
      refine lv_goto (tgt := 64) hx hb dX8_numberRead_60 (by decide) ?_
      exact J64 t_broken t_brokenAt t_spot t_here t_token t_value x1 t_value H locs ls h hP hD hS (lv_sub hl [0, 1] rfl)
  have J29 : ∀ (t_broken : Int32) (t_brokenAt : Int32) (t_spot : Int32) (t_here : Int32) (t_token : Int32) (t_value : Int32) (x1 : Int32) (H : Heap) (locs : List Loc) (ls : Array Slot), B_X8_numberRead_29 post t_taped t_broken t_brokenAt t_spot t_here t_token t_value t_tape x1 → va_P D vwCl [(A_t, .inr (8, [.ref A_t_state, .ref A_t_tape, .int t_taped, .int t_fault, .int t_broken, .int t_brokenAt, .int t_spot, .int t_here, .int t_token, .int t_value, .int t_isRealTold, .ref A_t_ends, .ref A_t_letters, .ref A_t_least, .ref A_t_conflicts, .int t_conflictMany, .ref A_t_behind, .ref A_t_placed, .ref A_t_isKept, .ref A_t_lanes, .ref A_t_lengths, .ref A_t_cells, .int t_torn])), (A_t_tape, .inl (cy 1, 320, .inl t_tape))] H → va_D A [(A_t, .inr (8, [.ref A_t_state, .ref A_t_tape, .int t_taped, .int t_fault, .int t_broken, .int t_brokenAt, .int t_spot, .int t_here, .int t_token, .int t_value, .int t_isRealTold, .ref A_t_ends, .ref A_t_letters, .ref A_t_least, .ref A_t_conflicts, .int t_conflictMany, .ref A_t_behind, .ref A_t_placed, .ref A_t_isKept, .ref A_t_lanes, .ref A_t_lengths, .ref A_t_cells, .int t_torn])), (A_t_tape, .inl (cy 1, 320, .inl t_tape))] → va_S A s.heap H locs → lv_has ls 3 [(0, .ref A_t), (1, .int x1)] → W p l e (headSpec wsX8_numberRead { frames := 2, cells := 0, slots := 0, locals := 46 }).room s m ([.ref A_t] : List Value).toArray below meth c H locs 0 0 Q0 (F0 m 29 ls []) := by
    intro t_broken t_brokenAt t_spot t_here t_token t_value x1 H locs ls h hP hD hS hl
    unfold B_X8_numberRead_29 at h
    refine lv_aload_n hx hb dX8_numberRead_29 rfl (lv_at hl 0 rfl) ?_
    refine va_get (D := D) (ci := 8) (v := .int t_broken) (C := RX8) (T := TX8) (N := 23) hx hb hts iX8 hown hK.1 hP 0 rfl rfl 4 (by decide) f0 (fun _ h9 => h9) rfl dX8_numberRead_30 ?_
    refine lv_if_ne (tgt := 49) hx hb dX8_numberRead_33 (by decide) (fun hc => ?_) (fun hc => ?_)
    · replace h := h.1 hc
      exact J49 t_broken t_brokenAt t_spot t_here t_token t_value x1 H locs ls h hP hD hS (lv_sub hl [0, 1] rfl)
    · replace h := h.2 hc
      refine lv_aload_n hx hb dX8_numberRead_36 rfl (lv_at hl 0 rfl) ?_
      refine va_get (D := D) (ci := 8) (v := .int t_token) (C := RX8) (T := TX8) (N := 23) hx hb hts iX8 hown hK.1 hP 0 rfl rfl 8 (by decide) f2 (fun _ h9 => h9) rfl dX8_numberRead_37 ?_
      refine lv_iconst (v := 2) hx hb dX8_numberRead_40 (by decide) ?_
      refine lv_icmp_eq (tgt := 49) hx hb dX8_numberRead_41 (by decide) (fun hc => ?_) (fun hc => ?_)
      · replace h := h.1 hc
        exact J49 t_broken t_brokenAt t_spot t_here t_token t_value x1 H locs ls h hP hD hS (lv_sub hl [0, 1] rfl)
      · replace h := h.2 hc
        refine lv_aload_n hx hb dX8_numberRead_44 rfl (lv_at hl 0 rfl) ?_
        refine lv_iconst (v := 2) hx hb dX8_numberRead_45 (by decide) ?_
        have hPn : va_P D vwCl ([(A_t_tape, .inl (cy 1, 320, .inl t_tape))] ++ [(A_t, .inr (8, [.ref A_t_state, .ref A_t_tape, .int t_taped, .int t_fault, .int t_broken, .int t_brokenAt, .int t_spot, .int t_here, .int t_token, .int t_value, .int t_isRealTold, .ref A_t_ends, .ref A_t_letters, .ref A_t_least, .ref A_t_conflicts, .int t_conflictMany, .ref A_t_behind, .ref A_t_placed, .ref A_t_isKept, .ref A_t_lanes, .ref A_t_lengths, .ref A_t_cells, .int t_torn]))]) H := hP.sub [1, 0] rfl
        have hDn : va_D A ([(A_t_tape, .inl (cy 1, 320, .inl t_tape))] ++ [(A_t, .inr (8, [.ref A_t_state, .ref A_t_tape, .int t_taped, .int t_fault, .int t_broken, .int t_brokenAt, .int t_spot, .int t_here, .int t_token, .int t_value, .int t_isRealTold, .ref A_t_ends, .ref A_t_letters, .ref A_t_least, .ref A_t_conflicts, .int t_conflictMany, .ref A_t_behind, .ref A_t_placed, .ref A_t_isKept, .ref A_t_lanes, .ref A_t_lengths, .ref A_t_cells, .int t_torn]))]) := hD.sub [1, 0] (by decide) rfl
        have hPc := gPR hPn
        have hDc := gDR hDn
        refine mw_v (va_runV (As := [.int (2 : Int32)]) (rest := []) CF (c_X8_fails l D cy H.size A_t A_t_state A_t_tape A_t_ends A_t_letters A_t_least A_t_conflicts A_t_behind A_t_placed A_t_isKept A_t_lanes A_t_lengths A_t_cells t_taped t_fault t_broken t_brokenAt t_spot t_here t_token t_value t_isRealTold t_conflictMany t_torn (2 : Int32) _ h) (cwV 1 hts gX8_numberRead_X8_fails rfl rfl rfl qX8_fails ⟨Nat.le_of_ble_eq_true rfl, Nat.le_of_ble_eq_true rfl⟩) (mpVW hK hPc hDc (ci := 8) (q := (RX8, TX8, 23)) (q0 := 0) rfl rfl) rfl rfl hl.1 rfl (lv_room (Nat.le_of_ble_eq_true rfl)) dX8_numberRead_46 ⟨Nat.zero_le _, Nat.zero_le _⟩) hPn hDn hS hA (fun u H locs h hP hD hS => ?_)
        obtain ⟨t_broken_v2, t_brokenAt_v2⟩ := u
        have hP : va_P D vwCl [(A_t, .inr (8, [.ref A_t_state, .ref A_t_tape, .int t_taped, .int t_fault, .int t_broken_v2, .int t_brokenAt_v2, .int t_spot, .int t_here, .int t_token, .int t_value, .int t_isRealTold, .ref A_t_ends, .ref A_t_letters, .ref A_t_least, .ref A_t_conflicts, .int t_conflictMany, .ref A_t_behind, .ref A_t_placed, .ref A_t_isKept, .ref A_t_lanes, .ref A_t_lengths, .ref A_t_cells, .int t_torn])), (A_t_tape, .inl (cy 1, 320, .inl t_tape))] H := hP.sub [1, 0] rfl
        have hD : va_D A [(A_t, .inr (8, [.ref A_t_state, .ref A_t_tape, .int t_taped, .int t_fault, .int t_broken_v2, .int t_brokenAt_v2, .int t_spot, .int t_here, .int t_token, .int t_value, .int t_isRealTold, .ref A_t_ends, .ref A_t_letters, .ref A_t_least, .ref A_t_conflicts, .int t_conflictMany, .ref A_t_behind, .ref A_t_placed, .ref A_t_isKept, .ref A_t_lanes, .ref A_t_lengths, .ref A_t_cells, .int t_torn])), (A_t_tape, .inl (cy 1, 320, .inl t_tape))] := hD.sub [1, 0] (by decide) rfl
        try dsimp only at h
        exact J49 t_broken_v2 t_brokenAt_v2 t_spot t_here t_token t_value x1 H locs ls h hP hD hS (lv_sub hl [0, 1] rfl)
  have J20 : ∀ (t_broken : Int32) (t_brokenAt : Int32) (t_spot : Int32) (t_here : Int32) (t_token : Int32) (t_value : Int32) (k0 : Int32) (H : Heap) (locs : List Loc) (ls : Array Slot), B_X8_numberRead_20 post t_taped t_broken t_brokenAt t_spot t_here t_token t_value t_tape k0 → va_P D vwCl [(A_t, .inr (8, [.ref A_t_state, .ref A_t_tape, .int t_taped, .int t_fault, .int t_broken, .int t_brokenAt, .int t_spot, .int t_here, .int t_token, .int t_value, .int t_isRealTold, .ref A_t_ends, .ref A_t_letters, .ref A_t_least, .ref A_t_conflicts, .int t_conflictMany, .ref A_t_behind, .ref A_t_placed, .ref A_t_isKept, .ref A_t_lanes, .ref A_t_lengths, .ref A_t_cells, .int t_torn])), (A_t_tape, .inl (cy 1, 320, .inl t_tape))] H → va_D A [(A_t, .inr (8, [.ref A_t_state, .ref A_t_tape, .int t_taped, .int t_fault, .int t_broken, .int t_brokenAt, .int t_spot, .int t_here, .int t_token, .int t_value, .int t_isRealTold, .ref A_t_ends, .ref A_t_letters, .ref A_t_least, .ref A_t_conflicts, .int t_conflictMany, .ref A_t_behind, .ref A_t_placed, .ref A_t_isKept, .ref A_t_lanes, .ref A_t_lengths, .ref A_t_cells, .int t_torn])), (A_t_tape, .inl (cy 1, 320, .inl t_tape))] → va_S A s.heap H locs → lv_has ls 3 [(0, .ref A_t)] → W p l e (headSpec wsX8_numberRead { frames := 2, cells := 0, slots := 0, locals := 46 }).room s m ([.ref A_t] : List Value).toArray below meth c H locs 0 0 Q0 (F0 m 20 ls [.int k0]) := by
    intro t_broken t_brokenAt t_spot t_here t_token t_value k0 H locs ls h hP hD hS hl
    unfold B_X8_numberRead_20 at h
    refine lv_istore_n (lv' := [(1, .int k0), (0, .ref A_t)]) hx hb dX8_numberRead_20 rfl hl (by decide) rfl (fun ls hl => ?_)
    refine lv_iload_n hx hb dX8_numberRead_21 rfl (lv_at hl 0 rfl) ?_
    refine lv_if_eq (tgt := 29) hx hb dX8_numberRead_22 (by decide) (fun hc => ?_) (fun hc => ?_)
    · replace h := h.1 hc
      exact J29 t_broken t_brokenAt t_spot t_here t_token t_value k0 H locs ls h hP hD hS (lv_sub hl [1, 0] rfl)
    · replace h := h.2 hc
      refine lv_aload_n hx hb dX8_numberRead_25 rfl (lv_at hl 1 rfl) ?_
      have hPn : va_P D vwCl ([] ++ [(A_t, .inr (8, [.ref A_t_state, .ref A_t_tape, .int t_taped, .int t_fault, .int t_broken, .int t_brokenAt, .int t_spot, .int t_here, .int t_token, .int t_value, .int t_isRealTold, .ref A_t_ends, .ref A_t_letters, .ref A_t_least, .ref A_t_conflicts, .int t_conflictMany, .ref A_t_behind, .ref A_t_placed, .ref A_t_isKept, .ref A_t_lanes, .ref A_t_lengths, .ref A_t_cells, .int t_torn])), (A_t_tape, .inl (cy 1, 320, .inl t_tape))]) H := hP.sub [0, 1] rfl
      have hDn : va_D A ([] ++ [(A_t, .inr (8, [.ref A_t_state, .ref A_t_tape, .int t_taped, .int t_fault, .int t_broken, .int t_brokenAt, .int t_spot, .int t_here, .int t_token, .int t_value, .int t_isRealTold, .ref A_t_ends, .ref A_t_letters, .ref A_t_least, .ref A_t_conflicts, .int t_conflictMany, .ref A_t_behind, .ref A_t_placed, .ref A_t_isKept, .ref A_t_lanes, .ref A_t_lengths, .ref A_t_cells, .int t_torn])), (A_t_tape, .inl (cy 1, 320, .inl t_tape))]) := hD.sub [0, 1] (by decide) rfl
      have hPc := gPR hPn
      have hDc := gDR hDn
      refine mw_v (va_runV (As := []) (rest := []) CF (c_X8_readsOn l D cy H.size A_t A_t_state A_t_tape A_t_ends A_t_letters A_t_least A_t_conflicts A_t_behind A_t_placed A_t_isKept A_t_lanes A_t_lengths A_t_cells t_taped t_fault t_broken t_brokenAt t_spot t_here t_token t_value t_isRealTold t_conflictMany t_torn t_tape _ h) (cwV 0 hts gX8_numberRead_X8_readsOn rfl rfl rfl qX8_readsOn ⟨Nat.le_of_ble_eq_true rfl, Nat.le_of_ble_eq_true rfl⟩) (mpVW hK hPc hDc (ci := 8) (q := (RX8, TX8, 23)) (q0 := 0) rfl rfl) rfl rfl hl.1 rfl (lv_room (Nat.le_of_ble_eq_true rfl)) dX8_numberRead_26 ⟨Nat.zero_le _, Nat.zero_le _⟩) hPn hDn hS hA (fun u H locs h hP hD hS => ?_)
      obtain ⟨t_broken_v3, t_brokenAt_v3, t_spot_v3, t_here_v3, t_token_v3, t_value_v3⟩ := u
      have hP : va_P D vwCl [(A_t, .inr (8, [.ref A_t_state, .ref A_t_tape, .int t_taped, .int t_fault, .int t_broken_v3, .int t_brokenAt_v3, .int t_spot_v3, .int t_here_v3, .int t_token_v3, .int t_value_v3, .int t_isRealTold, .ref A_t_ends, .ref A_t_letters, .ref A_t_least, .ref A_t_conflicts, .int t_conflictMany, .ref A_t_behind, .ref A_t_placed, .ref A_t_isKept, .ref A_t_lanes, .ref A_t_lengths, .ref A_t_cells, .int t_torn])), (A_t_tape, .inl (cy 1, 320, .inl t_tape))] H := hP.sub [0, 1] rfl
      have hD : va_D A [(A_t, .inr (8, [.ref A_t_state, .ref A_t_tape, .int t_taped, .int t_fault, .int t_broken_v3, .int t_brokenAt_v3, .int t_spot_v3, .int t_here_v3, .int t_token_v3, .int t_value_v3, .int t_isRealTold, .ref A_t_ends, .ref A_t_letters, .ref A_t_least, .ref A_t_conflicts, .int t_conflictMany, .ref A_t_behind, .ref A_t_placed, .ref A_t_isKept, .ref A_t_lanes, .ref A_t_lengths, .ref A_t_cells, .int t_torn])), (A_t_tape, .inl (cy 1, 320, .inl t_tape))] := hD.sub [0, 1] (by decide) rfl
      try dsimp only at h
      exact J29 t_broken_v3 t_brokenAt_v3 t_spot_v3 t_here_v3 t_token_v3 t_value_v3 k0 H locs ls h hP hD hS (lv_sub hl [1, 0] rfl)
  have J19 : ∀ (t_broken : Int32) (t_brokenAt : Int32) (t_spot : Int32) (t_here : Int32) (t_token : Int32) (t_value : Int32) (H : Heap) (locs : List Loc) (ls : Array Slot), B_X8_numberRead_19 post t_taped t_broken t_brokenAt t_spot t_here t_token t_value t_tape → va_P D vwCl [(A_t, .inr (8, [.ref A_t_state, .ref A_t_tape, .int t_taped, .int t_fault, .int t_broken, .int t_brokenAt, .int t_spot, .int t_here, .int t_token, .int t_value, .int t_isRealTold, .ref A_t_ends, .ref A_t_letters, .ref A_t_least, .ref A_t_conflicts, .int t_conflictMany, .ref A_t_behind, .ref A_t_placed, .ref A_t_isKept, .ref A_t_lanes, .ref A_t_lengths, .ref A_t_cells, .int t_torn])), (A_t_tape, .inl (cy 1, 320, .inl t_tape))] H → va_D A [(A_t, .inr (8, [.ref A_t_state, .ref A_t_tape, .int t_taped, .int t_fault, .int t_broken, .int t_brokenAt, .int t_spot, .int t_here, .int t_token, .int t_value, .int t_isRealTold, .ref A_t_ends, .ref A_t_letters, .ref A_t_least, .ref A_t_conflicts, .int t_conflictMany, .ref A_t_behind, .ref A_t_placed, .ref A_t_isKept, .ref A_t_lanes, .ref A_t_lengths, .ref A_t_cells, .int t_torn])), (A_t_tape, .inl (cy 1, 320, .inl t_tape))] → va_S A s.heap H locs → lv_has ls 3 [(0, .ref A_t)] → W p l e (headSpec wsX8_numberRead { frames := 2, cells := 0, slots := 0, locals := 46 }).room s m ([.ref A_t] : List Value).toArray below meth c H locs 0 0 Q0 (F0 m 19 ls []) := by
    intro t_broken t_brokenAt t_spot t_here t_token t_value H locs ls h hP hD hS hl
    unfold B_X8_numberRead_19 at h
    refine lv_iconst (v := 0) hx hb dX8_numberRead_19 (by decide) ?_
    exact J20 t_broken t_brokenAt t_spot t_here t_token t_value (0 : Int32) H locs ls h hP hD hS (lv_sub hl [0] rfl)
  unfold P_X8_numberRead at h
  refine lv_aload_n hx hb dX8_numberRead_0 rfl (lv_at hl 0 rfl) ?_
  refine va_get (D := D) (ci := 8) (v := .int t_broken) (C := RX8) (T := TX8) (N := 23) hx hb hts iX8 hown hK.1 hP 0 rfl rfl 4 (by decide) f0 (fun _ h9 => h9) rfl dX8_numberRead_1 ?_
  refine lv_if_ne (tgt := 19) hx hb dX8_numberRead_4 (by decide) (fun hc => ?_) (fun hc => ?_)
  · replace h := h.1 hc
    exact J19 t_broken t_brokenAt t_spot t_here t_token t_value s.heap [] ls h hP hD hS (lv_sub hl [0] rfl)
  · replace h := h.2 hc
    refine lv_aload_n hx hb dX8_numberRead_7 rfl (lv_at hl 0 rfl) ?_
    refine va_get (D := D) (ci := 8) (v := .int t_token) (C := RX8) (T := TX8) (N := 23) hx hb hts iX8 hown hK.1 hP 0 rfl rfl 8 (by decide) f2 (fun _ h9 => h9) rfl dX8_numberRead_8 ?_
    refine lv_iconst (v := 4) hx hb dX8_numberRead_11 (by decide) ?_
    refine lv_icmp_ne (tgt := 19) hx hb dX8_numberRead_12 (by decide) (fun hc => ?_) (fun hc => ?_)
    · replace h := h.1 hc
      exact J19 t_broken t_brokenAt t_spot t_here t_token t_value s.heap [] ls h hP hD hS (lv_sub hl [0] rfl)
    · replace h := h.2 hc
      refine lv_iconst (v := 1) hx hb dX8_numberRead_15 (by decide) ?_
      refine lv_goto (tgt := 20) hx hb dX8_numberRead_16 (by decide) ?_
      exact J20 t_broken t_brokenAt t_spot t_here t_token t_value (1 : Int32) s.heap [] ls h hP hD hS (lv_sub hl [0] rfl)
theorem qX8_puts : yX8_puts.cls = RX8 ∧ yX8_puts.cls ≠ "java/lang/invoke/MethodHandle" ∧ yX8_puts.cls ≠ "java/lang/invoke/VarHandle" ∧ (parseMethodDescriptor yX8_puts.desc).map (fun d => d.parameters.length) = some 5 := by decide +kernel
def P_X8_puts (post : (Nat → Int32) → Prop) (t_state : Nat → Int32) (x1 : Int32) (x2 : Int32) (x3 : Int32) (x4 : Int32) (x5 : Int32) : Prop :=
  (vp_in (x1 + (104 : Int32)) 535 ∧ (vp_in (x1 + (t_state (x1 + (104 : Int32)).toNatClampNeg)) 535 ∧ (vp_in ((x1 + (24 : Int32)) + (t_state (x1 + (104 : Int32)).toNatClampNeg)) 535 ∧ (vp_in ((x1 + (48 : Int32)) + (t_state (x1 + (104 : Int32)).toNatClampNeg)) 535 ∧ (vp_in ((x1 + (72 : Int32)) + (t_state (x1 + (104 : Int32)).toNatClampNeg)) 535 ∧ (vp_in (x1 + (104 : Int32)) 535 ∧ (vp_in (x1 + (104 : Int32)) 535 ∧ post (upd (upd (upd (upd (upd t_state (x1 + (t_state (x1 + (104 : Int32)).toNatClampNeg)).toNatClampNeg x2) ((x1 + (24 : Int32)) + (t_state (x1 + (104 : Int32)).toNatClampNeg)).toNatClampNeg x3) ((x1 + (48 : Int32)) + (t_state (x1 + (104 : Int32)).toNatClampNeg)).toNatClampNeg x4) ((x1 + (72 : Int32)) + (t_state (x1 + (104 : Int32)).toNatClampNeg)).toNatClampNeg x5) (x1 + (104 : Int32)).toNatClampNeg (((upd (upd (upd (upd t_state (x1 + (t_state (x1 + (104 : Int32)).toNatClampNeg)).toNatClampNeg x2) ((x1 + (24 : Int32)) + (t_state (x1 + (104 : Int32)).toNatClampNeg)).toNatClampNeg x3) ((x1 + (48 : Int32)) + (t_state (x1 + (104 : Int32)).toNatClampNeg)).toNatClampNeg x4) ((x1 + (72 : Int32)) + (t_state (x1 + (104 : Int32)).toNatClampNeg)).toNatClampNeg x5) (x1 + (104 : Int32)).toNatClampNeg) + (1 : Int32))))))))))
set_option maxHeartbeats 4000000 in
set_option maxRecDepth 100000 in
theorem c_X8_puts (l : Launch) (D : va_G) (cy : Nat → ClassId) (sz : Nat) (A_t A_t_state A_t_tape A_t_ends A_t_letters A_t_least A_t_conflicts A_t_behind A_t_placed A_t_isKept A_t_lanes A_t_lengths A_t_cells : Nat) (t_taped : Int32) (t_fault : Int32) (t_broken : Int32) (t_brokenAt : Int32) (t_spot : Int32) (t_here : Int32) (t_token : Int32) (t_value : Int32) (t_isRealTold : Int32) (t_conflictMany : Int32) (t_torn : Int32) (t_state : Nat → Int32) (x1 : Int32) (x2 : Int32) (x3 : Int32) (x4 : Int32) (x5 : Int32) (post : (Nat → Int32) → Prop) (h : P_X8_puts post t_state x1 x2 x3 x4 x5) : Met l yX8_puts wsX8_puts { frames := 0, cells := 0, slots := 0, locals := 0 } (pcW D cy [(A_t, .inr (8, [.ref A_t_state, .ref A_t_tape, .int t_taped, .int t_fault, .int t_broken, .int t_brokenAt, .int t_spot, .int t_here, .int t_token, .int t_value, .int t_isRealTold, .ref A_t_ends, .ref A_t_letters, .ref A_t_least, .ref A_t_conflicts, .int t_conflictMany, .ref A_t_behind, .ref A_t_placed, .ref A_t_isKept, .ref A_t_lanes, .ref A_t_lengths, .ref A_t_cells, .int t_torn])), (A_t_state, .inl (cy 1, 535, .inl t_state))] sz [.ref A_t, .int x1, .int x2, .int x3, .int x4, .int x5]) (va_Qv (fun (u : (Nat → Int32)) => post u) (bW D [(A_t, .inr (8, [.ref A_t_state, .ref A_t_tape, .int t_taped, .int t_fault, .int t_broken, .int t_brokenAt, .int t_spot, .int t_here, .int t_token, .int t_value, .int t_isRealTold, .ref A_t_ends, .ref A_t_letters, .ref A_t_least, .ref A_t_conflicts, .int t_conflictMany, .ref A_t_behind, .ref A_t_placed, .ref A_t_isKept, .ref A_t_lanes, .ref A_t_lengths, .ref A_t_cells, .int t_torn])), (A_t_state, .inl (cy 1, 535, .inl t_state))] sz (fun u => [(A_t, .inr (8, [.ref A_t_state, .ref A_t_tape, .int t_taped, .int t_fault, .int t_broken, .int t_brokenAt, .int t_spot, .int t_here, .int t_token, .int t_value, .int t_isRealTold, .ref A_t_ends, .ref A_t_letters, .ref A_t_least, .ref A_t_conflicts, .int t_conflictMany, .ref A_t_behind, .ref A_t_placed, .ref A_t_isKept, .ref A_t_lanes, .ref A_t_lengths, .ref A_t_cells, .int t_torn])), (A_t_state, .inl (cy 1, 535, .inl u))])) (va_A [(A_t, .inr (8, [.ref A_t_state, .ref A_t_tape, .int t_taped, .int t_fault, .int t_broken, .int t_brokenAt, .int t_spot, .int t_here, .int t_token, .int t_value, .int t_isRealTold, .ref A_t_ends, .ref A_t_letters, .ref A_t_least, .ref A_t_conflicts, .int t_conflictMany, .ref A_t_behind, .ref A_t_placed, .ref A_t_isKept, .ref A_t_lanes, .ref A_t_lengths, .ref A_t_cells, .int t_torn])), (A_t_state, .inl (cy 1, 535, .inl t_state))] sz)) 0 0 (va_A [(A_t, .inr (8, [.ref A_t_state, .ref A_t_tape, .int t_taped, .int t_fault, .int t_broken, .int t_brokenAt, .int t_spot, .int t_here, .int t_token, .int t_value, .int t_isRealTold, .ref A_t_ends, .ref A_t_letters, .ref A_t_least, .ref A_t_conflicts, .int t_conflictMany, .ref A_t_behind, .ref A_t_placed, .ref A_t_isKept, .ref A_t_lanes, .ref A_t_lengths, .ref A_t_cells, .int t_torn])), (A_t_state, .inl (cy 1, 535, .inl t_state))] sz) := by
  refine Met.ofW (cc := cX8_puts) (maxL := 7) (ret := none) (by decide) rfl ?_
  intro p e s m args below meth c s₁ B hml hv
  obtain ⟨rfl, hsz, hP, hK, hD0⟩ := hv
  have hx := B.exec
  have hb := B.bytes
  have hr := B.returns
  have hts := atoms_spec (ws := wsX8_puts) B.pre
  have hown : s.vm.findClass RX8 = some m.cls := findClass_of_methodNamed B.named
  have hlocks := B.notSynchronized
  have CF : CallFix p m c cX8_puts 7 s ([.ref A_t, .int x1, .int x2, .int x3, .int x4, .int x5] : List Value).toArray wsX8_puts RX8 := ⟨hx, hb, hml, hown, hts⟩
  have f0 := hts (.fieldLink RX8 7 "GapBoundsModel" "state" "[I") (by decide +kernel)
  have iX8 : ∀ w ∈ u_ws RX8 TX8 23, w ∈ wsX8_puts := by decide +kernel
  subst hsz
  obtain ⟨A, hAe⟩ : ∃ A, A = va_A [(A_t, .inr (8, [.ref A_t_state, .ref A_t_tape, .int t_taped, .int t_fault, .int t_broken, .int t_brokenAt, .int t_spot, .int t_here, .int t_token, .int t_value, .int t_isRealTold, .ref A_t_ends, .ref A_t_letters, .ref A_t_least, .ref A_t_conflicts, .int t_conflictMany, .ref A_t_behind, .ref A_t_placed, .ref A_t_isKept, .ref A_t_lanes, .ref A_t_lengths, .ref A_t_cells, .int t_torn])), (A_t_state, .inl (cy 1, 535, .inl t_state))] s.heap.size := ⟨_, rfl⟩
  have hD : va_D A [(A_t, .inr (8, [.ref A_t_state, .ref A_t_tape, .int t_taped, .int t_fault, .int t_broken, .int t_brokenAt, .int t_spot, .int t_here, .int t_token, .int t_value, .int t_isRealTold, .ref A_t_ends, .ref A_t_letters, .ref A_t_least, .ref A_t_conflicts, .int t_conflictMany, .ref A_t_behind, .ref A_t_placed, .ref A_t_isKept, .ref A_t_lanes, .ref A_t_lengths, .ref A_t_cells, .int t_torn])), (A_t_state, .inl (cy 1, 535, .inl t_state))] := by rw [hAe]; exact hD0.self
  have hA : ∀ q : Nat, s.heap.size ≤ q → A q := fun q hq => by rw [hAe]; exact Or.inr hq
  have hS : va_S A s.heap s.heap [] := va_S.rf
  have hl := lv_entry [.ref A_t, .int x1, .int x2, .int x3, .int x4, .int x5] (n := 7) (Nat.le_of_ble_eq_true rfl)
  rw [lg_entry_eq]
  generalize (lg_sl [.ref A_t, .int x1, .int x2, .int x3, .int x4, .int x5] ++ List.replicate (7 - (lg_sl [.ref A_t, .int x1, .int x2, .int x3, .int x4, .int x5]).length) Slot.unset).toArray = ls at hl ⊢
  have hl : lv_has ls 7 [(0, .ref A_t), (1, .int x1), (2, .int x2), (3, .int x3), (4, .int x4), (5, .int x5)] := hl
  refine W.gen (fun Q0 hQ => ?_)
  unfold P_X8_puts at h
  refine lv_aload_n hx hb dX8_puts_0 rfl (lv_at hl 0 rfl) ?_
  refine va_get (D := D) (ci := 8) (v := .ref A_t_state) (C := RX8) (T := TX8) (N := 23) hx hb hts iX8 hown hK.1 hP 0 rfl rfl 0 (by decide) f0 (fun _ h9 => h9) rfl dX8_puts_1 ?_
  refine lv_iload_n hx hb dX8_puts_4 rfl (lv_at hl 1 rfl) ?_
  refine lv_bipush (v := 104) hx hb dX8_puts_5 (by decide) ?_
  refine lv_iadd hx hb dX8_puts_7 ?_
  refine va_iald hx hb hK.1 hP 1 1 rfl rfl h.1 dX8_puts_8 ?_
  replace h := h.2
  refine lv_istore (lv' := [(6, .int (t_state (x1 + (104 : Int32)).toNatClampNeg)), (0, .ref A_t), (1, .int x1), (2, .int x2), (3, .int x3), (4, .int x4), (5, .int x5)]) hx hb dX8_puts_9 hl (by decide) rfl (fun ls hl => ?_)
  refine lv_aload_n hx hb dX8_puts_11 rfl (lv_at hl 1 rfl) ?_
  refine va_get (D := D) (ci := 8) (v := .ref A_t_state) (C := RX8) (T := TX8) (N := 23) hx hb hts iX8 hown hK.1 hP 0 rfl rfl 0 (by decide) f0 (fun _ h9 => h9) rfl dX8_puts_12 ?_
  refine lv_iload_n hx hb dX8_puts_15 rfl (lv_at hl 2 rfl) ?_
  refine lv_iload hx hb dX8_puts_16 (lv_at hl 0 rfl) ?_
  refine lv_iadd hx hb dX8_puts_18 ?_
  refine lv_iload_n hx hb dX8_puts_19 rfl (lv_at hl 3 rfl) ?_
  refine va_iast hx hb hK.1 hP hD hS 1 1 rfl rfl h.1 dX8_puts_20 (fun H locs hP hD hS => ?_)
  replace h := h.2
  have hP : va_P D vwCl [(A_t, .inr (8, [.ref A_t_state, .ref A_t_tape, .int t_taped, .int t_fault, .int t_broken, .int t_brokenAt, .int t_spot, .int t_here, .int t_token, .int t_value, .int t_isRealTold, .ref A_t_ends, .ref A_t_letters, .ref A_t_least, .ref A_t_conflicts, .int t_conflictMany, .ref A_t_behind, .ref A_t_placed, .ref A_t_isKept, .ref A_t_lanes, .ref A_t_lengths, .ref A_t_cells, .int t_torn])), (A_t_state, .inl (cy 1, 535, .inl (upd t_state (x1 + (t_state (x1 + (104 : Int32)).toNatClampNeg)).toNatClampNeg x2)))] H := hP
  have hD : va_D A [(A_t, .inr (8, [.ref A_t_state, .ref A_t_tape, .int t_taped, .int t_fault, .int t_broken, .int t_brokenAt, .int t_spot, .int t_here, .int t_token, .int t_value, .int t_isRealTold, .ref A_t_ends, .ref A_t_letters, .ref A_t_least, .ref A_t_conflicts, .int t_conflictMany, .ref A_t_behind, .ref A_t_placed, .ref A_t_isKept, .ref A_t_lanes, .ref A_t_lengths, .ref A_t_cells, .int t_torn])), (A_t_state, .inl (cy 1, 535, .inl (upd t_state (x1 + (t_state (x1 + (104 : Int32)).toNatClampNeg)).toNatClampNeg x2)))] := hD
  refine lv_aload_n hx hb dX8_puts_21 rfl (lv_at hl 1 rfl) ?_
  refine va_get (D := D) (ci := 8) (v := .ref A_t_state) (C := RX8) (T := TX8) (N := 23) hx hb hts iX8 hown hK.1 hP 0 rfl rfl 0 (by decide) f0 (fun _ h9 => h9) rfl dX8_puts_22 ?_
  refine lv_iload_n hx hb dX8_puts_25 rfl (lv_at hl 2 rfl) ?_
  refine lv_bipush (v := 24) hx hb dX8_puts_26 (by decide) ?_
  refine lv_iadd hx hb dX8_puts_28 ?_
  refine lv_iload hx hb dX8_puts_29 (lv_at hl 0 rfl) ?_
  refine lv_iadd hx hb dX8_puts_31 ?_
  refine lv_iload_n hx hb dX8_puts_32 rfl (lv_at hl 4 rfl) ?_
  refine va_iast hx hb hK.1 hP hD hS 1 1 rfl rfl h.1 dX8_puts_33 (fun H locs hP hD hS => ?_)
  replace h := h.2
  have hP : va_P D vwCl [(A_t, .inr (8, [.ref A_t_state, .ref A_t_tape, .int t_taped, .int t_fault, .int t_broken, .int t_brokenAt, .int t_spot, .int t_here, .int t_token, .int t_value, .int t_isRealTold, .ref A_t_ends, .ref A_t_letters, .ref A_t_least, .ref A_t_conflicts, .int t_conflictMany, .ref A_t_behind, .ref A_t_placed, .ref A_t_isKept, .ref A_t_lanes, .ref A_t_lengths, .ref A_t_cells, .int t_torn])), (A_t_state, .inl (cy 1, 535, .inl (upd (upd t_state (x1 + (t_state (x1 + (104 : Int32)).toNatClampNeg)).toNatClampNeg x2) ((x1 + (24 : Int32)) + (t_state (x1 + (104 : Int32)).toNatClampNeg)).toNatClampNeg x3)))] H := hP
  have hD : va_D A [(A_t, .inr (8, [.ref A_t_state, .ref A_t_tape, .int t_taped, .int t_fault, .int t_broken, .int t_brokenAt, .int t_spot, .int t_here, .int t_token, .int t_value, .int t_isRealTold, .ref A_t_ends, .ref A_t_letters, .ref A_t_least, .ref A_t_conflicts, .int t_conflictMany, .ref A_t_behind, .ref A_t_placed, .ref A_t_isKept, .ref A_t_lanes, .ref A_t_lengths, .ref A_t_cells, .int t_torn])), (A_t_state, .inl (cy 1, 535, .inl (upd (upd t_state (x1 + (t_state (x1 + (104 : Int32)).toNatClampNeg)).toNatClampNeg x2) ((x1 + (24 : Int32)) + (t_state (x1 + (104 : Int32)).toNatClampNeg)).toNatClampNeg x3)))] := hD
  refine lv_aload_n hx hb dX8_puts_34 rfl (lv_at hl 1 rfl) ?_
  refine va_get (D := D) (ci := 8) (v := .ref A_t_state) (C := RX8) (T := TX8) (N := 23) hx hb hts iX8 hown hK.1 hP 0 rfl rfl 0 (by decide) f0 (fun _ h9 => h9) rfl dX8_puts_35 ?_
  refine lv_iload_n hx hb dX8_puts_38 rfl (lv_at hl 2 rfl) ?_
  refine lv_bipush (v := 48) hx hb dX8_puts_39 (by decide) ?_
  refine lv_iadd hx hb dX8_puts_41 ?_
  refine lv_iload hx hb dX8_puts_42 (lv_at hl 0 rfl) ?_
  refine lv_iadd hx hb dX8_puts_44 ?_
  refine lv_iload hx hb dX8_puts_45 (lv_at hl 5 rfl) ?_
  refine va_iast hx hb hK.1 hP hD hS 1 1 rfl rfl h.1 dX8_puts_47 (fun H locs hP hD hS => ?_)
  replace h := h.2
  have hP : va_P D vwCl [(A_t, .inr (8, [.ref A_t_state, .ref A_t_tape, .int t_taped, .int t_fault, .int t_broken, .int t_brokenAt, .int t_spot, .int t_here, .int t_token, .int t_value, .int t_isRealTold, .ref A_t_ends, .ref A_t_letters, .ref A_t_least, .ref A_t_conflicts, .int t_conflictMany, .ref A_t_behind, .ref A_t_placed, .ref A_t_isKept, .ref A_t_lanes, .ref A_t_lengths, .ref A_t_cells, .int t_torn])), (A_t_state, .inl (cy 1, 535, .inl (upd (upd (upd t_state (x1 + (t_state (x1 + (104 : Int32)).toNatClampNeg)).toNatClampNeg x2) ((x1 + (24 : Int32)) + (t_state (x1 + (104 : Int32)).toNatClampNeg)).toNatClampNeg x3) ((x1 + (48 : Int32)) + (t_state (x1 + (104 : Int32)).toNatClampNeg)).toNatClampNeg x4)))] H := hP
  have hD : va_D A [(A_t, .inr (8, [.ref A_t_state, .ref A_t_tape, .int t_taped, .int t_fault, .int t_broken, .int t_brokenAt, .int t_spot, .int t_here, .int t_token, .int t_value, .int t_isRealTold, .ref A_t_ends, .ref A_t_letters, .ref A_t_least, .ref A_t_conflicts, .int t_conflictMany, .ref A_t_behind, .ref A_t_placed, .ref A_t_isKept, .ref A_t_lanes, .ref A_t_lengths, .ref A_t_cells, .int t_torn])), (A_t_state, .inl (cy 1, 535, .inl (upd (upd (upd t_state (x1 + (t_state (x1 + (104 : Int32)).toNatClampNeg)).toNatClampNeg x2) ((x1 + (24 : Int32)) + (t_state (x1 + (104 : Int32)).toNatClampNeg)).toNatClampNeg x3) ((x1 + (48 : Int32)) + (t_state (x1 + (104 : Int32)).toNatClampNeg)).toNatClampNeg x4)))] := hD
  refine lv_aload_n hx hb dX8_puts_48 rfl (lv_at hl 1 rfl) ?_
  refine va_get (D := D) (ci := 8) (v := .ref A_t_state) (C := RX8) (T := TX8) (N := 23) hx hb hts iX8 hown hK.1 hP 0 rfl rfl 0 (by decide) f0 (fun _ h9 => h9) rfl dX8_puts_49 ?_
  refine lv_iload_n hx hb dX8_puts_52 rfl (lv_at hl 2 rfl) ?_
  refine lv_bipush (v := 72) hx hb dX8_puts_53 (by decide) ?_
  refine lv_iadd hx hb dX8_puts_55 ?_
  refine lv_iload hx hb dX8_puts_56 (lv_at hl 0 rfl) ?_
  refine lv_iadd hx hb dX8_puts_58 ?_
  refine lv_iload hx hb dX8_puts_59 (lv_at hl 6 rfl) ?_
  refine va_iast hx hb hK.1 hP hD hS 1 1 rfl rfl h.1 dX8_puts_61 (fun H locs hP hD hS => ?_)
  replace h := h.2
  have hP : va_P D vwCl [(A_t, .inr (8, [.ref A_t_state, .ref A_t_tape, .int t_taped, .int t_fault, .int t_broken, .int t_brokenAt, .int t_spot, .int t_here, .int t_token, .int t_value, .int t_isRealTold, .ref A_t_ends, .ref A_t_letters, .ref A_t_least, .ref A_t_conflicts, .int t_conflictMany, .ref A_t_behind, .ref A_t_placed, .ref A_t_isKept, .ref A_t_lanes, .ref A_t_lengths, .ref A_t_cells, .int t_torn])), (A_t_state, .inl (cy 1, 535, .inl (upd (upd (upd (upd t_state (x1 + (t_state (x1 + (104 : Int32)).toNatClampNeg)).toNatClampNeg x2) ((x1 + (24 : Int32)) + (t_state (x1 + (104 : Int32)).toNatClampNeg)).toNatClampNeg x3) ((x1 + (48 : Int32)) + (t_state (x1 + (104 : Int32)).toNatClampNeg)).toNatClampNeg x4) ((x1 + (72 : Int32)) + (t_state (x1 + (104 : Int32)).toNatClampNeg)).toNatClampNeg x5)))] H := hP
  have hD : va_D A [(A_t, .inr (8, [.ref A_t_state, .ref A_t_tape, .int t_taped, .int t_fault, .int t_broken, .int t_brokenAt, .int t_spot, .int t_here, .int t_token, .int t_value, .int t_isRealTold, .ref A_t_ends, .ref A_t_letters, .ref A_t_least, .ref A_t_conflicts, .int t_conflictMany, .ref A_t_behind, .ref A_t_placed, .ref A_t_isKept, .ref A_t_lanes, .ref A_t_lengths, .ref A_t_cells, .int t_torn])), (A_t_state, .inl (cy 1, 535, .inl (upd (upd (upd (upd t_state (x1 + (t_state (x1 + (104 : Int32)).toNatClampNeg)).toNatClampNeg x2) ((x1 + (24 : Int32)) + (t_state (x1 + (104 : Int32)).toNatClampNeg)).toNatClampNeg x3) ((x1 + (48 : Int32)) + (t_state (x1 + (104 : Int32)).toNatClampNeg)).toNatClampNeg x4) ((x1 + (72 : Int32)) + (t_state (x1 + (104 : Int32)).toNatClampNeg)).toNatClampNeg x5)))] := hD
  refine lv_aload_n hx hb dX8_puts_62 rfl (lv_at hl 1 rfl) ?_
  refine va_get (D := D) (ci := 8) (v := .ref A_t_state) (C := RX8) (T := TX8) (N := 23) hx hb hts iX8 hown hK.1 hP 0 rfl rfl 0 (by decide) f0 (fun _ h9 => h9) rfl dX8_puts_63 ?_
  refine lv_iload_n hx hb dX8_puts_66 rfl (lv_at hl 2 rfl) ?_
  refine lv_bipush (v := 104) hx hb dX8_puts_67 (by decide) ?_
  refine lv_iadd hx hb dX8_puts_69 ?_
  refine lv_dup2_11 hx hb dX8_puts_70 rfl rfl ?_
  refine va_iald hx hb hK.1 hP 1 1 rfl rfl h.1 dX8_puts_71 ?_
  replace h := h.2
  refine lv_iconst (v := 1) hx hb dX8_puts_72 (by decide) ?_
  refine lv_iadd hx hb dX8_puts_73 ?_
  refine va_iast hx hb hK.1 hP hD hS 1 1 rfl rfl h.1 dX8_puts_74 (fun H locs hP hD hS => ?_)
  replace h := h.2
  have hP : va_P D vwCl [(A_t, .inr (8, [.ref A_t_state, .ref A_t_tape, .int t_taped, .int t_fault, .int t_broken, .int t_brokenAt, .int t_spot, .int t_here, .int t_token, .int t_value, .int t_isRealTold, .ref A_t_ends, .ref A_t_letters, .ref A_t_least, .ref A_t_conflicts, .int t_conflictMany, .ref A_t_behind, .ref A_t_placed, .ref A_t_isKept, .ref A_t_lanes, .ref A_t_lengths, .ref A_t_cells, .int t_torn])), (A_t_state, .inl (cy 1, 535, .inl (upd (upd (upd (upd (upd t_state (x1 + (t_state (x1 + (104 : Int32)).toNatClampNeg)).toNatClampNeg x2) ((x1 + (24 : Int32)) + (t_state (x1 + (104 : Int32)).toNatClampNeg)).toNatClampNeg x3) ((x1 + (48 : Int32)) + (t_state (x1 + (104 : Int32)).toNatClampNeg)).toNatClampNeg x4) ((x1 + (72 : Int32)) + (t_state (x1 + (104 : Int32)).toNatClampNeg)).toNatClampNeg x5) (x1 + (104 : Int32)).toNatClampNeg (((upd (upd (upd (upd t_state (x1 + (t_state (x1 + (104 : Int32)).toNatClampNeg)).toNatClampNeg x2) ((x1 + (24 : Int32)) + (t_state (x1 + (104 : Int32)).toNatClampNeg)).toNatClampNeg x3) ((x1 + (48 : Int32)) + (t_state (x1 + (104 : Int32)).toNatClampNeg)).toNatClampNeg x4) ((x1 + (72 : Int32)) + (t_state (x1 + (104 : Int32)).toNatClampNeg)).toNatClampNeg x5) (x1 + (104 : Int32)).toNatClampNeg) + (1 : Int32)))))] H := hP
  have hD : va_D A [(A_t, .inr (8, [.ref A_t_state, .ref A_t_tape, .int t_taped, .int t_fault, .int t_broken, .int t_brokenAt, .int t_spot, .int t_here, .int t_token, .int t_value, .int t_isRealTold, .ref A_t_ends, .ref A_t_letters, .ref A_t_least, .ref A_t_conflicts, .int t_conflictMany, .ref A_t_behind, .ref A_t_placed, .ref A_t_isKept, .ref A_t_lanes, .ref A_t_lengths, .ref A_t_cells, .int t_torn])), (A_t_state, .inl (cy 1, 535, .inl (upd (upd (upd (upd (upd t_state (x1 + (t_state (x1 + (104 : Int32)).toNatClampNeg)).toNatClampNeg x2) ((x1 + (24 : Int32)) + (t_state (x1 + (104 : Int32)).toNatClampNeg)).toNatClampNeg x3) ((x1 + (48 : Int32)) + (t_state (x1 + (104 : Int32)).toNatClampNeg)).toNatClampNeg x4) ((x1 + (72 : Int32)) + (t_state (x1 + (104 : Int32)).toNatClampNeg)).toNatClampNeg x5) (x1 + (104 : Int32)).toNatClampNeg (((upd (upd (upd (upd t_state (x1 + (t_state (x1 + (104 : Int32)).toNatClampNeg)).toNatClampNeg x2) ((x1 + (24 : Int32)) + (t_state (x1 + (104 : Int32)).toNatClampNeg)).toNatClampNeg x3) ((x1 + (48 : Int32)) + (t_state (x1 + (104 : Int32)).toNatClampNeg)).toNatClampNeg x4) ((x1 + (72 : Int32)) + (t_state (x1 + (104 : Int32)).toNatClampNeg)).toNatClampNeg x5) (x1 + (104 : Int32)).toNatClampNeg) + (1 : Int32)))))] := hD
  subst hQ
  subst hAe
  exact W.vret hx hb hr (fun t ht _ => ⟨⟨upd (upd (upd (upd (upd t_state (x1 + (t_state (x1 + (104 : Int32)).toNatClampNeg)).toNatClampNeg x2) ((x1 + (24 : Int32)) + (t_state (x1 + (104 : Int32)).toNatClampNeg)).toNatClampNeg x3) ((x1 + (48 : Int32)) + (t_state (x1 + (104 : Int32)).toNatClampNeg)).toNatClampNeg x4) ((x1 + (72 : Int32)) + (t_state (x1 + (104 : Int32)).toNatClampNeg)).toNatClampNeg x5) (x1 + (104 : Int32)).toNatClampNeg (((upd (upd (upd (upd t_state (x1 + (t_state (x1 + (104 : Int32)).toNatClampNeg)).toNatClampNeg x2) ((x1 + (24 : Int32)) + (t_state (x1 + (104 : Int32)).toNatClampNeg)).toNatClampNeg x3) ((x1 + (48 : Int32)) + (t_state (x1 + (104 : Int32)).toNatClampNeg)).toNatClampNeg x4) ((x1 + (72 : Int32)) + (t_state (x1 + (104 : Int32)).toNatClampNeg)).toNatClampNeg x5) (x1 + (104 : Int32)).toNatClampNeg) + (1 : Int32)), rfl, h, by rw [ht]; exact hP, hD⟩, hS.F ht⟩) hS.2.2 dX8_puts_75
theorem qX8_readBound : yX8_readBound.cls = RX8 ∧ yX8_readBound.cls ≠ "java/lang/invoke/MethodHandle" ∧ yX8_readBound.cls ≠ "java/lang/invoke/VarHandle" ∧ (parseMethodDescriptor yX8_readBound.desc).map (fun d => d.parameters.length) = some 1 := by decide +kernel
def B_X8_readBound_95 (post : Int32 → Int32 → Int32 → Int32 → Int32 → Int32 → (Nat → Int32) → Prop) (t_broken : Int32) (t_brokenAt : Int32) (t_spot : Int32) (t_here : Int32) (t_token : Int32) (t_value : Int32) (t_state : Nat → Int32) (x1 : Int32) (x3 : Int32) (x4 : Int32) (x5 : Int32) : Prop :=
  ((¬ t_broken = 0 → post t_broken t_brokenAt t_spot t_here t_token t_value t_state) ∧ (t_broken = 0 → P_X8_in (fun (r5 : Int32) => ((r5 = 0 → post t_broken t_brokenAt t_spot t_here t_token t_value t_state) ∧ (¬ r5 = 0 → ((¬ x1 = (4 : Int32) → P_X8_puts (fun (t_state_v6 : Nat → Int32) => post t_broken t_brokenAt t_spot t_here t_token t_value t_state_v6) t_state (321 : Int32) x4 x3 (-x5) (0 : Int32)) ∧ (x1 = (4 : Int32) → P_X8_puts (fun (t_state_v7 : Nat → Int32) => post t_broken t_brokenAt t_spot t_here t_token t_value t_state_v7) t_state (321 : Int32) x4 x3 (-x5) (1 : Int32)))))) x1.toInt64 (3 : Int64) (5 : Int64)))
def B_X8_readBound_92 (post : Int32 → Int32 → Int32 → Int32 → Int32 → Int32 → (Nat → Int32) → Prop) (t_broken : Int32) (t_brokenAt : Int32) (t_spot : Int32) (t_here : Int32) (t_token : Int32) (t_value : Int32) (t_state : Nat → Int32) (k1 : Int32) (k2 : Int32) (k3 : Int32) (k4 : Int32) (k5 : Int32) (x1 : Int32) (x3 : Int32) (x4 : Int32) (x5 : Int32) : Prop :=
  P_X8_puts (fun (t_state_v8 : Nat → Int32) => B_X8_readBound_95 post t_broken t_brokenAt t_spot t_here t_token t_value t_state_v8 x1 x3 x4 x5) t_state k1 k2 k3 k4 k5
def B_X8_readBound_10 (post : Int32 → Int32 → Int32 → Int32 → Int32 → Int32 → (Nat → Int32) → Prop) (t_taped : Int32) (t_broken : Int32) (t_brokenAt : Int32) (t_spot : Int32) (t_here : Int32) (t_token : Int32) (t_value : Int32) (t_state : Nat → Int32) (t_tape : Nat → Int32) (k0 : Int32) (x1 : Int32) : Prop :=
  (vp_in (425 : Int32) 535 ∧ (((t_state (425 : Int32).toNatClampNeg) + k0 ≤ (24 : Int32) → P_X8_readsOn (fun (t_broken_v1 : Int32) (t_brokenAt_v1 : Int32) (t_spot_v1 : Int32) (t_here_v1 : Int32) (t_token_v1 : Int32) (t_value_v1 : Int32) => P_X8_thingRead (fun (r2 : Int32) (t_broken_v2 : Int32) (t_brokenAt_v2 : Int32) (t_spot_v2 : Int32) (t_here_v2 : Int32) (t_token_v2 : Int32) (t_value_v2 : Int32) => P_X8_thingRead (fun (r3 : Int32) (t_broken_v3 : Int32) (t_brokenAt_v3 : Int32) (t_spot_v3 : Int32) (t_here_v3 : Int32) (t_token_v3 : Int32) (t_value_v3 : Int32) => P_X8_numberRead (fun (r4 : Int32) (t_broken_v4 : Int32) (t_brokenAt_v4 : Int32) (t_spot_v4 : Int32) (t_here_v4 : Int32) (t_token_v4 : Int32) (t_value_v4 : Int32) => ((¬ t_broken_v4 = 0 → B_X8_readBound_95 post t_broken_v4 t_brokenAt_v4 t_spot_v4 t_here_v4 t_token_v4 t_value_v4 t_state x1 r2 r3 r4) ∧ (t_broken_v4 = 0 → ((x1 = (3 : Int32) → B_X8_readBound_95 post t_broken_v4 t_brokenAt_v4 t_spot_v4 t_here_v4 t_token_v4 t_value_v4 t_state x1 r2 r3 r4) ∧ (¬ x1 = (3 : Int32) → ((x1 = (4 : Int32) → B_X8_readBound_95 post t_broken_v4 t_brokenAt_v4 t_spot_v4 t_here_v4 t_token_v4 t_value_v4 t_state x1 r2 r3 r4) ∧ (¬ x1 = (4 : Int32) → ((¬ x1 = (2 : Int32) → B_X8_readBound_92 post t_broken_v4 t_brokenAt_v4 t_spot_v4 t_here_v4 t_token_v4 t_value_v4 t_state (321 : Int32) r2 r3 r4 (0 : Int32) x1 r2 r3 r4) ∧ (x1 = (2 : Int32) → B_X8_readBound_92 post t_broken_v4 t_brokenAt_v4 t_spot_v4 t_here_v4 t_token_v4 t_value_v4 t_state (321 : Int32) r2 r3 r4 (1 : Int32) x1 r2 r3 r4))))))))) t_taped t_broken_v3 t_brokenAt_v3 t_spot_v3 t_here_v3 t_token_v3 t_value_v3 t_tape) t_taped t_broken_v2 t_brokenAt_v2 t_spot_v2 t_here_v2 t_token_v2 t_value_v2 t_tape r2) t_taped t_broken_v1 t_brokenAt_v1 t_spot_v1 t_here_v1 t_token_v1 t_value_v1 t_tape (-4 : Int32)) t_taped t_broken t_brokenAt t_spot t_here t_token t_value t_tape) ∧ (¬ (t_state (425 : Int32).toNatClampNeg) + k0 ≤ (24 : Int32) → P_X8_fails (fun (t_broken_v9 : Int32) (t_brokenAt_v9 : Int32) => post t_broken_v9 t_brokenAt_v9 t_spot t_here t_token t_value t_state) t_broken t_brokenAt t_here (5 : Int32))))
def P_X8_readBound (post : Int32 → Int32 → Int32 → Int32 → Int32 → Int32 → (Nat → Int32) → Prop) (t_taped : Int32) (t_broken : Int32) (t_brokenAt : Int32) (t_spot : Int32) (t_here : Int32) (t_token : Int32) (t_value : Int32) (t_state : Nat → Int32) (t_tape : Nat → Int32) (x1 : Int32) : Prop :=
  ((¬ x1 = (5 : Int32) → B_X8_readBound_10 post t_taped t_broken t_brokenAt t_spot t_here t_token t_value t_state t_tape (1 : Int32) x1) ∧ (x1 = (5 : Int32) → B_X8_readBound_10 post t_taped t_broken t_brokenAt t_spot t_here t_token t_value t_state t_tape (2 : Int32) x1))
set_option maxHeartbeats 4000000 in
set_option maxRecDepth 100000 in
theorem c_X8_readBound (l : Launch) (D : va_G) (cy : Nat → ClassId) (sz : Nat) (A_t A_t_state A_t_tape A_t_ends A_t_letters A_t_least A_t_conflicts A_t_behind A_t_placed A_t_isKept A_t_lanes A_t_lengths A_t_cells : Nat) (t_taped : Int32) (t_fault : Int32) (t_broken : Int32) (t_brokenAt : Int32) (t_spot : Int32) (t_here : Int32) (t_token : Int32) (t_value : Int32) (t_isRealTold : Int32) (t_conflictMany : Int32) (t_torn : Int32) (t_state : Nat → Int32) (t_tape : Nat → Int32) (x1 : Int32) (post : Int32 → Int32 → Int32 → Int32 → Int32 → Int32 → (Nat → Int32) → Prop) (h : P_X8_readBound post t_taped t_broken t_brokenAt t_spot t_here t_token t_value t_state t_tape x1) : Met l yX8_readBound wsX8_readBound { frames := 3, cells := 0, slots := 0, locals := 69 } (pcW D cy [(A_t, .inr (8, [.ref A_t_state, .ref A_t_tape, .int t_taped, .int t_fault, .int t_broken, .int t_brokenAt, .int t_spot, .int t_here, .int t_token, .int t_value, .int t_isRealTold, .ref A_t_ends, .ref A_t_letters, .ref A_t_least, .ref A_t_conflicts, .int t_conflictMany, .ref A_t_behind, .ref A_t_placed, .ref A_t_isKept, .ref A_t_lanes, .ref A_t_lengths, .ref A_t_cells, .int t_torn])), (A_t_state, .inl (cy 1, 535, .inl t_state)), (A_t_tape, .inl (cy 1, 320, .inl t_tape))] sz [.ref A_t, .int x1]) (va_Qv (fun (u : Int32 × Int32 × Int32 × Int32 × Int32 × Int32 × (Nat → Int32)) => post u.1 u.2.1 u.2.2.1 u.2.2.2.1 u.2.2.2.2.1 u.2.2.2.2.2.1 u.2.2.2.2.2.2) (bW D [(A_t, .inr (8, [.ref A_t_state, .ref A_t_tape, .int t_taped, .int t_fault, .int t_broken, .int t_brokenAt, .int t_spot, .int t_here, .int t_token, .int t_value, .int t_isRealTold, .ref A_t_ends, .ref A_t_letters, .ref A_t_least, .ref A_t_conflicts, .int t_conflictMany, .ref A_t_behind, .ref A_t_placed, .ref A_t_isKept, .ref A_t_lanes, .ref A_t_lengths, .ref A_t_cells, .int t_torn])), (A_t_state, .inl (cy 1, 535, .inl t_state)), (A_t_tape, .inl (cy 1, 320, .inl t_tape))] sz (fun u => [(A_t, .inr (8, [.ref A_t_state, .ref A_t_tape, .int t_taped, .int t_fault, .int (u.1), .int (u.2.1), .int (u.2.2.1), .int (u.2.2.2.1), .int (u.2.2.2.2.1), .int (u.2.2.2.2.2.1), .int t_isRealTold, .ref A_t_ends, .ref A_t_letters, .ref A_t_least, .ref A_t_conflicts, .int t_conflictMany, .ref A_t_behind, .ref A_t_placed, .ref A_t_isKept, .ref A_t_lanes, .ref A_t_lengths, .ref A_t_cells, .int t_torn])), (A_t_state, .inl (cy 1, 535, .inl u.2.2.2.2.2.2)), (A_t_tape, .inl (cy 1, 320, .inl t_tape))])) (va_A [(A_t, .inr (8, [.ref A_t_state, .ref A_t_tape, .int t_taped, .int t_fault, .int t_broken, .int t_brokenAt, .int t_spot, .int t_here, .int t_token, .int t_value, .int t_isRealTold, .ref A_t_ends, .ref A_t_letters, .ref A_t_least, .ref A_t_conflicts, .int t_conflictMany, .ref A_t_behind, .ref A_t_placed, .ref A_t_isKept, .ref A_t_lanes, .ref A_t_lengths, .ref A_t_cells, .int t_torn])), (A_t_state, .inl (cy 1, 535, .inl t_state)), (A_t_tape, .inl (cy 1, 320, .inl t_tape))] sz)) 0 0 (va_A [(A_t, .inr (8, [.ref A_t_state, .ref A_t_tape, .int t_taped, .int t_fault, .int t_broken, .int t_brokenAt, .int t_spot, .int t_here, .int t_token, .int t_value, .int t_isRealTold, .ref A_t_ends, .ref A_t_letters, .ref A_t_least, .ref A_t_conflicts, .int t_conflictMany, .ref A_t_behind, .ref A_t_placed, .ref A_t_isKept, .ref A_t_lanes, .ref A_t_lengths, .ref A_t_cells, .int t_torn])), (A_t_state, .inl (cy 1, 535, .inl t_state)), (A_t_tape, .inl (cy 1, 320, .inl t_tape))] sz) := by
  refine Met.ofW (cc := cX8_readBound) (maxL := 6) (ret := none) (by decide) rfl ?_
  intro p e s m args below meth c s₁ B hml hv
  obtain ⟨rfl, hsz, hP, hK, hD0⟩ := hv
  have hx := B.exec
  have hb := B.bytes
  have hr := B.returns
  have hts := atoms_spec (ws := wsX8_readBound) B.pre
  have hown : s.vm.findClass RX8 = some m.cls := findClass_of_methodNamed B.named
  have hlocks := B.notSynchronized
  have CF : CallFix p m c cX8_readBound 6 s ([.ref A_t, .int x1] : List Value).toArray wsX8_readBound RX8 := ⟨hx, hb, hml, hown, hts⟩
  have f0 := hts (.fieldLink RX8 7 "GapBoundsModel" "state" "[I") (by decide +kernel)
  have f1 := hts (.fieldLink RX8 58 "GapBoundsModel" "broken" "I") (by decide +kernel)
  have f2 := hts (.constantLong RX8 108 (3)) (by decide +kernel)
  have f3 := hts (.constantLong RX8 110 (5)) (by decide +kernel)
  have iX8 : ∀ w ∈ u_ws RX8 TX8 23, w ∈ wsX8_readBound := by decide +kernel
  subst hsz
  obtain ⟨A, hAe⟩ : ∃ A, A = va_A [(A_t, .inr (8, [.ref A_t_state, .ref A_t_tape, .int t_taped, .int t_fault, .int t_broken, .int t_brokenAt, .int t_spot, .int t_here, .int t_token, .int t_value, .int t_isRealTold, .ref A_t_ends, .ref A_t_letters, .ref A_t_least, .ref A_t_conflicts, .int t_conflictMany, .ref A_t_behind, .ref A_t_placed, .ref A_t_isKept, .ref A_t_lanes, .ref A_t_lengths, .ref A_t_cells, .int t_torn])), (A_t_state, .inl (cy 1, 535, .inl t_state)), (A_t_tape, .inl (cy 1, 320, .inl t_tape))] s.heap.size := ⟨_, rfl⟩
  have hD : va_D A [(A_t, .inr (8, [.ref A_t_state, .ref A_t_tape, .int t_taped, .int t_fault, .int t_broken, .int t_brokenAt, .int t_spot, .int t_here, .int t_token, .int t_value, .int t_isRealTold, .ref A_t_ends, .ref A_t_letters, .ref A_t_least, .ref A_t_conflicts, .int t_conflictMany, .ref A_t_behind, .ref A_t_placed, .ref A_t_isKept, .ref A_t_lanes, .ref A_t_lengths, .ref A_t_cells, .int t_torn])), (A_t_state, .inl (cy 1, 535, .inl t_state)), (A_t_tape, .inl (cy 1, 320, .inl t_tape))] := by rw [hAe]; exact hD0.self
  have hA : ∀ q : Nat, s.heap.size ≤ q → A q := fun q hq => by rw [hAe]; exact Or.inr hq
  have hS : va_S A s.heap s.heap [] := va_S.rf
  have hl := lv_entry [.ref A_t, .int x1] (n := 6) (Nat.le_of_ble_eq_true rfl)
  rw [lg_entry_eq]
  generalize (lg_sl [.ref A_t, .int x1] ++ List.replicate (6 - (lg_sl [.ref A_t, .int x1]).length) Slot.unset).toArray = ls at hl ⊢
  have hl : lv_has ls 6 [(0, .ref A_t), (1, .int x1)] := hl
  refine W.gen (fun Q0 hQ => ?_)
  have J95 : ∀ (t_broken : Int32) (t_brokenAt : Int32) (t_spot : Int32) (t_here : Int32) (t_token : Int32) (t_value : Int32) (t_state : Nat → Int32) (x3 : Int32) (x4 : Int32) (x5 : Int32) (H : Heap) (locs : List Loc) (ls : Array Slot), B_X8_readBound_95 post t_broken t_brokenAt t_spot t_here t_token t_value t_state x1 x3 x4 x5 → va_P D vwCl [(A_t, .inr (8, [.ref A_t_state, .ref A_t_tape, .int t_taped, .int t_fault, .int t_broken, .int t_brokenAt, .int t_spot, .int t_here, .int t_token, .int t_value, .int t_isRealTold, .ref A_t_ends, .ref A_t_letters, .ref A_t_least, .ref A_t_conflicts, .int t_conflictMany, .ref A_t_behind, .ref A_t_placed, .ref A_t_isKept, .ref A_t_lanes, .ref A_t_lengths, .ref A_t_cells, .int t_torn])), (A_t_state, .inl (cy 1, 535, .inl t_state)), (A_t_tape, .inl (cy 1, 320, .inl t_tape))] H → va_D A [(A_t, .inr (8, [.ref A_t_state, .ref A_t_tape, .int t_taped, .int t_fault, .int t_broken, .int t_brokenAt, .int t_spot, .int t_here, .int t_token, .int t_value, .int t_isRealTold, .ref A_t_ends, .ref A_t_letters, .ref A_t_least, .ref A_t_conflicts, .int t_conflictMany, .ref A_t_behind, .ref A_t_placed, .ref A_t_isKept, .ref A_t_lanes, .ref A_t_lengths, .ref A_t_cells, .int t_torn])), (A_t_state, .inl (cy 1, 535, .inl t_state)), (A_t_tape, .inl (cy 1, 320, .inl t_tape))] → va_S A s.heap H locs → lv_has ls 6 [(0, .ref A_t), (1, .int x1), (3, .int x3), (4, .int x4), (5, .int x5)] → W p l e (headSpec wsX8_readBound { frames := 3, cells := 0, slots := 0, locals := 69 }).room s m ([.ref A_t, .int x1] : List Value).toArray below meth c H locs 0 0 Q0 (F0 m 95 ls []) := by
    intro t_broken t_brokenAt t_spot t_here t_token t_value t_state x3 x4 x5 H locs ls h hP hD hS hl
    unfold B_X8_readBound_95 at h
    refine lv_aload_n hx hb dX8_readBound_95 rfl (lv_at hl 0 rfl) ?_
    refine va_get (D := D) (ci := 8) (v := .int t_broken) (C := RX8) (T := TX8) (N := 23) hx hb hts iX8 hown hK.1 hP 0 rfl rfl 4 (by decide) f1 (fun _ h9 => h9) rfl dX8_readBound_96 ?_
    refine lv_if_ne (tgt := 139) hx hb dX8_readBound_99 (by decide) (fun hc => ?_) (fun hc => ?_)
    · replace h := h.1 hc
      subst hQ
      subst hAe
      exact W.vret hx hb hr (fun t ht _ => ⟨⟨(t_broken, t_brokenAt, t_spot, t_here, t_token, t_value, t_state), rfl, h, by rw [ht]; exact hP, hD⟩, hS.F ht⟩) hS.2.2 dX8_readBound_139
    · replace h := h.2 hc
      refine lv_iload_n hx hb dX8_readBound_102 rfl (lv_at hl 1 rfl) ?_
      refine lv_i2l (v := x1.toInt64) hx hb dX8_readBound_103 rfl ?_
      refine lv_ldc2 (v := 3) hx hb hown f2 dX8_readBound_104 ?_
      refine lv_ldc2 (v := 5) hx hb hown f3 dX8_readBound_107 ?_
      refine vp_callSi (W.runS (As := [.long x1.toInt64, .long (3 : Int64), .long (5 : Int64)]) (rest := []) CF (c_X8_in l x1.toInt64 (3 : Int64) (5 : Int64) _ h) (va_cwS 3 hts gX8_readBound_X8_in rfl rfl rfl qX8_in.2 ⟨Nat.le_of_ble_eq_true rfl, Nat.le_of_ble_eq_true rfl⟩) mpSN rfl rfl hl.1 rfl (lv_room (Nat.le_of_ble_eq_true rfl)) dX8_readBound_110 ⟨Nat.zero_le _, Nat.zero_le _⟩) (fun r5 h => ?_)
      refine lv_if_eq (tgt := 139) hx hb dX8_readBound_113 (by decide) (fun hc => ?_) (fun hc => ?_)
      · replace h := h.1 hc
        subst hQ
        subst hAe
        exact W.vret hx hb hr (fun t ht _ => ⟨⟨(t_broken, t_brokenAt, t_spot, t_here, t_token, t_value, t_state), rfl, h, by rw [ht]; exact hP, hD⟩, hS.F ht⟩) hS.2.2 dX8_readBound_139
      · replace h := h.2 hc
        refine lv_aload_n hx hb dX8_readBound_116 rfl (lv_at hl 0 rfl) ?_
        refine lv_sipush (v := 321) hx hb dX8_readBound_117 (by decide) ?_
        refine lv_iload hx hb dX8_readBound_120 (lv_at hl 3 rfl) ?_
        refine lv_iload_n hx hb dX8_readBound_122 rfl (lv_at hl 2 rfl) ?_
        refine lv_iload hx hb dX8_readBound_123 (lv_at hl 4 rfl) ?_
        refine lv_ineg hx hb dX8_readBound_125 ?_
        refine lv_iload_n hx hb dX8_readBound_126 rfl (lv_at hl 1 rfl) ?_
        refine lv_iconst (v := 4) hx hb dX8_readBound_127 (by decide) ?_
        refine lv_icmp_ne (tgt := 135) hx hb dX8_readBound_128 (by decide) (fun hc => ?_) (fun hc => ?_)
        · replace h := h.1 hc
          refine lv_iconst (v := 0) hx hb dX8_readBound_135 (by decide) ?_
          have hPn : va_P D vwCl ([(A_t_tape, .inl (cy 1, 320, .inl t_tape))] ++ [(A_t, .inr (8, [.ref A_t_state, .ref A_t_tape, .int t_taped, .int t_fault, .int t_broken, .int t_brokenAt, .int t_spot, .int t_here, .int t_token, .int t_value, .int t_isRealTold, .ref A_t_ends, .ref A_t_letters, .ref A_t_least, .ref A_t_conflicts, .int t_conflictMany, .ref A_t_behind, .ref A_t_placed, .ref A_t_isKept, .ref A_t_lanes, .ref A_t_lengths, .ref A_t_cells, .int t_torn])), (A_t_state, .inl (cy 1, 535, .inl t_state))]) H := hP.sub [2, 0, 1] rfl
          have hDn : va_D A ([(A_t_tape, .inl (cy 1, 320, .inl t_tape))] ++ [(A_t, .inr (8, [.ref A_t_state, .ref A_t_tape, .int t_taped, .int t_fault, .int t_broken, .int t_brokenAt, .int t_spot, .int t_here, .int t_token, .int t_value, .int t_isRealTold, .ref A_t_ends, .ref A_t_letters, .ref A_t_least, .ref A_t_conflicts, .int t_conflictMany, .ref A_t_behind, .ref A_t_placed, .ref A_t_isKept, .ref A_t_lanes, .ref A_t_lengths, .ref A_t_cells, .int t_torn])), (A_t_state, .inl (cy 1, 535, .inl t_state))]) := hD.sub [2, 0, 1] (by decide) rfl
          have hPc := gPR hPn
          have hDc := gDR hDn
          refine mw_v (va_runV (As := [.int (321 : Int32), .int x4, .int x3, .int (-x5), .int (0 : Int32)]) (rest := []) CF (c_X8_puts l D cy H.size A_t A_t_state A_t_tape A_t_ends A_t_letters A_t_least A_t_conflicts A_t_behind A_t_placed A_t_isKept A_t_lanes A_t_lengths A_t_cells t_taped t_fault t_broken t_brokenAt t_spot t_here t_token t_value t_isRealTold t_conflictMany t_torn t_state (321 : Int32) x4 x3 (-x5) (0 : Int32) _ h) (cwV 5 hts gX8_readBound_X8_puts rfl rfl rfl qX8_puts ⟨Nat.le_of_ble_eq_true rfl, Nat.le_of_ble_eq_true rfl⟩) (mpVW hK hPc hDc (ci := 8) (q := (RX8, TX8, 23)) (q0 := 0) rfl rfl) rfl rfl hl.1 rfl (lv_room (Nat.le_of_ble_eq_true rfl)) dX8_readBound_136 ⟨Nat.zero_le _, Nat.zero_le _⟩) hPn hDn hS hA (fun t_state_v6 H locs h hP hD hS => ?_)
          have hP : va_P D vwCl [(A_t, .inr (8, [.ref A_t_state, .ref A_t_tape, .int t_taped, .int t_fault, .int t_broken, .int t_brokenAt, .int t_spot, .int t_here, .int t_token, .int t_value, .int t_isRealTold, .ref A_t_ends, .ref A_t_letters, .ref A_t_least, .ref A_t_conflicts, .int t_conflictMany, .ref A_t_behind, .ref A_t_placed, .ref A_t_isKept, .ref A_t_lanes, .ref A_t_lengths, .ref A_t_cells, .int t_torn])), (A_t_state, .inl (cy 1, 535, .inl t_state_v6)), (A_t_tape, .inl (cy 1, 320, .inl t_tape))] H := hP.sub [1, 2, 0] rfl
          have hD : va_D A [(A_t, .inr (8, [.ref A_t_state, .ref A_t_tape, .int t_taped, .int t_fault, .int t_broken, .int t_brokenAt, .int t_spot, .int t_here, .int t_token, .int t_value, .int t_isRealTold, .ref A_t_ends, .ref A_t_letters, .ref A_t_least, .ref A_t_conflicts, .int t_conflictMany, .ref A_t_behind, .ref A_t_placed, .ref A_t_isKept, .ref A_t_lanes, .ref A_t_lengths, .ref A_t_cells, .int t_torn])), (A_t_state, .inl (cy 1, 535, .inl t_state_v6)), (A_t_tape, .inl (cy 1, 320, .inl t_tape))] := hD.sub [1, 2, 0] (by decide) rfl
          subst hQ
          subst hAe
          exact W.vret hx hb hr (fun t ht _ => ⟨⟨(t_broken, t_brokenAt, t_spot, t_here, t_token, t_value, t_state_v6), rfl, h, by rw [ht]; exact hP, hD⟩, hS.F ht⟩) hS.2.2 dX8_readBound_139
        · replace h := h.2 hc
          refine lv_iconst (v := 1) hx hb dX8_readBound_131 (by decide) ?_
          refine lv_goto (tgt := 136) hx hb dX8_readBound_132 (by decide) ?_
          have hPn : va_P D vwCl ([(A_t_tape, .inl (cy 1, 320, .inl t_tape))] ++ [(A_t, .inr (8, [.ref A_t_state, .ref A_t_tape, .int t_taped, .int t_fault, .int t_broken, .int t_brokenAt, .int t_spot, .int t_here, .int t_token, .int t_value, .int t_isRealTold, .ref A_t_ends, .ref A_t_letters, .ref A_t_least, .ref A_t_conflicts, .int t_conflictMany, .ref A_t_behind, .ref A_t_placed, .ref A_t_isKept, .ref A_t_lanes, .ref A_t_lengths, .ref A_t_cells, .int t_torn])), (A_t_state, .inl (cy 1, 535, .inl t_state))]) H := hP.sub [2, 0, 1] rfl
          have hDn : va_D A ([(A_t_tape, .inl (cy 1, 320, .inl t_tape))] ++ [(A_t, .inr (8, [.ref A_t_state, .ref A_t_tape, .int t_taped, .int t_fault, .int t_broken, .int t_brokenAt, .int t_spot, .int t_here, .int t_token, .int t_value, .int t_isRealTold, .ref A_t_ends, .ref A_t_letters, .ref A_t_least, .ref A_t_conflicts, .int t_conflictMany, .ref A_t_behind, .ref A_t_placed, .ref A_t_isKept, .ref A_t_lanes, .ref A_t_lengths, .ref A_t_cells, .int t_torn])), (A_t_state, .inl (cy 1, 535, .inl t_state))]) := hD.sub [2, 0, 1] (by decide) rfl
          have hPc := gPR hPn
          have hDc := gDR hDn
          refine mw_v (va_runV (As := [.int (321 : Int32), .int x4, .int x3, .int (-x5), .int (1 : Int32)]) (rest := []) CF (c_X8_puts l D cy H.size A_t A_t_state A_t_tape A_t_ends A_t_letters A_t_least A_t_conflicts A_t_behind A_t_placed A_t_isKept A_t_lanes A_t_lengths A_t_cells t_taped t_fault t_broken t_brokenAt t_spot t_here t_token t_value t_isRealTold t_conflictMany t_torn t_state (321 : Int32) x4 x3 (-x5) (1 : Int32) _ h) (cwV 5 hts gX8_readBound_X8_puts rfl rfl rfl qX8_puts ⟨Nat.le_of_ble_eq_true rfl, Nat.le_of_ble_eq_true rfl⟩) (mpVW hK hPc hDc (ci := 8) (q := (RX8, TX8, 23)) (q0 := 0) rfl rfl) rfl rfl hl.1 rfl (lv_room (Nat.le_of_ble_eq_true rfl)) dX8_readBound_136 ⟨Nat.zero_le _, Nat.zero_le _⟩) hPn hDn hS hA (fun t_state_v7 H locs h hP hD hS => ?_)
          have hP : va_P D vwCl [(A_t, .inr (8, [.ref A_t_state, .ref A_t_tape, .int t_taped, .int t_fault, .int t_broken, .int t_brokenAt, .int t_spot, .int t_here, .int t_token, .int t_value, .int t_isRealTold, .ref A_t_ends, .ref A_t_letters, .ref A_t_least, .ref A_t_conflicts, .int t_conflictMany, .ref A_t_behind, .ref A_t_placed, .ref A_t_isKept, .ref A_t_lanes, .ref A_t_lengths, .ref A_t_cells, .int t_torn])), (A_t_state, .inl (cy 1, 535, .inl t_state_v7)), (A_t_tape, .inl (cy 1, 320, .inl t_tape))] H := hP.sub [1, 2, 0] rfl
          have hD : va_D A [(A_t, .inr (8, [.ref A_t_state, .ref A_t_tape, .int t_taped, .int t_fault, .int t_broken, .int t_brokenAt, .int t_spot, .int t_here, .int t_token, .int t_value, .int t_isRealTold, .ref A_t_ends, .ref A_t_letters, .ref A_t_least, .ref A_t_conflicts, .int t_conflictMany, .ref A_t_behind, .ref A_t_placed, .ref A_t_isKept, .ref A_t_lanes, .ref A_t_lengths, .ref A_t_cells, .int t_torn])), (A_t_state, .inl (cy 1, 535, .inl t_state_v7)), (A_t_tape, .inl (cy 1, 320, .inl t_tape))] := hD.sub [1, 2, 0] (by decide) rfl
          subst hQ
          subst hAe
          exact W.vret hx hb hr (fun t ht _ => ⟨⟨(t_broken, t_brokenAt, t_spot, t_here, t_token, t_value, t_state_v7), rfl, h, by rw [ht]; exact hP, hD⟩, hS.F ht⟩) hS.2.2 dX8_readBound_139
  have J92 : ∀ (t_broken : Int32) (t_brokenAt : Int32) (t_spot : Int32) (t_here : Int32) (t_token : Int32) (t_value : Int32) (t_state : Nat → Int32) (x3 : Int32) (x4 : Int32) (x5 : Int32) (k1 : Int32) (k2 : Int32) (k3 : Int32) (k4 : Int32) (k5 : Int32) (H : Heap) (locs : List Loc) (ls : Array Slot), B_X8_readBound_92 post t_broken t_brokenAt t_spot t_here t_token t_value t_state k1 k2 k3 k4 k5 x1 x3 x4 x5 → va_P D vwCl [(A_t, .inr (8, [.ref A_t_state, .ref A_t_tape, .int t_taped, .int t_fault, .int t_broken, .int t_brokenAt, .int t_spot, .int t_here, .int t_token, .int t_value, .int t_isRealTold, .ref A_t_ends, .ref A_t_letters, .ref A_t_least, .ref A_t_conflicts, .int t_conflictMany, .ref A_t_behind, .ref A_t_placed, .ref A_t_isKept, .ref A_t_lanes, .ref A_t_lengths, .ref A_t_cells, .int t_torn])), (A_t_state, .inl (cy 1, 535, .inl t_state)), (A_t_tape, .inl (cy 1, 320, .inl t_tape))] H → va_D A [(A_t, .inr (8, [.ref A_t_state, .ref A_t_tape, .int t_taped, .int t_fault, .int t_broken, .int t_brokenAt, .int t_spot, .int t_here, .int t_token, .int t_value, .int t_isRealTold, .ref A_t_ends, .ref A_t_letters, .ref A_t_least, .ref A_t_conflicts, .int t_conflictMany, .ref A_t_behind, .ref A_t_placed, .ref A_t_isKept, .ref A_t_lanes, .ref A_t_lengths, .ref A_t_cells, .int t_torn])), (A_t_state, .inl (cy 1, 535, .inl t_state)), (A_t_tape, .inl (cy 1, 320, .inl t_tape))] → va_S A s.heap H locs → lv_has ls 6 [(0, .ref A_t), (1, .int x1), (3, .int x3), (4, .int x4), (5, .int x5)] → W p l e (headSpec wsX8_readBound { frames := 3, cells := 0, slots := 0, locals := 69 }).room s m ([.ref A_t, .int x1] : List Value).toArray below meth c H locs 0 0 Q0 (F0 m 92 ls [.int k5, .int k4, .int k3, .int k2, .int k1, .ref A_t]) := by
    intro t_broken t_brokenAt t_spot t_here t_token t_value t_state x3 x4 x5 k1 k2 k3 k4 k5 H locs ls h hP hD hS hl
    unfold B_X8_readBound_92 at h
    have hPn : va_P D vwCl ([(A_t_tape, .inl (cy 1, 320, .inl t_tape))] ++ [(A_t, .inr (8, [.ref A_t_state, .ref A_t_tape, .int t_taped, .int t_fault, .int t_broken, .int t_brokenAt, .int t_spot, .int t_here, .int t_token, .int t_value, .int t_isRealTold, .ref A_t_ends, .ref A_t_letters, .ref A_t_least, .ref A_t_conflicts, .int t_conflictMany, .ref A_t_behind, .ref A_t_placed, .ref A_t_isKept, .ref A_t_lanes, .ref A_t_lengths, .ref A_t_cells, .int t_torn])), (A_t_state, .inl (cy 1, 535, .inl t_state))]) H := hP.sub [2, 0, 1] rfl
    have hDn : va_D A ([(A_t_tape, .inl (cy 1, 320, .inl t_tape))] ++ [(A_t, .inr (8, [.ref A_t_state, .ref A_t_tape, .int t_taped, .int t_fault, .int t_broken, .int t_brokenAt, .int t_spot, .int t_here, .int t_token, .int t_value, .int t_isRealTold, .ref A_t_ends, .ref A_t_letters, .ref A_t_least, .ref A_t_conflicts, .int t_conflictMany, .ref A_t_behind, .ref A_t_placed, .ref A_t_isKept, .ref A_t_lanes, .ref A_t_lengths, .ref A_t_cells, .int t_torn])), (A_t_state, .inl (cy 1, 535, .inl t_state))]) := hD.sub [2, 0, 1] (by decide) rfl
    have hPc := gPR hPn
    have hDc := gDR hDn
    refine mw_v (va_runV (As := [.int k1, .int k2, .int k3, .int k4, .int k5]) (rest := []) CF (c_X8_puts l D cy H.size A_t A_t_state A_t_tape A_t_ends A_t_letters A_t_least A_t_conflicts A_t_behind A_t_placed A_t_isKept A_t_lanes A_t_lengths A_t_cells t_taped t_fault t_broken t_brokenAt t_spot t_here t_token t_value t_isRealTold t_conflictMany t_torn t_state k1 k2 k3 k4 k5 _ h) (cwV 5 hts gX8_readBound_X8_puts rfl rfl rfl qX8_puts ⟨Nat.le_of_ble_eq_true rfl, Nat.le_of_ble_eq_true rfl⟩) (mpVW hK hPc hDc (ci := 8) (q := (RX8, TX8, 23)) (q0 := 0) rfl rfl) rfl rfl hl.1 rfl (lv_room (Nat.le_of_ble_eq_true rfl)) dX8_readBound_92 ⟨Nat.zero_le _, Nat.zero_le _⟩) hPn hDn hS hA (fun t_state_v8 H locs h hP hD hS => ?_)
    have hP : va_P D vwCl [(A_t, .inr (8, [.ref A_t_state, .ref A_t_tape, .int t_taped, .int t_fault, .int t_broken, .int t_brokenAt, .int t_spot, .int t_here, .int t_token, .int t_value, .int t_isRealTold, .ref A_t_ends, .ref A_t_letters, .ref A_t_least, .ref A_t_conflicts, .int t_conflictMany, .ref A_t_behind, .ref A_t_placed, .ref A_t_isKept, .ref A_t_lanes, .ref A_t_lengths, .ref A_t_cells, .int t_torn])), (A_t_state, .inl (cy 1, 535, .inl t_state_v8)), (A_t_tape, .inl (cy 1, 320, .inl t_tape))] H := hP.sub [1, 2, 0] rfl
    have hD : va_D A [(A_t, .inr (8, [.ref A_t_state, .ref A_t_tape, .int t_taped, .int t_fault, .int t_broken, .int t_brokenAt, .int t_spot, .int t_here, .int t_token, .int t_value, .int t_isRealTold, .ref A_t_ends, .ref A_t_letters, .ref A_t_least, .ref A_t_conflicts, .int t_conflictMany, .ref A_t_behind, .ref A_t_placed, .ref A_t_isKept, .ref A_t_lanes, .ref A_t_lengths, .ref A_t_cells, .int t_torn])), (A_t_state, .inl (cy 1, 535, .inl t_state_v8)), (A_t_tape, .inl (cy 1, 320, .inl t_tape))] := hD.sub [1, 2, 0] (by decide) rfl
    exact J95 t_broken t_brokenAt t_spot t_here t_token t_value t_state_v8 x3 x4 x5 H locs ls h hP hD hS (lv_sub hl [0, 1, 2, 3, 4] rfl)
  have J10 : ∀ (t_broken : Int32) (t_brokenAt : Int32) (t_spot : Int32) (t_here : Int32) (t_token : Int32) (t_value : Int32) (t_state : Nat → Int32) (k0 : Int32) (H : Heap) (locs : List Loc) (ls : Array Slot), B_X8_readBound_10 post t_taped t_broken t_brokenAt t_spot t_here t_token t_value t_state t_tape k0 x1 → va_P D vwCl [(A_t, .inr (8, [.ref A_t_state, .ref A_t_tape, .int t_taped, .int t_fault, .int t_broken, .int t_brokenAt, .int t_spot, .int t_here, .int t_token, .int t_value, .int t_isRealTold, .ref A_t_ends, .ref A_t_letters, .ref A_t_least, .ref A_t_conflicts, .int t_conflictMany, .ref A_t_behind, .ref A_t_placed, .ref A_t_isKept, .ref A_t_lanes, .ref A_t_lengths, .ref A_t_cells, .int t_torn])), (A_t_state, .inl (cy 1, 535, .inl t_state)), (A_t_tape, .inl (cy 1, 320, .inl t_tape))] H → va_D A [(A_t, .inr (8, [.ref A_t_state, .ref A_t_tape, .int t_taped, .int t_fault, .int t_broken, .int t_brokenAt, .int t_spot, .int t_here, .int t_token, .int t_value, .int t_isRealTold, .ref A_t_ends, .ref A_t_letters, .ref A_t_least, .ref A_t_conflicts, .int t_conflictMany, .ref A_t_behind, .ref A_t_placed, .ref A_t_isKept, .ref A_t_lanes, .ref A_t_lengths, .ref A_t_cells, .int t_torn])), (A_t_state, .inl (cy 1, 535, .inl t_state)), (A_t_tape, .inl (cy 1, 320, .inl t_tape))] → va_S A s.heap H locs → lv_has ls 6 [(0, .ref A_t), (1, .int x1)] → W p l e (headSpec wsX8_readBound { frames := 3, cells := 0, slots := 0, locals := 69 }).room s m ([.ref A_t, .int x1] : List Value).toArray below meth c H locs 0 0 Q0 (F0 m 10 ls [.int k0]) := by
    intro t_broken t_brokenAt t_spot t_here t_token t_value t_state k0 H locs ls h hP hD hS hl
    unfold B_X8_readBound_10 at h
    refine lv_istore_n (lv' := [(2, .int k0), (0, .ref A_t), (1, .int x1)]) hx hb dX8_readBound_10 rfl hl (by decide) rfl (fun ls hl => ?_)
    refine lv_aload_n hx hb dX8_readBound_11 rfl (lv_at hl 1 rfl) ?_
    refine va_get (D := D) (ci := 8) (v := .ref A_t_state) (C := RX8) (T := TX8) (N := 23) hx hb hts iX8 hown hK.1 hP 0 rfl rfl 0 (by decide) f0 (fun _ h9 => h9) rfl dX8_readBound_12 ?_
    refine lv_sipush (v := 425) hx hb dX8_readBound_15 (by decide) ?_
    refine va_iald hx hb hK.1 hP 1 1 rfl rfl h.1 dX8_readBound_18 ?_
    replace h := h.2
    refine lv_iload_n hx hb dX8_readBound_19 rfl (lv_at hl 0 rfl) ?_
    refine lv_iadd hx hb dX8_readBound_20 ?_
    refine lv_bipush (v := 24) hx hb dX8_readBound_21 (by decide) ?_
    refine lv_icmp_le (tgt := 32) hx hb dX8_readBound_23 (by decide) (fun hc => ?_) (fun hc => ?_)
    · replace h := h.1 hc
      refine lv_aload_n hx hb dX8_readBound_32 rfl (lv_at hl 1 rfl) ?_
      have hPn : va_P D vwCl ([(A_t_state, .inl (cy 1, 535, .inl t_state))] ++ [(A_t, .inr (8, [.ref A_t_state, .ref A_t_tape, .int t_taped, .int t_fault, .int t_broken, .int t_brokenAt, .int t_spot, .int t_here, .int t_token, .int t_value, .int t_isRealTold, .ref A_t_ends, .ref A_t_letters, .ref A_t_least, .ref A_t_conflicts, .int t_conflictMany, .ref A_t_behind, .ref A_t_placed, .ref A_t_isKept, .ref A_t_lanes, .ref A_t_lengths, .ref A_t_cells, .int t_torn])), (A_t_tape, .inl (cy 1, 320, .inl t_tape))]) H := hP.sub [1, 0, 2] rfl
      have hDn : va_D A ([(A_t_state, .inl (cy 1, 535, .inl t_state))] ++ [(A_t, .inr (8, [.ref A_t_state, .ref A_t_tape, .int t_taped, .int t_fault, .int t_broken, .int t_brokenAt, .int t_spot, .int t_here, .int t_token, .int t_value, .int t_isRealTold, .ref A_t_ends, .ref A_t_letters, .ref A_t_least, .ref A_t_conflicts, .int t_conflictMany, .ref A_t_behind, .ref A_t_placed, .ref A_t_isKept, .ref A_t_lanes, .ref A_t_lengths, .ref A_t_cells, .int t_torn])), (A_t_tape, .inl (cy 1, 320, .inl t_tape))]) := hD.sub [1, 0, 2] (by decide) rfl
      have hPc := gPR hPn
      have hDc := gDR hDn
      refine mw_v (va_runV (As := []) (rest := []) CF (c_X8_readsOn l D cy H.size A_t A_t_state A_t_tape A_t_ends A_t_letters A_t_least A_t_conflicts A_t_behind A_t_placed A_t_isKept A_t_lanes A_t_lengths A_t_cells t_taped t_fault t_broken t_brokenAt t_spot t_here t_token t_value t_isRealTold t_conflictMany t_torn t_tape _ h) (cwV 0 hts gX8_readBound_X8_readsOn rfl rfl rfl qX8_readsOn ⟨Nat.le_of_ble_eq_true rfl, Nat.le_of_ble_eq_true rfl⟩) (mpVW hK hPc hDc (ci := 8) (q := (RX8, TX8, 23)) (q0 := 0) rfl rfl) rfl rfl hl.1 rfl (lv_room (Nat.le_of_ble_eq_true rfl)) dX8_readBound_33 ⟨Nat.zero_le _, Nat.zero_le _⟩) hPn hDn hS hA (fun u H locs h hP hD hS => ?_)
      obtain ⟨t_broken_v1, t_brokenAt_v1, t_spot_v1, t_here_v1, t_token_v1, t_value_v1⟩ := u
      have hP : va_P D vwCl [(A_t, .inr (8, [.ref A_t_state, .ref A_t_tape, .int t_taped, .int t_fault, .int t_broken_v1, .int t_brokenAt_v1, .int t_spot_v1, .int t_here_v1, .int t_token_v1, .int t_value_v1, .int t_isRealTold, .ref A_t_ends, .ref A_t_letters, .ref A_t_least, .ref A_t_conflicts, .int t_conflictMany, .ref A_t_behind, .ref A_t_placed, .ref A_t_isKept, .ref A_t_lanes, .ref A_t_lengths, .ref A_t_cells, .int t_torn])), (A_t_state, .inl (cy 1, 535, .inl t_state)), (A_t_tape, .inl (cy 1, 320, .inl t_tape))] H := hP.sub [1, 0, 2] rfl
      have hD : va_D A [(A_t, .inr (8, [.ref A_t_state, .ref A_t_tape, .int t_taped, .int t_fault, .int t_broken_v1, .int t_brokenAt_v1, .int t_spot_v1, .int t_here_v1, .int t_token_v1, .int t_value_v1, .int t_isRealTold, .ref A_t_ends, .ref A_t_letters, .ref A_t_least, .ref A_t_conflicts, .int t_conflictMany, .ref A_t_behind, .ref A_t_placed, .ref A_t_isKept, .ref A_t_lanes, .ref A_t_lengths, .ref A_t_cells, .int t_torn])), (A_t_state, .inl (cy 1, 535, .inl t_state)), (A_t_tape, .inl (cy 1, 320, .inl t_tape))] := hD.sub [1, 0, 2] (by decide) rfl
      try dsimp only at h
      refine lv_aload_n hx hb dX8_readBound_36 rfl (lv_at hl 1 rfl) ?_
      refine lv_bipush (v := -4) hx hb dX8_readBound_37 (by decide) ?_
      have hPn : va_P D vwCl ([(A_t_state, .inl (cy 1, 535, .inl t_state))] ++ [(A_t, .inr (8, [.ref A_t_state, .ref A_t_tape, .int t_taped, .int t_fault, .int t_broken_v1, .int t_brokenAt_v1, .int t_spot_v1, .int t_here_v1, .int t_token_v1, .int t_value_v1, .int t_isRealTold, .ref A_t_ends, .ref A_t_letters, .ref A_t_least, .ref A_t_conflicts, .int t_conflictMany, .ref A_t_behind, .ref A_t_placed, .ref A_t_isKept, .ref A_t_lanes, .ref A_t_lengths, .ref A_t_cells, .int t_torn])), (A_t_tape, .inl (cy 1, 320, .inl t_tape))]) H := hP.sub [1, 0, 2] rfl
      have hDn : va_D A ([(A_t_state, .inl (cy 1, 535, .inl t_state))] ++ [(A_t, .inr (8, [.ref A_t_state, .ref A_t_tape, .int t_taped, .int t_fault, .int t_broken_v1, .int t_brokenAt_v1, .int t_spot_v1, .int t_here_v1, .int t_token_v1, .int t_value_v1, .int t_isRealTold, .ref A_t_ends, .ref A_t_letters, .ref A_t_least, .ref A_t_conflicts, .int t_conflictMany, .ref A_t_behind, .ref A_t_placed, .ref A_t_isKept, .ref A_t_lanes, .ref A_t_lengths, .ref A_t_cells, .int t_torn])), (A_t_tape, .inl (cy 1, 320, .inl t_tape))]) := hD.sub [1, 0, 2] (by decide) rfl
      have hPc := gPR hPn
      have hDc := gDR hDn
      refine mw_i (va_runV (As := [.int (-4 : Int32)]) (rest := []) CF (c_X8_thingRead l D cy H.size A_t A_t_state A_t_tape A_t_ends A_t_letters A_t_least A_t_conflicts A_t_behind A_t_placed A_t_isKept A_t_lanes A_t_lengths A_t_cells t_taped t_fault t_broken_v1 t_brokenAt_v1 t_spot_v1 t_here_v1 t_token_v1 t_value_v1 t_isRealTold t_conflictMany t_torn t_tape (-4 : Int32) _ h) (cwV 1 hts gX8_readBound_X8_thingRead rfl rfl rfl qX8_thingRead ⟨Nat.le_of_ble_eq_true rfl, Nat.le_of_ble_eq_true rfl⟩) (mpVW hK hPc hDc (ci := 8) (q := (RX8, TX8, 23)) (q0 := 0) rfl rfl) rfl rfl hl.1 rfl (lv_room (Nat.le_of_ble_eq_true rfl)) dX8_readBound_39 ⟨Nat.zero_le _, Nat.zero_le _⟩) hPn hDn hS hA (fun r2 u H locs h hP hD hS => ?_)
      obtain ⟨t_broken_v2, t_brokenAt_v2, t_spot_v2, t_here_v2, t_token_v2, t_value_v2⟩ := u
      have hP : va_P D vwCl [(A_t, .inr (8, [.ref A_t_state, .ref A_t_tape, .int t_taped, .int t_fault, .int t_broken_v2, .int t_brokenAt_v2, .int t_spot_v2, .int t_here_v2, .int t_token_v2, .int t_value_v2, .int t_isRealTold, .ref A_t_ends, .ref A_t_letters, .ref A_t_least, .ref A_t_conflicts, .int t_conflictMany, .ref A_t_behind, .ref A_t_placed, .ref A_t_isKept, .ref A_t_lanes, .ref A_t_lengths, .ref A_t_cells, .int t_torn])), (A_t_state, .inl (cy 1, 535, .inl t_state)), (A_t_tape, .inl (cy 1, 320, .inl t_tape))] H := hP.sub [1, 0, 2] rfl
      have hD : va_D A [(A_t, .inr (8, [.ref A_t_state, .ref A_t_tape, .int t_taped, .int t_fault, .int t_broken_v2, .int t_brokenAt_v2, .int t_spot_v2, .int t_here_v2, .int t_token_v2, .int t_value_v2, .int t_isRealTold, .ref A_t_ends, .ref A_t_letters, .ref A_t_least, .ref A_t_conflicts, .int t_conflictMany, .ref A_t_behind, .ref A_t_placed, .ref A_t_isKept, .ref A_t_lanes, .ref A_t_lengths, .ref A_t_cells, .int t_torn])), (A_t_state, .inl (cy 1, 535, .inl t_state)), (A_t_tape, .inl (cy 1, 320, .inl t_tape))] := hD.sub [1, 0, 2] (by decide) rfl
      try dsimp only at h
      refine lv_istore_n (lv' := [(3, .int r2), (2, .int k0), (0, .ref A_t), (1, .int x1)]) hx hb dX8_readBound_42 rfl hl (by decide) rfl (fun ls hl => ?_)
      refine lv_aload_n hx hb dX8_readBound_43 rfl (lv_at hl 2 rfl) ?_
      refine lv_iload_n hx hb dX8_readBound_44 rfl (lv_at hl 0 rfl) ?_
      have hPn : va_P D vwCl ([(A_t_state, .inl (cy 1, 535, .inl t_state))] ++ [(A_t, .inr (8, [.ref A_t_state, .ref A_t_tape, .int t_taped, .int t_fault, .int t_broken_v2, .int t_brokenAt_v2, .int t_spot_v2, .int t_here_v2, .int t_token_v2, .int t_value_v2, .int t_isRealTold, .ref A_t_ends, .ref A_t_letters, .ref A_t_least, .ref A_t_conflicts, .int t_conflictMany, .ref A_t_behind, .ref A_t_placed, .ref A_t_isKept, .ref A_t_lanes, .ref A_t_lengths, .ref A_t_cells, .int t_torn])), (A_t_tape, .inl (cy 1, 320, .inl t_tape))]) H := hP.sub [1, 0, 2] rfl
      have hDn : va_D A ([(A_t_state, .inl (cy 1, 535, .inl t_state))] ++ [(A_t, .inr (8, [.ref A_t_state, .ref A_t_tape, .int t_taped, .int t_fault, .int t_broken_v2, .int t_brokenAt_v2, .int t_spot_v2, .int t_here_v2, .int t_token_v2, .int t_value_v2, .int t_isRealTold, .ref A_t_ends, .ref A_t_letters, .ref A_t_least, .ref A_t_conflicts, .int t_conflictMany, .ref A_t_behind, .ref A_t_placed, .ref A_t_isKept, .ref A_t_lanes, .ref A_t_lengths, .ref A_t_cells, .int t_torn])), (A_t_tape, .inl (cy 1, 320, .inl t_tape))]) := hD.sub [1, 0, 2] (by decide) rfl
      have hPc := gPR hPn
      have hDc := gDR hDn
      refine mw_i (va_runV (As := [.int r2]) (rest := []) CF (c_X8_thingRead l D cy H.size A_t A_t_state A_t_tape A_t_ends A_t_letters A_t_least A_t_conflicts A_t_behind A_t_placed A_t_isKept A_t_lanes A_t_lengths A_t_cells t_taped t_fault t_broken_v2 t_brokenAt_v2 t_spot_v2 t_here_v2 t_token_v2 t_value_v2 t_isRealTold t_conflictMany t_torn t_tape r2 _ h) (cwV 1 hts gX8_readBound_X8_thingRead rfl rfl rfl qX8_thingRead ⟨Nat.le_of_ble_eq_true rfl, Nat.le_of_ble_eq_true rfl⟩) (mpVW hK hPc hDc (ci := 8) (q := (RX8, TX8, 23)) (q0 := 0) rfl rfl) rfl rfl hl.1 rfl (lv_room (Nat.le_of_ble_eq_true rfl)) dX8_readBound_45 ⟨Nat.zero_le _, Nat.zero_le _⟩) hPn hDn hS hA (fun r3 u H locs h hP hD hS => ?_)
      obtain ⟨t_broken_v3, t_brokenAt_v3, t_spot_v3, t_here_v3, t_token_v3, t_value_v3⟩ := u
      have hP : va_P D vwCl [(A_t, .inr (8, [.ref A_t_state, .ref A_t_tape, .int t_taped, .int t_fault, .int t_broken_v3, .int t_brokenAt_v3, .int t_spot_v3, .int t_here_v3, .int t_token_v3, .int t_value_v3, .int t_isRealTold, .ref A_t_ends, .ref A_t_letters, .ref A_t_least, .ref A_t_conflicts, .int t_conflictMany, .ref A_t_behind, .ref A_t_placed, .ref A_t_isKept, .ref A_t_lanes, .ref A_t_lengths, .ref A_t_cells, .int t_torn])), (A_t_state, .inl (cy 1, 535, .inl t_state)), (A_t_tape, .inl (cy 1, 320, .inl t_tape))] H := hP.sub [1, 0, 2] rfl
      have hD : va_D A [(A_t, .inr (8, [.ref A_t_state, .ref A_t_tape, .int t_taped, .int t_fault, .int t_broken_v3, .int t_brokenAt_v3, .int t_spot_v3, .int t_here_v3, .int t_token_v3, .int t_value_v3, .int t_isRealTold, .ref A_t_ends, .ref A_t_letters, .ref A_t_least, .ref A_t_conflicts, .int t_conflictMany, .ref A_t_behind, .ref A_t_placed, .ref A_t_isKept, .ref A_t_lanes, .ref A_t_lengths, .ref A_t_cells, .int t_torn])), (A_t_state, .inl (cy 1, 535, .inl t_state)), (A_t_tape, .inl (cy 1, 320, .inl t_tape))] := hD.sub [1, 0, 2] (by decide) rfl
      try dsimp only at h
      refine lv_istore (lv' := [(4, .int r3), (3, .int r2), (2, .int k0), (0, .ref A_t), (1, .int x1)]) hx hb dX8_readBound_48 hl (by decide) rfl (fun ls hl => ?_)
      refine lv_aload_n hx hb dX8_readBound_50 rfl (lv_at hl 3 rfl) ?_
      have hPn : va_P D vwCl ([(A_t_state, .inl (cy 1, 535, .inl t_state))] ++ [(A_t, .inr (8, [.ref A_t_state, .ref A_t_tape, .int t_taped, .int t_fault, .int t_broken_v3, .int t_brokenAt_v3, .int t_spot_v3, .int t_here_v3, .int t_token_v3, .int t_value_v3, .int t_isRealTold, .ref A_t_ends, .ref A_t_letters, .ref A_t_least, .ref A_t_conflicts, .int t_conflictMany, .ref A_t_behind, .ref A_t_placed, .ref A_t_isKept, .ref A_t_lanes, .ref A_t_lengths, .ref A_t_cells, .int t_torn])), (A_t_tape, .inl (cy 1, 320, .inl t_tape))]) H := hP.sub [1, 0, 2] rfl
      have hDn : va_D A ([(A_t_state, .inl (cy 1, 535, .inl t_state))] ++ [(A_t, .inr (8, [.ref A_t_state, .ref A_t_tape, .int t_taped, .int t_fault, .int t_broken_v3, .int t_brokenAt_v3, .int t_spot_v3, .int t_here_v3, .int t_token_v3, .int t_value_v3, .int t_isRealTold, .ref A_t_ends, .ref A_t_letters, .ref A_t_least, .ref A_t_conflicts, .int t_conflictMany, .ref A_t_behind, .ref A_t_placed, .ref A_t_isKept, .ref A_t_lanes, .ref A_t_lengths, .ref A_t_cells, .int t_torn])), (A_t_tape, .inl (cy 1, 320, .inl t_tape))]) := hD.sub [1, 0, 2] (by decide) rfl
      have hPc := gPR hPn
      have hDc := gDR hDn
      refine mw_i (va_runV (As := []) (rest := []) CF (c_X8_numberRead l D cy H.size A_t A_t_state A_t_tape A_t_ends A_t_letters A_t_least A_t_conflicts A_t_behind A_t_placed A_t_isKept A_t_lanes A_t_lengths A_t_cells t_taped t_fault t_broken_v3 t_brokenAt_v3 t_spot_v3 t_here_v3 t_token_v3 t_value_v3 t_isRealTold t_conflictMany t_torn t_tape _ h) (cwV 0 hts gX8_readBound_X8_numberRead rfl rfl rfl qX8_numberRead ⟨Nat.le_of_ble_eq_true rfl, Nat.le_of_ble_eq_true rfl⟩) (mpVW hK hPc hDc (ci := 8) (q := (RX8, TX8, 23)) (q0 := 0) rfl rfl) rfl rfl hl.1 rfl (lv_room (Nat.le_of_ble_eq_true rfl)) dX8_readBound_51 ⟨Nat.zero_le _, Nat.zero_le _⟩) hPn hDn hS hA (fun r4 u H locs h hP hD hS => ?_)
      obtain ⟨t_broken_v4, t_brokenAt_v4, t_spot_v4, t_here_v4, t_token_v4, t_value_v4⟩ := u
      have hP : va_P D vwCl [(A_t, .inr (8, [.ref A_t_state, .ref A_t_tape, .int t_taped, .int t_fault, .int t_broken_v4, .int t_brokenAt_v4, .int t_spot_v4, .int t_here_v4, .int t_token_v4, .int t_value_v4, .int t_isRealTold, .ref A_t_ends, .ref A_t_letters, .ref A_t_least, .ref A_t_conflicts, .int t_conflictMany, .ref A_t_behind, .ref A_t_placed, .ref A_t_isKept, .ref A_t_lanes, .ref A_t_lengths, .ref A_t_cells, .int t_torn])), (A_t_state, .inl (cy 1, 535, .inl t_state)), (A_t_tape, .inl (cy 1, 320, .inl t_tape))] H := hP.sub [1, 0, 2] rfl
      have hD : va_D A [(A_t, .inr (8, [.ref A_t_state, .ref A_t_tape, .int t_taped, .int t_fault, .int t_broken_v4, .int t_brokenAt_v4, .int t_spot_v4, .int t_here_v4, .int t_token_v4, .int t_value_v4, .int t_isRealTold, .ref A_t_ends, .ref A_t_letters, .ref A_t_least, .ref A_t_conflicts, .int t_conflictMany, .ref A_t_behind, .ref A_t_placed, .ref A_t_isKept, .ref A_t_lanes, .ref A_t_lengths, .ref A_t_cells, .int t_torn])), (A_t_state, .inl (cy 1, 535, .inl t_state)), (A_t_tape, .inl (cy 1, 320, .inl t_tape))] := hD.sub [1, 0, 2] (by decide) rfl
      try dsimp only at h
      refine lv_istore (lv' := [(5, .int r4), (4, .int r3), (3, .int r2), (2, .int k0), (0, .ref A_t), (1, .int x1)]) hx hb dX8_readBound_54 hl (by decide) rfl (fun ls hl => ?_)
      refine lv_aload_n hx hb dX8_readBound_56 rfl (lv_at hl 4 rfl) ?_
      refine va_get (D := D) (ci := 8) (v := .int t_broken_v4) (C := RX8) (T := TX8) (N := 23) hx hb hts iX8 hown hK.1 hP 0 rfl rfl 4 (by decide) f1 (fun _ h9 => h9) rfl dX8_readBound_57 ?_
      refine lv_if_ne (tgt := 95) hx hb dX8_readBound_60 (by decide) (fun hc => ?_) (fun hc => ?_)
      · replace h := h.1 hc
        exact J95 t_broken_v4 t_brokenAt_v4 t_spot_v4 t_here_v4 t_token_v4 t_value_v4 t_state r2 r3 r4 H locs ls h hP hD hS (lv_sub hl [4, 5, 2, 1, 0] rfl)
      · replace h := h.2 hc
        refine lv_iload_n hx hb dX8_readBound_63 rfl (lv_at hl 5 rfl) ?_
        refine lv_iconst (v := 3) hx hb dX8_readBound_64 (by decide) ?_
        refine lv_icmp_eq (tgt := 95) hx hb dX8_readBound_65 (by decide) (fun hc => ?_) (fun hc => ?_)
        · replace h := h.1 hc
          exact J95 t_broken_v4 t_brokenAt_v4 t_spot_v4 t_here_v4 t_token_v4 t_value_v4 t_state r2 r3 r4 H locs ls h hP hD hS (lv_sub hl [4, 5, 2, 1, 0] rfl)
        · replace h := h.2 hc
          refine lv_iload_n hx hb dX8_readBound_68 rfl (lv_at hl 5 rfl) ?_
          refine lv_iconst (v := 4) hx hb dX8_readBound_69 (by decide) ?_
          refine lv_icmp_eq (tgt := 95) hx hb dX8_readBound_70 (by decide) (fun hc => ?_) (fun hc => ?_)
          · replace h := h.1 hc
            exact J95 t_broken_v4 t_brokenAt_v4 t_spot_v4 t_here_v4 t_token_v4 t_value_v4 t_state r2 r3 r4 H locs ls h hP hD hS (lv_sub hl [4, 5, 2, 1, 0] rfl)
          · replace h := h.2 hc
            refine lv_aload_n hx hb dX8_readBound_73 rfl (lv_at hl 4 rfl) ?_
            refine lv_sipush (v := 321) hx hb dX8_readBound_74 (by decide) ?_
            refine lv_iload_n hx hb dX8_readBound_77 rfl (lv_at hl 2 rfl) ?_
            refine lv_iload hx hb dX8_readBound_78 (lv_at hl 1 rfl) ?_
            refine lv_iload hx hb dX8_readBound_80 (lv_at hl 0 rfl) ?_
            refine lv_iload_n hx hb dX8_readBound_82 rfl (lv_at hl 5 rfl) ?_
            refine lv_iconst (v := 2) hx hb dX8_readBound_83 (by decide) ?_
            refine lv_icmp_ne (tgt := 91) hx hb dX8_readBound_84 (by decide) (fun hc => ?_) (fun hc => ?_)
            · replace h := h.1 hc
              refine lv_iconst (v := 0) hx hb dX8_readBound_91 (by decide) ?_
              exact J92 t_broken_v4 t_brokenAt_v4 t_spot_v4 t_here_v4 t_token_v4 t_value_v4 t_state r2 r3 r4 (321 : Int32) r2 r3 r4 (0 : Int32) H locs ls h hP hD hS (lv_sub hl [4, 5, 2, 1, 0] rfl)
            · replace h := h.2 hc
              refine lv_iconst (v := 1) hx hb dX8_readBound_87 (by decide) ?_
              refine lv_goto (tgt := 92) hx hb dX8_readBound_88 (by decide) ?_
              exact J92 t_broken_v4 t_brokenAt_v4 t_spot_v4 t_here_v4 t_token_v4 t_value_v4 t_state r2 r3 r4 (321 : Int32) r2 r3 r4 (1 : Int32) H locs ls h hP hD hS (lv_sub hl [4, 5, 2, 1, 0] rfl)
    · replace h := h.2 hc
      refine lv_aload_n hx hb dX8_readBound_26 rfl (lv_at hl 1 rfl) ?_
      refine lv_iconst (v := 5) hx hb dX8_readBound_27 (by decide) ?_
      have hPn : va_P D vwCl ([(A_t_state, .inl (cy 1, 535, .inl t_state)), (A_t_tape, .inl (cy 1, 320, .inl t_tape))] ++ [(A_t, .inr (8, [.ref A_t_state, .ref A_t_tape, .int t_taped, .int t_fault, .int t_broken, .int t_brokenAt, .int t_spot, .int t_here, .int t_token, .int t_value, .int t_isRealTold, .ref A_t_ends, .ref A_t_letters, .ref A_t_least, .ref A_t_conflicts, .int t_conflictMany, .ref A_t_behind, .ref A_t_placed, .ref A_t_isKept, .ref A_t_lanes, .ref A_t_lengths, .ref A_t_cells, .int t_torn]))]) H := hP.sub [1, 2, 0] rfl
      have hDn : va_D A ([(A_t_state, .inl (cy 1, 535, .inl t_state)), (A_t_tape, .inl (cy 1, 320, .inl t_tape))] ++ [(A_t, .inr (8, [.ref A_t_state, .ref A_t_tape, .int t_taped, .int t_fault, .int t_broken, .int t_brokenAt, .int t_spot, .int t_here, .int t_token, .int t_value, .int t_isRealTold, .ref A_t_ends, .ref A_t_letters, .ref A_t_least, .ref A_t_conflicts, .int t_conflictMany, .ref A_t_behind, .ref A_t_placed, .ref A_t_isKept, .ref A_t_lanes, .ref A_t_lengths, .ref A_t_cells, .int t_torn]))]) := hD.sub [1, 2, 0] (by decide) rfl
      have hPc := gPR hPn
      have hDc := gDR hDn
      refine mw_v (va_runV (As := [.int (5 : Int32)]) (rest := []) CF (c_X8_fails l D cy H.size A_t A_t_state A_t_tape A_t_ends A_t_letters A_t_least A_t_conflicts A_t_behind A_t_placed A_t_isKept A_t_lanes A_t_lengths A_t_cells t_taped t_fault t_broken t_brokenAt t_spot t_here t_token t_value t_isRealTold t_conflictMany t_torn (5 : Int32) _ h) (cwV 1 hts gX8_readBound_X8_fails rfl rfl rfl qX8_fails ⟨Nat.le_of_ble_eq_true rfl, Nat.le_of_ble_eq_true rfl⟩) (mpVW hK hPc hDc (ci := 8) (q := (RX8, TX8, 23)) (q0 := 0) rfl rfl) rfl rfl hl.1 rfl (lv_room (Nat.le_of_ble_eq_true rfl)) dX8_readBound_28 ⟨Nat.zero_le _, Nat.zero_le _⟩) hPn hDn hS hA (fun u H locs h hP hD hS => ?_)
      obtain ⟨t_broken_v9, t_brokenAt_v9⟩ := u
      have hP : va_P D vwCl [(A_t, .inr (8, [.ref A_t_state, .ref A_t_tape, .int t_taped, .int t_fault, .int t_broken_v9, .int t_brokenAt_v9, .int t_spot, .int t_here, .int t_token, .int t_value, .int t_isRealTold, .ref A_t_ends, .ref A_t_letters, .ref A_t_least, .ref A_t_conflicts, .int t_conflictMany, .ref A_t_behind, .ref A_t_placed, .ref A_t_isKept, .ref A_t_lanes, .ref A_t_lengths, .ref A_t_cells, .int t_torn])), (A_t_state, .inl (cy 1, 535, .inl t_state)), (A_t_tape, .inl (cy 1, 320, .inl t_tape))] H := hP.sub [2, 0, 1] rfl
      have hD : va_D A [(A_t, .inr (8, [.ref A_t_state, .ref A_t_tape, .int t_taped, .int t_fault, .int t_broken_v9, .int t_brokenAt_v9, .int t_spot, .int t_here, .int t_token, .int t_value, .int t_isRealTold, .ref A_t_ends, .ref A_t_letters, .ref A_t_least, .ref A_t_conflicts, .int t_conflictMany, .ref A_t_behind, .ref A_t_placed, .ref A_t_isKept, .ref A_t_lanes, .ref A_t_lengths, .ref A_t_cells, .int t_torn])), (A_t_state, .inl (cy 1, 535, .inl t_state)), (A_t_tape, .inl (cy 1, 320, .inl t_tape))] := hD.sub [2, 0, 1] (by decide) rfl
      try dsimp only at h
      subst hQ
      subst hAe
      exact W.vret hx hb hr (fun t ht _ => ⟨⟨(t_broken_v9, t_brokenAt_v9, t_spot, t_here, t_token, t_value, t_state), rfl, h, by rw [ht]; exact hP, hD⟩, hS.F ht⟩) hS.2.2 dX8_readBound_31
  unfold P_X8_readBound at h
  refine lv_iload_n hx hb dX8_readBound_0 rfl (lv_at hl 1 rfl) ?_
  refine lv_iconst (v := 5) hx hb dX8_readBound_1 (by decide) ?_
  refine lv_icmp_ne (tgt := 9) hx hb dX8_readBound_2 (by decide) (fun hc => ?_) (fun hc => ?_)
  · replace h := h.1 hc
    refine lv_iconst (v := 1) hx hb dX8_readBound_9 (by decide) ?_
    exact J10 t_broken t_brokenAt t_spot t_here t_token t_value t_state (1 : Int32) s.heap [] ls h hP hD hS (lv_sub hl [0, 1] rfl)
  · replace h := h.2 hc
    refine lv_iconst (v := 2) hx hb dX8_readBound_5 (by decide) ?_
    refine lv_goto (tgt := 10) hx hb dX8_readBound_6 (by decide) ?_
    exact J10 t_broken t_brokenAt t_spot t_here t_token t_value t_state (2 : Int32) s.heap [] ls h hP hD hS (lv_sub hl [0, 1] rfl)
theorem qX8_readLine : yX8_readLine.cls = RX8 ∧ yX8_readLine.cls ≠ "java/lang/invoke/MethodHandle" ∧ yX8_readLine.cls ≠ "java/lang/invoke/VarHandle" ∧ (parseMethodDescriptor yX8_readLine.desc).map (fun d => d.parameters.length) = some 0 := by decide +kernel
def B_X8_readLine_61 (post : Int32 → Int32 → Int32 → Int32 → Int32 → Int32 → Int32 → (Nat → Int32) → Prop) (t_taped : Int32) (t_broken : Int32) (t_brokenAt : Int32) (t_spot : Int32) (t_here : Int32) (t_token : Int32) (t_value : Int32) (t_isRealTold : Int32) (t_tape : Nat → Int32) (t_state : Nat → Int32) : Prop :=
  ((¬ t_broken = 0 → P_X8_readsOn (fun (t_broken_v3 : Int32) (t_brokenAt_v3 : Int32) (t_spot_v3 : Int32) (t_here_v3 : Int32) (t_token_v3 : Int32) (t_value_v3 : Int32) => post t_broken_v3 t_brokenAt_v3 t_spot_v3 t_here_v3 t_token_v3 t_value_v3 t_isRealTold t_state) t_taped t_broken t_brokenAt t_spot t_here t_token t_value t_tape) ∧ (t_broken = 0 → ((t_token = (3 : Int32) → P_X8_readsOn (fun (t_broken_v4 : Int32) (t_brokenAt_v4 : Int32) (t_spot_v4 : Int32) (t_here_v4 : Int32) (t_token_v4 : Int32) (t_value_v4 : Int32) => post t_broken_v4 t_brokenAt_v4 t_spot_v4 t_here_v4 t_token_v4 t_value_v4 t_isRealTold t_state) t_taped t_broken t_brokenAt t_spot t_here t_token t_value t_tape) ∧ (¬ t_token = (3 : Int32) → P_X8_fails (fun (t_broken_v5 : Int32) (t_brokenAt_v5 : Int32) => P_X8_readsOn (fun (t_broken_v6 : Int32) (t_brokenAt_v6 : Int32) (t_spot_v6 : Int32) (t_here_v6 : Int32) (t_token_v6 : Int32) (t_value_v6 : Int32) => post t_broken_v6 t_brokenAt_v6 t_spot_v6 t_here_v6 t_token_v6 t_value_v6 t_isRealTold t_state) t_taped t_broken_v5 t_brokenAt_v5 t_spot t_here t_token t_value t_tape) t_broken t_brokenAt t_here (2 : Int32)))))
def B_X8_readLine_35 (post : Int32 → Int32 → Int32 → Int32 → Int32 → Int32 → Int32 → (Nat → Int32) → Prop) (t_taped : Int32) (t_broken : Int32) (t_brokenAt : Int32) (t_spot : Int32) (t_here : Int32) (t_token : Int32) (t_value : Int32) (t_tape : Nat → Int32) (t_state : Nat → Int32) : Prop :=
  (vp_in (426 : Int32) 535 ∧ P_X8_readsOn (fun (t_broken_v7 : Int32) (t_brokenAt_v7 : Int32) (t_spot_v7 : Int32) (t_here_v7 : Int32) (t_token_v7 : Int32) (t_value_v7 : Int32) => B_X8_readLine_61 post t_taped t_broken_v7 t_brokenAt_v7 t_spot_v7 t_here_v7 t_token_v7 t_value_v7 (1 : Int32) t_tape (upd t_state (426 : Int32).toNatClampNeg (1 : Int32))) t_taped t_broken t_brokenAt t_spot t_here t_token t_value t_tape)
def P_X8_readLine (post : Int32 → Int32 → Int32 → Int32 → Int32 → Int32 → Int32 → (Nat → Int32) → Prop) (t_taped : Int32) (t_broken : Int32) (t_brokenAt : Int32) (t_spot : Int32) (t_here : Int32) (t_token : Int32) (t_value : Int32) (t_isRealTold : Int32) (t_ends : Nat → Int32) (t_tape : Nat → Int32) (t_letters : Nat → Int32) (t_state : Nat → Int32) : Prop :=
  P_X8_nameHere (fun (r1 : Int32) => ((¬ r1 = (-4 : Int32) → ((¬ r1 = 0 → P_X8_readBound (fun (t_broken_v2 : Int32) (t_brokenAt_v2 : Int32) (t_spot_v2 : Int32) (t_here_v2 : Int32) (t_token_v2 : Int32) (t_value_v2 : Int32) (t_state_v2 : Nat → Int32) => B_X8_readLine_61 post t_taped t_broken_v2 t_brokenAt_v2 t_spot_v2 t_here_v2 t_token_v2 t_value_v2 t_isRealTold t_tape t_state_v2) t_taped t_broken t_brokenAt t_spot t_here t_token t_value t_state t_tape r1) ∧ (r1 = 0 → ((t_isRealTold = 0 → B_X8_readLine_35 post t_taped t_broken t_brokenAt t_spot t_here t_token t_value t_tape t_state) ∧ (¬ t_isRealTold = 0 → P_X8_fails (fun (t_broken_v8 : Int32) (t_brokenAt_v8 : Int32) => B_X8_readLine_35 post t_taped t_broken_v8 t_brokenAt_v8 t_spot t_here t_token t_value t_tape t_state) t_broken t_brokenAt t_here (4 : Int32)))))) ∧ (r1 = (-4 : Int32) → P_X8_fails (fun (t_broken_v9 : Int32) (t_brokenAt_v9 : Int32) => B_X8_readLine_61 post t_taped t_broken_v9 t_brokenAt_v9 t_spot t_here t_token t_value t_isRealTold t_tape t_state) t_broken t_brokenAt t_here (2 : Int32)))) t_taped t_spot t_here t_token t_ends t_tape t_letters
set_option maxHeartbeats 4000000 in
set_option maxRecDepth 100000 in
theorem c_X8_readLine (l : Launch) (D : va_G) (cy : Nat → ClassId) (sz : Nat) (A_t A_t_state A_t_tape A_t_ends A_t_letters A_t_least A_t_conflicts A_t_behind A_t_placed A_t_isKept A_t_lanes A_t_lengths A_t_cells : Nat) (t_taped : Int32) (t_fault : Int32) (t_broken : Int32) (t_brokenAt : Int32) (t_spot : Int32) (t_here : Int32) (t_token : Int32) (t_value : Int32) (t_isRealTold : Int32) (t_conflictMany : Int32) (t_torn : Int32) (t_ends : Nat → Int32) (t_tape : Nat → Int32) (t_letters : Nat → Int32) (t_state : Nat → Int32) (post : Int32 → Int32 → Int32 → Int32 → Int32 → Int32 → Int32 → (Nat → Int32) → Prop) (h : P_X8_readLine post t_taped t_broken t_brokenAt t_spot t_here t_token t_value t_isRealTold t_ends t_tape t_letters t_state) : Met l yX8_readLine wsX8_readLine { frames := 4, cells := 0, slots := 0, locals := 94 } (pcW D cy [(A_t, .inr (8, [.ref A_t_state, .ref A_t_tape, .int t_taped, .int t_fault, .int t_broken, .int t_brokenAt, .int t_spot, .int t_here, .int t_token, .int t_value, .int t_isRealTold, .ref A_t_ends, .ref A_t_letters, .ref A_t_least, .ref A_t_conflicts, .int t_conflictMany, .ref A_t_behind, .ref A_t_placed, .ref A_t_isKept, .ref A_t_lanes, .ref A_t_lengths, .ref A_t_cells, .int t_torn])), (A_t_ends, .inl (cy 1, 7, .inl t_ends)), (A_t_tape, .inl (cy 1, 320, .inl t_tape)), (A_t_letters, .inl (cy 1, 25, .inl t_letters)), (A_t_state, .inl (cy 1, 535, .inl t_state))] sz [.ref A_t]) (va_Qv (fun (u : Int32 × Int32 × Int32 × Int32 × Int32 × Int32 × Int32 × (Nat → Int32)) => post u.1 u.2.1 u.2.2.1 u.2.2.2.1 u.2.2.2.2.1 u.2.2.2.2.2.1 u.2.2.2.2.2.2.1 u.2.2.2.2.2.2.2) (bW D [(A_t, .inr (8, [.ref A_t_state, .ref A_t_tape, .int t_taped, .int t_fault, .int t_broken, .int t_brokenAt, .int t_spot, .int t_here, .int t_token, .int t_value, .int t_isRealTold, .ref A_t_ends, .ref A_t_letters, .ref A_t_least, .ref A_t_conflicts, .int t_conflictMany, .ref A_t_behind, .ref A_t_placed, .ref A_t_isKept, .ref A_t_lanes, .ref A_t_lengths, .ref A_t_cells, .int t_torn])), (A_t_ends, .inl (cy 1, 7, .inl t_ends)), (A_t_tape, .inl (cy 1, 320, .inl t_tape)), (A_t_letters, .inl (cy 1, 25, .inl t_letters)), (A_t_state, .inl (cy 1, 535, .inl t_state))] sz (fun u => [(A_t, .inr (8, [.ref A_t_state, .ref A_t_tape, .int t_taped, .int t_fault, .int (u.1), .int (u.2.1), .int (u.2.2.1), .int (u.2.2.2.1), .int (u.2.2.2.2.1), .int (u.2.2.2.2.2.1), .int (u.2.2.2.2.2.2.1), .ref A_t_ends, .ref A_t_letters, .ref A_t_least, .ref A_t_conflicts, .int t_conflictMany, .ref A_t_behind, .ref A_t_placed, .ref A_t_isKept, .ref A_t_lanes, .ref A_t_lengths, .ref A_t_cells, .int t_torn])), (A_t_ends, .inl (cy 1, 7, .inl t_ends)), (A_t_tape, .inl (cy 1, 320, .inl t_tape)), (A_t_letters, .inl (cy 1, 25, .inl t_letters)), (A_t_state, .inl (cy 1, 535, .inl u.2.2.2.2.2.2.2))])) (va_A [(A_t, .inr (8, [.ref A_t_state, .ref A_t_tape, .int t_taped, .int t_fault, .int t_broken, .int t_brokenAt, .int t_spot, .int t_here, .int t_token, .int t_value, .int t_isRealTold, .ref A_t_ends, .ref A_t_letters, .ref A_t_least, .ref A_t_conflicts, .int t_conflictMany, .ref A_t_behind, .ref A_t_placed, .ref A_t_isKept, .ref A_t_lanes, .ref A_t_lengths, .ref A_t_cells, .int t_torn])), (A_t_ends, .inl (cy 1, 7, .inl t_ends)), (A_t_tape, .inl (cy 1, 320, .inl t_tape)), (A_t_letters, .inl (cy 1, 25, .inl t_letters)), (A_t_state, .inl (cy 1, 535, .inl t_state))] sz)) 0 0 (va_A [(A_t, .inr (8, [.ref A_t_state, .ref A_t_tape, .int t_taped, .int t_fault, .int t_broken, .int t_brokenAt, .int t_spot, .int t_here, .int t_token, .int t_value, .int t_isRealTold, .ref A_t_ends, .ref A_t_letters, .ref A_t_least, .ref A_t_conflicts, .int t_conflictMany, .ref A_t_behind, .ref A_t_placed, .ref A_t_isKept, .ref A_t_lanes, .ref A_t_lengths, .ref A_t_cells, .int t_torn])), (A_t_ends, .inl (cy 1, 7, .inl t_ends)), (A_t_tape, .inl (cy 1, 320, .inl t_tape)), (A_t_letters, .inl (cy 1, 25, .inl t_letters)), (A_t_state, .inl (cy 1, 535, .inl t_state))] sz) := by
  refine Met.ofW (cc := cX8_readLine) (maxL := 2) (ret := none) (by decide) rfl ?_
  intro p e s m args below meth c s₁ B hml hv
  obtain ⟨rfl, hsz, hP, hK, hD0⟩ := hv
  have hx := B.exec
  have hb := B.bytes
  have hr := B.returns
  have hts := atoms_spec (ws := wsX8_readLine) B.pre
  have hown : s.vm.findClass RX8 = some m.cls := findClass_of_methodNamed B.named
  have hlocks := B.notSynchronized
  have CF : CallFix p m c cX8_readLine 2 s ([.ref A_t] : List Value).toArray wsX8_readLine RX8 := ⟨hx, hb, hml, hown, hts⟩
  have f0 := hts (.fieldLink RX8 58 "GapBoundsModel" "broken" "I") (by decide +kernel)
  have f1 := hts (.fieldLink RX8 67 "GapBoundsModel" "token" "I") (by decide +kernel)
  have f2 := hts (.fieldLink RX8 115 "GapBoundsModel" "isRealTold" "Z") (by decide +kernel)
  have f3 := hts (.fieldLink RX8 7 "GapBoundsModel" "state" "[I") (by decide +kernel)
  have iX8 : ∀ w ∈ u_ws RX8 TX8 23, w ∈ wsX8_readLine := by decide +kernel
  subst hsz
  obtain ⟨A, hAe⟩ : ∃ A, A = va_A [(A_t, .inr (8, [.ref A_t_state, .ref A_t_tape, .int t_taped, .int t_fault, .int t_broken, .int t_brokenAt, .int t_spot, .int t_here, .int t_token, .int t_value, .int t_isRealTold, .ref A_t_ends, .ref A_t_letters, .ref A_t_least, .ref A_t_conflicts, .int t_conflictMany, .ref A_t_behind, .ref A_t_placed, .ref A_t_isKept, .ref A_t_lanes, .ref A_t_lengths, .ref A_t_cells, .int t_torn])), (A_t_ends, .inl (cy 1, 7, .inl t_ends)), (A_t_tape, .inl (cy 1, 320, .inl t_tape)), (A_t_letters, .inl (cy 1, 25, .inl t_letters)), (A_t_state, .inl (cy 1, 535, .inl t_state))] s.heap.size := ⟨_, rfl⟩
  have hD : va_D A [(A_t, .inr (8, [.ref A_t_state, .ref A_t_tape, .int t_taped, .int t_fault, .int t_broken, .int t_brokenAt, .int t_spot, .int t_here, .int t_token, .int t_value, .int t_isRealTold, .ref A_t_ends, .ref A_t_letters, .ref A_t_least, .ref A_t_conflicts, .int t_conflictMany, .ref A_t_behind, .ref A_t_placed, .ref A_t_isKept, .ref A_t_lanes, .ref A_t_lengths, .ref A_t_cells, .int t_torn])), (A_t_ends, .inl (cy 1, 7, .inl t_ends)), (A_t_tape, .inl (cy 1, 320, .inl t_tape)), (A_t_letters, .inl (cy 1, 25, .inl t_letters)), (A_t_state, .inl (cy 1, 535, .inl t_state))] := by rw [hAe]; exact hD0.self
  have hA : ∀ q : Nat, s.heap.size ≤ q → A q := fun q hq => by rw [hAe]; exact Or.inr hq
  have hS : va_S A s.heap s.heap [] := va_S.rf
  have hl := lv_entry [.ref A_t] (n := 2) (Nat.le_of_ble_eq_true rfl)
  rw [lg_entry_eq]
  generalize (lg_sl [.ref A_t] ++ List.replicate (2 - (lg_sl [.ref A_t]).length) Slot.unset).toArray = ls at hl ⊢
  have hl : lv_has ls 2 [(0, .ref A_t)] := hl
  refine W.gen (fun Q0 hQ => ?_)
  have J61 : ∀ (t_broken : Int32) (t_brokenAt : Int32) (t_spot : Int32) (t_here : Int32) (t_token : Int32) (t_value : Int32) (t_isRealTold : Int32) (t_state : Nat → Int32) (H : Heap) (locs : List Loc) (ls : Array Slot), B_X8_readLine_61 post t_taped t_broken t_brokenAt t_spot t_here t_token t_value t_isRealTold t_tape t_state → va_P D vwCl [(A_t, .inr (8, [.ref A_t_state, .ref A_t_tape, .int t_taped, .int t_fault, .int t_broken, .int t_brokenAt, .int t_spot, .int t_here, .int t_token, .int t_value, .int t_isRealTold, .ref A_t_ends, .ref A_t_letters, .ref A_t_least, .ref A_t_conflicts, .int t_conflictMany, .ref A_t_behind, .ref A_t_placed, .ref A_t_isKept, .ref A_t_lanes, .ref A_t_lengths, .ref A_t_cells, .int t_torn])), (A_t_ends, .inl (cy 1, 7, .inl t_ends)), (A_t_tape, .inl (cy 1, 320, .inl t_tape)), (A_t_letters, .inl (cy 1, 25, .inl t_letters)), (A_t_state, .inl (cy 1, 535, .inl t_state))] H → va_D A [(A_t, .inr (8, [.ref A_t_state, .ref A_t_tape, .int t_taped, .int t_fault, .int t_broken, .int t_brokenAt, .int t_spot, .int t_here, .int t_token, .int t_value, .int t_isRealTold, .ref A_t_ends, .ref A_t_letters, .ref A_t_least, .ref A_t_conflicts, .int t_conflictMany, .ref A_t_behind, .ref A_t_placed, .ref A_t_isKept, .ref A_t_lanes, .ref A_t_lengths, .ref A_t_cells, .int t_torn])), (A_t_ends, .inl (cy 1, 7, .inl t_ends)), (A_t_tape, .inl (cy 1, 320, .inl t_tape)), (A_t_letters, .inl (cy 1, 25, .inl t_letters)), (A_t_state, .inl (cy 1, 535, .inl t_state))] → va_S A s.heap H locs → lv_has ls 2 [(0, .ref A_t)] → W p l e (headSpec wsX8_readLine { frames := 4, cells := 0, slots := 0, locals := 94 }).room s m ([.ref A_t] : List Value).toArray below meth c H locs 0 0 Q0 (F0 m 61 ls []) := by
    intro t_broken t_brokenAt t_spot t_here t_token t_value t_isRealTold t_state H locs ls h hP hD hS hl
    unfold B_X8_readLine_61 at h
    refine lv_aload_n hx hb dX8_readLine_61 rfl (lv_at hl 0 rfl) ?_
    refine va_get (D := D) (ci := 8) (v := .int t_broken) (C := RX8) (T := TX8) (N := 23) hx hb hts iX8 hown hK.1 hP 0 rfl rfl 4 (by decide) f0 (fun _ h9 => h9) rfl dX8_readLine_62 ?_
    refine lv_if_ne (tgt := 81) hx hb dX8_readLine_65 (by decide) (fun hc => ?_) (fun hc => ?_)
    · replace h := h.1 hc
      refine lv_aload_n hx hb dX8_readLine_81 rfl (lv_at hl 0 rfl) ?_
      have hPn : va_P D vwCl ([(A_t_ends, .inl (cy 1, 7, .inl t_ends)), (A_t_letters, .inl (cy 1, 25, .inl t_letters)), (A_t_state, .inl (cy 1, 535, .inl t_state))] ++ [(A_t, .inr (8, [.ref A_t_state, .ref A_t_tape, .int t_taped, .int t_fault, .int t_broken, .int t_brokenAt, .int t_spot, .int t_here, .int t_token, .int t_value, .int t_isRealTold, .ref A_t_ends, .ref A_t_letters, .ref A_t_least, .ref A_t_conflicts, .int t_conflictMany, .ref A_t_behind, .ref A_t_placed, .ref A_t_isKept, .ref A_t_lanes, .ref A_t_lengths, .ref A_t_cells, .int t_torn])), (A_t_tape, .inl (cy 1, 320, .inl t_tape))]) H := hP.sub [1, 3, 4, 0, 2] rfl
      have hDn : va_D A ([(A_t_ends, .inl (cy 1, 7, .inl t_ends)), (A_t_letters, .inl (cy 1, 25, .inl t_letters)), (A_t_state, .inl (cy 1, 535, .inl t_state))] ++ [(A_t, .inr (8, [.ref A_t_state, .ref A_t_tape, .int t_taped, .int t_fault, .int t_broken, .int t_brokenAt, .int t_spot, .int t_here, .int t_token, .int t_value, .int t_isRealTold, .ref A_t_ends, .ref A_t_letters, .ref A_t_least, .ref A_t_conflicts, .int t_conflictMany, .ref A_t_behind, .ref A_t_placed, .ref A_t_isKept, .ref A_t_lanes, .ref A_t_lengths, .ref A_t_cells, .int t_torn])), (A_t_tape, .inl (cy 1, 320, .inl t_tape))]) := hD.sub [1, 3, 4, 0, 2] (by decide) rfl
      have hPc := gPR hPn
      have hDc := gDR hDn
      refine mw_v (va_runV (As := []) (rest := []) CF (c_X8_readsOn l D cy H.size A_t A_t_state A_t_tape A_t_ends A_t_letters A_t_least A_t_conflicts A_t_behind A_t_placed A_t_isKept A_t_lanes A_t_lengths A_t_cells t_taped t_fault t_broken t_brokenAt t_spot t_here t_token t_value t_isRealTold t_conflictMany t_torn t_tape _ h) (cwV 0 hts gX8_readLine_X8_readsOn rfl rfl rfl qX8_readsOn ⟨Nat.le_of_ble_eq_true rfl, Nat.le_of_ble_eq_true rfl⟩) (mpVW hK hPc hDc (ci := 8) (q := (RX8, TX8, 23)) (q0 := 0) rfl rfl) rfl rfl hl.1 rfl (lv_room (Nat.le_of_ble_eq_true rfl)) dX8_readLine_82 ⟨Nat.zero_le _, Nat.zero_le _⟩) hPn hDn hS hA (fun u H locs h hP hD hS => ?_)
      obtain ⟨t_broken_v3, t_brokenAt_v3, t_spot_v3, t_here_v3, t_token_v3, t_value_v3⟩ := u
      have hP : va_P D vwCl [(A_t, .inr (8, [.ref A_t_state, .ref A_t_tape, .int t_taped, .int t_fault, .int t_broken_v3, .int t_brokenAt_v3, .int t_spot_v3, .int t_here_v3, .int t_token_v3, .int t_value_v3, .int t_isRealTold, .ref A_t_ends, .ref A_t_letters, .ref A_t_least, .ref A_t_conflicts, .int t_conflictMany, .ref A_t_behind, .ref A_t_placed, .ref A_t_isKept, .ref A_t_lanes, .ref A_t_lengths, .ref A_t_cells, .int t_torn])), (A_t_ends, .inl (cy 1, 7, .inl t_ends)), (A_t_tape, .inl (cy 1, 320, .inl t_tape)), (A_t_letters, .inl (cy 1, 25, .inl t_letters)), (A_t_state, .inl (cy 1, 535, .inl t_state))] H := hP.sub [3, 0, 4, 1, 2] rfl
      have hD : va_D A [(A_t, .inr (8, [.ref A_t_state, .ref A_t_tape, .int t_taped, .int t_fault, .int t_broken_v3, .int t_brokenAt_v3, .int t_spot_v3, .int t_here_v3, .int t_token_v3, .int t_value_v3, .int t_isRealTold, .ref A_t_ends, .ref A_t_letters, .ref A_t_least, .ref A_t_conflicts, .int t_conflictMany, .ref A_t_behind, .ref A_t_placed, .ref A_t_isKept, .ref A_t_lanes, .ref A_t_lengths, .ref A_t_cells, .int t_torn])), (A_t_ends, .inl (cy 1, 7, .inl t_ends)), (A_t_tape, .inl (cy 1, 320, .inl t_tape)), (A_t_letters, .inl (cy 1, 25, .inl t_letters)), (A_t_state, .inl (cy 1, 535, .inl t_state))] := hD.sub [3, 0, 4, 1, 2] (by decide) rfl
      try dsimp only at h
      subst hQ
      subst hAe
      exact W.vret hx hb hr (fun t ht _ => ⟨⟨(t_broken_v3, t_brokenAt_v3, t_spot_v3, t_here_v3, t_token_v3, t_value_v3, t_isRealTold, t_state), rfl, h, by rw [ht]; exact hP, hD⟩, hS.F ht⟩) hS.2.2 dX8_readLine_85
    · replace h := h.2 hc
      refine lv_aload_n hx hb dX8_readLine_68 rfl (lv_at hl 0 rfl) ?_
      refine va_get (D := D) (ci := 8) (v := .int t_token) (C := RX8) (T := TX8) (N := 23) hx hb hts iX8 hown hK.1 hP 0 rfl rfl 8 (by decide) f1 (fun _ h9 => h9) rfl dX8_readLine_69 ?_
      refine lv_iconst (v := 3) hx hb dX8_readLine_72 (by decide) ?_
      refine lv_icmp_eq (tgt := 81) hx hb dX8_readLine_73 (by decide) (fun hc => ?_) (fun hc => ?_)
      · replace h := h.1 hc
        refine lv_aload_n hx hb dX8_readLine_81 rfl (lv_at hl 0 rfl) ?_
        have hPn : va_P D vwCl ([(A_t_ends, .inl (cy 1, 7, .inl t_ends)), (A_t_letters, .inl (cy 1, 25, .inl t_letters)), (A_t_state, .inl (cy 1, 535, .inl t_state))] ++ [(A_t, .inr (8, [.ref A_t_state, .ref A_t_tape, .int t_taped, .int t_fault, .int t_broken, .int t_brokenAt, .int t_spot, .int t_here, .int t_token, .int t_value, .int t_isRealTold, .ref A_t_ends, .ref A_t_letters, .ref A_t_least, .ref A_t_conflicts, .int t_conflictMany, .ref A_t_behind, .ref A_t_placed, .ref A_t_isKept, .ref A_t_lanes, .ref A_t_lengths, .ref A_t_cells, .int t_torn])), (A_t_tape, .inl (cy 1, 320, .inl t_tape))]) H := hP.sub [1, 3, 4, 0, 2] rfl
        have hDn : va_D A ([(A_t_ends, .inl (cy 1, 7, .inl t_ends)), (A_t_letters, .inl (cy 1, 25, .inl t_letters)), (A_t_state, .inl (cy 1, 535, .inl t_state))] ++ [(A_t, .inr (8, [.ref A_t_state, .ref A_t_tape, .int t_taped, .int t_fault, .int t_broken, .int t_brokenAt, .int t_spot, .int t_here, .int t_token, .int t_value, .int t_isRealTold, .ref A_t_ends, .ref A_t_letters, .ref A_t_least, .ref A_t_conflicts, .int t_conflictMany, .ref A_t_behind, .ref A_t_placed, .ref A_t_isKept, .ref A_t_lanes, .ref A_t_lengths, .ref A_t_cells, .int t_torn])), (A_t_tape, .inl (cy 1, 320, .inl t_tape))]) := hD.sub [1, 3, 4, 0, 2] (by decide) rfl
        have hPc := gPR hPn
        have hDc := gDR hDn
        refine mw_v (va_runV (As := []) (rest := []) CF (c_X8_readsOn l D cy H.size A_t A_t_state A_t_tape A_t_ends A_t_letters A_t_least A_t_conflicts A_t_behind A_t_placed A_t_isKept A_t_lanes A_t_lengths A_t_cells t_taped t_fault t_broken t_brokenAt t_spot t_here t_token t_value t_isRealTold t_conflictMany t_torn t_tape _ h) (cwV 0 hts gX8_readLine_X8_readsOn rfl rfl rfl qX8_readsOn ⟨Nat.le_of_ble_eq_true rfl, Nat.le_of_ble_eq_true rfl⟩) (mpVW hK hPc hDc (ci := 8) (q := (RX8, TX8, 23)) (q0 := 0) rfl rfl) rfl rfl hl.1 rfl (lv_room (Nat.le_of_ble_eq_true rfl)) dX8_readLine_82 ⟨Nat.zero_le _, Nat.zero_le _⟩) hPn hDn hS hA (fun u H locs h hP hD hS => ?_)
        obtain ⟨t_broken_v4, t_brokenAt_v4, t_spot_v4, t_here_v4, t_token_v4, t_value_v4⟩ := u
        have hP : va_P D vwCl [(A_t, .inr (8, [.ref A_t_state, .ref A_t_tape, .int t_taped, .int t_fault, .int t_broken_v4, .int t_brokenAt_v4, .int t_spot_v4, .int t_here_v4, .int t_token_v4, .int t_value_v4, .int t_isRealTold, .ref A_t_ends, .ref A_t_letters, .ref A_t_least, .ref A_t_conflicts, .int t_conflictMany, .ref A_t_behind, .ref A_t_placed, .ref A_t_isKept, .ref A_t_lanes, .ref A_t_lengths, .ref A_t_cells, .int t_torn])), (A_t_ends, .inl (cy 1, 7, .inl t_ends)), (A_t_tape, .inl (cy 1, 320, .inl t_tape)), (A_t_letters, .inl (cy 1, 25, .inl t_letters)), (A_t_state, .inl (cy 1, 535, .inl t_state))] H := hP.sub [3, 0, 4, 1, 2] rfl
        have hD : va_D A [(A_t, .inr (8, [.ref A_t_state, .ref A_t_tape, .int t_taped, .int t_fault, .int t_broken_v4, .int t_brokenAt_v4, .int t_spot_v4, .int t_here_v4, .int t_token_v4, .int t_value_v4, .int t_isRealTold, .ref A_t_ends, .ref A_t_letters, .ref A_t_least, .ref A_t_conflicts, .int t_conflictMany, .ref A_t_behind, .ref A_t_placed, .ref A_t_isKept, .ref A_t_lanes, .ref A_t_lengths, .ref A_t_cells, .int t_torn])), (A_t_ends, .inl (cy 1, 7, .inl t_ends)), (A_t_tape, .inl (cy 1, 320, .inl t_tape)), (A_t_letters, .inl (cy 1, 25, .inl t_letters)), (A_t_state, .inl (cy 1, 535, .inl t_state))] := hD.sub [3, 0, 4, 1, 2] (by decide) rfl
        try dsimp only at h
        subst hQ
        subst hAe
        exact W.vret hx hb hr (fun t ht _ => ⟨⟨(t_broken_v4, t_brokenAt_v4, t_spot_v4, t_here_v4, t_token_v4, t_value_v4, t_isRealTold, t_state), rfl, h, by rw [ht]; exact hP, hD⟩, hS.F ht⟩) hS.2.2 dX8_readLine_85
      · replace h := h.2 hc
        refine lv_aload_n hx hb dX8_readLine_76 rfl (lv_at hl 0 rfl) ?_
        refine lv_iconst (v := 2) hx hb dX8_readLine_77 (by decide) ?_
        have hPn : va_P D vwCl ([(A_t_ends, .inl (cy 1, 7, .inl t_ends)), (A_t_tape, .inl (cy 1, 320, .inl t_tape)), (A_t_letters, .inl (cy 1, 25, .inl t_letters)), (A_t_state, .inl (cy 1, 535, .inl t_state))] ++ [(A_t, .inr (8, [.ref A_t_state, .ref A_t_tape, .int t_taped, .int t_fault, .int t_broken, .int t_brokenAt, .int t_spot, .int t_here, .int t_token, .int t_value, .int t_isRealTold, .ref A_t_ends, .ref A_t_letters, .ref A_t_least, .ref A_t_conflicts, .int t_conflictMany, .ref A_t_behind, .ref A_t_placed, .ref A_t_isKept, .ref A_t_lanes, .ref A_t_lengths, .ref A_t_cells, .int t_torn]))]) H := hP.sub [1, 2, 3, 4, 0] rfl
        have hDn : va_D A ([(A_t_ends, .inl (cy 1, 7, .inl t_ends)), (A_t_tape, .inl (cy 1, 320, .inl t_tape)), (A_t_letters, .inl (cy 1, 25, .inl t_letters)), (A_t_state, .inl (cy 1, 535, .inl t_state))] ++ [(A_t, .inr (8, [.ref A_t_state, .ref A_t_tape, .int t_taped, .int t_fault, .int t_broken, .int t_brokenAt, .int t_spot, .int t_here, .int t_token, .int t_value, .int t_isRealTold, .ref A_t_ends, .ref A_t_letters, .ref A_t_least, .ref A_t_conflicts, .int t_conflictMany, .ref A_t_behind, .ref A_t_placed, .ref A_t_isKept, .ref A_t_lanes, .ref A_t_lengths, .ref A_t_cells, .int t_torn]))]) := hD.sub [1, 2, 3, 4, 0] (by decide) rfl
        have hPc := gPR hPn
        have hDc := gDR hDn
        refine mw_v (va_runV (As := [.int (2 : Int32)]) (rest := []) CF (c_X8_fails l D cy H.size A_t A_t_state A_t_tape A_t_ends A_t_letters A_t_least A_t_conflicts A_t_behind A_t_placed A_t_isKept A_t_lanes A_t_lengths A_t_cells t_taped t_fault t_broken t_brokenAt t_spot t_here t_token t_value t_isRealTold t_conflictMany t_torn (2 : Int32) _ h) (cwV 1 hts gX8_readLine_X8_fails rfl rfl rfl qX8_fails ⟨Nat.le_of_ble_eq_true rfl, Nat.le_of_ble_eq_true rfl⟩) (mpVW hK hPc hDc (ci := 8) (q := (RX8, TX8, 23)) (q0 := 0) rfl rfl) rfl rfl hl.1 rfl (lv_room (Nat.le_of_ble_eq_true rfl)) dX8_readLine_78 ⟨Nat.zero_le _, Nat.zero_le _⟩) hPn hDn hS hA (fun u H locs h hP hD hS => ?_)
        obtain ⟨t_broken_v5, t_brokenAt_v5⟩ := u
        have hP : va_P D vwCl [(A_t, .inr (8, [.ref A_t_state, .ref A_t_tape, .int t_taped, .int t_fault, .int t_broken_v5, .int t_brokenAt_v5, .int t_spot, .int t_here, .int t_token, .int t_value, .int t_isRealTold, .ref A_t_ends, .ref A_t_letters, .ref A_t_least, .ref A_t_conflicts, .int t_conflictMany, .ref A_t_behind, .ref A_t_placed, .ref A_t_isKept, .ref A_t_lanes, .ref A_t_lengths, .ref A_t_cells, .int t_torn])), (A_t_ends, .inl (cy 1, 7, .inl t_ends)), (A_t_tape, .inl (cy 1, 320, .inl t_tape)), (A_t_letters, .inl (cy 1, 25, .inl t_letters)), (A_t_state, .inl (cy 1, 535, .inl t_state))] H := hP.sub [4, 0, 1, 2, 3] rfl
        have hD : va_D A [(A_t, .inr (8, [.ref A_t_state, .ref A_t_tape, .int t_taped, .int t_fault, .int t_broken_v5, .int t_brokenAt_v5, .int t_spot, .int t_here, .int t_token, .int t_value, .int t_isRealTold, .ref A_t_ends, .ref A_t_letters, .ref A_t_least, .ref A_t_conflicts, .int t_conflictMany, .ref A_t_behind, .ref A_t_placed, .ref A_t_isKept, .ref A_t_lanes, .ref A_t_lengths, .ref A_t_cells, .int t_torn])), (A_t_ends, .inl (cy 1, 7, .inl t_ends)), (A_t_tape, .inl (cy 1, 320, .inl t_tape)), (A_t_letters, .inl (cy 1, 25, .inl t_letters)), (A_t_state, .inl (cy 1, 535, .inl t_state))] := hD.sub [4, 0, 1, 2, 3] (by decide) rfl
        try dsimp only at h
        refine lv_aload_n hx hb dX8_readLine_81 rfl (lv_at hl 0 rfl) ?_
        have hPn : va_P D vwCl ([(A_t_ends, .inl (cy 1, 7, .inl t_ends)), (A_t_letters, .inl (cy 1, 25, .inl t_letters)), (A_t_state, .inl (cy 1, 535, .inl t_state))] ++ [(A_t, .inr (8, [.ref A_t_state, .ref A_t_tape, .int t_taped, .int t_fault, .int t_broken_v5, .int t_brokenAt_v5, .int t_spot, .int t_here, .int t_token, .int t_value, .int t_isRealTold, .ref A_t_ends, .ref A_t_letters, .ref A_t_least, .ref A_t_conflicts, .int t_conflictMany, .ref A_t_behind, .ref A_t_placed, .ref A_t_isKept, .ref A_t_lanes, .ref A_t_lengths, .ref A_t_cells, .int t_torn])), (A_t_tape, .inl (cy 1, 320, .inl t_tape))]) H := hP.sub [1, 3, 4, 0, 2] rfl
        have hDn : va_D A ([(A_t_ends, .inl (cy 1, 7, .inl t_ends)), (A_t_letters, .inl (cy 1, 25, .inl t_letters)), (A_t_state, .inl (cy 1, 535, .inl t_state))] ++ [(A_t, .inr (8, [.ref A_t_state, .ref A_t_tape, .int t_taped, .int t_fault, .int t_broken_v5, .int t_brokenAt_v5, .int t_spot, .int t_here, .int t_token, .int t_value, .int t_isRealTold, .ref A_t_ends, .ref A_t_letters, .ref A_t_least, .ref A_t_conflicts, .int t_conflictMany, .ref A_t_behind, .ref A_t_placed, .ref A_t_isKept, .ref A_t_lanes, .ref A_t_lengths, .ref A_t_cells, .int t_torn])), (A_t_tape, .inl (cy 1, 320, .inl t_tape))]) := hD.sub [1, 3, 4, 0, 2] (by decide) rfl
        have hPc := gPR hPn
        have hDc := gDR hDn
        refine mw_v (va_runV (As := []) (rest := []) CF (c_X8_readsOn l D cy H.size A_t A_t_state A_t_tape A_t_ends A_t_letters A_t_least A_t_conflicts A_t_behind A_t_placed A_t_isKept A_t_lanes A_t_lengths A_t_cells t_taped t_fault t_broken_v5 t_brokenAt_v5 t_spot t_here t_token t_value t_isRealTold t_conflictMany t_torn t_tape _ h) (cwV 0 hts gX8_readLine_X8_readsOn rfl rfl rfl qX8_readsOn ⟨Nat.le_of_ble_eq_true rfl, Nat.le_of_ble_eq_true rfl⟩) (mpVW hK hPc hDc (ci := 8) (q := (RX8, TX8, 23)) (q0 := 0) rfl rfl) rfl rfl hl.1 rfl (lv_room (Nat.le_of_ble_eq_true rfl)) dX8_readLine_82 ⟨Nat.zero_le _, Nat.zero_le _⟩) hPn hDn hS hA (fun u H locs h hP hD hS => ?_)
        obtain ⟨t_broken_v6, t_brokenAt_v6, t_spot_v6, t_here_v6, t_token_v6, t_value_v6⟩ := u
        have hP : va_P D vwCl [(A_t, .inr (8, [.ref A_t_state, .ref A_t_tape, .int t_taped, .int t_fault, .int t_broken_v6, .int t_brokenAt_v6, .int t_spot_v6, .int t_here_v6, .int t_token_v6, .int t_value_v6, .int t_isRealTold, .ref A_t_ends, .ref A_t_letters, .ref A_t_least, .ref A_t_conflicts, .int t_conflictMany, .ref A_t_behind, .ref A_t_placed, .ref A_t_isKept, .ref A_t_lanes, .ref A_t_lengths, .ref A_t_cells, .int t_torn])), (A_t_ends, .inl (cy 1, 7, .inl t_ends)), (A_t_tape, .inl (cy 1, 320, .inl t_tape)), (A_t_letters, .inl (cy 1, 25, .inl t_letters)), (A_t_state, .inl (cy 1, 535, .inl t_state))] H := hP.sub [3, 0, 4, 1, 2] rfl
        have hD : va_D A [(A_t, .inr (8, [.ref A_t_state, .ref A_t_tape, .int t_taped, .int t_fault, .int t_broken_v6, .int t_brokenAt_v6, .int t_spot_v6, .int t_here_v6, .int t_token_v6, .int t_value_v6, .int t_isRealTold, .ref A_t_ends, .ref A_t_letters, .ref A_t_least, .ref A_t_conflicts, .int t_conflictMany, .ref A_t_behind, .ref A_t_placed, .ref A_t_isKept, .ref A_t_lanes, .ref A_t_lengths, .ref A_t_cells, .int t_torn])), (A_t_ends, .inl (cy 1, 7, .inl t_ends)), (A_t_tape, .inl (cy 1, 320, .inl t_tape)), (A_t_letters, .inl (cy 1, 25, .inl t_letters)), (A_t_state, .inl (cy 1, 535, .inl t_state))] := hD.sub [3, 0, 4, 1, 2] (by decide) rfl
        try dsimp only at h
        subst hQ
        subst hAe
        exact W.vret hx hb hr (fun t ht _ => ⟨⟨(t_broken_v6, t_brokenAt_v6, t_spot_v6, t_here_v6, t_token_v6, t_value_v6, t_isRealTold, t_state), rfl, h, by rw [ht]; exact hP, hD⟩, hS.F ht⟩) hS.2.2 dX8_readLine_85
  have J35 : ∀ (t_broken : Int32) (t_brokenAt : Int32) (t_spot : Int32) (t_here : Int32) (t_token : Int32) (t_value : Int32) (t_isRealTold : Int32) (t_state : Nat → Int32) (H : Heap) (locs : List Loc) (ls : Array Slot), B_X8_readLine_35 post t_taped t_broken t_brokenAt t_spot t_here t_token t_value t_tape t_state → va_P D vwCl [(A_t, .inr (8, [.ref A_t_state, .ref A_t_tape, .int t_taped, .int t_fault, .int t_broken, .int t_brokenAt, .int t_spot, .int t_here, .int t_token, .int t_value, .int t_isRealTold, .ref A_t_ends, .ref A_t_letters, .ref A_t_least, .ref A_t_conflicts, .int t_conflictMany, .ref A_t_behind, .ref A_t_placed, .ref A_t_isKept, .ref A_t_lanes, .ref A_t_lengths, .ref A_t_cells, .int t_torn])), (A_t_ends, .inl (cy 1, 7, .inl t_ends)), (A_t_tape, .inl (cy 1, 320, .inl t_tape)), (A_t_letters, .inl (cy 1, 25, .inl t_letters)), (A_t_state, .inl (cy 1, 535, .inl t_state))] H → va_D A [(A_t, .inr (8, [.ref A_t_state, .ref A_t_tape, .int t_taped, .int t_fault, .int t_broken, .int t_brokenAt, .int t_spot, .int t_here, .int t_token, .int t_value, .int t_isRealTold, .ref A_t_ends, .ref A_t_letters, .ref A_t_least, .ref A_t_conflicts, .int t_conflictMany, .ref A_t_behind, .ref A_t_placed, .ref A_t_isKept, .ref A_t_lanes, .ref A_t_lengths, .ref A_t_cells, .int t_torn])), (A_t_ends, .inl (cy 1, 7, .inl t_ends)), (A_t_tape, .inl (cy 1, 320, .inl t_tape)), (A_t_letters, .inl (cy 1, 25, .inl t_letters)), (A_t_state, .inl (cy 1, 535, .inl t_state))] → va_S A s.heap H locs → lv_has ls 2 [(0, .ref A_t)] → W p l e (headSpec wsX8_readLine { frames := 4, cells := 0, slots := 0, locals := 94 }).room s m ([.ref A_t] : List Value).toArray below meth c H locs 0 0 Q0 (F0 m 35 ls []) := by
    intro t_broken t_brokenAt t_spot t_here t_token t_value t_isRealTold t_state H locs ls h hP hD hS hl
    unfold B_X8_readLine_35 at h
    refine lv_aload_n hx hb dX8_readLine_35 rfl (lv_at hl 0 rfl) ?_
    refine lv_iconst (v := 1) hx hb dX8_readLine_36 (by decide) ?_
    refine va_put (D := D) (ci := 8) (v := .int (1 : Int32)) (ty := .boolean) (C := RX8) (T := TX8) (N := 23) hx hb hts iX8 tyX8 tyX8_ok nmX8 hown hK.1 hP hD hS 0 rfl rfl 10 (by decide) f2 (fun _ h9 => h9) rfl (tyX8_ok 10 (by decide)) (by decide) (by decide) (Nat.le_of_ble_eq_true rfl) dX8_readLine_37 (fun H locs hP hD hS => ?_)
    have hP : va_P D vwCl [(A_t, .inr (8, [.ref A_t_state, .ref A_t_tape, .int t_taped, .int t_fault, .int t_broken, .int t_brokenAt, .int t_spot, .int t_here, .int t_token, .int t_value, .int ((1 : Int32)), .ref A_t_ends, .ref A_t_letters, .ref A_t_least, .ref A_t_conflicts, .int t_conflictMany, .ref A_t_behind, .ref A_t_placed, .ref A_t_isKept, .ref A_t_lanes, .ref A_t_lengths, .ref A_t_cells, .int t_torn])), (A_t_ends, .inl (cy 1, 7, .inl t_ends)), (A_t_tape, .inl (cy 1, 320, .inl t_tape)), (A_t_letters, .inl (cy 1, 25, .inl t_letters)), (A_t_state, .inl (cy 1, 535, .inl t_state))] H := hP
    have hD : va_D A [(A_t, .inr (8, [.ref A_t_state, .ref A_t_tape, .int t_taped, .int t_fault, .int t_broken, .int t_brokenAt, .int t_spot, .int t_here, .int t_token, .int t_value, .int ((1 : Int32)), .ref A_t_ends, .ref A_t_letters, .ref A_t_least, .ref A_t_conflicts, .int t_conflictMany, .ref A_t_behind, .ref A_t_placed, .ref A_t_isKept, .ref A_t_lanes, .ref A_t_lengths, .ref A_t_cells, .int t_torn])), (A_t_ends, .inl (cy 1, 7, .inl t_ends)), (A_t_tape, .inl (cy 1, 320, .inl t_tape)), (A_t_letters, .inl (cy 1, 25, .inl t_letters)), (A_t_state, .inl (cy 1, 535, .inl t_state))] := hD
    refine lv_aload_n hx hb dX8_readLine_40 rfl (lv_at hl 0 rfl) ?_
    refine va_get (D := D) (ci := 8) (v := .ref A_t_state) (C := RX8) (T := TX8) (N := 23) hx hb hts iX8 hown hK.1 hP 0 rfl rfl 0 (by decide) f3 (fun _ h9 => h9) rfl dX8_readLine_41 ?_
    refine lv_sipush (v := 426) hx hb dX8_readLine_44 (by decide) ?_
    refine lv_iconst (v := 1) hx hb dX8_readLine_47 (by decide) ?_
    refine va_iast hx hb hK.1 hP hD hS 4 1 rfl rfl h.1 dX8_readLine_48 (fun H locs hP hD hS => ?_)
    replace h := h.2
    have hP : va_P D vwCl [(A_t, .inr (8, [.ref A_t_state, .ref A_t_tape, .int t_taped, .int t_fault, .int t_broken, .int t_brokenAt, .int t_spot, .int t_here, .int t_token, .int t_value, .int ((1 : Int32)), .ref A_t_ends, .ref A_t_letters, .ref A_t_least, .ref A_t_conflicts, .int t_conflictMany, .ref A_t_behind, .ref A_t_placed, .ref A_t_isKept, .ref A_t_lanes, .ref A_t_lengths, .ref A_t_cells, .int t_torn])), (A_t_ends, .inl (cy 1, 7, .inl t_ends)), (A_t_tape, .inl (cy 1, 320, .inl t_tape)), (A_t_letters, .inl (cy 1, 25, .inl t_letters)), (A_t_state, .inl (cy 1, 535, .inl (upd t_state (426 : Int32).toNatClampNeg (1 : Int32))))] H := hP
    have hD : va_D A [(A_t, .inr (8, [.ref A_t_state, .ref A_t_tape, .int t_taped, .int t_fault, .int t_broken, .int t_brokenAt, .int t_spot, .int t_here, .int t_token, .int t_value, .int ((1 : Int32)), .ref A_t_ends, .ref A_t_letters, .ref A_t_least, .ref A_t_conflicts, .int t_conflictMany, .ref A_t_behind, .ref A_t_placed, .ref A_t_isKept, .ref A_t_lanes, .ref A_t_lengths, .ref A_t_cells, .int t_torn])), (A_t_ends, .inl (cy 1, 7, .inl t_ends)), (A_t_tape, .inl (cy 1, 320, .inl t_tape)), (A_t_letters, .inl (cy 1, 25, .inl t_letters)), (A_t_state, .inl (cy 1, 535, .inl (upd t_state (426 : Int32).toNatClampNeg (1 : Int32))))] := hD
    refine lv_aload_n hx hb dX8_readLine_49 rfl (lv_at hl 0 rfl) ?_
    have hPn : va_P D vwCl ([(A_t_ends, .inl (cy 1, 7, .inl t_ends)), (A_t_letters, .inl (cy 1, 25, .inl t_letters)), (A_t_state, .inl (cy 1, 535, .inl (upd t_state (426 : Int32).toNatClampNeg (1 : Int32))))] ++ [(A_t, .inr (8, [.ref A_t_state, .ref A_t_tape, .int t_taped, .int t_fault, .int t_broken, .int t_brokenAt, .int t_spot, .int t_here, .int t_token, .int t_value, .int ((1 : Int32)), .ref A_t_ends, .ref A_t_letters, .ref A_t_least, .ref A_t_conflicts, .int t_conflictMany, .ref A_t_behind, .ref A_t_placed, .ref A_t_isKept, .ref A_t_lanes, .ref A_t_lengths, .ref A_t_cells, .int t_torn])), (A_t_tape, .inl (cy 1, 320, .inl t_tape))]) H := hP.sub [1, 3, 4, 0, 2] rfl
    have hDn : va_D A ([(A_t_ends, .inl (cy 1, 7, .inl t_ends)), (A_t_letters, .inl (cy 1, 25, .inl t_letters)), (A_t_state, .inl (cy 1, 535, .inl (upd t_state (426 : Int32).toNatClampNeg (1 : Int32))))] ++ [(A_t, .inr (8, [.ref A_t_state, .ref A_t_tape, .int t_taped, .int t_fault, .int t_broken, .int t_brokenAt, .int t_spot, .int t_here, .int t_token, .int t_value, .int ((1 : Int32)), .ref A_t_ends, .ref A_t_letters, .ref A_t_least, .ref A_t_conflicts, .int t_conflictMany, .ref A_t_behind, .ref A_t_placed, .ref A_t_isKept, .ref A_t_lanes, .ref A_t_lengths, .ref A_t_cells, .int t_torn])), (A_t_tape, .inl (cy 1, 320, .inl t_tape))]) := hD.sub [1, 3, 4, 0, 2] (by decide) rfl
    have hPc := gPR hPn
    have hDc := gDR hDn
    refine mw_v (va_runV (As := []) (rest := []) CF (c_X8_readsOn l D cy H.size A_t A_t_state A_t_tape A_t_ends A_t_letters A_t_least A_t_conflicts A_t_behind A_t_placed A_t_isKept A_t_lanes A_t_lengths A_t_cells t_taped t_fault t_broken t_brokenAt t_spot t_here t_token t_value (1 : Int32) t_conflictMany t_torn t_tape _ h) (cwV 0 hts gX8_readLine_X8_readsOn rfl rfl rfl qX8_readsOn ⟨Nat.le_of_ble_eq_true rfl, Nat.le_of_ble_eq_true rfl⟩) (mpVW hK hPc hDc (ci := 8) (q := (RX8, TX8, 23)) (q0 := 0) rfl rfl) rfl rfl hl.1 rfl (lv_room (Nat.le_of_ble_eq_true rfl)) dX8_readLine_50 ⟨Nat.zero_le _, Nat.zero_le _⟩) hPn hDn hS hA (fun u H locs h hP hD hS => ?_)
    obtain ⟨t_broken_v7, t_brokenAt_v7, t_spot_v7, t_here_v7, t_token_v7, t_value_v7⟩ := u
    have hP : va_P D vwCl [(A_t, .inr (8, [.ref A_t_state, .ref A_t_tape, .int t_taped, .int t_fault, .int t_broken_v7, .int t_brokenAt_v7, .int t_spot_v7, .int t_here_v7, .int t_token_v7, .int t_value_v7, .int ((1 : Int32)), .ref A_t_ends, .ref A_t_letters, .ref A_t_least, .ref A_t_conflicts, .int t_conflictMany, .ref A_t_behind, .ref A_t_placed, .ref A_t_isKept, .ref A_t_lanes, .ref A_t_lengths, .ref A_t_cells, .int t_torn])), (A_t_ends, .inl (cy 1, 7, .inl t_ends)), (A_t_tape, .inl (cy 1, 320, .inl t_tape)), (A_t_letters, .inl (cy 1, 25, .inl t_letters)), (A_t_state, .inl (cy 1, 535, .inl (upd t_state (426 : Int32).toNatClampNeg (1 : Int32))))] H := hP.sub [3, 0, 4, 1, 2] rfl
    have hD : va_D A [(A_t, .inr (8, [.ref A_t_state, .ref A_t_tape, .int t_taped, .int t_fault, .int t_broken_v7, .int t_brokenAt_v7, .int t_spot_v7, .int t_here_v7, .int t_token_v7, .int t_value_v7, .int ((1 : Int32)), .ref A_t_ends, .ref A_t_letters, .ref A_t_least, .ref A_t_conflicts, .int t_conflictMany, .ref A_t_behind, .ref A_t_placed, .ref A_t_isKept, .ref A_t_lanes, .ref A_t_lengths, .ref A_t_cells, .int t_torn])), (A_t_ends, .inl (cy 1, 7, .inl t_ends)), (A_t_tape, .inl (cy 1, 320, .inl t_tape)), (A_t_letters, .inl (cy 1, 25, .inl t_letters)), (A_t_state, .inl (cy 1, 535, .inl (upd t_state (426 : Int32).toNatClampNeg (1 : Int32))))] := hD.sub [3, 0, 4, 1, 2] (by decide) rfl
    try dsimp only at h
    refine lv_goto (tgt := 61) hx hb dX8_readLine_53 (by decide) ?_
    exact J61 t_broken_v7 t_brokenAt_v7 t_spot_v7 t_here_v7 t_token_v7 t_value_v7 (1 : Int32) (upd t_state (426 : Int32).toNatClampNeg (1 : Int32)) H locs ls h hP hD hS (lv_sub hl [0] rfl)
  unfold P_X8_readLine at h
  refine lv_aload_n hx hb dX8_readLine_0 rfl (lv_at hl 0 rfl) ?_
  have hPc := hP.sub (ws' := [(A_t, .inr (8, [.ref A_t_state, .ref A_t_tape, .int t_taped, .int t_fault, .int t_broken, .int t_brokenAt, .int t_spot, .int t_here, .int t_token, .int t_value, .int t_isRealTold, .ref A_t_ends, .ref A_t_letters, .ref A_t_least, .ref A_t_conflicts, .int t_conflictMany, .ref A_t_behind, .ref A_t_placed, .ref A_t_isKept, .ref A_t_lanes, .ref A_t_lengths, .ref A_t_cells, .int t_torn])), (A_t_ends, .inl (cy 1, 7, .inl t_ends)), (A_t_tape, .inl (cy 1, 320, .inl t_tape)), (A_t_letters, .inl (cy 1, 25, .inl t_letters))]) [0, 1, 2, 3] rfl
  refine vp_callSi (W.runV (As := []) (rest := []) CF (c_X8_nameHere l D cy A_t A_t_state A_t_tape A_t_ends A_t_letters A_t_least A_t_conflicts A_t_behind A_t_placed A_t_isKept A_t_lanes A_t_lengths A_t_cells t_taped t_fault t_broken t_brokenAt t_spot t_here t_token t_value t_isRealTold t_conflictMany t_torn t_ends t_tape t_letters _ h) (cwV 0 hts gX8_readLine_X8_nameHere rfl rfl rfl qX8_nameHere ⟨Nat.le_of_ble_eq_true rfl, Nat.le_of_ble_eq_true rfl⟩) (mpVR hK hPc (ci := 8) (q := (RX8, TX8, 23)) (q0 := 0) rfl rfl) rfl rfl hl.1 rfl (lv_room (Nat.le_of_ble_eq_true rfl)) dX8_readLine_1 ⟨Nat.zero_le _, Nat.zero_le _⟩) (fun r1 h => ?_)
  refine lv_istore_n (lv' := [(1, .int r1), (0, .ref A_t)]) hx hb dX8_readLine_4 rfl hl (by decide) rfl (fun ls hl => ?_)
  refine lv_iload_n hx hb dX8_readLine_5 rfl (lv_at hl 0 rfl) ?_
  refine lv_bipush (v := -4) hx hb dX8_readLine_6 (by decide) ?_
  refine lv_icmp_ne (tgt := 19) hx hb dX8_readLine_8 (by decide) (fun hc => ?_) (fun hc => ?_)
  · replace h := h.1 hc
    refine lv_iload_n hx hb dX8_readLine_19 rfl (lv_at hl 0 rfl) ?_
    refine lv_if_ne (tgt := 56) hx hb dX8_readLine_20 (by decide) (fun hc => ?_) (fun hc => ?_)
    · replace h := h.1 hc
      refine lv_aload_n hx hb dX8_readLine_56 rfl (lv_at hl 1 rfl) ?_
      refine lv_iload_n hx hb dX8_readLine_57 rfl (lv_at hl 0 rfl) ?_
      have hPn : va_P D vwCl ([(A_t_ends, .inl (cy 1, 7, .inl t_ends)), (A_t_letters, .inl (cy 1, 25, .inl t_letters))] ++ [(A_t, .inr (8, [.ref A_t_state, .ref A_t_tape, .int t_taped, .int t_fault, .int t_broken, .int t_brokenAt, .int t_spot, .int t_here, .int t_token, .int t_value, .int t_isRealTold, .ref A_t_ends, .ref A_t_letters, .ref A_t_least, .ref A_t_conflicts, .int t_conflictMany, .ref A_t_behind, .ref A_t_placed, .ref A_t_isKept, .ref A_t_lanes, .ref A_t_lengths, .ref A_t_cells, .int t_torn])), (A_t_state, .inl (cy 1, 535, .inl t_state)), (A_t_tape, .inl (cy 1, 320, .inl t_tape))]) s.heap := hP.sub [1, 3, 0, 4, 2] rfl
      have hDn : va_D A ([(A_t_ends, .inl (cy 1, 7, .inl t_ends)), (A_t_letters, .inl (cy 1, 25, .inl t_letters))] ++ [(A_t, .inr (8, [.ref A_t_state, .ref A_t_tape, .int t_taped, .int t_fault, .int t_broken, .int t_brokenAt, .int t_spot, .int t_here, .int t_token, .int t_value, .int t_isRealTold, .ref A_t_ends, .ref A_t_letters, .ref A_t_least, .ref A_t_conflicts, .int t_conflictMany, .ref A_t_behind, .ref A_t_placed, .ref A_t_isKept, .ref A_t_lanes, .ref A_t_lengths, .ref A_t_cells, .int t_torn])), (A_t_state, .inl (cy 1, 535, .inl t_state)), (A_t_tape, .inl (cy 1, 320, .inl t_tape))]) := hD.sub [1, 3, 0, 4, 2] (by decide) rfl
      have hPc := gPR hPn
      have hDc := gDR hDn
      refine mw_v (va_runV (As := [.int r1]) (rest := []) CF (c_X8_readBound l D cy s.heap.size A_t A_t_state A_t_tape A_t_ends A_t_letters A_t_least A_t_conflicts A_t_behind A_t_placed A_t_isKept A_t_lanes A_t_lengths A_t_cells t_taped t_fault t_broken t_brokenAt t_spot t_here t_token t_value t_isRealTold t_conflictMany t_torn t_state t_tape r1 _ h) (cwV 1 hts gX8_readLine_X8_readBound rfl rfl rfl qX8_readBound ⟨Nat.le_of_ble_eq_true rfl, Nat.le_of_ble_eq_true rfl⟩) (mpVW hK hPc hDc (ci := 8) (q := (RX8, TX8, 23)) (q0 := 0) rfl rfl) rfl rfl hl.1 rfl (lv_room (Nat.le_of_ble_eq_true rfl)) dX8_readLine_58 ⟨Nat.zero_le _, Nat.zero_le _⟩) hPn hDn hS hA (fun u H locs h hP hD hS => ?_)
      obtain ⟨t_broken_v2, t_brokenAt_v2, t_spot_v2, t_here_v2, t_token_v2, t_value_v2, t_state_v2⟩ := u
      have hP : va_P D vwCl [(A_t, .inr (8, [.ref A_t_state, .ref A_t_tape, .int t_taped, .int t_fault, .int t_broken_v2, .int t_brokenAt_v2, .int t_spot_v2, .int t_here_v2, .int t_token_v2, .int t_value_v2, .int t_isRealTold, .ref A_t_ends, .ref A_t_letters, .ref A_t_least, .ref A_t_conflicts, .int t_conflictMany, .ref A_t_behind, .ref A_t_placed, .ref A_t_isKept, .ref A_t_lanes, .ref A_t_lengths, .ref A_t_cells, .int t_torn])), (A_t_ends, .inl (cy 1, 7, .inl t_ends)), (A_t_tape, .inl (cy 1, 320, .inl t_tape)), (A_t_letters, .inl (cy 1, 25, .inl t_letters)), (A_t_state, .inl (cy 1, 535, .inl t_state_v2))] H := hP.sub [2, 0, 4, 1, 3] rfl
      have hD : va_D A [(A_t, .inr (8, [.ref A_t_state, .ref A_t_tape, .int t_taped, .int t_fault, .int t_broken_v2, .int t_brokenAt_v2, .int t_spot_v2, .int t_here_v2, .int t_token_v2, .int t_value_v2, .int t_isRealTold, .ref A_t_ends, .ref A_t_letters, .ref A_t_least, .ref A_t_conflicts, .int t_conflictMany, .ref A_t_behind, .ref A_t_placed, .ref A_t_isKept, .ref A_t_lanes, .ref A_t_lengths, .ref A_t_cells, .int t_torn])), (A_t_ends, .inl (cy 1, 7, .inl t_ends)), (A_t_tape, .inl (cy 1, 320, .inl t_tape)), (A_t_letters, .inl (cy 1, 25, .inl t_letters)), (A_t_state, .inl (cy 1, 535, .inl t_state_v2))] := hD.sub [2, 0, 4, 1, 3] (by decide) rfl
      try dsimp only at h
      exact J61 t_broken_v2 t_brokenAt_v2 t_spot_v2 t_here_v2 t_token_v2 t_value_v2 t_isRealTold t_state_v2 H locs ls h hP hD hS (lv_sub hl [1] rfl)
    · replace h := h.2 hc
      refine lv_aload_n hx hb dX8_readLine_23 rfl (lv_at hl 1 rfl) ?_
      refine va_get (D := D) (ci := 8) (v := .int t_isRealTold) (C := RX8) (T := TX8) (N := 23) hx hb hts iX8 hown hK.1 hP 0 rfl rfl 10 (by decide) f2 (fun _ h9 => h9) rfl dX8_readLine_24 ?_
      refine lv_if_eq (tgt := 35) hx hb dX8_readLine_27 (by decide) (fun hc => ?_) (fun hc => ?_)
      · replace h := h.1 hc
        exact J35 t_broken t_brokenAt t_spot t_here t_token t_value t_isRealTold t_state s.heap [] ls h hP hD hS (lv_sub hl [1] rfl)
      · replace h := h.2 hc
        refine lv_aload_n hx hb dX8_readLine_30 rfl (lv_at hl 1 rfl) ?_
        refine lv_iconst (v := 4) hx hb dX8_readLine_31 (by decide) ?_
        have hPn : va_P D vwCl ([(A_t_ends, .inl (cy 1, 7, .inl t_ends)), (A_t_tape, .inl (cy 1, 320, .inl t_tape)), (A_t_letters, .inl (cy 1, 25, .inl t_letters)), (A_t_state, .inl (cy 1, 535, .inl t_state))] ++ [(A_t, .inr (8, [.ref A_t_state, .ref A_t_tape, .int t_taped, .int t_fault, .int t_broken, .int t_brokenAt, .int t_spot, .int t_here, .int t_token, .int t_value, .int t_isRealTold, .ref A_t_ends, .ref A_t_letters, .ref A_t_least, .ref A_t_conflicts, .int t_conflictMany, .ref A_t_behind, .ref A_t_placed, .ref A_t_isKept, .ref A_t_lanes, .ref A_t_lengths, .ref A_t_cells, .int t_torn]))]) s.heap := hP.sub [1, 2, 3, 4, 0] rfl
        have hDn : va_D A ([(A_t_ends, .inl (cy 1, 7, .inl t_ends)), (A_t_tape, .inl (cy 1, 320, .inl t_tape)), (A_t_letters, .inl (cy 1, 25, .inl t_letters)), (A_t_state, .inl (cy 1, 535, .inl t_state))] ++ [(A_t, .inr (8, [.ref A_t_state, .ref A_t_tape, .int t_taped, .int t_fault, .int t_broken, .int t_brokenAt, .int t_spot, .int t_here, .int t_token, .int t_value, .int t_isRealTold, .ref A_t_ends, .ref A_t_letters, .ref A_t_least, .ref A_t_conflicts, .int t_conflictMany, .ref A_t_behind, .ref A_t_placed, .ref A_t_isKept, .ref A_t_lanes, .ref A_t_lengths, .ref A_t_cells, .int t_torn]))]) := hD.sub [1, 2, 3, 4, 0] (by decide) rfl
        have hPc := gPR hPn
        have hDc := gDR hDn
        refine mw_v (va_runV (As := [.int (4 : Int32)]) (rest := []) CF (c_X8_fails l D cy s.heap.size A_t A_t_state A_t_tape A_t_ends A_t_letters A_t_least A_t_conflicts A_t_behind A_t_placed A_t_isKept A_t_lanes A_t_lengths A_t_cells t_taped t_fault t_broken t_brokenAt t_spot t_here t_token t_value t_isRealTold t_conflictMany t_torn (4 : Int32) _ h) (cwV 1 hts gX8_readLine_X8_fails rfl rfl rfl qX8_fails ⟨Nat.le_of_ble_eq_true rfl, Nat.le_of_ble_eq_true rfl⟩) (mpVW hK hPc hDc (ci := 8) (q := (RX8, TX8, 23)) (q0 := 0) rfl rfl) rfl rfl hl.1 rfl (lv_room (Nat.le_of_ble_eq_true rfl)) dX8_readLine_32 ⟨Nat.zero_le _, Nat.zero_le _⟩) hPn hDn hS hA (fun u H locs h hP hD hS => ?_)
        obtain ⟨t_broken_v8, t_brokenAt_v8⟩ := u
        have hP : va_P D vwCl [(A_t, .inr (8, [.ref A_t_state, .ref A_t_tape, .int t_taped, .int t_fault, .int t_broken_v8, .int t_brokenAt_v8, .int t_spot, .int t_here, .int t_token, .int t_value, .int t_isRealTold, .ref A_t_ends, .ref A_t_letters, .ref A_t_least, .ref A_t_conflicts, .int t_conflictMany, .ref A_t_behind, .ref A_t_placed, .ref A_t_isKept, .ref A_t_lanes, .ref A_t_lengths, .ref A_t_cells, .int t_torn])), (A_t_ends, .inl (cy 1, 7, .inl t_ends)), (A_t_tape, .inl (cy 1, 320, .inl t_tape)), (A_t_letters, .inl (cy 1, 25, .inl t_letters)), (A_t_state, .inl (cy 1, 535, .inl t_state))] H := hP.sub [4, 0, 1, 2, 3] rfl
        have hD : va_D A [(A_t, .inr (8, [.ref A_t_state, .ref A_t_tape, .int t_taped, .int t_fault, .int t_broken_v8, .int t_brokenAt_v8, .int t_spot, .int t_here, .int t_token, .int t_value, .int t_isRealTold, .ref A_t_ends, .ref A_t_letters, .ref A_t_least, .ref A_t_conflicts, .int t_conflictMany, .ref A_t_behind, .ref A_t_placed, .ref A_t_isKept, .ref A_t_lanes, .ref A_t_lengths, .ref A_t_cells, .int t_torn])), (A_t_ends, .inl (cy 1, 7, .inl t_ends)), (A_t_tape, .inl (cy 1, 320, .inl t_tape)), (A_t_letters, .inl (cy 1, 25, .inl t_letters)), (A_t_state, .inl (cy 1, 535, .inl t_state))] := hD.sub [4, 0, 1, 2, 3] (by decide) rfl
        try dsimp only at h
        exact J35 t_broken_v8 t_brokenAt_v8 t_spot t_here t_token t_value t_isRealTold t_state H locs ls h hP hD hS (lv_sub hl [1] rfl)
  · replace h := h.2 hc
    refine lv_aload_n hx hb dX8_readLine_11 rfl (lv_at hl 1 rfl) ?_
    refine lv_iconst (v := 2) hx hb dX8_readLine_12 (by decide) ?_
    have hPn : va_P D vwCl ([(A_t_ends, .inl (cy 1, 7, .inl t_ends)), (A_t_tape, .inl (cy 1, 320, .inl t_tape)), (A_t_letters, .inl (cy 1, 25, .inl t_letters)), (A_t_state, .inl (cy 1, 535, .inl t_state))] ++ [(A_t, .inr (8, [.ref A_t_state, .ref A_t_tape, .int t_taped, .int t_fault, .int t_broken, .int t_brokenAt, .int t_spot, .int t_here, .int t_token, .int t_value, .int t_isRealTold, .ref A_t_ends, .ref A_t_letters, .ref A_t_least, .ref A_t_conflicts, .int t_conflictMany, .ref A_t_behind, .ref A_t_placed, .ref A_t_isKept, .ref A_t_lanes, .ref A_t_lengths, .ref A_t_cells, .int t_torn]))]) s.heap := hP.sub [1, 2, 3, 4, 0] rfl
    have hDn : va_D A ([(A_t_ends, .inl (cy 1, 7, .inl t_ends)), (A_t_tape, .inl (cy 1, 320, .inl t_tape)), (A_t_letters, .inl (cy 1, 25, .inl t_letters)), (A_t_state, .inl (cy 1, 535, .inl t_state))] ++ [(A_t, .inr (8, [.ref A_t_state, .ref A_t_tape, .int t_taped, .int t_fault, .int t_broken, .int t_brokenAt, .int t_spot, .int t_here, .int t_token, .int t_value, .int t_isRealTold, .ref A_t_ends, .ref A_t_letters, .ref A_t_least, .ref A_t_conflicts, .int t_conflictMany, .ref A_t_behind, .ref A_t_placed, .ref A_t_isKept, .ref A_t_lanes, .ref A_t_lengths, .ref A_t_cells, .int t_torn]))]) := hD.sub [1, 2, 3, 4, 0] (by decide) rfl
    have hPc := gPR hPn
    have hDc := gDR hDn
    refine mw_v (va_runV (As := [.int (2 : Int32)]) (rest := []) CF (c_X8_fails l D cy s.heap.size A_t A_t_state A_t_tape A_t_ends A_t_letters A_t_least A_t_conflicts A_t_behind A_t_placed A_t_isKept A_t_lanes A_t_lengths A_t_cells t_taped t_fault t_broken t_brokenAt t_spot t_here t_token t_value t_isRealTold t_conflictMany t_torn (2 : Int32) _ h) (cwV 1 hts gX8_readLine_X8_fails rfl rfl rfl qX8_fails ⟨Nat.le_of_ble_eq_true rfl, Nat.le_of_ble_eq_true rfl⟩) (mpVW hK hPc hDc (ci := 8) (q := (RX8, TX8, 23)) (q0 := 0) rfl rfl) rfl rfl hl.1 rfl (lv_room (Nat.le_of_ble_eq_true rfl)) dX8_readLine_13 ⟨Nat.zero_le _, Nat.zero_le _⟩) hPn hDn hS hA (fun u H locs h hP hD hS => ?_)
    obtain ⟨t_broken_v9, t_brokenAt_v9⟩ := u
    have hP : va_P D vwCl [(A_t, .inr (8, [.ref A_t_state, .ref A_t_tape, .int t_taped, .int t_fault, .int t_broken_v9, .int t_brokenAt_v9, .int t_spot, .int t_here, .int t_token, .int t_value, .int t_isRealTold, .ref A_t_ends, .ref A_t_letters, .ref A_t_least, .ref A_t_conflicts, .int t_conflictMany, .ref A_t_behind, .ref A_t_placed, .ref A_t_isKept, .ref A_t_lanes, .ref A_t_lengths, .ref A_t_cells, .int t_torn])), (A_t_ends, .inl (cy 1, 7, .inl t_ends)), (A_t_tape, .inl (cy 1, 320, .inl t_tape)), (A_t_letters, .inl (cy 1, 25, .inl t_letters)), (A_t_state, .inl (cy 1, 535, .inl t_state))] H := hP.sub [4, 0, 1, 2, 3] rfl
    have hD : va_D A [(A_t, .inr (8, [.ref A_t_state, .ref A_t_tape, .int t_taped, .int t_fault, .int t_broken_v9, .int t_brokenAt_v9, .int t_spot, .int t_here, .int t_token, .int t_value, .int t_isRealTold, .ref A_t_ends, .ref A_t_letters, .ref A_t_least, .ref A_t_conflicts, .int t_conflictMany, .ref A_t_behind, .ref A_t_placed, .ref A_t_isKept, .ref A_t_lanes, .ref A_t_lengths, .ref A_t_cells, .int t_torn])), (A_t_ends, .inl (cy 1, 7, .inl t_ends)), (A_t_tape, .inl (cy 1, 320, .inl t_tape)), (A_t_letters, .inl (cy 1, 25, .inl t_letters)), (A_t_state, .inl (cy 1, 535, .inl t_state))] := hD.sub [4, 0, 1, 2, 3] (by decide) rfl
    try dsimp only at h
    refine lv_goto (tgt := 61) hx hb dX8_readLine_16 (by decide) ?_
    exact J61 t_broken_v9 t_brokenAt_v9 t_spot t_here t_token t_value t_isRealTold t_state H locs ls h hP hD hS (lv_sub hl [1] rfl)
theorem qX8_weighed : yX8_weighed.cls = RX8 ∧ yX8_weighed.cls ≠ "java/lang/invoke/MethodHandle" ∧ yX8_weighed.cls ≠ "java/lang/invoke/VarHandle" ∧ (parseMethodDescriptor yX8_weighed.desc).map (fun d => d.parameters.length) = some 3 := by decide +kernel
def P_X8_weighed (post : Int64 → Prop) (x0 : Int32) (x1 : Int32) (x2 : Int32) : Prop :=
  ((x0 = 0 → post ((1000 : Int64) * (x1.toInt64 - x2.toInt64))) ∧ (¬ x0 = 0 → post (((1000 : Int64) * x1.toInt64) - x2.toInt64)))
set_option maxHeartbeats 4000000 in
set_option maxRecDepth 100000 in
theorem c_X8_weighed (l : Launch) (x0 : Int32) (x1 : Int32) (x2 : Int32) (post : Int64 → Prop) (h : P_X8_weighed post x0 x1 x2) : Met l yX8_weighed wsX8_weighed { frames := 0, cells := 0, slots := 0, locals := 0 } (pcN [.int x0, .int x1, .int x2]) (vp_Sl post) 0 0 (fun _ => False) := by
  refine Met.ofW (cc := cX8_weighed) (maxL := 3) (ret := (some .long)) (by decide) rfl ?_
  intro p e s m args below meth c s₁ B hml hv
  obtain ⟨rfl, -⟩ := hv
  have hx := B.exec
  have hb := B.bytes
  have hr := B.returns
  have hts := atoms_spec (ws := wsX8_weighed) B.pre
  have hown : s.vm.findClass RX8 = some m.cls := findClass_of_methodNamed B.named
  have hlocks := B.notSynchronized
  have CF : CallFix p m c cX8_weighed 3 s ([.int x0, .int x1, .int x2] : List Value).toArray wsX8_weighed RX8 := ⟨hx, hb, hml, hown, hts⟩
  have f0 := hts (.constantLong RX8 139 (1000)) (by decide +kernel)
  have hl := lv_entry [.int x0, .int x1, .int x2] (n := 3) (Nat.le_of_ble_eq_true rfl)
  rw [lg_entry_eq]
  generalize (lg_sl [.int x0, .int x1, .int x2] ++ List.replicate (3 - (lg_sl [.int x0, .int x1, .int x2]).length) Slot.unset).toArray = ls at hl ⊢
  have hl : lv_has ls 3 [(0, .int x0), (1, .int x1), (2, .int x2)] := hl
  refine W.gen (fun Q0 hQ => ?_)
  unfold P_X8_weighed at h
  refine lv_iload_n hx hb dX8_weighed_0 rfl (lv_at hl 0 rfl) ?_
  refine lv_if_eq (tgt := 16) hx hb dX8_weighed_1 (by decide) (fun hc => ?_) (fun hc => ?_)
  · replace h := h.1 hc
    refine lv_ldc2 (v := 1000) hx hb hown f0 dX8_weighed_16 ?_
    refine lv_iload_n hx hb dX8_weighed_19 rfl (lv_at hl 1 rfl) ?_
    refine lv_i2l (v := x1.toInt64) hx hb dX8_weighed_20 rfl ?_
    refine lv_iload_n hx hb dX8_weighed_21 rfl (lv_at hl 2 rfl) ?_
    refine lv_i2l (v := x2.toInt64) hx hb dX8_weighed_22 rfl ?_
    refine lv_lsub hx hb dX8_weighed_23 ?_
    refine lv_lmul hx hb dX8_weighed_24 ?_
    subst hQ
    exact W.lret (v := (1000 : Int64) * (x1.toInt64 - x2.toInt64)) hx hb hr (fun t ht _ => ⟨(1000 : Int64) * (x1.toInt64 - x2.toInt64), rfl, h, ht⟩) (fun _ hq => absurd hq List.not_mem_nil) dX8_weighed_25
  · replace h := h.2 hc
    refine lv_ldc2 (v := 1000) hx hb hown f0 dX8_weighed_4 ?_
    refine lv_iload_n hx hb dX8_weighed_7 rfl (lv_at hl 1 rfl) ?_
    refine lv_i2l (v := x1.toInt64) hx hb dX8_weighed_8 rfl ?_
    refine lv_lmul hx hb dX8_weighed_9 ?_
    refine lv_iload_n hx hb dX8_weighed_10 rfl (lv_at hl 2 rfl) ?_
    refine lv_i2l (v := x2.toInt64) hx hb dX8_weighed_11 rfl ?_
    refine lv_lsub hx hb dX8_weighed_12 ?_
    refine lv_goto (tgt := 25) hx hb dX8_weighed_13 (by decide) ?_
    subst hQ
    exact W.lret (v := ((1000 : Int64) * x1.toInt64) - x2.toInt64) hx hb hr (fun t ht _ => ⟨((1000 : Int64) * x1.toInt64) - x2.toInt64, rfl, h, ht⟩) (fun _ hq => absurd hq List.not_mem_nil) dX8_weighed_25
theorem qX8_weightOf : yX8_weightOf.cls = RX8 ∧ yX8_weightOf.cls ≠ "java/lang/invoke/MethodHandle" ∧ yX8_weightOf.cls ≠ "java/lang/invoke/VarHandle" ∧ (parseMethodDescriptor yX8_weightOf.desc).map (fun d => d.parameters.length) = some 2 := by decide +kernel
def B_X8_weightOf_18 (post : Int64 → Prop) (t_state : Nat → Int32) (k0 : Int32) (x1 : Int32) (x2 : Int32) : Prop :=
  (vp_in ((x1 + (48 : Int32)) + x2) 535 ∧ (vp_in ((x1 + (72 : Int32)) + x2) 535 ∧ P_X8_weighed (fun (r1 : Int64) => post r1) k0 (t_state ((x1 + (48 : Int32)) + x2).toNatClampNeg) (t_state ((x1 + (72 : Int32)) + x2).toNatClampNeg)))
def P_X8_weightOf (post : Int64 → Prop) (t_state : Nat → Int32) (x1 : Int32) (x2 : Int32) : Prop :=
  (vp_in (x1 + (105 : Int32)) 535 ∧ ((¬ t_state (x1 + (105 : Int32)).toNatClampNeg = (1 : Int32) → B_X8_weightOf_18 post t_state (0 : Int32) x1 x2) ∧ (t_state (x1 + (105 : Int32)).toNatClampNeg = (1 : Int32) → B_X8_weightOf_18 post t_state (1 : Int32) x1 x2)))
set_option maxHeartbeats 4000000 in
set_option maxRecDepth 100000 in
theorem c_X8_weightOf (l : Launch) (D : va_G) (cy : Nat → ClassId) (A_t A_t_state A_t_tape A_t_ends A_t_letters A_t_least A_t_conflicts A_t_behind A_t_placed A_t_isKept A_t_lanes A_t_lengths A_t_cells : Nat) (t_taped : Int32) (t_fault : Int32) (t_broken : Int32) (t_brokenAt : Int32) (t_spot : Int32) (t_here : Int32) (t_token : Int32) (t_value : Int32) (t_isRealTold : Int32) (t_conflictMany : Int32) (t_torn : Int32) (t_state : Nat → Int32) (x1 : Int32) (x2 : Int32) (post : Int64 → Prop) (h : P_X8_weightOf post t_state x1 x2) : Met l yX8_weightOf wsX8_weightOf { frames := 1, cells := 0, slots := 0, locals := 22 } (pcR D cy [(A_t, .inr (8, [.ref A_t_state, .ref A_t_tape, .int t_taped, .int t_fault, .int t_broken, .int t_brokenAt, .int t_spot, .int t_here, .int t_token, .int t_value, .int t_isRealTold, .ref A_t_ends, .ref A_t_letters, .ref A_t_least, .ref A_t_conflicts, .int t_conflictMany, .ref A_t_behind, .ref A_t_placed, .ref A_t_isKept, .ref A_t_lanes, .ref A_t_lengths, .ref A_t_cells, .int t_torn])), (A_t_state, .inl (cy 1, 535, .inl t_state))] [.ref A_t, .int x1, .int x2]) (vp_Sl post) 0 0 (fun _ => False) := by
  refine Met.ofW (cc := cX8_weightOf) (maxL := 3) (ret := (some .long)) (by decide) rfl ?_
  intro p e s m args below meth c s₁ B hml hv
  obtain ⟨rfl, hP, hK⟩ := hv
  have hx := B.exec
  have hb := B.bytes
  have hr := B.returns
  have hts := atoms_spec (ws := wsX8_weightOf) B.pre
  have hown : s.vm.findClass RX8 = some m.cls := findClass_of_methodNamed B.named
  have hlocks := B.notSynchronized
  have CF : CallFix p m c cX8_weightOf 3 s ([.ref A_t, .int x1, .int x2] : List Value).toArray wsX8_weightOf RX8 := ⟨hx, hb, hml, hown, hts⟩
  have f0 := hts (.fieldLink RX8 7 "GapBoundsModel" "state" "[I") (by decide +kernel)
  have iX8 : ∀ w ∈ u_ws RX8 TX8 23, w ∈ wsX8_weightOf := by decide +kernel
  have hl := lv_entry [.ref A_t, .int x1, .int x2] (n := 3) (Nat.le_of_ble_eq_true rfl)
  rw [lg_entry_eq]
  generalize (lg_sl [.ref A_t, .int x1, .int x2] ++ List.replicate (3 - (lg_sl [.ref A_t, .int x1, .int x2]).length) Slot.unset).toArray = ls at hl ⊢
  have hl : lv_has ls 3 [(0, .ref A_t), (1, .int x1), (2, .int x2)] := hl
  refine W.gen (fun Q0 hQ => ?_)
  have J18 : ∀ (k0 : Int32) (ls : Array Slot), B_X8_weightOf_18 post t_state k0 x1 x2 → lv_has ls 3 [(0, .ref A_t), (1, .int x1), (2, .int x2)] → W p l e (headSpec wsX8_weightOf { frames := 1, cells := 0, slots := 0, locals := 22 }).room s m ([.ref A_t, .int x1, .int x2] : List Value).toArray below meth c s.heap [] 0 0 Q0 (F0 m 18 ls [.int k0]) := by
    intro k0 ls h hl
    unfold B_X8_weightOf_18 at h
    refine lv_aload_n hx hb dX8_weightOf_18 rfl (lv_at hl 0 rfl) ?_
    refine va_get (D := D) (ci := 8) (v := .ref A_t_state) (C := RX8) (T := TX8) (N := 23) hx hb hts iX8 hown hK.1 hP 0 rfl rfl 0 (by decide) f0 (fun _ h9 => h9) rfl dX8_weightOf_19 ?_
    refine lv_iload_n hx hb dX8_weightOf_22 rfl (lv_at hl 1 rfl) ?_
    refine lv_bipush (v := 48) hx hb dX8_weightOf_23 (by decide) ?_
    refine lv_iadd hx hb dX8_weightOf_25 ?_
    refine lv_iload_n hx hb dX8_weightOf_26 rfl (lv_at hl 2 rfl) ?_
    refine lv_iadd hx hb dX8_weightOf_27 ?_
    refine va_iald hx hb hK.1 hP 1 1 rfl rfl h.1 dX8_weightOf_28 ?_
    replace h := h.2
    refine lv_aload_n hx hb dX8_weightOf_29 rfl (lv_at hl 0 rfl) ?_
    refine va_get (D := D) (ci := 8) (v := .ref A_t_state) (C := RX8) (T := TX8) (N := 23) hx hb hts iX8 hown hK.1 hP 0 rfl rfl 0 (by decide) f0 (fun _ h9 => h9) rfl dX8_weightOf_30 ?_
    refine lv_iload_n hx hb dX8_weightOf_33 rfl (lv_at hl 1 rfl) ?_
    refine lv_bipush (v := 72) hx hb dX8_weightOf_34 (by decide) ?_
    refine lv_iadd hx hb dX8_weightOf_36 ?_
    refine lv_iload_n hx hb dX8_weightOf_37 rfl (lv_at hl 2 rfl) ?_
    refine lv_iadd hx hb dX8_weightOf_38 ?_
    refine va_iald hx hb hK.1 hP 1 1 rfl rfl h.1 dX8_weightOf_39 ?_
    replace h := h.2
    refine vp_callSl (W.runS (As := [.int k0, .int (t_state ((x1 + (48 : Int32)) + x2).toNatClampNeg), .int (t_state ((x1 + (72 : Int32)) + x2).toNatClampNeg)]) (rest := []) CF (c_X8_weighed l k0 (t_state ((x1 + (48 : Int32)) + x2).toNatClampNeg) (t_state ((x1 + (72 : Int32)) + x2).toNatClampNeg) _ h) (va_cwS 3 hts gX8_weightOf_X8_weighed rfl rfl rfl qX8_weighed.2 ⟨Nat.le_of_ble_eq_true rfl, Nat.le_of_ble_eq_true rfl⟩) mpSN rfl rfl hl.1 rfl (lv_room (Nat.le_of_ble_eq_true rfl)) dX8_weightOf_40 ⟨Nat.zero_le _, Nat.zero_le _⟩) (fun r1 h => ?_)
    subst hQ
    exact W.lret (v := r1) hx hb hr (fun t ht _ => ⟨r1, rfl, h, ht⟩) (fun _ hq => absurd hq List.not_mem_nil) dX8_weightOf_43
  unfold P_X8_weightOf at h
  refine lv_aload_n hx hb dX8_weightOf_0 rfl (lv_at hl 0 rfl) ?_
  refine va_get (D := D) (ci := 8) (v := .ref A_t_state) (C := RX8) (T := TX8) (N := 23) hx hb hts iX8 hown hK.1 hP 0 rfl rfl 0 (by decide) f0 (fun _ h9 => h9) rfl dX8_weightOf_1 ?_
  refine lv_iload_n hx hb dX8_weightOf_4 rfl (lv_at hl 1 rfl) ?_
  refine lv_bipush (v := 105) hx hb dX8_weightOf_5 (by decide) ?_
  refine lv_iadd hx hb dX8_weightOf_7 ?_
  refine va_iald hx hb hK.1 hP 1 1 rfl rfl h.1 dX8_weightOf_8 ?_
  replace h := h.2
  refine lv_iconst (v := 1) hx hb dX8_weightOf_9 (by decide) ?_
  refine lv_icmp_ne (tgt := 17) hx hb dX8_weightOf_10 (by decide) (fun hc => ?_) (fun hc => ?_)
  · replace h := h.1 hc
    refine lv_iconst (v := 0) hx hb dX8_weightOf_17 (by decide) ?_
    exact J18 (0 : Int32) ls h (lv_sub hl [0, 1, 2] rfl)
  · replace h := h.2 hc
    refine lv_iconst (v := 1) hx hb dX8_weightOf_13 (by decide) ?_
    refine lv_goto (tgt := 18) hx hb dX8_weightOf_14 (by decide) ?_
    exact J18 (1 : Int32) ls h (lv_sub hl [0, 1, 2] rfl)
theorem qX8_reckons : yX8_reckons.cls = RX8 ∧ yX8_reckons.cls ≠ "java/lang/invoke/MethodHandle" ∧ yX8_reckons.cls ≠ "java/lang/invoke/VarHandle" ∧ (parseMethodDescriptor yX8_reckons.desc).map (fun d => d.parameters.length) = some 2 := by decide +kernel
def B_X8_reckons_223 (K_136 : (Nat → Int64) → Int32 → Prop) (t_least : Nat → Int64) (x4 : Int32) : Prop :=
  K_136 t_least (x4 + (1 : Int32))
def LB_X8_reckons_136 (K_127 : (Nat → Int64) → Int32 → Prop) (x3 : Int32) (K_136 : (Nat → Int64) → Int32 → Prop) (t_least : Nat → Int64) (x4 : Int32) : Prop :=
  (((100 : Int32) ≤ x4 → K_127 t_least (x3 + (1 : Int32))) ∧ (¬ (100 : Int32) ≤ x4 → (vp_in (((x4 / (10 : Int32)) * (10 : Int32)) + x3) 100 ∧ (vp_in (((10 : Int32) * x3) + (x4 - x4 / (10 : Int32) * (10 : Int32))) 100 ∧ (((1000000000000000000 : Int64) ≤ t_least (((x4 / (10 : Int32)) * (10 : Int32)) + x3).toNatClampNeg → B_X8_reckons_223 K_136 t_least x4) ∧ (¬ (1000000000000000000 : Int64) ≤ t_least (((x4 / (10 : Int32)) * (10 : Int32)) + x3).toNatClampNeg → (((1000000000000000000 : Int64) ≤ t_least (((10 : Int32) * x3) + (x4 - x4 / (10 : Int32) * (10 : Int32))).toNatClampNeg → B_X8_reckons_223 K_136 t_least x4) ∧ (¬ (1000000000000000000 : Int64) ≤ t_least (((10 : Int32) * x3) + (x4 - x4 / (10 : Int32) * (10 : Int32))).toNatClampNeg → (vp_in x4 100 ∧ ((t_least x4.toNatClampNeg ≤ (t_least (((x4 / (10 : Int32)) * (10 : Int32)) + x3).toNatClampNeg) + (t_least (((10 : Int32) * x3) + (x4 - x4 / (10 : Int32) * (10 : Int32))).toNatClampNeg) → B_X8_reckons_223 K_136 t_least x4) ∧ (¬ t_least x4.toNatClampNeg ≤ (t_least (((x4 / (10 : Int32)) * (10 : Int32)) + x3).toNatClampNeg) + (t_least (((10 : Int32) * x3) + (x4 - x4 / (10 : Int32) * (10 : Int32))).toNatClampNeg) → (vp_in x4 100 ∧ B_X8_reckons_223 K_136 (vp_updL t_least x4.toNatClampNeg ((t_least (((x4 / (10 : Int32)) * (10 : Int32)) + x3).toNatClampNeg) + (t_least (((10 : Int32) * x3) + (x4 - x4 / (10 : Int32) * (10 : Int32))).toNatClampNeg))) x4))))))))))))
noncomputable def L_X8_reckons_136 (K_127 : (Nat → Int64) → Int32 → Prop) (x3 : Int32) (n : Nat) : (Nat → Int64) → Int32 → Prop := Nat.rec (motive := fun _ => (Nat → Int64) → Int32 → Prop) (fun _ _ => False) (fun _ K => LB_X8_reckons_136 K_127 x3 K) n
def LB_X8_reckons_127 (post : (Nat → Int64) → Prop) (K_127 : (Nat → Int64) → Int32 → Prop) (t_least : Nat → Int64) (x3 : Int32) : Prop :=
  (((10 : Int32) ≤ x3 → post t_least) ∧ (¬ (10 : Int32) ≤ x3 → ∃ n : Nat, L_X8_reckons_136 K_127 x3 n t_least (0 : Int32)))
noncomputable def L_X8_reckons_127 (post : (Nat → Int64) → Prop) (n : Nat) : (Nat → Int64) → Int32 → Prop := Nat.rec (motive := fun _ => (Nat → Int64) → Int32 → Prop) (fun _ _ => False) (fun _ K => LB_X8_reckons_127 post K) n
def B_X8_reckons_118 (K_36 : (Nat → Int64) → Int32 → Prop) (t_least : Nat → Int64) (k1 : Int32) (l2 : Int64) (x3 : Int32) : Prop :=
  (vp_in k1 100 ∧ K_36 (vp_updL t_least k1.toNatClampNeg l2) (x3 + (1 : Int32)))
def B_X8_reckons_111 (K_36 : (Nat → Int64) → Int32 → Prop) (t_least : Nat → Int64) (k1 : Int32) (x3 : Int32) (x4 : Int32) : Prop :=
  (vp_in x4 100 ∧ B_X8_reckons_118 K_36 t_least k1 (t_least x4.toNatClampNeg) x3)
def LB_X8_reckons_36 (post : (Nat → Int64) → Prop) (t_state : Nat → Int32) (x1 : Int32) (x2 : Int32) (K_36 : (Nat → Int64) → Int32 → Prop) (t_least : Nat → Int64) (x3 : Int32) : Prop :=
  (vp_in (x1 + (104 : Int32)) 535 ∧ ((t_state (x1 + (104 : Int32)).toNatClampNeg ≤ x3 → ∃ n : Nat, L_X8_reckons_127 post n t_least (0 : Int32)) ∧ (¬ t_state (x1 + (104 : Int32)).toNatClampNeg ≤ x3 → (vp_in ((x1 + (24 : Int32)) + x3) 535 ∧ (vp_in (x1 + x3) 535 ∧ P_X8_weightOf (fun (r1 : Int64) => ((x3 = x2 → B_X8_reckons_111 K_36 t_least (((10 : Int32) * (t_state ((x1 + (24 : Int32)) + x3).toNatClampNeg)) + (t_state (x1 + x3).toNatClampNeg)) x3 (((10 : Int32) * (t_state ((x1 + (24 : Int32)) + x3).toNatClampNeg)) + (t_state (x1 + x3).toNatClampNeg))) ∧ (¬ x3 = x2 → (vp_in (((10 : Int32) * (t_state ((x1 + (24 : Int32)) + x3).toNatClampNeg)) + (t_state (x1 + x3).toNatClampNeg)) 100 ∧ ((t_least (((10 : Int32) * (t_state ((x1 + (24 : Int32)) + x3).toNatClampNeg)) + (t_state (x1 + x3).toNatClampNeg)).toNatClampNeg ≤ r1 → B_X8_reckons_111 K_36 t_least (((10 : Int32) * (t_state ((x1 + (24 : Int32)) + x3).toNatClampNeg)) + (t_state (x1 + x3).toNatClampNeg)) x3 (((10 : Int32) * (t_state ((x1 + (24 : Int32)) + x3).toNatClampNeg)) + (t_state (x1 + x3).toNatClampNeg))) ∧ (¬ t_least (((10 : Int32) * (t_state ((x1 + (24 : Int32)) + x3).toNatClampNeg)) + (t_state (x1 + x3).toNatClampNeg)).toNatClampNeg ≤ r1 → B_X8_reckons_118 K_36 t_least (((10 : Int32) * (t_state ((x1 + (24 : Int32)) + x3).toNatClampNeg)) + (t_state (x1 + x3).toNatClampNeg)) r1 x3)))))) t_state x1 x3)))))
noncomputable def L_X8_reckons_36 (post : (Nat → Int64) → Prop) (t_state : Nat → Int32) (x1 : Int32) (x2 : Int32) (n : Nat) : (Nat → Int64) → Int32 → Prop := Nat.rec (motive := fun _ => (Nat → Int64) → Int32 → Prop) (fun _ _ => False) (fun _ K => LB_X8_reckons_36 post t_state x1 x2 K) n
def B_X8_reckons_27 (K_2 : (Nat → Int64) → Int32 → Prop) (t_least : Nat → Int64) (k1 : Int32) (l2 : Int64) (x3 : Int32) : Prop :=
  (vp_in k1 100 ∧ K_2 (vp_updL t_least k1.toNatClampNeg l2) (x3 + (1 : Int32)))
def LB_X8_reckons_2 (post : (Nat → Int64) → Prop) (t_state : Nat → Int32) (x1 : Int32) (x2 : Int32) (K_2 : (Nat → Int64) → Int32 → Prop) (t_least : Nat → Int64) (x3 : Int32) : Prop :=
  (((100 : Int32) ≤ x3 → ∃ n : Nat, L_X8_reckons_36 post t_state x1 x2 n t_least (0 : Int32)) ∧ (¬ (100 : Int32) ≤ x3 → ((¬ x3 - x3 / (11 : Int32) * (11 : Int32) = 0 → B_X8_reckons_27 K_2 t_least x3 (1000000000000000000 : Int64) x3) ∧ (x3 - x3 / (11 : Int32) * (11 : Int32) = 0 → B_X8_reckons_27 K_2 t_least x3 (0 : Int64) x3))))
noncomputable def L_X8_reckons_2 (post : (Nat → Int64) → Prop) (t_state : Nat → Int32) (x1 : Int32) (x2 : Int32) (n : Nat) : (Nat → Int64) → Int32 → Prop := Nat.rec (motive := fun _ => (Nat → Int64) → Int32 → Prop) (fun _ _ => False) (fun _ K => LB_X8_reckons_2 post t_state x1 x2 K) n
def P_X8_reckons (post : (Nat → Int64) → Prop) (t_state : Nat → Int32) (t_least : Nat → Int64) (x1 : Int32) (x2 : Int32) : Prop :=
  ∃ n : Nat, L_X8_reckons_2 post t_state x1 x2 n t_least (0 : Int32)
set_option maxHeartbeats 4000000 in
set_option maxRecDepth 100000 in
theorem c_X8_reckons (l : Launch) (D : va_G) (cy : Nat → ClassId) (sz : Nat) (A_t A_t_state A_t_tape A_t_ends A_t_letters A_t_least A_t_conflicts A_t_behind A_t_placed A_t_isKept A_t_lanes A_t_lengths A_t_cells : Nat) (t_taped : Int32) (t_fault : Int32) (t_broken : Int32) (t_brokenAt : Int32) (t_spot : Int32) (t_here : Int32) (t_token : Int32) (t_value : Int32) (t_isRealTold : Int32) (t_conflictMany : Int32) (t_torn : Int32) (t_state : Nat → Int32) (t_least : Nat → Int64) (x1 : Int32) (x2 : Int32) (post : (Nat → Int64) → Prop) (h : P_X8_reckons post t_state t_least x1 x2) : Met l yX8_reckons wsX8_reckons { frames := 2, cells := 0, slots := 0, locals := 44 } (pcW D cy [(A_t, .inr (8, [.ref A_t_state, .ref A_t_tape, .int t_taped, .int t_fault, .int t_broken, .int t_brokenAt, .int t_spot, .int t_here, .int t_token, .int t_value, .int t_isRealTold, .ref A_t_ends, .ref A_t_letters, .ref A_t_least, .ref A_t_conflicts, .int t_conflictMany, .ref A_t_behind, .ref A_t_placed, .ref A_t_isKept, .ref A_t_lanes, .ref A_t_lengths, .ref A_t_cells, .int t_torn])), (A_t_state, .inl (cy 1, 535, .inl t_state)), (A_t_least, .inl (cy 2, 100, .inr (.inl t_least)))] sz [.ref A_t, .int x1, .int x2]) (va_Qv (fun (u : (Nat → Int64)) => post u) (bW D [(A_t, .inr (8, [.ref A_t_state, .ref A_t_tape, .int t_taped, .int t_fault, .int t_broken, .int t_brokenAt, .int t_spot, .int t_here, .int t_token, .int t_value, .int t_isRealTold, .ref A_t_ends, .ref A_t_letters, .ref A_t_least, .ref A_t_conflicts, .int t_conflictMany, .ref A_t_behind, .ref A_t_placed, .ref A_t_isKept, .ref A_t_lanes, .ref A_t_lengths, .ref A_t_cells, .int t_torn])), (A_t_state, .inl (cy 1, 535, .inl t_state)), (A_t_least, .inl (cy 2, 100, .inr (.inl t_least)))] sz (fun u => [(A_t, .inr (8, [.ref A_t_state, .ref A_t_tape, .int t_taped, .int t_fault, .int t_broken, .int t_brokenAt, .int t_spot, .int t_here, .int t_token, .int t_value, .int t_isRealTold, .ref A_t_ends, .ref A_t_letters, .ref A_t_least, .ref A_t_conflicts, .int t_conflictMany, .ref A_t_behind, .ref A_t_placed, .ref A_t_isKept, .ref A_t_lanes, .ref A_t_lengths, .ref A_t_cells, .int t_torn])), (A_t_state, .inl (cy 1, 535, .inl t_state)), (A_t_least, .inl (cy 2, 100, .inr (.inl u)))])) (va_A [(A_t, .inr (8, [.ref A_t_state, .ref A_t_tape, .int t_taped, .int t_fault, .int t_broken, .int t_brokenAt, .int t_spot, .int t_here, .int t_token, .int t_value, .int t_isRealTold, .ref A_t_ends, .ref A_t_letters, .ref A_t_least, .ref A_t_conflicts, .int t_conflictMany, .ref A_t_behind, .ref A_t_placed, .ref A_t_isKept, .ref A_t_lanes, .ref A_t_lengths, .ref A_t_cells, .int t_torn])), (A_t_state, .inl (cy 1, 535, .inl t_state)), (A_t_least, .inl (cy 2, 100, .inr (.inl t_least)))] sz)) 0 0 (va_A [(A_t, .inr (8, [.ref A_t_state, .ref A_t_tape, .int t_taped, .int t_fault, .int t_broken, .int t_brokenAt, .int t_spot, .int t_here, .int t_token, .int t_value, .int t_isRealTold, .ref A_t_ends, .ref A_t_letters, .ref A_t_least, .ref A_t_conflicts, .int t_conflictMany, .ref A_t_behind, .ref A_t_placed, .ref A_t_isKept, .ref A_t_lanes, .ref A_t_lengths, .ref A_t_cells, .int t_torn])), (A_t_state, .inl (cy 1, 535, .inl t_state)), (A_t_least, .inl (cy 2, 100, .inr (.inl t_least)))] sz) := by
  refine Met.ofW (cc := cX8_reckons) (maxL := 9) (ret := none) (by decide) rfl ?_
  intro p e s m args below meth c s₁ B hml hv
  obtain ⟨rfl, hsz, hP, hK, hD0⟩ := hv
  have hx := B.exec
  have hb := B.bytes
  have hr := B.returns
  have hts := atoms_spec (ws := wsX8_reckons) B.pre
  have hown : s.vm.findClass RX8 = some m.cls := findClass_of_methodNamed B.named
  have hlocks := B.notSynchronized
  have CF : CallFix p m c cX8_reckons 9 s ([.ref A_t, .int x1, .int x2] : List Value).toArray wsX8_reckons RX8 := ⟨hx, hb, hml, hown, hts⟩
  have f0 := hts (.fieldLink RX8 7 "GapBoundsModel" "state" "[I") (by decide +kernel)
  have f1 := hts (.fieldLink RX8 22 "GapBoundsModel" "least" "[J") (by decide +kernel)
  have f2 := hts (.constantLong RX8 151 (1000000000000000000)) (by decide +kernel)
  have iX8 : ∀ w ∈ u_ws RX8 TX8 23, w ∈ wsX8_reckons := by decide +kernel
  subst hsz
  obtain ⟨A, hAe⟩ : ∃ A, A = va_A [(A_t, .inr (8, [.ref A_t_state, .ref A_t_tape, .int t_taped, .int t_fault, .int t_broken, .int t_brokenAt, .int t_spot, .int t_here, .int t_token, .int t_value, .int t_isRealTold, .ref A_t_ends, .ref A_t_letters, .ref A_t_least, .ref A_t_conflicts, .int t_conflictMany, .ref A_t_behind, .ref A_t_placed, .ref A_t_isKept, .ref A_t_lanes, .ref A_t_lengths, .ref A_t_cells, .int t_torn])), (A_t_state, .inl (cy 1, 535, .inl t_state)), (A_t_least, .inl (cy 2, 100, .inr (.inl t_least)))] s.heap.size := ⟨_, rfl⟩
  have hD : va_D A [(A_t, .inr (8, [.ref A_t_state, .ref A_t_tape, .int t_taped, .int t_fault, .int t_broken, .int t_brokenAt, .int t_spot, .int t_here, .int t_token, .int t_value, .int t_isRealTold, .ref A_t_ends, .ref A_t_letters, .ref A_t_least, .ref A_t_conflicts, .int t_conflictMany, .ref A_t_behind, .ref A_t_placed, .ref A_t_isKept, .ref A_t_lanes, .ref A_t_lengths, .ref A_t_cells, .int t_torn])), (A_t_state, .inl (cy 1, 535, .inl t_state)), (A_t_least, .inl (cy 2, 100, .inr (.inl t_least)))] := by rw [hAe]; exact hD0.self
  have hA : ∀ q : Nat, s.heap.size ≤ q → A q := fun q hq => by rw [hAe]; exact Or.inr hq
  have hS : va_S A s.heap s.heap [] := va_S.rf
  have hl := lv_entry [.ref A_t, .int x1, .int x2] (n := 9) (Nat.le_of_ble_eq_true rfl)
  rw [lg_entry_eq]
  generalize (lg_sl [.ref A_t, .int x1, .int x2] ++ List.replicate (9 - (lg_sl [.ref A_t, .int x1, .int x2]).length) Slot.unset).toArray = ls at hl ⊢
  have hl : lv_has ls 9 [(0, .ref A_t), (1, .int x1), (2, .int x2)] := hl
  refine W.gen (fun Q0 hQ => ?_)
  have L127 : ∀ (n127 : Nat) (t_least : Nat → Int64) (x3 : Int32) (H : Heap) (locs : List Loc) (ls : Array Slot), L_X8_reckons_127 post n127 t_least x3 → va_P D vwCl [(A_t, .inr (8, [.ref A_t_state, .ref A_t_tape, .int t_taped, .int t_fault, .int t_broken, .int t_brokenAt, .int t_spot, .int t_here, .int t_token, .int t_value, .int t_isRealTold, .ref A_t_ends, .ref A_t_letters, .ref A_t_least, .ref A_t_conflicts, .int t_conflictMany, .ref A_t_behind, .ref A_t_placed, .ref A_t_isKept, .ref A_t_lanes, .ref A_t_lengths, .ref A_t_cells, .int t_torn])), (A_t_state, .inl (cy 1, 535, .inl t_state)), (A_t_least, .inl (cy 2, 100, .inr (.inl t_least)))] H → va_D A [(A_t, .inr (8, [.ref A_t_state, .ref A_t_tape, .int t_taped, .int t_fault, .int t_broken, .int t_brokenAt, .int t_spot, .int t_here, .int t_token, .int t_value, .int t_isRealTold, .ref A_t_ends, .ref A_t_letters, .ref A_t_least, .ref A_t_conflicts, .int t_conflictMany, .ref A_t_behind, .ref A_t_placed, .ref A_t_isKept, .ref A_t_lanes, .ref A_t_lengths, .ref A_t_cells, .int t_torn])), (A_t_state, .inl (cy 1, 535, .inl t_state)), (A_t_least, .inl (cy 2, 100, .inr (.inl t_least)))] → va_S A s.heap H locs → lv_has ls 9 [(0, .ref A_t), (3, .int x3)] → W p l e (headSpec wsX8_reckons { frames := 2, cells := 0, slots := 0, locals := 44 }).room s m ([.ref A_t, .int x1, .int x2] : List Value).toArray below meth c H locs 0 0 Q0 (F0 m 127 ls []) := by
    intro n127
    induction n127 with
    | zero => intro t_least x3 H locs ls h; exact False.elim h
    | succ n127 ih127 =>
      intro t_least x3 H locs ls h hP hD hS hl
      have h : LB_X8_reckons_127 post (L_X8_reckons_127 post n127) t_least x3 := h
      unfold LB_X8_reckons_127 at h
      have L136 : ∀ (n136 : Nat) (t_least : Nat → Int64) (x3 : Int32) (x4 : Int32) (H : Heap) (locs : List Loc) (ls : Array Slot), L_X8_reckons_136 (L_X8_reckons_127 post n127) x3 n136 t_least x4 → va_P D vwCl [(A_t, .inr (8, [.ref A_t_state, .ref A_t_tape, .int t_taped, .int t_fault, .int t_broken, .int t_brokenAt, .int t_spot, .int t_here, .int t_token, .int t_value, .int t_isRealTold, .ref A_t_ends, .ref A_t_letters, .ref A_t_least, .ref A_t_conflicts, .int t_conflictMany, .ref A_t_behind, .ref A_t_placed, .ref A_t_isKept, .ref A_t_lanes, .ref A_t_lengths, .ref A_t_cells, .int t_torn])), (A_t_state, .inl (cy 1, 535, .inl t_state)), (A_t_least, .inl (cy 2, 100, .inr (.inl t_least)))] H → va_D A [(A_t, .inr (8, [.ref A_t_state, .ref A_t_tape, .int t_taped, .int t_fault, .int t_broken, .int t_brokenAt, .int t_spot, .int t_here, .int t_token, .int t_value, .int t_isRealTold, .ref A_t_ends, .ref A_t_letters, .ref A_t_least, .ref A_t_conflicts, .int t_conflictMany, .ref A_t_behind, .ref A_t_placed, .ref A_t_isKept, .ref A_t_lanes, .ref A_t_lengths, .ref A_t_cells, .int t_torn])), (A_t_state, .inl (cy 1, 535, .inl t_state)), (A_t_least, .inl (cy 2, 100, .inr (.inl t_least)))] → va_S A s.heap H locs → lv_has ls 9 [(0, .ref A_t), (3, .int x3), (4, .int x4)] → W p l e (headSpec wsX8_reckons { frames := 2, cells := 0, slots := 0, locals := 44 }).room s m ([.ref A_t, .int x1, .int x2] : List Value).toArray below meth c H locs 0 0 Q0 (F0 m 136 ls []) := by
        intro n136
        induction n136 with
        | zero => intro t_least x3 x4 H locs ls h; exact False.elim h
        | succ n136 ih136 =>
          intro t_least x3 x4 H locs ls h hP hD hS hl
          have h : LB_X8_reckons_136 (L_X8_reckons_127 post n127) x3 (L_X8_reckons_136 (L_X8_reckons_127 post n127) x3 n136) t_least x4 := h
          unfold LB_X8_reckons_136 at h
          have J223 : ∀ (t_least : Nat → Int64) (x3 : Int32) (x4 : Int32) (H : Heap) (locs : List Loc) (ls : Array Slot), B_X8_reckons_223 (L_X8_reckons_136 (L_X8_reckons_127 post n127) x3 n136) t_least x4 → va_P D vwCl [(A_t, .inr (8, [.ref A_t_state, .ref A_t_tape, .int t_taped, .int t_fault, .int t_broken, .int t_brokenAt, .int t_spot, .int t_here, .int t_token, .int t_value, .int t_isRealTold, .ref A_t_ends, .ref A_t_letters, .ref A_t_least, .ref A_t_conflicts, .int t_conflictMany, .ref A_t_behind, .ref A_t_placed, .ref A_t_isKept, .ref A_t_lanes, .ref A_t_lengths, .ref A_t_cells, .int t_torn])), (A_t_state, .inl (cy 1, 535, .inl t_state)), (A_t_least, .inl (cy 2, 100, .inr (.inl t_least)))] H → va_D A [(A_t, .inr (8, [.ref A_t_state, .ref A_t_tape, .int t_taped, .int t_fault, .int t_broken, .int t_brokenAt, .int t_spot, .int t_here, .int t_token, .int t_value, .int t_isRealTold, .ref A_t_ends, .ref A_t_letters, .ref A_t_least, .ref A_t_conflicts, .int t_conflictMany, .ref A_t_behind, .ref A_t_placed, .ref A_t_isKept, .ref A_t_lanes, .ref A_t_lengths, .ref A_t_cells, .int t_torn])), (A_t_state, .inl (cy 1, 535, .inl t_state)), (A_t_least, .inl (cy 2, 100, .inr (.inl t_least)))] → va_S A s.heap H locs → lv_has ls 9 [(0, .ref A_t), (3, .int x3), (4, .int x4)] → W p l e (headSpec wsX8_reckons { frames := 2, cells := 0, slots := 0, locals := 44 }).room s m ([.ref A_t, .int x1, .int x2] : List Value).toArray below meth c H locs 0 0 Q0 (F0 m 223 ls []) := by
            intro t_least x3 x4 H locs ls h hP hD hS hl
            unfold B_X8_reckons_223 at h
            refine lv_iinc (v := x4 + (1 : Int32)) (lv' := [(4, .int (x4 + (1 : Int32))), (0, .ref A_t), (3, .int x3)]) hx hb dX8_reckons_223 hl (k := 2) rfl rfl (by decide) rfl (fun ls hl => ?_)
            refine lv_goto (tgt := 136) hx hb dX8_reckons_226 (by decide) ?_
            exact ih136 t_least x3 (x4 + (1 : Int32)) H locs ls h hP hD hS (lv_sub hl [1, 2, 0] rfl)
          refine lv_iload hx hb dX8_reckons_136 (lv_at hl 2 rfl) ?_
          refine lv_bipush (v := 100) hx hb dX8_reckons_138 (by decide) ?_
          refine lv_icmp_ge (tgt := 229) hx hb dX8_reckons_140 (by decide) (fun hc => ?_) (fun hc => ?_)
          · replace h := h.1 hc
            refine lv_iinc (v := x3 + (1 : Int32)) (lv' := [(3, .int (x3 + (1 : Int32))), (0, .ref A_t), (4, .int x4)]) hx hb dX8_reckons_229 hl (k := 1) rfl rfl (by decide) rfl (fun ls hl => ?_)
            refine lv_goto (tgt := 127) hx hb dX8_reckons_232 (by decide) ?_
            exact ih127 t_least (x3 + (1 : Int32)) H locs ls h hP hD hS (lv_sub hl [1, 0] rfl)
          · replace h := h.2 hc
            refine lv_aload_n hx hb dX8_reckons_143 rfl (lv_at hl 0 rfl) ?_
            refine va_get (D := D) (ci := 8) (v := .ref A_t_least) (C := RX8) (T := TX8) (N := 23) hx hb hts iX8 hown hK.1 hP 0 rfl rfl 13 (by decide) f1 (fun _ h9 => h9) rfl dX8_reckons_144 ?_
            refine lv_iload hx hb dX8_reckons_147 (lv_at hl 2 rfl) ?_
            refine lv_bipush (v := 10) hx hb dX8_reckons_149 (by decide) ?_
            refine lv_idiv hx hb dX8_reckons_151 (by decide) ?_
            refine lv_bipush (v := 10) hx hb dX8_reckons_152 (by decide) ?_
            refine lv_imul hx hb dX8_reckons_154 ?_
            refine lv_iload_n hx hb dX8_reckons_155 rfl (lv_at hl 1 rfl) ?_
            refine lv_iadd hx hb dX8_reckons_156 ?_
            refine va_lald hx hb hK.1 hP 2 2 rfl rfl h.1 dX8_reckons_157 ?_
            replace h := h.2
            refine lv_lstore (lv' := [(5, .long (t_least (((x4 / (10 : Int32)) * (10 : Int32)) + x3).toNatClampNeg)), (0, .ref A_t), (3, .int x3), (4, .int x4)]) hx hb dX8_reckons_158 hl (by decide) rfl (fun ls hl => ?_)
            refine lv_aload_n hx hb dX8_reckons_160 rfl (lv_at hl 1 rfl) ?_
            refine va_get (D := D) (ci := 8) (v := .ref A_t_least) (C := RX8) (T := TX8) (N := 23) hx hb hts iX8 hown hK.1 hP 0 rfl rfl 13 (by decide) f1 (fun _ h9 => h9) rfl dX8_reckons_161 ?_
            refine lv_bipush (v := 10) hx hb dX8_reckons_164 (by decide) ?_
            refine lv_iload_n hx hb dX8_reckons_166 rfl (lv_at hl 2 rfl) ?_
            refine lv_imul hx hb dX8_reckons_167 ?_
            refine lv_iload hx hb dX8_reckons_168 (lv_at hl 3 rfl) ?_
            refine lv_bipush (v := 10) hx hb dX8_reckons_170 (by decide) ?_
            refine lv_irem hx hb dX8_reckons_172 (by decide) ?_
            refine lv_iadd hx hb dX8_reckons_173 ?_
            refine va_lald hx hb hK.1 hP 2 2 rfl rfl h.1 dX8_reckons_174 ?_
            replace h := h.2
            refine lv_lstore (lv' := [(7, .long (t_least (((10 : Int32) * x3) + (x4 - x4 / (10 : Int32) * (10 : Int32))).toNatClampNeg)), (5, .long (t_least (((x4 / (10 : Int32)) * (10 : Int32)) + x3).toNatClampNeg)), (0, .ref A_t), (3, .int x3), (4, .int x4)]) hx hb dX8_reckons_175 hl (by decide) rfl (fun ls hl => ?_)
            refine lv_lload hx hb dX8_reckons_177 (lv_at hl 1 rfl) ?_
            refine lv_ldc2 (v := 1000000000000000000) hx hb hown f2 dX8_reckons_179 ?_
            refine lx_ge (tgt := 223) hx hb dX8_reckons_182 dX8_reckons_183 (by decide) (fun hc => ?_) (fun hc => ?_)
            · replace h := h.1 hc
              exact J223 t_least x3 x4 H locs ls h hP hD hS (lv_sub hl [2, 3, 4] rfl)
            · replace h := h.2 hc
              refine lv_lload hx hb dX8_reckons_186 (lv_at hl 0 rfl) ?_
              refine lv_ldc2 (v := 1000000000000000000) hx hb hown f2 dX8_reckons_188 ?_
              refine lx_ge (tgt := 223) hx hb dX8_reckons_191 dX8_reckons_192 (by decide) (fun hc => ?_) (fun hc => ?_)
              · replace h := h.1 hc
                exact J223 t_least x3 x4 H locs ls h hP hD hS (lv_sub hl [2, 3, 4] rfl)
              · replace h := h.2 hc
                refine lv_lload hx hb dX8_reckons_195 (lv_at hl 1 rfl) ?_
                refine lv_lload hx hb dX8_reckons_197 (lv_at hl 0 rfl) ?_
                refine lv_ladd hx hb dX8_reckons_199 ?_
                refine lv_aload_n hx hb dX8_reckons_200 rfl (lv_at hl 2 rfl) ?_
                refine va_get (D := D) (ci := 8) (v := .ref A_t_least) (C := RX8) (T := TX8) (N := 23) hx hb hts iX8 hown hK.1 hP 0 rfl rfl 13 (by decide) f1 (fun _ h9 => h9) rfl dX8_reckons_201 ?_
                refine lv_iload hx hb dX8_reckons_204 (lv_at hl 4 rfl) ?_
                refine va_lald hx hb hK.1 hP 2 2 rfl rfl h.1 dX8_reckons_206 ?_
                replace h := h.2
                refine lx_ge (tgt := 223) hx hb dX8_reckons_207 dX8_reckons_208 (by decide) (fun hc => ?_) (fun hc => ?_)
                · replace h := h.1 hc
                  exact J223 t_least x3 x4 H locs ls h hP hD hS (lv_sub hl [2, 3, 4] rfl)
                · replace h := h.2 hc
                  refine lv_aload_n hx hb dX8_reckons_211 rfl (lv_at hl 2 rfl) ?_
                  refine va_get (D := D) (ci := 8) (v := .ref A_t_least) (C := RX8) (T := TX8) (N := 23) hx hb hts iX8 hown hK.1 hP 0 rfl rfl 13 (by decide) f1 (fun _ h9 => h9) rfl dX8_reckons_212 ?_
                  refine lv_iload hx hb dX8_reckons_215 (lv_at hl 4 rfl) ?_
                  refine lv_lload hx hb dX8_reckons_217 (lv_at hl 1 rfl) ?_
                  refine lv_lload hx hb dX8_reckons_219 (lv_at hl 0 rfl) ?_
                  refine lv_ladd hx hb dX8_reckons_221 ?_
                  refine va_last hx hb hK.1 hP hD hS 2 2 rfl rfl h.1 dX8_reckons_222 (fun H locs hP hD hS => ?_)
                  replace h := h.2
                  have hP : va_P D vwCl [(A_t, .inr (8, [.ref A_t_state, .ref A_t_tape, .int t_taped, .int t_fault, .int t_broken, .int t_brokenAt, .int t_spot, .int t_here, .int t_token, .int t_value, .int t_isRealTold, .ref A_t_ends, .ref A_t_letters, .ref A_t_least, .ref A_t_conflicts, .int t_conflictMany, .ref A_t_behind, .ref A_t_placed, .ref A_t_isKept, .ref A_t_lanes, .ref A_t_lengths, .ref A_t_cells, .int t_torn])), (A_t_state, .inl (cy 1, 535, .inl t_state)), (A_t_least, .inl (cy 2, 100, .inr (.inl (vp_updL t_least x4.toNatClampNeg ((t_least (((x4 / (10 : Int32)) * (10 : Int32)) + x3).toNatClampNeg) + (t_least (((10 : Int32) * x3) + (x4 - x4 / (10 : Int32) * (10 : Int32))).toNatClampNeg))))))] H := hP
                  have hD : va_D A [(A_t, .inr (8, [.ref A_t_state, .ref A_t_tape, .int t_taped, .int t_fault, .int t_broken, .int t_brokenAt, .int t_spot, .int t_here, .int t_token, .int t_value, .int t_isRealTold, .ref A_t_ends, .ref A_t_letters, .ref A_t_least, .ref A_t_conflicts, .int t_conflictMany, .ref A_t_behind, .ref A_t_placed, .ref A_t_isKept, .ref A_t_lanes, .ref A_t_lengths, .ref A_t_cells, .int t_torn])), (A_t_state, .inl (cy 1, 535, .inl t_state)), (A_t_least, .inl (cy 2, 100, .inr (.inl (vp_updL t_least x4.toNatClampNeg ((t_least (((x4 / (10 : Int32)) * (10 : Int32)) + x3).toNatClampNeg) + (t_least (((10 : Int32) * x3) + (x4 - x4 / (10 : Int32) * (10 : Int32))).toNatClampNeg))))))] := hD
                  exact J223 (vp_updL t_least x4.toNatClampNeg ((t_least (((x4 / (10 : Int32)) * (10 : Int32)) + x3).toNatClampNeg) + (t_least (((10 : Int32) * x3) + (x4 - x4 / (10 : Int32) * (10 : Int32))).toNatClampNeg))) x3 x4 H locs ls h hP hD hS (lv_sub hl [2, 3, 4] rfl)
      refine lv_iload_n hx hb dX8_reckons_127 rfl (lv_at hl 1 rfl) ?_
      refine lv_bipush (v := 10) hx hb dX8_reckons_128 (by decide) ?_
      refine lv_icmp_ge (tgt := 235) hx hb dX8_reckons_130 (by decide) (fun hc => ?_) (fun hc => ?_)
      · replace h := h.1 hc
        subst hQ
        subst hAe
        exact W.vret hx hb hr (fun t ht _ => ⟨⟨t_least, rfl, h, by rw [ht]; exact hP, hD⟩, hS.F ht⟩) hS.2.2 dX8_reckons_235
      · replace h := h.2 hc
        refine lv_iconst (v := 0) hx hb dX8_reckons_133 (by decide) ?_
        refine lv_istore (lv' := [(4, .int (0 : Int32)), (0, .ref A_t), (3, .int x3)]) hx hb dX8_reckons_134 hl (by decide) rfl (fun ls hl => ?_)
        obtain ⟨nn, h⟩ := h
        exact L136 nn t_least x3 (0 : Int32) H locs ls h hP hD hS (lv_sub hl [1, 2, 0] rfl)
  have L36 : ∀ (n36 : Nat) (t_least : Nat → Int64) (x3 : Int32) (H : Heap) (locs : List Loc) (ls : Array Slot), L_X8_reckons_36 post t_state x1 x2 n36 t_least x3 → va_P D vwCl [(A_t, .inr (8, [.ref A_t_state, .ref A_t_tape, .int t_taped, .int t_fault, .int t_broken, .int t_brokenAt, .int t_spot, .int t_here, .int t_token, .int t_value, .int t_isRealTold, .ref A_t_ends, .ref A_t_letters, .ref A_t_least, .ref A_t_conflicts, .int t_conflictMany, .ref A_t_behind, .ref A_t_placed, .ref A_t_isKept, .ref A_t_lanes, .ref A_t_lengths, .ref A_t_cells, .int t_torn])), (A_t_state, .inl (cy 1, 535, .inl t_state)), (A_t_least, .inl (cy 2, 100, .inr (.inl t_least)))] H → va_D A [(A_t, .inr (8, [.ref A_t_state, .ref A_t_tape, .int t_taped, .int t_fault, .int t_broken, .int t_brokenAt, .int t_spot, .int t_here, .int t_token, .int t_value, .int t_isRealTold, .ref A_t_ends, .ref A_t_letters, .ref A_t_least, .ref A_t_conflicts, .int t_conflictMany, .ref A_t_behind, .ref A_t_placed, .ref A_t_isKept, .ref A_t_lanes, .ref A_t_lengths, .ref A_t_cells, .int t_torn])), (A_t_state, .inl (cy 1, 535, .inl t_state)), (A_t_least, .inl (cy 2, 100, .inr (.inl t_least)))] → va_S A s.heap H locs → lv_has ls 9 [(0, .ref A_t), (1, .int x1), (2, .int x2), (3, .int x3)] → W p l e (headSpec wsX8_reckons { frames := 2, cells := 0, slots := 0, locals := 44 }).room s m ([.ref A_t, .int x1, .int x2] : List Value).toArray below meth c H locs 0 0 Q0 (F0 m 36 ls []) := by
    intro n36
    induction n36 with
    | zero => intro t_least x3 H locs ls h; exact False.elim h
    | succ n36 ih36 =>
      intro t_least x3 H locs ls h hP hD hS hl
      have h : LB_X8_reckons_36 post t_state x1 x2 (L_X8_reckons_36 post t_state x1 x2 n36) t_least x3 := h
      unfold LB_X8_reckons_36 at h
      have J118 : ∀ (t_least : Nat → Int64) (x3 : Int32) (k1 : Int32) (l2 : Int64) (H : Heap) (locs : List Loc) (ls : Array Slot), B_X8_reckons_118 (L_X8_reckons_36 post t_state x1 x2 n36) t_least k1 l2 x3 → va_P D vwCl [(A_t, .inr (8, [.ref A_t_state, .ref A_t_tape, .int t_taped, .int t_fault, .int t_broken, .int t_brokenAt, .int t_spot, .int t_here, .int t_token, .int t_value, .int t_isRealTold, .ref A_t_ends, .ref A_t_letters, .ref A_t_least, .ref A_t_conflicts, .int t_conflictMany, .ref A_t_behind, .ref A_t_placed, .ref A_t_isKept, .ref A_t_lanes, .ref A_t_lengths, .ref A_t_cells, .int t_torn])), (A_t_state, .inl (cy 1, 535, .inl t_state)), (A_t_least, .inl (cy 2, 100, .inr (.inl t_least)))] H → va_D A [(A_t, .inr (8, [.ref A_t_state, .ref A_t_tape, .int t_taped, .int t_fault, .int t_broken, .int t_brokenAt, .int t_spot, .int t_here, .int t_token, .int t_value, .int t_isRealTold, .ref A_t_ends, .ref A_t_letters, .ref A_t_least, .ref A_t_conflicts, .int t_conflictMany, .ref A_t_behind, .ref A_t_placed, .ref A_t_isKept, .ref A_t_lanes, .ref A_t_lengths, .ref A_t_cells, .int t_torn])), (A_t_state, .inl (cy 1, 535, .inl t_state)), (A_t_least, .inl (cy 2, 100, .inr (.inl t_least)))] → va_S A s.heap H locs → lv_has ls 9 [(0, .ref A_t), (1, .int x1), (2, .int x2), (3, .int x3)] → W p l e (headSpec wsX8_reckons { frames := 2, cells := 0, slots := 0, locals := 44 }).room s m ([.ref A_t, .int x1, .int x2] : List Value).toArray below meth c H locs 0 0 Q0 (F0 m 118 ls [.long l2, .int k1, .ref A_t_least]) := by
        intro t_least x3 k1 l2 H locs ls h hP hD hS hl
        unfold B_X8_reckons_118 at h
        refine va_last hx hb hK.1 hP hD hS 2 2 rfl rfl h.1 dX8_reckons_118 (fun H locs hP hD hS => ?_)
        replace h := h.2
        have hP : va_P D vwCl [(A_t, .inr (8, [.ref A_t_state, .ref A_t_tape, .int t_taped, .int t_fault, .int t_broken, .int t_brokenAt, .int t_spot, .int t_here, .int t_token, .int t_value, .int t_isRealTold, .ref A_t_ends, .ref A_t_letters, .ref A_t_least, .ref A_t_conflicts, .int t_conflictMany, .ref A_t_behind, .ref A_t_placed, .ref A_t_isKept, .ref A_t_lanes, .ref A_t_lengths, .ref A_t_cells, .int t_torn])), (A_t_state, .inl (cy 1, 535, .inl t_state)), (A_t_least, .inl (cy 2, 100, .inr (.inl (vp_updL t_least k1.toNatClampNeg l2))))] H := hP
        have hD : va_D A [(A_t, .inr (8, [.ref A_t_state, .ref A_t_tape, .int t_taped, .int t_fault, .int t_broken, .int t_brokenAt, .int t_spot, .int t_here, .int t_token, .int t_value, .int t_isRealTold, .ref A_t_ends, .ref A_t_letters, .ref A_t_least, .ref A_t_conflicts, .int t_conflictMany, .ref A_t_behind, .ref A_t_placed, .ref A_t_isKept, .ref A_t_lanes, .ref A_t_lengths, .ref A_t_cells, .int t_torn])), (A_t_state, .inl (cy 1, 535, .inl t_state)), (A_t_least, .inl (cy 2, 100, .inr (.inl (vp_updL t_least k1.toNatClampNeg l2))))] := hD
        refine lv_iinc (v := x3 + (1 : Int32)) (lv' := [(3, .int (x3 + (1 : Int32))), (0, .ref A_t), (1, .int x1), (2, .int x2)]) hx hb dX8_reckons_119 hl (k := 3) rfl rfl (by decide) rfl (fun ls hl => ?_)
        refine lv_goto (tgt := 36) hx hb dX8_reckons_122 (by decide) ?_
        exact ih36 (vp_updL t_least k1.toNatClampNeg l2) (x3 + (1 : Int32)) H locs ls h hP hD hS (lv_sub hl [1, 2, 3, 0] rfl)
      have J111 : ∀ (t_least : Nat → Int64) (x3 : Int32) (x4 : Int32) (k1 : Int32) (H : Heap) (locs : List Loc) (ls : Array Slot), B_X8_reckons_111 (L_X8_reckons_36 post t_state x1 x2 n36) t_least k1 x3 x4 → va_P D vwCl [(A_t, .inr (8, [.ref A_t_state, .ref A_t_tape, .int t_taped, .int t_fault, .int t_broken, .int t_brokenAt, .int t_spot, .int t_here, .int t_token, .int t_value, .int t_isRealTold, .ref A_t_ends, .ref A_t_letters, .ref A_t_least, .ref A_t_conflicts, .int t_conflictMany, .ref A_t_behind, .ref A_t_placed, .ref A_t_isKept, .ref A_t_lanes, .ref A_t_lengths, .ref A_t_cells, .int t_torn])), (A_t_state, .inl (cy 1, 535, .inl t_state)), (A_t_least, .inl (cy 2, 100, .inr (.inl t_least)))] H → va_D A [(A_t, .inr (8, [.ref A_t_state, .ref A_t_tape, .int t_taped, .int t_fault, .int t_broken, .int t_brokenAt, .int t_spot, .int t_here, .int t_token, .int t_value, .int t_isRealTold, .ref A_t_ends, .ref A_t_letters, .ref A_t_least, .ref A_t_conflicts, .int t_conflictMany, .ref A_t_behind, .ref A_t_placed, .ref A_t_isKept, .ref A_t_lanes, .ref A_t_lengths, .ref A_t_cells, .int t_torn])), (A_t_state, .inl (cy 1, 535, .inl t_state)), (A_t_least, .inl (cy 2, 100, .inr (.inl t_least)))] → va_S A s.heap H locs → lv_has ls 9 [(0, .ref A_t), (1, .int x1), (2, .int x2), (3, .int x3), (4, .int x4)] → W p l e (headSpec wsX8_reckons { frames := 2, cells := 0, slots := 0, locals := 44 }).room s m ([.ref A_t, .int x1, .int x2] : List Value).toArray below meth c H locs 0 0 Q0 (F0 m 111 ls [.int k1, .ref A_t_least]) := by
        intro t_least x3 x4 k1 H locs ls h hP hD hS hl
        unfold B_X8_reckons_111 at h
        refine lv_aload_n hx hb dX8_reckons_111 rfl (lv_at hl 0 rfl) ?_
        refine va_get (D := D) (ci := 8) (v := .ref A_t_least) (C := RX8) (T := TX8) (N := 23) hx hb hts iX8 hown hK.1 hP 0 rfl rfl 13 (by decide) f1 (fun _ h9 => h9) rfl dX8_reckons_112 ?_
        refine lv_iload hx hb dX8_reckons_115 (lv_at hl 4 rfl) ?_
        refine va_lald hx hb hK.1 hP 2 2 rfl rfl h.1 dX8_reckons_117 ?_
        replace h := h.2
        exact J118 t_least x3 k1 (t_least x4.toNatClampNeg) H locs ls h hP hD hS (lv_sub hl [0, 1, 2, 3] rfl)
      refine lv_iload_n hx hb dX8_reckons_36 rfl (lv_at hl 3 rfl) ?_
      refine lv_aload_n hx hb dX8_reckons_37 rfl (lv_at hl 0 rfl) ?_
      refine va_get (D := D) (ci := 8) (v := .ref A_t_state) (C := RX8) (T := TX8) (N := 23) hx hb hts iX8 hown hK.1 hP 0 rfl rfl 0 (by decide) f0 (fun _ h9 => h9) rfl dX8_reckons_38 ?_
      refine lv_iload_n hx hb dX8_reckons_41 rfl (lv_at hl 1 rfl) ?_
      refine lv_bipush (v := 104) hx hb dX8_reckons_42 (by decide) ?_
      refine lv_iadd hx hb dX8_reckons_44 ?_
      refine va_iald hx hb hK.1 hP 1 1 rfl rfl h.1 dX8_reckons_45 ?_
      replace h := h.2
      refine lv_icmp_ge (tgt := 125) hx hb dX8_reckons_46 (by decide) (fun hc => ?_) (fun hc => ?_)
      · replace h := h.1 hc
        refine lv_iconst (v := 0) hx hb dX8_reckons_125 (by decide) ?_
        refine lv_istore_n (lv' := [(3, .int (0 : Int32)), (0, .ref A_t), (1, .int x1), (2, .int x2)]) hx hb dX8_reckons_126 rfl hl (by decide) rfl (fun ls hl => ?_)
        obtain ⟨nn, h⟩ := h
        exact L127 nn t_least (0 : Int32) H locs ls h hP hD hS (lv_sub hl [1, 0] rfl)
      · replace h := h.2 hc
        refine lv_bipush (v := 10) hx hb dX8_reckons_49 (by decide) ?_
        refine lv_aload_n hx hb dX8_reckons_51 rfl (lv_at hl 0 rfl) ?_
        refine va_get (D := D) (ci := 8) (v := .ref A_t_state) (C := RX8) (T := TX8) (N := 23) hx hb hts iX8 hown hK.1 hP 0 rfl rfl 0 (by decide) f0 (fun _ h9 => h9) rfl dX8_reckons_52 ?_
        refine lv_iload_n hx hb dX8_reckons_55 rfl (lv_at hl 1 rfl) ?_
        refine lv_bipush (v := 24) hx hb dX8_reckons_56 (by decide) ?_
        refine lv_iadd hx hb dX8_reckons_58 ?_
        refine lv_iload_n hx hb dX8_reckons_59 rfl (lv_at hl 3 rfl) ?_
        refine lv_iadd hx hb dX8_reckons_60 ?_
        refine va_iald hx hb hK.1 hP 1 1 rfl rfl h.1 dX8_reckons_61 ?_
        replace h := h.2
        refine lv_imul hx hb dX8_reckons_62 ?_
        refine lv_aload_n hx hb dX8_reckons_63 rfl (lv_at hl 0 rfl) ?_
        refine va_get (D := D) (ci := 8) (v := .ref A_t_state) (C := RX8) (T := TX8) (N := 23) hx hb hts iX8 hown hK.1 hP 0 rfl rfl 0 (by decide) f0 (fun _ h9 => h9) rfl dX8_reckons_64 ?_
        refine lv_iload_n hx hb dX8_reckons_67 rfl (lv_at hl 1 rfl) ?_
        refine lv_iload_n hx hb dX8_reckons_68 rfl (lv_at hl 3 rfl) ?_
        refine lv_iadd hx hb dX8_reckons_69 ?_
        refine va_iald hx hb hK.1 hP 1 1 rfl rfl h.1 dX8_reckons_70 ?_
        replace h := h.2
        refine lv_iadd hx hb dX8_reckons_71 ?_
        refine lv_istore (lv' := [(4, .int (((10 : Int32) * (t_state ((x1 + (24 : Int32)) + x3).toNatClampNeg)) + (t_state (x1 + x3).toNatClampNeg))), (0, .ref A_t), (1, .int x1), (2, .int x2), (3, .int x3)]) hx hb dX8_reckons_72 hl (by decide) rfl (fun ls hl => ?_)
        refine lv_aload_n hx hb dX8_reckons_74 rfl (lv_at hl 1 rfl) ?_
        refine lv_iload_n hx hb dX8_reckons_75 rfl (lv_at hl 2 rfl) ?_
        refine lv_iload_n hx hb dX8_reckons_76 rfl (lv_at hl 4 rfl) ?_
        have hPc := hP.sub (ws' := [(A_t, .inr (8, [.ref A_t_state, .ref A_t_tape, .int t_taped, .int t_fault, .int t_broken, .int t_brokenAt, .int t_spot, .int t_here, .int t_token, .int t_value, .int t_isRealTold, .ref A_t_ends, .ref A_t_letters, .ref A_t_least, .ref A_t_conflicts, .int t_conflictMany, .ref A_t_behind, .ref A_t_placed, .ref A_t_isKept, .ref A_t_lanes, .ref A_t_lengths, .ref A_t_cells, .int t_torn])), (A_t_state, .inl (cy 1, 535, .inl t_state))]) [0, 1] rfl
        refine vp_callSl (W.runV (As := [.int x1, .int x3]) (rest := []) CF (c_X8_weightOf l D cy A_t A_t_state A_t_tape A_t_ends A_t_letters A_t_least A_t_conflicts A_t_behind A_t_placed A_t_isKept A_t_lanes A_t_lengths A_t_cells t_taped t_fault t_broken t_brokenAt t_spot t_here t_token t_value t_isRealTold t_conflictMany t_torn t_state x1 x3 _ h) (cwV 2 hts gX8_reckons_X8_weightOf rfl rfl rfl qX8_weightOf ⟨Nat.le_of_ble_eq_true rfl, Nat.le_of_ble_eq_true rfl⟩) (mpVR hK hPc (ci := 8) (q := (RX8, TX8, 23)) (q0 := 0) rfl rfl) rfl rfl hl.1 rfl (lv_room (Nat.le_of_ble_eq_true rfl)) dX8_reckons_77 ⟨Nat.zero_le _, Nat.zero_le _⟩) (fun r1 h => ?_)
        refine lv_lstore (lv' := [(5, .long r1), (4, .int (((10 : Int32) * (t_state ((x1 + (24 : Int32)) + x3).toNatClampNeg)) + (t_state (x1 + x3).toNatClampNeg))), (0, .ref A_t), (1, .int x1), (2, .int x2), (3, .int x3)]) hx hb dX8_reckons_80 hl (by decide) rfl (fun ls hl => ?_)
        refine lv_aload_n hx hb dX8_reckons_82 rfl (lv_at hl 2 rfl) ?_
        refine va_get (D := D) (ci := 8) (v := .ref A_t_least) (C := RX8) (T := TX8) (N := 23) hx hb hts iX8 hown hK.1 hP 0 rfl rfl 13 (by decide) f1 (fun _ h9 => h9) rfl dX8_reckons_83 ?_
        refine lv_iload hx hb dX8_reckons_86 (lv_at hl 1 rfl) ?_
        refine lv_iload_n hx hb dX8_reckons_88 rfl (lv_at hl 5 rfl) ?_
        refine lv_iload_n hx hb dX8_reckons_89 rfl (lv_at hl 4 rfl) ?_
        refine lv_icmp_eq (tgt := 111) hx hb dX8_reckons_90 (by decide) (fun hc => ?_) (fun hc => ?_)
        · replace h := h.1 hc
          exact J111 t_least x3 (((10 : Int32) * (t_state ((x1 + (24 : Int32)) + x3).toNatClampNeg)) + (t_state (x1 + x3).toNatClampNeg)) (((10 : Int32) * (t_state ((x1 + (24 : Int32)) + x3).toNatClampNeg)) + (t_state (x1 + x3).toNatClampNeg)) H locs ls h hP hD hS (lv_sub hl [2, 3, 4, 5, 1] rfl)
        · replace h := h.2 hc
          refine lv_lload hx hb dX8_reckons_93 (lv_at hl 0 rfl) ?_
          refine lv_aload_n hx hb dX8_reckons_95 rfl (lv_at hl 2 rfl) ?_
          refine va_get (D := D) (ci := 8) (v := .ref A_t_least) (C := RX8) (T := TX8) (N := 23) hx hb hts iX8 hown hK.1 hP 0 rfl rfl 13 (by decide) f1 (fun _ h9 => h9) rfl dX8_reckons_96 ?_
          refine lv_iload hx hb dX8_reckons_99 (lv_at hl 1 rfl) ?_
          refine va_lald hx hb hK.1 hP 2 2 rfl rfl h.1 dX8_reckons_101 ?_
          replace h := h.2
          refine lx_ge (tgt := 111) hx hb dX8_reckons_102 dX8_reckons_103 (by decide) (fun hc => ?_) (fun hc => ?_)
          · replace h := h.1 hc
            exact J111 t_least x3 (((10 : Int32) * (t_state ((x1 + (24 : Int32)) + x3).toNatClampNeg)) + (t_state (x1 + x3).toNatClampNeg)) (((10 : Int32) * (t_state ((x1 + (24 : Int32)) + x3).toNatClampNeg)) + (t_state (x1 + x3).toNatClampNeg)) H locs ls h hP hD hS (lv_sub hl [2, 3, 4, 5, 1] rfl)
          · replace h := h.2 hc
            refine lv_lload hx hb dX8_reckons_106 (lv_at hl 0 rfl) ?_
            refine lv_goto (tgt := 118) hx hb dX8_reckons_108 (by decide) ?_
            exact J118 t_least x3 (((10 : Int32) * (t_state ((x1 + (24 : Int32)) + x3).toNatClampNeg)) + (t_state (x1 + x3).toNatClampNeg)) r1 H locs ls h hP hD hS (lv_sub hl [2, 3, 4, 5] rfl)
  have L2 : ∀ (n2 : Nat) (t_least : Nat → Int64) (x3 : Int32) (H : Heap) (locs : List Loc) (ls : Array Slot), L_X8_reckons_2 post t_state x1 x2 n2 t_least x3 → va_P D vwCl [(A_t, .inr (8, [.ref A_t_state, .ref A_t_tape, .int t_taped, .int t_fault, .int t_broken, .int t_brokenAt, .int t_spot, .int t_here, .int t_token, .int t_value, .int t_isRealTold, .ref A_t_ends, .ref A_t_letters, .ref A_t_least, .ref A_t_conflicts, .int t_conflictMany, .ref A_t_behind, .ref A_t_placed, .ref A_t_isKept, .ref A_t_lanes, .ref A_t_lengths, .ref A_t_cells, .int t_torn])), (A_t_state, .inl (cy 1, 535, .inl t_state)), (A_t_least, .inl (cy 2, 100, .inr (.inl t_least)))] H → va_D A [(A_t, .inr (8, [.ref A_t_state, .ref A_t_tape, .int t_taped, .int t_fault, .int t_broken, .int t_brokenAt, .int t_spot, .int t_here, .int t_token, .int t_value, .int t_isRealTold, .ref A_t_ends, .ref A_t_letters, .ref A_t_least, .ref A_t_conflicts, .int t_conflictMany, .ref A_t_behind, .ref A_t_placed, .ref A_t_isKept, .ref A_t_lanes, .ref A_t_lengths, .ref A_t_cells, .int t_torn])), (A_t_state, .inl (cy 1, 535, .inl t_state)), (A_t_least, .inl (cy 2, 100, .inr (.inl t_least)))] → va_S A s.heap H locs → lv_has ls 9 [(0, .ref A_t), (1, .int x1), (2, .int x2), (3, .int x3)] → W p l e (headSpec wsX8_reckons { frames := 2, cells := 0, slots := 0, locals := 44 }).room s m ([.ref A_t, .int x1, .int x2] : List Value).toArray below meth c H locs 0 0 Q0 (F0 m 2 ls []) := by
    intro n2
    induction n2 with
    | zero => intro t_least x3 H locs ls h; exact False.elim h
    | succ n2 ih2 =>
      intro t_least x3 H locs ls h hP hD hS hl
      have h : LB_X8_reckons_2 post t_state x1 x2 (L_X8_reckons_2 post t_state x1 x2 n2) t_least x3 := h
      unfold LB_X8_reckons_2 at h
      have J27 : ∀ (t_least : Nat → Int64) (x3 : Int32) (k1 : Int32) (l2 : Int64) (H : Heap) (locs : List Loc) (ls : Array Slot), B_X8_reckons_27 (L_X8_reckons_2 post t_state x1 x2 n2) t_least k1 l2 x3 → va_P D vwCl [(A_t, .inr (8, [.ref A_t_state, .ref A_t_tape, .int t_taped, .int t_fault, .int t_broken, .int t_brokenAt, .int t_spot, .int t_here, .int t_token, .int t_value, .int t_isRealTold, .ref A_t_ends, .ref A_t_letters, .ref A_t_least, .ref A_t_conflicts, .int t_conflictMany, .ref A_t_behind, .ref A_t_placed, .ref A_t_isKept, .ref A_t_lanes, .ref A_t_lengths, .ref A_t_cells, .int t_torn])), (A_t_state, .inl (cy 1, 535, .inl t_state)), (A_t_least, .inl (cy 2, 100, .inr (.inl t_least)))] H → va_D A [(A_t, .inr (8, [.ref A_t_state, .ref A_t_tape, .int t_taped, .int t_fault, .int t_broken, .int t_brokenAt, .int t_spot, .int t_here, .int t_token, .int t_value, .int t_isRealTold, .ref A_t_ends, .ref A_t_letters, .ref A_t_least, .ref A_t_conflicts, .int t_conflictMany, .ref A_t_behind, .ref A_t_placed, .ref A_t_isKept, .ref A_t_lanes, .ref A_t_lengths, .ref A_t_cells, .int t_torn])), (A_t_state, .inl (cy 1, 535, .inl t_state)), (A_t_least, .inl (cy 2, 100, .inr (.inl t_least)))] → va_S A s.heap H locs → lv_has ls 9 [(0, .ref A_t), (1, .int x1), (2, .int x2), (3, .int x3)] → W p l e (headSpec wsX8_reckons { frames := 2, cells := 0, slots := 0, locals := 44 }).room s m ([.ref A_t, .int x1, .int x2] : List Value).toArray below meth c H locs 0 0 Q0 (F0 m 27 ls [.long l2, .int k1, .ref A_t_least]) := by
        intro t_least x3 k1 l2 H locs ls h hP hD hS hl
        unfold B_X8_reckons_27 at h
        refine va_last hx hb hK.1 hP hD hS 2 2 rfl rfl h.1 dX8_reckons_27 (fun H locs hP hD hS => ?_)
        replace h := h.2
        have hP : va_P D vwCl [(A_t, .inr (8, [.ref A_t_state, .ref A_t_tape, .int t_taped, .int t_fault, .int t_broken, .int t_brokenAt, .int t_spot, .int t_here, .int t_token, .int t_value, .int t_isRealTold, .ref A_t_ends, .ref A_t_letters, .ref A_t_least, .ref A_t_conflicts, .int t_conflictMany, .ref A_t_behind, .ref A_t_placed, .ref A_t_isKept, .ref A_t_lanes, .ref A_t_lengths, .ref A_t_cells, .int t_torn])), (A_t_state, .inl (cy 1, 535, .inl t_state)), (A_t_least, .inl (cy 2, 100, .inr (.inl (vp_updL t_least k1.toNatClampNeg l2))))] H := hP
        have hD : va_D A [(A_t, .inr (8, [.ref A_t_state, .ref A_t_tape, .int t_taped, .int t_fault, .int t_broken, .int t_brokenAt, .int t_spot, .int t_here, .int t_token, .int t_value, .int t_isRealTold, .ref A_t_ends, .ref A_t_letters, .ref A_t_least, .ref A_t_conflicts, .int t_conflictMany, .ref A_t_behind, .ref A_t_placed, .ref A_t_isKept, .ref A_t_lanes, .ref A_t_lengths, .ref A_t_cells, .int t_torn])), (A_t_state, .inl (cy 1, 535, .inl t_state)), (A_t_least, .inl (cy 2, 100, .inr (.inl (vp_updL t_least k1.toNatClampNeg l2))))] := hD
        refine lv_iinc (v := x3 + (1 : Int32)) (lv' := [(3, .int (x3 + (1 : Int32))), (0, .ref A_t), (1, .int x1), (2, .int x2)]) hx hb dX8_reckons_28 hl (k := 3) rfl rfl (by decide) rfl (fun ls hl => ?_)
        refine lv_goto (tgt := 2) hx hb dX8_reckons_31 (by decide) ?_
        exact ih2 (vp_updL t_least k1.toNatClampNeg l2) (x3 + (1 : Int32)) H locs ls h hP hD hS (lv_sub hl [1, 2, 3, 0] rfl)
      refine lv_iload_n hx hb dX8_reckons_2 rfl (lv_at hl 3 rfl) ?_
      refine lv_bipush (v := 100) hx hb dX8_reckons_3 (by decide) ?_
      refine lv_icmp_ge (tgt := 34) hx hb dX8_reckons_5 (by decide) (fun hc => ?_) (fun hc => ?_)
      · replace h := h.1 hc
        refine lv_iconst (v := 0) hx hb dX8_reckons_34 (by decide) ?_
        refine lv_istore_n (lv' := [(3, .int (0 : Int32)), (0, .ref A_t), (1, .int x1), (2, .int x2)]) hx hb dX8_reckons_35 rfl hl (by decide) rfl (fun ls hl => ?_)
        obtain ⟨nn, h⟩ := h
        exact L36 nn t_least (0 : Int32) H locs ls h hP hD hS (lv_sub hl [1, 2, 3, 0] rfl)
      · replace h := h.2 hc
        refine lv_aload_n hx hb dX8_reckons_8 rfl (lv_at hl 0 rfl) ?_
        refine va_get (D := D) (ci := 8) (v := .ref A_t_least) (C := RX8) (T := TX8) (N := 23) hx hb hts iX8 hown hK.1 hP 0 rfl rfl 13 (by decide) f1 (fun _ h9 => h9) rfl dX8_reckons_9 ?_
        refine lv_iload_n hx hb dX8_reckons_12 rfl (lv_at hl 3 rfl) ?_
        refine lv_iload_n hx hb dX8_reckons_13 rfl (lv_at hl 3 rfl) ?_
        refine lv_bipush (v := 11) hx hb dX8_reckons_14 (by decide) ?_
        refine lv_irem hx hb dX8_reckons_16 (by decide) ?_
        refine lv_if_ne (tgt := 24) hx hb dX8_reckons_17 (by decide) (fun hc => ?_) (fun hc => ?_)
        · replace h := h.1 hc
          refine lv_ldc2 (v := 1000000000000000000) hx hb hown f2 dX8_reckons_24 ?_
          exact J27 t_least x3 x3 (1000000000000000000 : Int64) H locs ls h hP hD hS (lv_sub hl [0, 1, 2, 3] rfl)
        · replace h := h.2 hc
          refine lv_lconst (v := 0) hx hb dX8_reckons_20 (by decide) ?_
          refine lv_goto (tgt := 27) hx hb dX8_reckons_21 (by decide) ?_
          exact J27 t_least x3 x3 (0 : Int64) H locs ls h hP hD hS (lv_sub hl [0, 1, 2, 3] rfl)
  unfold P_X8_reckons at h
  refine lv_iconst (v := 0) hx hb dX8_reckons_0 (by decide) ?_
  refine lv_istore_n (lv' := [(3, .int (0 : Int32)), (0, .ref A_t), (1, .int x1), (2, .int x2)]) hx hb dX8_reckons_1 rfl hl (by decide) rfl (fun ls hl => ?_)
  obtain ⟨nn, h⟩ := h
  exact L2 nn t_least (0 : Int32) s.heap [] ls h hP hD hS (lv_sub hl [1, 2, 3, 0] rfl)
theorem qX8_isHolding : yX8_isHolding.cls = RX8 ∧ yX8_isHolding.cls ≠ "java/lang/invoke/MethodHandle" ∧ yX8_isHolding.cls ≠ "java/lang/invoke/VarHandle" ∧ (parseMethodDescriptor yX8_isHolding.desc).map (fun d => d.parameters.length) = some 1 := by decide +kernel
def B_X8_isHolding_40 (K_11 : Int32 → Int32 → Prop) (k0 : Int32) (x3 : Int32) : Prop :=
  K_11 k0 (x3 + (1 : Int32))
def B_X8_isHolding_39 (K_11 : Int32 → Int32 → Prop) (x3 : Int32) : Prop :=
  B_X8_isHolding_40 K_11 (0 : Int32) x3
def LB_X8_isHolding_11 (post : Int32 → (Nat → Int64) → Prop) (t_least : Nat → Int64) (K_11 : Int32 → Int32 → Prop) (x2 : Int32) (x3 : Int32) : Prop :=
  (((10 : Int32) ≤ x3 → (bz x2 ∧ post x2 t_least)) ∧ (¬ (10 : Int32) ≤ x3 → ((x2 = 0 → B_X8_isHolding_39 K_11 x3) ∧ (¬ x2 = 0 → (vp_in ((11 : Int32) * x3) 100 ∧ ((t_least ((11 : Int32) * x3).toNatClampNeg < (0 : Int64) → B_X8_isHolding_39 K_11 x3) ∧ (¬ t_least ((11 : Int32) * x3).toNatClampNeg < (0 : Int64) → B_X8_isHolding_40 K_11 (1 : Int32) x3)))))))
noncomputable def L_X8_isHolding_11 (post : Int32 → (Nat → Int64) → Prop) (t_least : Nat → Int64) (n : Nat) : Int32 → Int32 → Prop := Nat.rec (motive := fun _ => Int32 → Int32 → Prop) (fun _ _ => False) (fun _ K => LB_X8_isHolding_11 post t_least K) n
def P_X8_isHolding (post : Int32 → (Nat → Int64) → Prop) (t_state : Nat → Int32) (t_least : Nat → Int64) (x1 : Int32) : Prop :=
  P_X8_reckons (fun (t_least_v1 : Nat → Int64) => ∃ n : Nat, L_X8_isHolding_11 post t_least_v1 n (1 : Int32) (0 : Int32)) t_state t_least x1 (-4 : Int32)
set_option maxHeartbeats 4000000 in
set_option maxRecDepth 100000 in
theorem c_X8_isHolding (l : Launch) (D : va_G) (cy : Nat → ClassId) (sz : Nat) (A_t A_t_state A_t_tape A_t_ends A_t_letters A_t_least A_t_conflicts A_t_behind A_t_placed A_t_isKept A_t_lanes A_t_lengths A_t_cells : Nat) (t_taped : Int32) (t_fault : Int32) (t_broken : Int32) (t_brokenAt : Int32) (t_spot : Int32) (t_here : Int32) (t_token : Int32) (t_value : Int32) (t_isRealTold : Int32) (t_conflictMany : Int32) (t_torn : Int32) (t_state : Nat → Int32) (t_least : Nat → Int64) (x1 : Int32) (post : Int32 → (Nat → Int64) → Prop) (h : P_X8_isHolding post t_state t_least x1) : Met l yX8_isHolding wsX8_isHolding { frames := 3, cells := 0, slots := 0, locals := 72 } (pcW D cy [(A_t, .inr (8, [.ref A_t_state, .ref A_t_tape, .int t_taped, .int t_fault, .int t_broken, .int t_brokenAt, .int t_spot, .int t_here, .int t_token, .int t_value, .int t_isRealTold, .ref A_t_ends, .ref A_t_letters, .ref A_t_least, .ref A_t_conflicts, .int t_conflictMany, .ref A_t_behind, .ref A_t_placed, .ref A_t_isKept, .ref A_t_lanes, .ref A_t_lengths, .ref A_t_cells, .int t_torn])), (A_t_state, .inl (cy 1, 535, .inl t_state)), (A_t_least, .inl (cy 2, 100, .inr (.inl t_least)))] sz [.ref A_t, .int x1]) (va_Qi (fun r (u : (Nat → Int64)) => post r u) (bW D [(A_t, .inr (8, [.ref A_t_state, .ref A_t_tape, .int t_taped, .int t_fault, .int t_broken, .int t_brokenAt, .int t_spot, .int t_here, .int t_token, .int t_value, .int t_isRealTold, .ref A_t_ends, .ref A_t_letters, .ref A_t_least, .ref A_t_conflicts, .int t_conflictMany, .ref A_t_behind, .ref A_t_placed, .ref A_t_isKept, .ref A_t_lanes, .ref A_t_lengths, .ref A_t_cells, .int t_torn])), (A_t_state, .inl (cy 1, 535, .inl t_state)), (A_t_least, .inl (cy 2, 100, .inr (.inl t_least)))] sz (fun u => [(A_t, .inr (8, [.ref A_t_state, .ref A_t_tape, .int t_taped, .int t_fault, .int t_broken, .int t_brokenAt, .int t_spot, .int t_here, .int t_token, .int t_value, .int t_isRealTold, .ref A_t_ends, .ref A_t_letters, .ref A_t_least, .ref A_t_conflicts, .int t_conflictMany, .ref A_t_behind, .ref A_t_placed, .ref A_t_isKept, .ref A_t_lanes, .ref A_t_lengths, .ref A_t_cells, .int t_torn])), (A_t_state, .inl (cy 1, 535, .inl t_state)), (A_t_least, .inl (cy 2, 100, .inr (.inl u)))])) (va_A [(A_t, .inr (8, [.ref A_t_state, .ref A_t_tape, .int t_taped, .int t_fault, .int t_broken, .int t_brokenAt, .int t_spot, .int t_here, .int t_token, .int t_value, .int t_isRealTold, .ref A_t_ends, .ref A_t_letters, .ref A_t_least, .ref A_t_conflicts, .int t_conflictMany, .ref A_t_behind, .ref A_t_placed, .ref A_t_isKept, .ref A_t_lanes, .ref A_t_lengths, .ref A_t_cells, .int t_torn])), (A_t_state, .inl (cy 1, 535, .inl t_state)), (A_t_least, .inl (cy 2, 100, .inr (.inl t_least)))] sz)) 0 0 (va_A [(A_t, .inr (8, [.ref A_t_state, .ref A_t_tape, .int t_taped, .int t_fault, .int t_broken, .int t_brokenAt, .int t_spot, .int t_here, .int t_token, .int t_value, .int t_isRealTold, .ref A_t_ends, .ref A_t_letters, .ref A_t_least, .ref A_t_conflicts, .int t_conflictMany, .ref A_t_behind, .ref A_t_placed, .ref A_t_isKept, .ref A_t_lanes, .ref A_t_lengths, .ref A_t_cells, .int t_torn])), (A_t_state, .inl (cy 1, 535, .inl t_state)), (A_t_least, .inl (cy 2, 100, .inr (.inl t_least)))] sz) := by
  refine Met.ofW (cc := cX8_isHolding) (maxL := 4) (ret := (some .boolean)) (by decide) rfl ?_
  intro p e s m args below meth c s₁ B hml hv
  obtain ⟨rfl, hsz, hP, hK, hD0⟩ := hv
  have hx := B.exec
  have hb := B.bytes
  have hr := B.returns
  have hts := atoms_spec (ws := wsX8_isHolding) B.pre
  have hown : s.vm.findClass RX8 = some m.cls := findClass_of_methodNamed B.named
  have hlocks := B.notSynchronized
  have CF : CallFix p m c cX8_isHolding 4 s ([.ref A_t, .int x1] : List Value).toArray wsX8_isHolding RX8 := ⟨hx, hb, hml, hown, hts⟩
  have f0 := hts (.fieldLink RX8 22 "GapBoundsModel" "least" "[J") (by decide +kernel)
  have iX8 : ∀ w ∈ u_ws RX8 TX8 23, w ∈ wsX8_isHolding := by decide +kernel
  subst hsz
  obtain ⟨A, hAe⟩ : ∃ A, A = va_A [(A_t, .inr (8, [.ref A_t_state, .ref A_t_tape, .int t_taped, .int t_fault, .int t_broken, .int t_brokenAt, .int t_spot, .int t_here, .int t_token, .int t_value, .int t_isRealTold, .ref A_t_ends, .ref A_t_letters, .ref A_t_least, .ref A_t_conflicts, .int t_conflictMany, .ref A_t_behind, .ref A_t_placed, .ref A_t_isKept, .ref A_t_lanes, .ref A_t_lengths, .ref A_t_cells, .int t_torn])), (A_t_state, .inl (cy 1, 535, .inl t_state)), (A_t_least, .inl (cy 2, 100, .inr (.inl t_least)))] s.heap.size := ⟨_, rfl⟩
  have hD : va_D A [(A_t, .inr (8, [.ref A_t_state, .ref A_t_tape, .int t_taped, .int t_fault, .int t_broken, .int t_brokenAt, .int t_spot, .int t_here, .int t_token, .int t_value, .int t_isRealTold, .ref A_t_ends, .ref A_t_letters, .ref A_t_least, .ref A_t_conflicts, .int t_conflictMany, .ref A_t_behind, .ref A_t_placed, .ref A_t_isKept, .ref A_t_lanes, .ref A_t_lengths, .ref A_t_cells, .int t_torn])), (A_t_state, .inl (cy 1, 535, .inl t_state)), (A_t_least, .inl (cy 2, 100, .inr (.inl t_least)))] := by rw [hAe]; exact hD0.self
  have hA : ∀ q : Nat, s.heap.size ≤ q → A q := fun q hq => by rw [hAe]; exact Or.inr hq
  have hS : va_S A s.heap s.heap [] := va_S.rf
  have hl := lv_entry [.ref A_t, .int x1] (n := 4) (Nat.le_of_ble_eq_true rfl)
  rw [lg_entry_eq]
  generalize (lg_sl [.ref A_t, .int x1] ++ List.replicate (4 - (lg_sl [.ref A_t, .int x1]).length) Slot.unset).toArray = ls at hl ⊢
  have hl : lv_has ls 4 [(0, .ref A_t), (1, .int x1)] := hl
  refine W.gen (fun Q0 hQ => ?_)
  have L11 : ∀ (n11 : Nat) (t_least : Nat → Int64) (x2 : Int32) (x3 : Int32) (H : Heap) (locs : List Loc) (ls : Array Slot), L_X8_isHolding_11 post t_least n11 x2 x3 → va_P D vwCl [(A_t, .inr (8, [.ref A_t_state, .ref A_t_tape, .int t_taped, .int t_fault, .int t_broken, .int t_brokenAt, .int t_spot, .int t_here, .int t_token, .int t_value, .int t_isRealTold, .ref A_t_ends, .ref A_t_letters, .ref A_t_least, .ref A_t_conflicts, .int t_conflictMany, .ref A_t_behind, .ref A_t_placed, .ref A_t_isKept, .ref A_t_lanes, .ref A_t_lengths, .ref A_t_cells, .int t_torn])), (A_t_state, .inl (cy 1, 535, .inl t_state)), (A_t_least, .inl (cy 2, 100, .inr (.inl t_least)))] H → va_D A [(A_t, .inr (8, [.ref A_t_state, .ref A_t_tape, .int t_taped, .int t_fault, .int t_broken, .int t_brokenAt, .int t_spot, .int t_here, .int t_token, .int t_value, .int t_isRealTold, .ref A_t_ends, .ref A_t_letters, .ref A_t_least, .ref A_t_conflicts, .int t_conflictMany, .ref A_t_behind, .ref A_t_placed, .ref A_t_isKept, .ref A_t_lanes, .ref A_t_lengths, .ref A_t_cells, .int t_torn])), (A_t_state, .inl (cy 1, 535, .inl t_state)), (A_t_least, .inl (cy 2, 100, .inr (.inl t_least)))] → va_S A s.heap H locs → lv_has ls 4 [(0, .ref A_t), (2, .int x2), (3, .int x3)] → W p l e (headSpec wsX8_isHolding { frames := 3, cells := 0, slots := 0, locals := 72 }).room s m ([.ref A_t, .int x1] : List Value).toArray below meth c H locs 0 0 Q0 (F0 m 11 ls []) := by
    intro n11
    induction n11 with
    | zero => intro t_least x2 x3 H locs ls h; exact False.elim h
    | succ n11 ih11 =>
      intro t_least x2 x3 H locs ls h hP hD hS hl
      have h : LB_X8_isHolding_11 post t_least (L_X8_isHolding_11 post t_least n11) x2 x3 := h
      unfold LB_X8_isHolding_11 at h
      have J40 : ∀ (t_least : Nat → Int64) (x3 : Int32) (k0 : Int32) (H : Heap) (locs : List Loc) (ls : Array Slot), B_X8_isHolding_40 (L_X8_isHolding_11 post t_least n11) k0 x3 → va_P D vwCl [(A_t, .inr (8, [.ref A_t_state, .ref A_t_tape, .int t_taped, .int t_fault, .int t_broken, .int t_brokenAt, .int t_spot, .int t_here, .int t_token, .int t_value, .int t_isRealTold, .ref A_t_ends, .ref A_t_letters, .ref A_t_least, .ref A_t_conflicts, .int t_conflictMany, .ref A_t_behind, .ref A_t_placed, .ref A_t_isKept, .ref A_t_lanes, .ref A_t_lengths, .ref A_t_cells, .int t_torn])), (A_t_state, .inl (cy 1, 535, .inl t_state)), (A_t_least, .inl (cy 2, 100, .inr (.inl t_least)))] H → va_D A [(A_t, .inr (8, [.ref A_t_state, .ref A_t_tape, .int t_taped, .int t_fault, .int t_broken, .int t_brokenAt, .int t_spot, .int t_here, .int t_token, .int t_value, .int t_isRealTold, .ref A_t_ends, .ref A_t_letters, .ref A_t_least, .ref A_t_conflicts, .int t_conflictMany, .ref A_t_behind, .ref A_t_placed, .ref A_t_isKept, .ref A_t_lanes, .ref A_t_lengths, .ref A_t_cells, .int t_torn])), (A_t_state, .inl (cy 1, 535, .inl t_state)), (A_t_least, .inl (cy 2, 100, .inr (.inl t_least)))] → va_S A s.heap H locs → lv_has ls 4 [(0, .ref A_t), (3, .int x3)] → W p l e (headSpec wsX8_isHolding { frames := 3, cells := 0, slots := 0, locals := 72 }).room s m ([.ref A_t, .int x1] : List Value).toArray below meth c H locs 0 0 Q0 (F0 m 40 ls [.int k0]) := by
        intro t_least x3 k0 H locs ls h hP hD hS hl
        unfold B_X8_isHolding_40 at h
        refine lv_istore_n (lv' := [(2, .int k0), (0, .ref A_t), (3, .int x3)]) hx hb dX8_isHolding_40 rfl hl (by decide) rfl (fun ls hl => ?_)
        refine lv_iinc (v := x3 + (1 : Int32)) (lv' := [(3, .int (x3 + (1 : Int32))), (2, .int k0), (0, .ref A_t)]) hx hb dX8_isHolding_41 hl (k := 2) rfl rfl (by decide) rfl (fun ls hl => ?_)
        refine lv_goto (tgt := 11) hx hb dX8_isHolding_44 (by decide) ?_
        exact ih11 t_least k0 (x3 + (1 : Int32)) H locs ls h hP hD hS (lv_sub hl [2, 1, 0] rfl)
      have J39 : ∀ (t_least : Nat → Int64) (x3 : Int32) (H : Heap) (locs : List Loc) (ls : Array Slot), B_X8_isHolding_39 (L_X8_isHolding_11 post t_least n11) x3 → va_P D vwCl [(A_t, .inr (8, [.ref A_t_state, .ref A_t_tape, .int t_taped, .int t_fault, .int t_broken, .int t_brokenAt, .int t_spot, .int t_here, .int t_token, .int t_value, .int t_isRealTold, .ref A_t_ends, .ref A_t_letters, .ref A_t_least, .ref A_t_conflicts, .int t_conflictMany, .ref A_t_behind, .ref A_t_placed, .ref A_t_isKept, .ref A_t_lanes, .ref A_t_lengths, .ref A_t_cells, .int t_torn])), (A_t_state, .inl (cy 1, 535, .inl t_state)), (A_t_least, .inl (cy 2, 100, .inr (.inl t_least)))] H → va_D A [(A_t, .inr (8, [.ref A_t_state, .ref A_t_tape, .int t_taped, .int t_fault, .int t_broken, .int t_brokenAt, .int t_spot, .int t_here, .int t_token, .int t_value, .int t_isRealTold, .ref A_t_ends, .ref A_t_letters, .ref A_t_least, .ref A_t_conflicts, .int t_conflictMany, .ref A_t_behind, .ref A_t_placed, .ref A_t_isKept, .ref A_t_lanes, .ref A_t_lengths, .ref A_t_cells, .int t_torn])), (A_t_state, .inl (cy 1, 535, .inl t_state)), (A_t_least, .inl (cy 2, 100, .inr (.inl t_least)))] → va_S A s.heap H locs → lv_has ls 4 [(0, .ref A_t), (3, .int x3)] → W p l e (headSpec wsX8_isHolding { frames := 3, cells := 0, slots := 0, locals := 72 }).room s m ([.ref A_t, .int x1] : List Value).toArray below meth c H locs 0 0 Q0 (F0 m 39 ls []) := by
        intro t_least x3 H locs ls h hP hD hS hl
        unfold B_X8_isHolding_39 at h
        refine lv_iconst (v := 0) hx hb dX8_isHolding_39 (by decide) ?_
        exact J40 t_least x3 (0 : Int32) H locs ls h hP hD hS (lv_sub hl [0, 1] rfl)
      refine lv_iload_n hx hb dX8_isHolding_11 rfl (lv_at hl 2 rfl) ?_
      refine lv_bipush (v := 10) hx hb dX8_isHolding_12 (by decide) ?_
      refine lv_icmp_ge (tgt := 47) hx hb dX8_isHolding_14 (by decide) (fun hc => ?_) (fun hc => ?_)
      · replace h := h.1 hc
        refine lv_iload_n hx hb dX8_isHolding_47 rfl (lv_at hl 1 rfl) ?_
        subst hQ
        subst hAe
        exact W.zret (v := x2) hx hb hr h.1 (fun t ht _ => ⟨⟨x2, t_least, rfl, h.2, by rw [ht]; exact hP, hD⟩, hS.F ht⟩) hS.2.2 dX8_isHolding_48
      · replace h := h.2 hc
        refine lv_iload_n hx hb dX8_isHolding_17 rfl (lv_at hl 1 rfl) ?_
        refine lv_if_eq (tgt := 39) hx hb dX8_isHolding_18 (by decide) (fun hc => ?_) (fun hc => ?_)
        · replace h := h.1 hc
          exact J39 t_least x3 H locs ls h hP hD hS (lv_sub hl [0, 2] rfl)
        · replace h := h.2 hc
          refine lv_aload_n hx hb dX8_isHolding_21 rfl (lv_at hl 0 rfl) ?_
          refine va_get (D := D) (ci := 8) (v := .ref A_t_least) (C := RX8) (T := TX8) (N := 23) hx hb hts iX8 hown hK.1 hP 0 rfl rfl 13 (by decide) f0 (fun _ h9 => h9) rfl dX8_isHolding_22 ?_
          refine lv_bipush (v := 11) hx hb dX8_isHolding_25 (by decide) ?_
          refine lv_iload_n hx hb dX8_isHolding_27 rfl (lv_at hl 2 rfl) ?_
          refine lv_imul hx hb dX8_isHolding_28 ?_
          refine va_lald hx hb hK.1 hP 2 2 rfl rfl h.1 dX8_isHolding_29 ?_
          replace h := h.2
          refine lv_lconst (v := 0) hx hb dX8_isHolding_30 (by decide) ?_
          refine lx_lt (tgt := 39) hx hb dX8_isHolding_31 dX8_isHolding_32 (by decide) (fun hc => ?_) (fun hc => ?_)
          · replace h := h.1 hc
            exact J39 t_least x3 H locs ls h hP hD hS (lv_sub hl [0, 2] rfl)
          · replace h := h.2 hc
            refine lv_iconst (v := 1) hx hb dX8_isHolding_35 (by decide) ?_
            refine lv_goto (tgt := 40) hx hb dX8_isHolding_36 (by decide) ?_
            exact J40 t_least x3 (1 : Int32) H locs ls h hP hD hS (lv_sub hl [0, 2] rfl)
  unfold P_X8_isHolding at h
  refine lv_aload_n hx hb dX8_isHolding_0 rfl (lv_at hl 0 rfl) ?_
  refine lv_iload_n hx hb dX8_isHolding_1 rfl (lv_at hl 1 rfl) ?_
  refine lv_bipush (v := -4) hx hb dX8_isHolding_2 (by decide) ?_
  have hPn : va_P D vwCl ([] ++ [(A_t, .inr (8, [.ref A_t_state, .ref A_t_tape, .int t_taped, .int t_fault, .int t_broken, .int t_brokenAt, .int t_spot, .int t_here, .int t_token, .int t_value, .int t_isRealTold, .ref A_t_ends, .ref A_t_letters, .ref A_t_least, .ref A_t_conflicts, .int t_conflictMany, .ref A_t_behind, .ref A_t_placed, .ref A_t_isKept, .ref A_t_lanes, .ref A_t_lengths, .ref A_t_cells, .int t_torn])), (A_t_state, .inl (cy 1, 535, .inl t_state)), (A_t_least, .inl (cy 2, 100, .inr (.inl t_least)))]) s.heap := hP.sub [0, 1, 2] rfl
  have hDn : va_D A ([] ++ [(A_t, .inr (8, [.ref A_t_state, .ref A_t_tape, .int t_taped, .int t_fault, .int t_broken, .int t_brokenAt, .int t_spot, .int t_here, .int t_token, .int t_value, .int t_isRealTold, .ref A_t_ends, .ref A_t_letters, .ref A_t_least, .ref A_t_conflicts, .int t_conflictMany, .ref A_t_behind, .ref A_t_placed, .ref A_t_isKept, .ref A_t_lanes, .ref A_t_lengths, .ref A_t_cells, .int t_torn])), (A_t_state, .inl (cy 1, 535, .inl t_state)), (A_t_least, .inl (cy 2, 100, .inr (.inl t_least)))]) := hD.sub [0, 1, 2] (by decide) rfl
  have hPc := gPR hPn
  have hDc := gDR hDn
  refine mw_v (va_runV (As := [.int x1, .int (-4 : Int32)]) (rest := []) CF (c_X8_reckons l D cy s.heap.size A_t A_t_state A_t_tape A_t_ends A_t_letters A_t_least A_t_conflicts A_t_behind A_t_placed A_t_isKept A_t_lanes A_t_lengths A_t_cells t_taped t_fault t_broken t_brokenAt t_spot t_here t_token t_value t_isRealTold t_conflictMany t_torn t_state t_least x1 (-4 : Int32) _ h) (cwV 2 hts gX8_isHolding_X8_reckons rfl rfl rfl qX8_reckons ⟨Nat.le_of_ble_eq_true rfl, Nat.le_of_ble_eq_true rfl⟩) (mpVW hK hPc hDc (ci := 8) (q := (RX8, TX8, 23)) (q0 := 0) rfl rfl) rfl rfl hl.1 rfl (lv_room (Nat.le_of_ble_eq_true rfl)) dX8_isHolding_4 ⟨Nat.zero_le _, Nat.zero_le _⟩) hPn hDn hS hA (fun t_least_v1 H locs h hP hD hS => ?_)
  have hP : va_P D vwCl [(A_t, .inr (8, [.ref A_t_state, .ref A_t_tape, .int t_taped, .int t_fault, .int t_broken, .int t_brokenAt, .int t_spot, .int t_here, .int t_token, .int t_value, .int t_isRealTold, .ref A_t_ends, .ref A_t_letters, .ref A_t_least, .ref A_t_conflicts, .int t_conflictMany, .ref A_t_behind, .ref A_t_placed, .ref A_t_isKept, .ref A_t_lanes, .ref A_t_lengths, .ref A_t_cells, .int t_torn])), (A_t_state, .inl (cy 1, 535, .inl t_state)), (A_t_least, .inl (cy 2, 100, .inr (.inl t_least_v1)))] H := hP.sub [0, 1, 2] rfl
  have hD : va_D A [(A_t, .inr (8, [.ref A_t_state, .ref A_t_tape, .int t_taped, .int t_fault, .int t_broken, .int t_brokenAt, .int t_spot, .int t_here, .int t_token, .int t_value, .int t_isRealTold, .ref A_t_ends, .ref A_t_letters, .ref A_t_least, .ref A_t_conflicts, .int t_conflictMany, .ref A_t_behind, .ref A_t_placed, .ref A_t_isKept, .ref A_t_lanes, .ref A_t_lengths, .ref A_t_cells, .int t_torn])), (A_t_state, .inl (cy 1, 535, .inl t_state)), (A_t_least, .inl (cy 2, 100, .inr (.inl t_least_v1)))] := hD.sub [0, 1, 2] (by decide) rfl
  refine lv_iconst (v := 1) hx hb dX8_isHolding_7 (by decide) ?_
  refine lv_istore_n (lv' := [(2, .int (1 : Int32)), (0, .ref A_t), (1, .int x1)]) hx hb dX8_isHolding_8 rfl hl (by decide) rfl (fun ls hl => ?_)
  refine lv_iconst (v := 0) hx hb dX8_isHolding_9 (by decide) ?_
  refine lv_istore_n (lv' := [(3, .int (0 : Int32)), (2, .int (1 : Int32)), (0, .ref A_t), (1, .int x1)]) hx hb dX8_isHolding_10 rfl hl (by decide) rfl (fun ls hl => ?_)
  obtain ⟨nn, h⟩ := h
  exact L11 nn t_least_v1 (1 : Int32) (0 : Int32) H locs ls h hP hD hS (lv_sub hl [2, 1, 0] rfl)
theorem qX8_copies : yX8_copies.cls = RX8 ∧ yX8_copies.cls ≠ "java/lang/invoke/MethodHandle" ∧ yX8_copies.cls ≠ "java/lang/invoke/VarHandle" ∧ (parseMethodDescriptor yX8_copies.desc).map (fun d => d.parameters.length) = some 2 := by decide +kernel
def LB_X8_copies_2 (post : (Nat → Int32) → Prop) (x1 : Int32) (x2 : Int32) (K_2 : (Nat → Int32) → Int32 → Prop) (t_state : Nat → Int32) (x3 : Int32) : Prop :=
  (((107 : Int32) ≤ x3 → post t_state) ∧ (¬ (107 : Int32) ≤ x3 → (vp_in (x1 + x3) 535 ∧ (vp_in (x2 + x3) 535 ∧ K_2 (upd t_state (x2 + x3).toNatClampNeg (t_state (x1 + x3).toNatClampNeg)) (x3 + (1 : Int32))))))
noncomputable def L_X8_copies_2 (post : (Nat → Int32) → Prop) (x1 : Int32) (x2 : Int32) (n : Nat) : (Nat → Int32) → Int32 → Prop := Nat.rec (motive := fun _ => (Nat → Int32) → Int32 → Prop) (fun _ _ => False) (fun _ K => LB_X8_copies_2 post x1 x2 K) n
def P_X8_copies (post : (Nat → Int32) → Prop) (t_state : Nat → Int32) (x1 : Int32) (x2 : Int32) : Prop :=
  ∃ n : Nat, L_X8_copies_2 post x1 x2 n t_state (0 : Int32)
set_option maxHeartbeats 4000000 in
set_option maxRecDepth 100000 in
theorem c_X8_copies (l : Launch) (D : va_G) (cy : Nat → ClassId) (sz : Nat) (A_t A_t_state A_t_tape A_t_ends A_t_letters A_t_least A_t_conflicts A_t_behind A_t_placed A_t_isKept A_t_lanes A_t_lengths A_t_cells : Nat) (t_taped : Int32) (t_fault : Int32) (t_broken : Int32) (t_brokenAt : Int32) (t_spot : Int32) (t_here : Int32) (t_token : Int32) (t_value : Int32) (t_isRealTold : Int32) (t_conflictMany : Int32) (t_torn : Int32) (t_state : Nat → Int32) (x1 : Int32) (x2 : Int32) (post : (Nat → Int32) → Prop) (h : P_X8_copies post t_state x1 x2) : Met l yX8_copies wsX8_copies { frames := 0, cells := 0, slots := 0, locals := 0 } (pcW D cy [(A_t, .inr (8, [.ref A_t_state, .ref A_t_tape, .int t_taped, .int t_fault, .int t_broken, .int t_brokenAt, .int t_spot, .int t_here, .int t_token, .int t_value, .int t_isRealTold, .ref A_t_ends, .ref A_t_letters, .ref A_t_least, .ref A_t_conflicts, .int t_conflictMany, .ref A_t_behind, .ref A_t_placed, .ref A_t_isKept, .ref A_t_lanes, .ref A_t_lengths, .ref A_t_cells, .int t_torn])), (A_t_state, .inl (cy 1, 535, .inl t_state))] sz [.ref A_t, .int x1, .int x2]) (va_Qv (fun (u : (Nat → Int32)) => post u) (bW D [(A_t, .inr (8, [.ref A_t_state, .ref A_t_tape, .int t_taped, .int t_fault, .int t_broken, .int t_brokenAt, .int t_spot, .int t_here, .int t_token, .int t_value, .int t_isRealTold, .ref A_t_ends, .ref A_t_letters, .ref A_t_least, .ref A_t_conflicts, .int t_conflictMany, .ref A_t_behind, .ref A_t_placed, .ref A_t_isKept, .ref A_t_lanes, .ref A_t_lengths, .ref A_t_cells, .int t_torn])), (A_t_state, .inl (cy 1, 535, .inl t_state))] sz (fun u => [(A_t, .inr (8, [.ref A_t_state, .ref A_t_tape, .int t_taped, .int t_fault, .int t_broken, .int t_brokenAt, .int t_spot, .int t_here, .int t_token, .int t_value, .int t_isRealTold, .ref A_t_ends, .ref A_t_letters, .ref A_t_least, .ref A_t_conflicts, .int t_conflictMany, .ref A_t_behind, .ref A_t_placed, .ref A_t_isKept, .ref A_t_lanes, .ref A_t_lengths, .ref A_t_cells, .int t_torn])), (A_t_state, .inl (cy 1, 535, .inl u))])) (va_A [(A_t, .inr (8, [.ref A_t_state, .ref A_t_tape, .int t_taped, .int t_fault, .int t_broken, .int t_brokenAt, .int t_spot, .int t_here, .int t_token, .int t_value, .int t_isRealTold, .ref A_t_ends, .ref A_t_letters, .ref A_t_least, .ref A_t_conflicts, .int t_conflictMany, .ref A_t_behind, .ref A_t_placed, .ref A_t_isKept, .ref A_t_lanes, .ref A_t_lengths, .ref A_t_cells, .int t_torn])), (A_t_state, .inl (cy 1, 535, .inl t_state))] sz)) 0 0 (va_A [(A_t, .inr (8, [.ref A_t_state, .ref A_t_tape, .int t_taped, .int t_fault, .int t_broken, .int t_brokenAt, .int t_spot, .int t_here, .int t_token, .int t_value, .int t_isRealTold, .ref A_t_ends, .ref A_t_letters, .ref A_t_least, .ref A_t_conflicts, .int t_conflictMany, .ref A_t_behind, .ref A_t_placed, .ref A_t_isKept, .ref A_t_lanes, .ref A_t_lengths, .ref A_t_cells, .int t_torn])), (A_t_state, .inl (cy 1, 535, .inl t_state))] sz) := by
  refine Met.ofW (cc := cX8_copies) (maxL := 4) (ret := none) (by decide) rfl ?_
  intro p e s m args below meth c s₁ B hml hv
  obtain ⟨rfl, hsz, hP, hK, hD0⟩ := hv
  have hx := B.exec
  have hb := B.bytes
  have hr := B.returns
  have hts := atoms_spec (ws := wsX8_copies) B.pre
  have hown : s.vm.findClass RX8 = some m.cls := findClass_of_methodNamed B.named
  have hlocks := B.notSynchronized
  have CF : CallFix p m c cX8_copies 4 s ([.ref A_t, .int x1, .int x2] : List Value).toArray wsX8_copies RX8 := ⟨hx, hb, hml, hown, hts⟩
  have f0 := hts (.fieldLink RX8 7 "GapBoundsModel" "state" "[I") (by decide +kernel)
  have iX8 : ∀ w ∈ u_ws RX8 TX8 23, w ∈ wsX8_copies := by decide +kernel
  subst hsz
  obtain ⟨A, hAe⟩ : ∃ A, A = va_A [(A_t, .inr (8, [.ref A_t_state, .ref A_t_tape, .int t_taped, .int t_fault, .int t_broken, .int t_brokenAt, .int t_spot, .int t_here, .int t_token, .int t_value, .int t_isRealTold, .ref A_t_ends, .ref A_t_letters, .ref A_t_least, .ref A_t_conflicts, .int t_conflictMany, .ref A_t_behind, .ref A_t_placed, .ref A_t_isKept, .ref A_t_lanes, .ref A_t_lengths, .ref A_t_cells, .int t_torn])), (A_t_state, .inl (cy 1, 535, .inl t_state))] s.heap.size := ⟨_, rfl⟩
  have hD : va_D A [(A_t, .inr (8, [.ref A_t_state, .ref A_t_tape, .int t_taped, .int t_fault, .int t_broken, .int t_brokenAt, .int t_spot, .int t_here, .int t_token, .int t_value, .int t_isRealTold, .ref A_t_ends, .ref A_t_letters, .ref A_t_least, .ref A_t_conflicts, .int t_conflictMany, .ref A_t_behind, .ref A_t_placed, .ref A_t_isKept, .ref A_t_lanes, .ref A_t_lengths, .ref A_t_cells, .int t_torn])), (A_t_state, .inl (cy 1, 535, .inl t_state))] := by rw [hAe]; exact hD0.self
  have hA : ∀ q : Nat, s.heap.size ≤ q → A q := fun q hq => by rw [hAe]; exact Or.inr hq
  have hS : va_S A s.heap s.heap [] := va_S.rf
  have hl := lv_entry [.ref A_t, .int x1, .int x2] (n := 4) (Nat.le_of_ble_eq_true rfl)
  rw [lg_entry_eq]
  generalize (lg_sl [.ref A_t, .int x1, .int x2] ++ List.replicate (4 - (lg_sl [.ref A_t, .int x1, .int x2]).length) Slot.unset).toArray = ls at hl ⊢
  have hl : lv_has ls 4 [(0, .ref A_t), (1, .int x1), (2, .int x2)] := hl
  refine W.gen (fun Q0 hQ => ?_)
  have L2 : ∀ (n2 : Nat) (t_state : Nat → Int32) (x3 : Int32) (H : Heap) (locs : List Loc) (ls : Array Slot), L_X8_copies_2 post x1 x2 n2 t_state x3 → va_P D vwCl [(A_t, .inr (8, [.ref A_t_state, .ref A_t_tape, .int t_taped, .int t_fault, .int t_broken, .int t_brokenAt, .int t_spot, .int t_here, .int t_token, .int t_value, .int t_isRealTold, .ref A_t_ends, .ref A_t_letters, .ref A_t_least, .ref A_t_conflicts, .int t_conflictMany, .ref A_t_behind, .ref A_t_placed, .ref A_t_isKept, .ref A_t_lanes, .ref A_t_lengths, .ref A_t_cells, .int t_torn])), (A_t_state, .inl (cy 1, 535, .inl t_state))] H → va_D A [(A_t, .inr (8, [.ref A_t_state, .ref A_t_tape, .int t_taped, .int t_fault, .int t_broken, .int t_brokenAt, .int t_spot, .int t_here, .int t_token, .int t_value, .int t_isRealTold, .ref A_t_ends, .ref A_t_letters, .ref A_t_least, .ref A_t_conflicts, .int t_conflictMany, .ref A_t_behind, .ref A_t_placed, .ref A_t_isKept, .ref A_t_lanes, .ref A_t_lengths, .ref A_t_cells, .int t_torn])), (A_t_state, .inl (cy 1, 535, .inl t_state))] → va_S A s.heap H locs → lv_has ls 4 [(0, .ref A_t), (1, .int x1), (2, .int x2), (3, .int x3)] → W p l e (headSpec wsX8_copies { frames := 0, cells := 0, slots := 0, locals := 0 }).room s m ([.ref A_t, .int x1, .int x2] : List Value).toArray below meth c H locs 0 0 Q0 (F0 m 2 ls []) := by
    intro n2
    induction n2 with
    | zero => intro t_state x3 H locs ls h; exact False.elim h
    | succ n2 ih2 =>
      intro t_state x3 H locs ls h hP hD hS hl
      have h : LB_X8_copies_2 post x1 x2 (L_X8_copies_2 post x1 x2 n2) t_state x3 := h
      unfold LB_X8_copies_2 at h
      refine lv_iload_n hx hb dX8_copies_2 rfl (lv_at hl 3 rfl) ?_
      refine lv_bipush (v := 107) hx hb dX8_copies_3 (by decide) ?_
      refine lv_icmp_ge (tgt := 30) hx hb dX8_copies_5 (by decide) (fun hc => ?_) (fun hc => ?_)
      · replace h := h.1 hc
        subst hQ
        subst hAe
        exact W.vret hx hb hr (fun t ht _ => ⟨⟨t_state, rfl, h, by rw [ht]; exact hP, hD⟩, hS.F ht⟩) hS.2.2 dX8_copies_30
      · replace h := h.2 hc
        refine lv_aload_n hx hb dX8_copies_8 rfl (lv_at hl 0 rfl) ?_
        refine va_get (D := D) (ci := 8) (v := .ref A_t_state) (C := RX8) (T := TX8) (N := 23) hx hb hts iX8 hown hK.1 hP 0 rfl rfl 0 (by decide) f0 (fun _ h9 => h9) rfl dX8_copies_9 ?_
        refine lv_iload_n hx hb dX8_copies_12 rfl (lv_at hl 2 rfl) ?_
        refine lv_iload_n hx hb dX8_copies_13 rfl (lv_at hl 3 rfl) ?_
        refine lv_iadd hx hb dX8_copies_14 ?_
        refine lv_aload_n hx hb dX8_copies_15 rfl (lv_at hl 0 rfl) ?_
        refine va_get (D := D) (ci := 8) (v := .ref A_t_state) (C := RX8) (T := TX8) (N := 23) hx hb hts iX8 hown hK.1 hP 0 rfl rfl 0 (by decide) f0 (fun _ h9 => h9) rfl dX8_copies_16 ?_
        refine lv_iload_n hx hb dX8_copies_19 rfl (lv_at hl 1 rfl) ?_
        refine lv_iload_n hx hb dX8_copies_20 rfl (lv_at hl 3 rfl) ?_
        refine lv_iadd hx hb dX8_copies_21 ?_
        refine va_iald hx hb hK.1 hP 1 1 rfl rfl h.1 dX8_copies_22 ?_
        replace h := h.2
        refine va_iast hx hb hK.1 hP hD hS 1 1 rfl rfl h.1 dX8_copies_23 (fun H locs hP hD hS => ?_)
        replace h := h.2
        have hP : va_P D vwCl [(A_t, .inr (8, [.ref A_t_state, .ref A_t_tape, .int t_taped, .int t_fault, .int t_broken, .int t_brokenAt, .int t_spot, .int t_here, .int t_token, .int t_value, .int t_isRealTold, .ref A_t_ends, .ref A_t_letters, .ref A_t_least, .ref A_t_conflicts, .int t_conflictMany, .ref A_t_behind, .ref A_t_placed, .ref A_t_isKept, .ref A_t_lanes, .ref A_t_lengths, .ref A_t_cells, .int t_torn])), (A_t_state, .inl (cy 1, 535, .inl (upd t_state (x2 + x3).toNatClampNeg (t_state (x1 + x3).toNatClampNeg))))] H := hP
        have hD : va_D A [(A_t, .inr (8, [.ref A_t_state, .ref A_t_tape, .int t_taped, .int t_fault, .int t_broken, .int t_brokenAt, .int t_spot, .int t_here, .int t_token, .int t_value, .int t_isRealTold, .ref A_t_ends, .ref A_t_letters, .ref A_t_least, .ref A_t_conflicts, .int t_conflictMany, .ref A_t_behind, .ref A_t_placed, .ref A_t_isKept, .ref A_t_lanes, .ref A_t_lengths, .ref A_t_cells, .int t_torn])), (A_t_state, .inl (cy 1, 535, .inl (upd t_state (x2 + x3).toNatClampNeg (t_state (x1 + x3).toNatClampNeg))))] := hD
        refine lv_iinc (v := x3 + (1 : Int32)) (lv' := [(3, .int (x3 + (1 : Int32))), (0, .ref A_t), (1, .int x1), (2, .int x2)]) hx hb dX8_copies_24 hl (k := 3) rfl rfl (by decide) rfl (fun ls hl => ?_)
        refine lv_goto (tgt := 2) hx hb dX8_copies_27 (by decide) ?_
        exact ih2 (upd t_state (x2 + x3).toNatClampNeg (t_state (x1 + x3).toNatClampNeg)) (x3 + (1 : Int32)) H locs ls h hP hD hS (lv_sub hl [1, 2, 3, 0] rfl)
  unfold P_X8_copies at h
  refine lv_iconst (v := 0) hx hb dX8_copies_0 (by decide) ?_
  refine lv_istore_n (lv' := [(3, .int (0 : Int32)), (0, .ref A_t), (1, .int x1), (2, .int x2)]) hx hb dX8_copies_1 rfl hl (by decide) rfl (fun ls hl => ?_)
  obtain ⟨nn, h⟩ := h
  exact L2 nn t_state (0 : Int32) s.heap [] ls h hP hD hS (lv_sub hl [1, 2, 3, 0] rfl)
theorem qX8_text : yX8_text.cls = RX8 ∧ yX8_text.cls ≠ "java/lang/invoke/MethodHandle" ∧ yX8_text.cls ≠ "java/lang/invoke/VarHandle" ∧ (parseMethodDescriptor yX8_text.desc).map (fun d => d.parameters.length) = some 0 := by decide +kernel
def B_X8_text_93 (post : Int32 → Int32 → Int32 → Int32 → Int32 → Int32 → Int32 → Int32 → Int32 → Int32 → Int32 → (Nat → Int32) → (Nat → Int64) → (Nat → Int32) → Prop) (t_broken : Int32) (t_brokenAt : Int32) (t_spot : Int32) (t_here : Int32) (t_token : Int32) (t_value : Int32) (t_isRealTold : Int32) (t_conflictMany : Int32) (t_state : Nat → Int32) (t_least : Nat → Int64) (t_isKept : Nat → Int32) (x1 : Int32) : Prop :=
  ((t_broken ≤ 0 → P_X8_copies (fun (t_state_v2 : Nat → Int32) => (vp_in (0 : Int32) 2 ∧ (vp_in (1 : Int32) 2 ∧ post x1 (0 : Int32) t_broken t_broken t_brokenAt t_spot t_here t_token t_value t_isRealTold (0 : Int32) t_state_v2 t_least (upd (upd t_isKept (0 : Int32).toNatClampNeg (vp_nar .boolean (0 : Int32))) (1 : Int32).toNatClampNeg (vp_nar .boolean (0 : Int32)))))) t_state (321 : Int32) (0 : Int32)) ∧ (¬ t_broken ≤ 0 → post ((-10 : Int32) - t_brokenAt) (0 : Int32) t_broken t_broken t_brokenAt t_spot t_here t_token t_value t_isRealTold t_conflictMany t_state t_least t_isKept))
def B_X8_text_70 (post : Int32 → Int32 → Int32 → Int32 → Int32 → Int32 → Int32 → Int32 → Int32 → Int32 → Int32 → (Nat → Int32) → (Nat → Int64) → (Nat → Int32) → Prop) (t_broken : Int32) (t_brokenAt : Int32) (t_spot : Int32) (t_here : Int32) (t_token : Int32) (t_value : Int32) (t_isRealTold : Int32) (t_conflictMany : Int32) (t_state : Nat → Int32) (t_least : Nat → Int64) (t_isKept : Nat → Int32) (x1 : Int32) : Prop :=
  ((¬ t_broken = 0 → B_X8_text_93 post t_broken t_brokenAt t_spot t_here t_token t_value t_isRealTold t_conflictMany t_state t_least t_isKept x1) ∧ (t_broken = 0 → P_X8_isHolding (fun (r3 : Int32) (t_least_v3 : Nat → Int64) => ((¬ r3 = 0 → B_X8_text_93 post t_broken t_brokenAt t_spot t_here t_token t_value t_isRealTold t_conflictMany t_state t_least_v3 t_isKept x1) ∧ (r3 = 0 → P_X8_fails (fun (t_broken_v4 : Int32) (t_brokenAt_v4 : Int32) => B_X8_text_93 post t_broken_v4 t_brokenAt_v4 t_spot t_here t_token t_value t_isRealTold t_conflictMany t_state t_least_v3 t_isKept x1) t_broken t_brokenAt t_here (6 : Int32)))) t_state t_least (321 : Int32)))
def LB_X8_text_46 (post : Int32 → Int32 → Int32 → Int32 → Int32 → Int32 → Int32 → Int32 → Int32 → Int32 → Int32 → (Nat → Int32) → (Nat → Int64) → (Nat → Int32) → Prop) (t_taped : Int32) (t_conflictMany : Int32) (t_tape : Nat → Int32) (t_ends : Nat → Int32) (t_letters : Nat → Int32) (t_least : Nat → Int64) (t_isKept : Nat → Int32) (K_46 : Int32 → Int32 → Int32 → Int32 → Int32 → Int32 → Int32 → (Nat → Int32) → Int32 → Prop) (t_broken : Int32) (t_brokenAt : Int32) (t_spot : Int32) (t_here : Int32) (t_token : Int32) (t_value : Int32) (t_isRealTold : Int32) (t_state : Nat → Int32) (x1 : Int32) : Prop :=
  ((¬ t_broken = 0 → B_X8_text_70 post t_broken t_brokenAt t_spot t_here t_token t_value t_isRealTold t_conflictMany t_state t_least t_isKept x1) ∧ (t_broken = 0 → ((t_token = 0 → B_X8_text_70 post t_broken t_brokenAt t_spot t_here t_token t_value t_isRealTold t_conflictMany t_state t_least t_isKept x1) ∧ (¬ t_token = 0 → P_X8_readLine (fun (t_broken_v5 : Int32) (t_brokenAt_v5 : Int32) (t_spot_v5 : Int32) (t_here_v5 : Int32) (t_token_v5 : Int32) (t_value_v5 : Int32) (t_isRealTold_v5 : Int32) (t_state_v5 : Nat → Int32) => K_46 t_broken_v5 t_brokenAt_v5 t_spot_v5 t_here_v5 t_token_v5 t_value_v5 t_isRealTold_v5 t_state_v5 (x1 + (1 : Int32))) t_taped t_broken t_brokenAt t_spot t_here t_token t_value t_isRealTold t_ends t_tape t_letters t_state))))
noncomputable def L_X8_text_46 (post : Int32 → Int32 → Int32 → Int32 → Int32 → Int32 → Int32 → Int32 → Int32 → Int32 → Int32 → (Nat → Int32) → (Nat → Int64) → (Nat → Int32) → Prop) (t_taped : Int32) (t_conflictMany : Int32) (t_tape : Nat → Int32) (t_ends : Nat → Int32) (t_letters : Nat → Int32) (t_least : Nat → Int64) (t_isKept : Nat → Int32) (n : Nat) : Int32 → Int32 → Int32 → Int32 → Int32 → Int32 → Int32 → (Nat → Int32) → Int32 → Prop := Nat.rec (motive := fun _ => Int32 → Int32 → Int32 → Int32 → Int32 → Int32 → Int32 → (Nat → Int32) → Int32 → Prop) (fun _ _ _ _ _ _ _ _ _ => False) (fun _ K => LB_X8_text_46 post t_taped t_conflictMany t_tape t_ends t_letters t_least t_isKept K) n
def LB_X8_text_19 (post : Int32 → Int32 → Int32 → Int32 → Int32 → Int32 → Int32 → Int32 → Int32 → Int32 → Int32 → (Nat → Int32) → (Nat → Int64) → (Nat → Int32) → Prop) (t_taped : Int32) (t_broken : Int32) (t_brokenAt : Int32) (t_spot : Int32) (t_here : Int32) (t_token : Int32) (t_value : Int32) (t_isRealTold : Int32) (t_conflictMany : Int32) (t_tape : Nat → Int32) (t_ends : Nat → Int32) (t_letters : Nat → Int32) (t_least : Nat → Int64) (t_isKept : Nat → Int32) (x1 : Int32) (K_19 : (Nat → Int32) → Int32 → Prop) (t_state : Nat → Int32) (x2 : Int32) : Prop :=
  (((107 : Int32) ≤ x2 → P_X8_readsOn (fun (t_broken_v1 : Int32) (t_brokenAt_v1 : Int32) (t_spot_v1 : Int32) (t_here_v1 : Int32) (t_token_v1 : Int32) (t_value_v1 : Int32) => ∃ n : Nat, L_X8_text_46 post t_taped t_conflictMany t_tape t_ends t_letters t_least t_isKept n t_broken_v1 t_brokenAt_v1 t_spot_v1 t_here_v1 t_token_v1 t_value_v1 t_isRealTold t_state x1) t_taped t_broken t_brokenAt t_spot t_here t_token t_value t_tape) ∧ (¬ (107 : Int32) ≤ x2 → (vp_in ((321 : Int32) + x2) 535 ∧ K_19 (upd t_state ((321 : Int32) + x2).toNatClampNeg (0 : Int32)) (x2 + (1 : Int32)))))
noncomputable def L_X8_text_19 (post : Int32 → Int32 → Int32 → Int32 → Int32 → Int32 → Int32 → Int32 → Int32 → Int32 → Int32 → (Nat → Int32) → (Nat → Int64) → (Nat → Int32) → Prop) (t_taped : Int32) (t_broken : Int32) (t_brokenAt : Int32) (t_spot : Int32) (t_here : Int32) (t_token : Int32) (t_value : Int32) (t_isRealTold : Int32) (t_conflictMany : Int32) (t_tape : Nat → Int32) (t_ends : Nat → Int32) (t_letters : Nat → Int32) (t_least : Nat → Int64) (t_isKept : Nat → Int32) (x1 : Int32) (n : Nat) : (Nat → Int32) → Int32 → Prop := Nat.rec (motive := fun _ => (Nat → Int32) → Int32 → Prop) (fun _ _ => False) (fun _ K => LB_X8_text_19 post t_taped t_broken t_brokenAt t_spot t_here t_token t_value t_isRealTold t_conflictMany t_tape t_ends t_letters t_least t_isKept x1 K) n
def P_X8_text (post : Int32 → Int32 → Int32 → Int32 → Int32 → Int32 → Int32 → Int32 → Int32 → Int32 → Int32 → (Nat → Int32) → (Nat → Int64) → (Nat → Int32) → Prop) (t_taped : Int32) (t_brokenAt : Int32) (t_here : Int32) (t_token : Int32) (t_value : Int32) (t_conflictMany : Int32) (t_tape : Nat → Int32) (t_state : Nat → Int32) (t_ends : Nat → Int32) (t_letters : Nat → Int32) (t_least : Nat → Int64) (t_isKept : Nat → Int32) : Prop :=
  ∃ n : Nat, L_X8_text_19 post t_taped (0 : Int32) t_brokenAt (0 : Int32) t_here t_token t_value (0 : Int32) t_conflictMany t_tape t_ends t_letters t_least t_isKept (0 : Int32) n t_state (0 : Int32)
set_option maxHeartbeats 4000000 in
set_option maxRecDepth 100000 in
theorem c_X8_text (l : Launch) (D : va_G) (cy : Nat → ClassId) (sz : Nat) (A_t A_t_state A_t_tape A_t_ends A_t_letters A_t_least A_t_conflicts A_t_behind A_t_placed A_t_isKept A_t_lanes A_t_lengths A_t_cells : Nat) (t_taped : Int32) (t_fault : Int32) (t_broken : Int32) (t_brokenAt : Int32) (t_spot : Int32) (t_here : Int32) (t_token : Int32) (t_value : Int32) (t_isRealTold : Int32) (t_conflictMany : Int32) (t_torn : Int32) (t_tape : Nat → Int32) (t_state : Nat → Int32) (t_ends : Nat → Int32) (t_letters : Nat → Int32) (t_least : Nat → Int64) (t_isKept : Nat → Int32) (post : Int32 → Int32 → Int32 → Int32 → Int32 → Int32 → Int32 → Int32 → Int32 → Int32 → Int32 → (Nat → Int32) → (Nat → Int64) → (Nat → Int32) → Prop) (h : P_X8_text post t_taped t_brokenAt t_here t_token t_value t_conflictMany t_tape t_state t_ends t_letters t_least t_isKept) : Met l yX8_text wsX8_text { frames := 5, cells := 0, slots := 0, locals := 115 } (pcW D cy [(A_t, .inr (8, [.ref A_t_state, .ref A_t_tape, .int t_taped, .int t_fault, .int t_broken, .int t_brokenAt, .int t_spot, .int t_here, .int t_token, .int t_value, .int t_isRealTold, .ref A_t_ends, .ref A_t_letters, .ref A_t_least, .ref A_t_conflicts, .int t_conflictMany, .ref A_t_behind, .ref A_t_placed, .ref A_t_isKept, .ref A_t_lanes, .ref A_t_lengths, .ref A_t_cells, .int t_torn])), (A_t_tape, .inl (cy 1, 320, .inl t_tape)), (A_t_state, .inl (cy 1, 535, .inl t_state)), (A_t_ends, .inl (cy 1, 7, .inl t_ends)), (A_t_letters, .inl (cy 1, 25, .inl t_letters)), (A_t_least, .inl (cy 2, 100, .inr (.inl t_least))), (A_t_isKept, .inl (cy 3, 2, .inl t_isKept))] sz [.ref A_t]) (va_Qi (fun r (u : Int32 × Int32 × Int32 × Int32 × Int32 × Int32 × Int32 × Int32 × Int32 × Int32 × (Nat → Int32) × (Nat → Int64) × (Nat → Int32)) => post r u.1 u.2.1 u.2.2.1 u.2.2.2.1 u.2.2.2.2.1 u.2.2.2.2.2.1 u.2.2.2.2.2.2.1 u.2.2.2.2.2.2.2.1 u.2.2.2.2.2.2.2.2.1 u.2.2.2.2.2.2.2.2.2.1 u.2.2.2.2.2.2.2.2.2.2.1 u.2.2.2.2.2.2.2.2.2.2.2.1 u.2.2.2.2.2.2.2.2.2.2.2.2) (bW D [(A_t, .inr (8, [.ref A_t_state, .ref A_t_tape, .int t_taped, .int t_fault, .int t_broken, .int t_brokenAt, .int t_spot, .int t_here, .int t_token, .int t_value, .int t_isRealTold, .ref A_t_ends, .ref A_t_letters, .ref A_t_least, .ref A_t_conflicts, .int t_conflictMany, .ref A_t_behind, .ref A_t_placed, .ref A_t_isKept, .ref A_t_lanes, .ref A_t_lengths, .ref A_t_cells, .int t_torn])), (A_t_tape, .inl (cy 1, 320, .inl t_tape)), (A_t_state, .inl (cy 1, 535, .inl t_state)), (A_t_ends, .inl (cy 1, 7, .inl t_ends)), (A_t_letters, .inl (cy 1, 25, .inl t_letters)), (A_t_least, .inl (cy 2, 100, .inr (.inl t_least))), (A_t_isKept, .inl (cy 3, 2, .inl t_isKept))] sz (fun u => [(A_t, .inr (8, [.ref A_t_state, .ref A_t_tape, .int (u.1), .int (u.2.1), .int (u.2.2.1), .int (u.2.2.2.1), .int (u.2.2.2.2.1), .int (u.2.2.2.2.2.1), .int (u.2.2.2.2.2.2.1), .int (u.2.2.2.2.2.2.2.1), .int (u.2.2.2.2.2.2.2.2.1), .ref A_t_ends, .ref A_t_letters, .ref A_t_least, .ref A_t_conflicts, .int (u.2.2.2.2.2.2.2.2.2.1), .ref A_t_behind, .ref A_t_placed, .ref A_t_isKept, .ref A_t_lanes, .ref A_t_lengths, .ref A_t_cells, .int t_torn])), (A_t_tape, .inl (cy 1, 320, .inl t_tape)), (A_t_state, .inl (cy 1, 535, .inl u.2.2.2.2.2.2.2.2.2.2.1)), (A_t_ends, .inl (cy 1, 7, .inl t_ends)), (A_t_letters, .inl (cy 1, 25, .inl t_letters)), (A_t_least, .inl (cy 2, 100, .inr (.inl u.2.2.2.2.2.2.2.2.2.2.2.1))), (A_t_isKept, .inl (cy 3, 2, .inl u.2.2.2.2.2.2.2.2.2.2.2.2))])) (va_A [(A_t, .inr (8, [.ref A_t_state, .ref A_t_tape, .int t_taped, .int t_fault, .int t_broken, .int t_brokenAt, .int t_spot, .int t_here, .int t_token, .int t_value, .int t_isRealTold, .ref A_t_ends, .ref A_t_letters, .ref A_t_least, .ref A_t_conflicts, .int t_conflictMany, .ref A_t_behind, .ref A_t_placed, .ref A_t_isKept, .ref A_t_lanes, .ref A_t_lengths, .ref A_t_cells, .int t_torn])), (A_t_tape, .inl (cy 1, 320, .inl t_tape)), (A_t_state, .inl (cy 1, 535, .inl t_state)), (A_t_ends, .inl (cy 1, 7, .inl t_ends)), (A_t_letters, .inl (cy 1, 25, .inl t_letters)), (A_t_least, .inl (cy 2, 100, .inr (.inl t_least))), (A_t_isKept, .inl (cy 3, 2, .inl t_isKept))] sz)) 0 0 (va_A [(A_t, .inr (8, [.ref A_t_state, .ref A_t_tape, .int t_taped, .int t_fault, .int t_broken, .int t_brokenAt, .int t_spot, .int t_here, .int t_token, .int t_value, .int t_isRealTold, .ref A_t_ends, .ref A_t_letters, .ref A_t_least, .ref A_t_conflicts, .int t_conflictMany, .ref A_t_behind, .ref A_t_placed, .ref A_t_isKept, .ref A_t_lanes, .ref A_t_lengths, .ref A_t_cells, .int t_torn])), (A_t_tape, .inl (cy 1, 320, .inl t_tape)), (A_t_state, .inl (cy 1, 535, .inl t_state)), (A_t_ends, .inl (cy 1, 7, .inl t_ends)), (A_t_letters, .inl (cy 1, 25, .inl t_letters)), (A_t_least, .inl (cy 2, 100, .inr (.inl t_least))), (A_t_isKept, .inl (cy 3, 2, .inl t_isKept))] sz) := by
  refine Met.ofW (cc := cX8_text) (maxL := 3) (ret := (some .int)) (by decide) rfl ?_
  intro p e s m args below meth c s₁ B hml hv
  obtain ⟨rfl, hsz, hP, hK, hD0⟩ := hv
  have hx := B.exec
  have hb := B.bytes
  have hr := B.returns
  have hts := atoms_spec (ws := wsX8_text) B.pre
  have hown : s.vm.findClass RX8 = some m.cls := findClass_of_methodNamed B.named
  have hlocks := B.notSynchronized
  have CF : CallFix p m c cX8_text 3 s ([.ref A_t] : List Value).toArray wsX8_text RX8 := ⟨hx, hb, hml, hown, hts⟩
  have f0 := hts (.fieldLink RX8 58 "GapBoundsModel" "broken" "I") (by decide +kernel)
  have f1 := hts (.fieldLink RX8 70 "GapBoundsModel" "spot" "I") (by decide +kernel)
  have f2 := hts (.fieldLink RX8 115 "GapBoundsModel" "isRealTold" "Z") (by decide +kernel)
  have f3 := hts (.fieldLink RX8 54 "GapBoundsModel" "taped" "I") (by decide +kernel)
  have f4 := hts (.fieldLink RX8 129 "GapBoundsModel" "fault" "I") (by decide +kernel)
  have f5 := hts (.fieldLink RX8 136 "GapBoundsModel" "conflictMany" "I") (by decide +kernel)
  have f6 := hts (.fieldLink RX8 35 "GapBoundsModel" "isKept" "[Z") (by decide +kernel)
  have f7 := hts (.fieldLink RX8 64 "GapBoundsModel" "brokenAt" "I") (by decide +kernel)
  have f8 := hts (.fieldLink RX8 67 "GapBoundsModel" "token" "I") (by decide +kernel)
  have f9 := hts (.fieldLink RX8 7 "GapBoundsModel" "state" "[I") (by decide +kernel)
  have iX8 : ∀ w ∈ u_ws RX8 TX8 23, w ∈ wsX8_text := by decide +kernel
  subst hsz
  obtain ⟨A, hAe⟩ : ∃ A, A = va_A [(A_t, .inr (8, [.ref A_t_state, .ref A_t_tape, .int t_taped, .int t_fault, .int t_broken, .int t_brokenAt, .int t_spot, .int t_here, .int t_token, .int t_value, .int t_isRealTold, .ref A_t_ends, .ref A_t_letters, .ref A_t_least, .ref A_t_conflicts, .int t_conflictMany, .ref A_t_behind, .ref A_t_placed, .ref A_t_isKept, .ref A_t_lanes, .ref A_t_lengths, .ref A_t_cells, .int t_torn])), (A_t_tape, .inl (cy 1, 320, .inl t_tape)), (A_t_state, .inl (cy 1, 535, .inl t_state)), (A_t_ends, .inl (cy 1, 7, .inl t_ends)), (A_t_letters, .inl (cy 1, 25, .inl t_letters)), (A_t_least, .inl (cy 2, 100, .inr (.inl t_least))), (A_t_isKept, .inl (cy 3, 2, .inl t_isKept))] s.heap.size := ⟨_, rfl⟩
  have hD : va_D A [(A_t, .inr (8, [.ref A_t_state, .ref A_t_tape, .int t_taped, .int t_fault, .int t_broken, .int t_brokenAt, .int t_spot, .int t_here, .int t_token, .int t_value, .int t_isRealTold, .ref A_t_ends, .ref A_t_letters, .ref A_t_least, .ref A_t_conflicts, .int t_conflictMany, .ref A_t_behind, .ref A_t_placed, .ref A_t_isKept, .ref A_t_lanes, .ref A_t_lengths, .ref A_t_cells, .int t_torn])), (A_t_tape, .inl (cy 1, 320, .inl t_tape)), (A_t_state, .inl (cy 1, 535, .inl t_state)), (A_t_ends, .inl (cy 1, 7, .inl t_ends)), (A_t_letters, .inl (cy 1, 25, .inl t_letters)), (A_t_least, .inl (cy 2, 100, .inr (.inl t_least))), (A_t_isKept, .inl (cy 3, 2, .inl t_isKept))] := by rw [hAe]; exact hD0.self
  have hA : ∀ q : Nat, s.heap.size ≤ q → A q := fun q hq => by rw [hAe]; exact Or.inr hq
  have hS : va_S A s.heap s.heap [] := va_S.rf
  have hl := lv_entry [.ref A_t] (n := 3) (Nat.le_of_ble_eq_true rfl)
  rw [lg_entry_eq]
  generalize (lg_sl [.ref A_t] ++ List.replicate (3 - (lg_sl [.ref A_t]).length) Slot.unset).toArray = ls at hl ⊢
  have hl : lv_has ls 3 [(0, .ref A_t)] := hl
  refine W.gen (fun Q0 hQ => ?_)
  have J93 : ∀ (t_taped : Int32) (t_fault : Int32) (t_broken : Int32) (t_brokenAt : Int32) (t_spot : Int32) (t_here : Int32) (t_token : Int32) (t_value : Int32) (t_isRealTold : Int32) (t_conflictMany : Int32) (t_state : Nat → Int32) (t_least : Nat → Int64) (t_isKept : Nat → Int32) (x1 : Int32) (H : Heap) (locs : List Loc) (ls : Array Slot), B_X8_text_93 post t_broken t_brokenAt t_spot t_here t_token t_value t_isRealTold t_conflictMany t_state t_least t_isKept x1 → va_P D vwCl [(A_t, .inr (8, [.ref A_t_state, .ref A_t_tape, .int t_taped, .int t_fault, .int t_broken, .int t_brokenAt, .int t_spot, .int t_here, .int t_token, .int t_value, .int t_isRealTold, .ref A_t_ends, .ref A_t_letters, .ref A_t_least, .ref A_t_conflicts, .int t_conflictMany, .ref A_t_behind, .ref A_t_placed, .ref A_t_isKept, .ref A_t_lanes, .ref A_t_lengths, .ref A_t_cells, .int t_torn])), (A_t_tape, .inl (cy 1, 320, .inl t_tape)), (A_t_state, .inl (cy 1, 535, .inl t_state)), (A_t_ends, .inl (cy 1, 7, .inl t_ends)), (A_t_letters, .inl (cy 1, 25, .inl t_letters)), (A_t_least, .inl (cy 2, 100, .inr (.inl t_least))), (A_t_isKept, .inl (cy 3, 2, .inl t_isKept))] H → va_D A [(A_t, .inr (8, [.ref A_t_state, .ref A_t_tape, .int t_taped, .int t_fault, .int t_broken, .int t_brokenAt, .int t_spot, .int t_here, .int t_token, .int t_value, .int t_isRealTold, .ref A_t_ends, .ref A_t_letters, .ref A_t_least, .ref A_t_conflicts, .int t_conflictMany, .ref A_t_behind, .ref A_t_placed, .ref A_t_isKept, .ref A_t_lanes, .ref A_t_lengths, .ref A_t_cells, .int t_torn])), (A_t_tape, .inl (cy 1, 320, .inl t_tape)), (A_t_state, .inl (cy 1, 535, .inl t_state)), (A_t_ends, .inl (cy 1, 7, .inl t_ends)), (A_t_letters, .inl (cy 1, 25, .inl t_letters)), (A_t_least, .inl (cy 2, 100, .inr (.inl t_least))), (A_t_isKept, .inl (cy 3, 2, .inl t_isKept))] → va_S A s.heap H locs → lv_has ls 3 [(0, .ref A_t), (1, .int x1)] → W p l e (headSpec wsX8_text { frames := 5, cells := 0, slots := 0, locals := 115 }).room s m ([.ref A_t] : List Value).toArray below meth c H locs 0 0 Q0 (F0 m 93 ls []) := by
    intro t_taped t_fault t_broken t_brokenAt t_spot t_here t_token t_value t_isRealTold t_conflictMany t_state t_least t_isKept x1 H locs ls h hP hD hS hl
    unfold B_X8_text_93 at h
    refine lv_aload_n hx hb dX8_text_93 rfl (lv_at hl 0 rfl) ?_
    refine lv_iconst (v := 0) hx hb dX8_text_94 (by decide) ?_
    refine va_put (D := D) (ci := 8) (v := .int (0 : Int32)) (ty := .int) (C := RX8) (T := TX8) (N := 23) hx hb hts iX8 tyX8 tyX8_ok nmX8 hown hK.1 hP hD hS 0 rfl rfl 2 (by decide) f3 (fun _ h9 => h9) rfl (tyX8_ok 2 (by decide)) rfl rfl (Nat.le_of_ble_eq_true rfl) dX8_text_95 (fun H locs hP hD hS => ?_)
    have hP : va_P D vwCl [(A_t, .inr (8, [.ref A_t_state, .ref A_t_tape, .int ((0 : Int32)), .int t_fault, .int t_broken, .int t_brokenAt, .int t_spot, .int t_here, .int t_token, .int t_value, .int t_isRealTold, .ref A_t_ends, .ref A_t_letters, .ref A_t_least, .ref A_t_conflicts, .int t_conflictMany, .ref A_t_behind, .ref A_t_placed, .ref A_t_isKept, .ref A_t_lanes, .ref A_t_lengths, .ref A_t_cells, .int t_torn])), (A_t_tape, .inl (cy 1, 320, .inl t_tape)), (A_t_state, .inl (cy 1, 535, .inl t_state)), (A_t_ends, .inl (cy 1, 7, .inl t_ends)), (A_t_letters, .inl (cy 1, 25, .inl t_letters)), (A_t_least, .inl (cy 2, 100, .inr (.inl t_least))), (A_t_isKept, .inl (cy 3, 2, .inl t_isKept))] H := hP
    have hD : va_D A [(A_t, .inr (8, [.ref A_t_state, .ref A_t_tape, .int ((0 : Int32)), .int t_fault, .int t_broken, .int t_brokenAt, .int t_spot, .int t_here, .int t_token, .int t_value, .int t_isRealTold, .ref A_t_ends, .ref A_t_letters, .ref A_t_least, .ref A_t_conflicts, .int t_conflictMany, .ref A_t_behind, .ref A_t_placed, .ref A_t_isKept, .ref A_t_lanes, .ref A_t_lengths, .ref A_t_cells, .int t_torn])), (A_t_tape, .inl (cy 1, 320, .inl t_tape)), (A_t_state, .inl (cy 1, 535, .inl t_state)), (A_t_ends, .inl (cy 1, 7, .inl t_ends)), (A_t_letters, .inl (cy 1, 25, .inl t_letters)), (A_t_least, .inl (cy 2, 100, .inr (.inl t_least))), (A_t_isKept, .inl (cy 3, 2, .inl t_isKept))] := hD
    refine lv_aload_n hx hb dX8_text_98 rfl (lv_at hl 0 rfl) ?_
    refine lv_aload_n hx hb dX8_text_99 rfl (lv_at hl 0 rfl) ?_
    refine va_get (D := D) (ci := 8) (v := .int t_broken) (C := RX8) (T := TX8) (N := 23) hx hb hts iX8 hown hK.1 hP 0 rfl rfl 4 (by decide) f0 (fun _ h9 => h9) rfl dX8_text_100 ?_
    refine va_put (D := D) (ci := 8) (v := .int t_broken) (ty := .int) (C := RX8) (T := TX8) (N := 23) hx hb hts iX8 tyX8 tyX8_ok nmX8 hown hK.1 hP hD hS 0 rfl rfl 3 (by decide) f4 (fun _ h9 => h9) rfl (tyX8_ok 3 (by decide)) rfl rfl (Nat.le_of_ble_eq_true rfl) dX8_text_103 (fun H locs hP hD hS => ?_)
    have hP : va_P D vwCl [(A_t, .inr (8, [.ref A_t_state, .ref A_t_tape, .int ((0 : Int32)), .int t_broken, .int t_broken, .int t_brokenAt, .int t_spot, .int t_here, .int t_token, .int t_value, .int t_isRealTold, .ref A_t_ends, .ref A_t_letters, .ref A_t_least, .ref A_t_conflicts, .int t_conflictMany, .ref A_t_behind, .ref A_t_placed, .ref A_t_isKept, .ref A_t_lanes, .ref A_t_lengths, .ref A_t_cells, .int t_torn])), (A_t_tape, .inl (cy 1, 320, .inl t_tape)), (A_t_state, .inl (cy 1, 535, .inl t_state)), (A_t_ends, .inl (cy 1, 7, .inl t_ends)), (A_t_letters, .inl (cy 1, 25, .inl t_letters)), (A_t_least, .inl (cy 2, 100, .inr (.inl t_least))), (A_t_isKept, .inl (cy 3, 2, .inl t_isKept))] H := hP
    have hD : va_D A [(A_t, .inr (8, [.ref A_t_state, .ref A_t_tape, .int ((0 : Int32)), .int t_broken, .int t_broken, .int t_brokenAt, .int t_spot, .int t_here, .int t_token, .int t_value, .int t_isRealTold, .ref A_t_ends, .ref A_t_letters, .ref A_t_least, .ref A_t_conflicts, .int t_conflictMany, .ref A_t_behind, .ref A_t_placed, .ref A_t_isKept, .ref A_t_lanes, .ref A_t_lengths, .ref A_t_cells, .int t_torn])), (A_t_tape, .inl (cy 1, 320, .inl t_tape)), (A_t_state, .inl (cy 1, 535, .inl t_state)), (A_t_ends, .inl (cy 1, 7, .inl t_ends)), (A_t_letters, .inl (cy 1, 25, .inl t_letters)), (A_t_least, .inl (cy 2, 100, .inr (.inl t_least))), (A_t_isKept, .inl (cy 3, 2, .inl t_isKept))] := hD
    refine lv_aload_n hx hb dX8_text_106 rfl (lv_at hl 0 rfl) ?_
    refine va_get (D := D) (ci := 8) (v := .int t_broken) (C := RX8) (T := TX8) (N := 23) hx hb hts iX8 hown hK.1 hP 0 rfl rfl 4 (by decide) f0 (fun _ h9 => h9) rfl dX8_text_107 ?_
    refine lv_if_le (tgt := 121) hx hb dX8_text_110 (by decide) (fun hc => ?_) (fun hc => ?_)
    · replace h := h.1 hc
      refine lv_aload_n hx hb dX8_text_121 rfl (lv_at hl 0 rfl) ?_
      refine lv_sipush (v := 321) hx hb dX8_text_122 (by decide) ?_
      refine lv_iconst (v := 0) hx hb dX8_text_125 (by decide) ?_
      have hPn : va_P D vwCl ([(A_t_tape, .inl (cy 1, 320, .inl t_tape)), (A_t_ends, .inl (cy 1, 7, .inl t_ends)), (A_t_letters, .inl (cy 1, 25, .inl t_letters)), (A_t_least, .inl (cy 2, 100, .inr (.inl t_least))), (A_t_isKept, .inl (cy 3, 2, .inl t_isKept))] ++ [(A_t, .inr (8, [.ref A_t_state, .ref A_t_tape, .int ((0 : Int32)), .int t_broken, .int t_broken, .int t_brokenAt, .int t_spot, .int t_here, .int t_token, .int t_value, .int t_isRealTold, .ref A_t_ends, .ref A_t_letters, .ref A_t_least, .ref A_t_conflicts, .int t_conflictMany, .ref A_t_behind, .ref A_t_placed, .ref A_t_isKept, .ref A_t_lanes, .ref A_t_lengths, .ref A_t_cells, .int t_torn])), (A_t_state, .inl (cy 1, 535, .inl t_state))]) H := hP.sub [1, 3, 4, 5, 6, 0, 2] rfl
      have hDn : va_D A ([(A_t_tape, .inl (cy 1, 320, .inl t_tape)), (A_t_ends, .inl (cy 1, 7, .inl t_ends)), (A_t_letters, .inl (cy 1, 25, .inl t_letters)), (A_t_least, .inl (cy 2, 100, .inr (.inl t_least))), (A_t_isKept, .inl (cy 3, 2, .inl t_isKept))] ++ [(A_t, .inr (8, [.ref A_t_state, .ref A_t_tape, .int ((0 : Int32)), .int t_broken, .int t_broken, .int t_brokenAt, .int t_spot, .int t_here, .int t_token, .int t_value, .int t_isRealTold, .ref A_t_ends, .ref A_t_letters, .ref A_t_least, .ref A_t_conflicts, .int t_conflictMany, .ref A_t_behind, .ref A_t_placed, .ref A_t_isKept, .ref A_t_lanes, .ref A_t_lengths, .ref A_t_cells, .int t_torn])), (A_t_state, .inl (cy 1, 535, .inl t_state))]) := hD.sub [1, 3, 4, 5, 6, 0, 2] (by decide) rfl
      have hPc := gPR hPn
      have hDc := gDR hDn
      refine mw_v (va_runV (As := [.int (321 : Int32), .int (0 : Int32)]) (rest := []) CF (c_X8_copies l D cy H.size A_t A_t_state A_t_tape A_t_ends A_t_letters A_t_least A_t_conflicts A_t_behind A_t_placed A_t_isKept A_t_lanes A_t_lengths A_t_cells (0 : Int32) t_broken t_broken t_brokenAt t_spot t_here t_token t_value t_isRealTold t_conflictMany t_torn t_state (321 : Int32) (0 : Int32) _ h) (cwV 2 hts gX8_text_X8_copies rfl rfl rfl qX8_copies ⟨Nat.le_of_ble_eq_true rfl, Nat.le_of_ble_eq_true rfl⟩) (mpVW hK hPc hDc (ci := 8) (q := (RX8, TX8, 23)) (q0 := 0) rfl rfl) rfl rfl hl.1 rfl (lv_room (Nat.le_of_ble_eq_true rfl)) dX8_text_126 ⟨Nat.zero_le _, Nat.zero_le _⟩) hPn hDn hS hA (fun t_state_v2 H locs h hP hD hS => ?_)
      have hP : va_P D vwCl [(A_t, .inr (8, [.ref A_t_state, .ref A_t_tape, .int ((0 : Int32)), .int t_broken, .int t_broken, .int t_brokenAt, .int t_spot, .int t_here, .int t_token, .int t_value, .int t_isRealTold, .ref A_t_ends, .ref A_t_letters, .ref A_t_least, .ref A_t_conflicts, .int t_conflictMany, .ref A_t_behind, .ref A_t_placed, .ref A_t_isKept, .ref A_t_lanes, .ref A_t_lengths, .ref A_t_cells, .int t_torn])), (A_t_tape, .inl (cy 1, 320, .inl t_tape)), (A_t_state, .inl (cy 1, 535, .inl t_state_v2)), (A_t_ends, .inl (cy 1, 7, .inl t_ends)), (A_t_letters, .inl (cy 1, 25, .inl t_letters)), (A_t_least, .inl (cy 2, 100, .inr (.inl t_least))), (A_t_isKept, .inl (cy 3, 2, .inl t_isKept))] H := hP.sub [5, 0, 6, 1, 2, 3, 4] rfl
      have hD : va_D A [(A_t, .inr (8, [.ref A_t_state, .ref A_t_tape, .int ((0 : Int32)), .int t_broken, .int t_broken, .int t_brokenAt, .int t_spot, .int t_here, .int t_token, .int t_value, .int t_isRealTold, .ref A_t_ends, .ref A_t_letters, .ref A_t_least, .ref A_t_conflicts, .int t_conflictMany, .ref A_t_behind, .ref A_t_placed, .ref A_t_isKept, .ref A_t_lanes, .ref A_t_lengths, .ref A_t_cells, .int t_torn])), (A_t_tape, .inl (cy 1, 320, .inl t_tape)), (A_t_state, .inl (cy 1, 535, .inl t_state_v2)), (A_t_ends, .inl (cy 1, 7, .inl t_ends)), (A_t_letters, .inl (cy 1, 25, .inl t_letters)), (A_t_least, .inl (cy 2, 100, .inr (.inl t_least))), (A_t_isKept, .inl (cy 3, 2, .inl t_isKept))] := hD.sub [5, 0, 6, 1, 2, 3, 4] (by decide) rfl
      refine lv_aload_n hx hb dX8_text_129 rfl (lv_at hl 0 rfl) ?_
      refine lv_iconst (v := 0) hx hb dX8_text_130 (by decide) ?_
      refine va_put (D := D) (ci := 8) (v := .int (0 : Int32)) (ty := .int) (C := RX8) (T := TX8) (N := 23) hx hb hts iX8 tyX8 tyX8_ok nmX8 hown hK.1 hP hD hS 0 rfl rfl 15 (by decide) f5 (fun _ h9 => h9) rfl (tyX8_ok 15 (by decide)) rfl rfl (Nat.le_of_ble_eq_true rfl) dX8_text_131 (fun H locs hP hD hS => ?_)
      have hP : va_P D vwCl [(A_t, .inr (8, [.ref A_t_state, .ref A_t_tape, .int ((0 : Int32)), .int t_broken, .int t_broken, .int t_brokenAt, .int t_spot, .int t_here, .int t_token, .int t_value, .int t_isRealTold, .ref A_t_ends, .ref A_t_letters, .ref A_t_least, .ref A_t_conflicts, .int ((0 : Int32)), .ref A_t_behind, .ref A_t_placed, .ref A_t_isKept, .ref A_t_lanes, .ref A_t_lengths, .ref A_t_cells, .int t_torn])), (A_t_tape, .inl (cy 1, 320, .inl t_tape)), (A_t_state, .inl (cy 1, 535, .inl t_state_v2)), (A_t_ends, .inl (cy 1, 7, .inl t_ends)), (A_t_letters, .inl (cy 1, 25, .inl t_letters)), (A_t_least, .inl (cy 2, 100, .inr (.inl t_least))), (A_t_isKept, .inl (cy 3, 2, .inl t_isKept))] H := hP
      have hD : va_D A [(A_t, .inr (8, [.ref A_t_state, .ref A_t_tape, .int ((0 : Int32)), .int t_broken, .int t_broken, .int t_brokenAt, .int t_spot, .int t_here, .int t_token, .int t_value, .int t_isRealTold, .ref A_t_ends, .ref A_t_letters, .ref A_t_least, .ref A_t_conflicts, .int ((0 : Int32)), .ref A_t_behind, .ref A_t_placed, .ref A_t_isKept, .ref A_t_lanes, .ref A_t_lengths, .ref A_t_cells, .int t_torn])), (A_t_tape, .inl (cy 1, 320, .inl t_tape)), (A_t_state, .inl (cy 1, 535, .inl t_state_v2)), (A_t_ends, .inl (cy 1, 7, .inl t_ends)), (A_t_letters, .inl (cy 1, 25, .inl t_letters)), (A_t_least, .inl (cy 2, 100, .inr (.inl t_least))), (A_t_isKept, .inl (cy 3, 2, .inl t_isKept))] := hD
      refine lv_aload_n hx hb dX8_text_134 rfl (lv_at hl 0 rfl) ?_
      refine va_get (D := D) (ci := 8) (v := .ref A_t_isKept) (C := RX8) (T := TX8) (N := 23) hx hb hts iX8 hown hK.1 hP 0 rfl rfl 18 (by decide) f6 (fun _ h9 => h9) rfl dX8_text_135 ?_
      refine lv_iconst (v := 0) hx hb dX8_text_138 (by decide) ?_
      refine lv_iconst (v := 0) hx hb dX8_text_139 (by decide) ?_
      refine va_zast hx hb hK.1 hP hD hS 6 3 rfl rfl h.1 dX8_text_140 (fun H locs hP hD hS => ?_)
      replace h := h.2
      have hP : va_P D vwCl [(A_t, .inr (8, [.ref A_t_state, .ref A_t_tape, .int ((0 : Int32)), .int t_broken, .int t_broken, .int t_brokenAt, .int t_spot, .int t_here, .int t_token, .int t_value, .int t_isRealTold, .ref A_t_ends, .ref A_t_letters, .ref A_t_least, .ref A_t_conflicts, .int ((0 : Int32)), .ref A_t_behind, .ref A_t_placed, .ref A_t_isKept, .ref A_t_lanes, .ref A_t_lengths, .ref A_t_cells, .int t_torn])), (A_t_tape, .inl (cy 1, 320, .inl t_tape)), (A_t_state, .inl (cy 1, 535, .inl t_state_v2)), (A_t_ends, .inl (cy 1, 7, .inl t_ends)), (A_t_letters, .inl (cy 1, 25, .inl t_letters)), (A_t_least, .inl (cy 2, 100, .inr (.inl t_least))), (A_t_isKept, .inl (cy 3, 2, .inl (upd t_isKept (0 : Int32).toNatClampNeg (vp_nar .boolean (0 : Int32)))))] H := hP
      have hD : va_D A [(A_t, .inr (8, [.ref A_t_state, .ref A_t_tape, .int ((0 : Int32)), .int t_broken, .int t_broken, .int t_brokenAt, .int t_spot, .int t_here, .int t_token, .int t_value, .int t_isRealTold, .ref A_t_ends, .ref A_t_letters, .ref A_t_least, .ref A_t_conflicts, .int ((0 : Int32)), .ref A_t_behind, .ref A_t_placed, .ref A_t_isKept, .ref A_t_lanes, .ref A_t_lengths, .ref A_t_cells, .int t_torn])), (A_t_tape, .inl (cy 1, 320, .inl t_tape)), (A_t_state, .inl (cy 1, 535, .inl t_state_v2)), (A_t_ends, .inl (cy 1, 7, .inl t_ends)), (A_t_letters, .inl (cy 1, 25, .inl t_letters)), (A_t_least, .inl (cy 2, 100, .inr (.inl t_least))), (A_t_isKept, .inl (cy 3, 2, .inl (upd t_isKept (0 : Int32).toNatClampNeg (vp_nar .boolean (0 : Int32)))))] := hD
      refine lv_aload_n hx hb dX8_text_141 rfl (lv_at hl 0 rfl) ?_
      refine va_get (D := D) (ci := 8) (v := .ref A_t_isKept) (C := RX8) (T := TX8) (N := 23) hx hb hts iX8 hown hK.1 hP 0 rfl rfl 18 (by decide) f6 (fun _ h9 => h9) rfl dX8_text_142 ?_
      refine lv_iconst (v := 1) hx hb dX8_text_145 (by decide) ?_
      refine lv_iconst (v := 0) hx hb dX8_text_146 (by decide) ?_
      refine va_zast hx hb hK.1 hP hD hS 6 3 rfl rfl h.1 dX8_text_147 (fun H locs hP hD hS => ?_)
      replace h := h.2
      have hP : va_P D vwCl [(A_t, .inr (8, [.ref A_t_state, .ref A_t_tape, .int ((0 : Int32)), .int t_broken, .int t_broken, .int t_brokenAt, .int t_spot, .int t_here, .int t_token, .int t_value, .int t_isRealTold, .ref A_t_ends, .ref A_t_letters, .ref A_t_least, .ref A_t_conflicts, .int ((0 : Int32)), .ref A_t_behind, .ref A_t_placed, .ref A_t_isKept, .ref A_t_lanes, .ref A_t_lengths, .ref A_t_cells, .int t_torn])), (A_t_tape, .inl (cy 1, 320, .inl t_tape)), (A_t_state, .inl (cy 1, 535, .inl t_state_v2)), (A_t_ends, .inl (cy 1, 7, .inl t_ends)), (A_t_letters, .inl (cy 1, 25, .inl t_letters)), (A_t_least, .inl (cy 2, 100, .inr (.inl t_least))), (A_t_isKept, .inl (cy 3, 2, .inl (upd (upd t_isKept (0 : Int32).toNatClampNeg (vp_nar .boolean (0 : Int32))) (1 : Int32).toNatClampNeg (vp_nar .boolean (0 : Int32)))))] H := hP
      have hD : va_D A [(A_t, .inr (8, [.ref A_t_state, .ref A_t_tape, .int ((0 : Int32)), .int t_broken, .int t_broken, .int t_brokenAt, .int t_spot, .int t_here, .int t_token, .int t_value, .int t_isRealTold, .ref A_t_ends, .ref A_t_letters, .ref A_t_least, .ref A_t_conflicts, .int ((0 : Int32)), .ref A_t_behind, .ref A_t_placed, .ref A_t_isKept, .ref A_t_lanes, .ref A_t_lengths, .ref A_t_cells, .int t_torn])), (A_t_tape, .inl (cy 1, 320, .inl t_tape)), (A_t_state, .inl (cy 1, 535, .inl t_state_v2)), (A_t_ends, .inl (cy 1, 7, .inl t_ends)), (A_t_letters, .inl (cy 1, 25, .inl t_letters)), (A_t_least, .inl (cy 2, 100, .inr (.inl t_least))), (A_t_isKept, .inl (cy 3, 2, .inl (upd (upd t_isKept (0 : Int32).toNatClampNeg (vp_nar .boolean (0 : Int32))) (1 : Int32).toNatClampNeg (vp_nar .boolean (0 : Int32)))))] := hD
      refine lv_iload_n hx hb dX8_text_148 rfl (lv_at hl 1 rfl) ?_
      subst hQ
      subst hAe
      exact W.iret (v := x1) hx hb hr (fun t ht _ => ⟨⟨x1, ((0 : Int32), t_broken, t_broken, t_brokenAt, t_spot, t_here, t_token, t_value, t_isRealTold, (0 : Int32), t_state_v2, t_least, upd (upd t_isKept (0 : Int32).toNatClampNeg (vp_nar .boolean (0 : Int32))) (1 : Int32).toNatClampNeg (vp_nar .boolean (0 : Int32))), rfl, h, by rw [ht]; exact hP, hD⟩, hS.F ht⟩) hS.2.2 dX8_text_149
    · replace h := h.2 hc
      refine lv_bipush (v := -10) hx hb dX8_text_113 (by decide) ?_
      refine lv_aload_n hx hb dX8_text_115 rfl (lv_at hl 0 rfl) ?_
      refine va_get (D := D) (ci := 8) (v := .int t_brokenAt) (C := RX8) (T := TX8) (N := 23) hx hb hts iX8 hown hK.1 hP 0 rfl rfl 5 (by decide) f7 (fun _ h9 => h9) rfl dX8_text_116 ?_
      refine lv_isub hx hb dX8_text_119 ?_
      subst hQ
      subst hAe
      exact W.iret (v := (-10 : Int32) - t_brokenAt) hx hb hr (fun t ht _ => ⟨⟨(-10 : Int32) - t_brokenAt, ((0 : Int32), t_broken, t_broken, t_brokenAt, t_spot, t_here, t_token, t_value, t_isRealTold, t_conflictMany, t_state, t_least, t_isKept), rfl, h, by rw [ht]; exact hP, hD⟩, hS.F ht⟩) hS.2.2 dX8_text_120
  have J70 : ∀ (t_taped : Int32) (t_fault : Int32) (t_broken : Int32) (t_brokenAt : Int32) (t_spot : Int32) (t_here : Int32) (t_token : Int32) (t_value : Int32) (t_isRealTold : Int32) (t_conflictMany : Int32) (t_state : Nat → Int32) (t_least : Nat → Int64) (t_isKept : Nat → Int32) (x1 : Int32) (H : Heap) (locs : List Loc) (ls : Array Slot), B_X8_text_70 post t_broken t_brokenAt t_spot t_here t_token t_value t_isRealTold t_conflictMany t_state t_least t_isKept x1 → va_P D vwCl [(A_t, .inr (8, [.ref A_t_state, .ref A_t_tape, .int t_taped, .int t_fault, .int t_broken, .int t_brokenAt, .int t_spot, .int t_here, .int t_token, .int t_value, .int t_isRealTold, .ref A_t_ends, .ref A_t_letters, .ref A_t_least, .ref A_t_conflicts, .int t_conflictMany, .ref A_t_behind, .ref A_t_placed, .ref A_t_isKept, .ref A_t_lanes, .ref A_t_lengths, .ref A_t_cells, .int t_torn])), (A_t_tape, .inl (cy 1, 320, .inl t_tape)), (A_t_state, .inl (cy 1, 535, .inl t_state)), (A_t_ends, .inl (cy 1, 7, .inl t_ends)), (A_t_letters, .inl (cy 1, 25, .inl t_letters)), (A_t_least, .inl (cy 2, 100, .inr (.inl t_least))), (A_t_isKept, .inl (cy 3, 2, .inl t_isKept))] H → va_D A [(A_t, .inr (8, [.ref A_t_state, .ref A_t_tape, .int t_taped, .int t_fault, .int t_broken, .int t_brokenAt, .int t_spot, .int t_here, .int t_token, .int t_value, .int t_isRealTold, .ref A_t_ends, .ref A_t_letters, .ref A_t_least, .ref A_t_conflicts, .int t_conflictMany, .ref A_t_behind, .ref A_t_placed, .ref A_t_isKept, .ref A_t_lanes, .ref A_t_lengths, .ref A_t_cells, .int t_torn])), (A_t_tape, .inl (cy 1, 320, .inl t_tape)), (A_t_state, .inl (cy 1, 535, .inl t_state)), (A_t_ends, .inl (cy 1, 7, .inl t_ends)), (A_t_letters, .inl (cy 1, 25, .inl t_letters)), (A_t_least, .inl (cy 2, 100, .inr (.inl t_least))), (A_t_isKept, .inl (cy 3, 2, .inl t_isKept))] → va_S A s.heap H locs → lv_has ls 3 [(0, .ref A_t), (1, .int x1)] → W p l e (headSpec wsX8_text { frames := 5, cells := 0, slots := 0, locals := 115 }).room s m ([.ref A_t] : List Value).toArray below meth c H locs 0 0 Q0 (F0 m 70 ls []) := by
    intro t_taped t_fault t_broken t_brokenAt t_spot t_here t_token t_value t_isRealTold t_conflictMany t_state t_least t_isKept x1 H locs ls h hP hD hS hl
    unfold B_X8_text_70 at h
    refine lv_aload_n hx hb dX8_text_70 rfl (lv_at hl 0 rfl) ?_
    refine va_get (D := D) (ci := 8) (v := .int t_broken) (C := RX8) (T := TX8) (N := 23) hx hb hts iX8 hown hK.1 hP 0 rfl rfl 4 (by decide) f0 (fun _ h9 => h9) rfl dX8_text_71 ?_
    refine lv_if_ne (tgt := 93) hx hb dX8_text_74 (by decide) (fun hc => ?_) (fun hc => ?_)
    · replace h := h.1 hc
      exact J93 t_taped t_fault t_broken t_brokenAt t_spot t_here t_token t_value t_isRealTold t_conflictMany t_state t_least t_isKept x1 H locs ls h hP hD hS (lv_sub hl [0, 1] rfl)
    · replace h := h.2 hc
      refine lv_aload_n hx hb dX8_text_77 rfl (lv_at hl 0 rfl) ?_
      refine lv_sipush (v := 321) hx hb dX8_text_78 (by decide) ?_
      have hPn : va_P D vwCl ([(A_t_tape, .inl (cy 1, 320, .inl t_tape)), (A_t_ends, .inl (cy 1, 7, .inl t_ends)), (A_t_letters, .inl (cy 1, 25, .inl t_letters)), (A_t_isKept, .inl (cy 3, 2, .inl t_isKept))] ++ [(A_t, .inr (8, [.ref A_t_state, .ref A_t_tape, .int t_taped, .int t_fault, .int t_broken, .int t_brokenAt, .int t_spot, .int t_here, .int t_token, .int t_value, .int t_isRealTold, .ref A_t_ends, .ref A_t_letters, .ref A_t_least, .ref A_t_conflicts, .int t_conflictMany, .ref A_t_behind, .ref A_t_placed, .ref A_t_isKept, .ref A_t_lanes, .ref A_t_lengths, .ref A_t_cells, .int t_torn])), (A_t_state, .inl (cy 1, 535, .inl t_state)), (A_t_least, .inl (cy 2, 100, .inr (.inl t_least)))]) H := hP.sub [1, 3, 4, 6, 0, 2, 5] rfl
      have hDn : va_D A ([(A_t_tape, .inl (cy 1, 320, .inl t_tape)), (A_t_ends, .inl (cy 1, 7, .inl t_ends)), (A_t_letters, .inl (cy 1, 25, .inl t_letters)), (A_t_isKept, .inl (cy 3, 2, .inl t_isKept))] ++ [(A_t, .inr (8, [.ref A_t_state, .ref A_t_tape, .int t_taped, .int t_fault, .int t_broken, .int t_brokenAt, .int t_spot, .int t_here, .int t_token, .int t_value, .int t_isRealTold, .ref A_t_ends, .ref A_t_letters, .ref A_t_least, .ref A_t_conflicts, .int t_conflictMany, .ref A_t_behind, .ref A_t_placed, .ref A_t_isKept, .ref A_t_lanes, .ref A_t_lengths, .ref A_t_cells, .int t_torn])), (A_t_state, .inl (cy 1, 535, .inl t_state)), (A_t_least, .inl (cy 2, 100, .inr (.inl t_least)))]) := hD.sub [1, 3, 4, 6, 0, 2, 5] (by decide) rfl
      have hPc := gPR hPn
      have hDc := gDR hDn
      refine mw_i (va_runV (As := [.int (321 : Int32)]) (rest := []) CF (c_X8_isHolding l D cy H.size A_t A_t_state A_t_tape A_t_ends A_t_letters A_t_least A_t_conflicts A_t_behind A_t_placed A_t_isKept A_t_lanes A_t_lengths A_t_cells t_taped t_fault t_broken t_brokenAt t_spot t_here t_token t_value t_isRealTold t_conflictMany t_torn t_state t_least (321 : Int32) _ h) (cwV 1 hts gX8_text_X8_isHolding rfl rfl rfl qX8_isHolding ⟨Nat.le_of_ble_eq_true rfl, Nat.le_of_ble_eq_true rfl⟩) (mpVW hK hPc hDc (ci := 8) (q := (RX8, TX8, 23)) (q0 := 0) rfl rfl) rfl rfl hl.1 rfl (lv_room (Nat.le_of_ble_eq_true rfl)) dX8_text_81 ⟨Nat.zero_le _, Nat.zero_le _⟩) hPn hDn hS hA (fun r3 t_least_v3 H locs h hP hD hS => ?_)
      have hP : va_P D vwCl [(A_t, .inr (8, [.ref A_t_state, .ref A_t_tape, .int t_taped, .int t_fault, .int t_broken, .int t_brokenAt, .int t_spot, .int t_here, .int t_token, .int t_value, .int t_isRealTold, .ref A_t_ends, .ref A_t_letters, .ref A_t_least, .ref A_t_conflicts, .int t_conflictMany, .ref A_t_behind, .ref A_t_placed, .ref A_t_isKept, .ref A_t_lanes, .ref A_t_lengths, .ref A_t_cells, .int t_torn])), (A_t_tape, .inl (cy 1, 320, .inl t_tape)), (A_t_state, .inl (cy 1, 535, .inl t_state)), (A_t_ends, .inl (cy 1, 7, .inl t_ends)), (A_t_letters, .inl (cy 1, 25, .inl t_letters)), (A_t_least, .inl (cy 2, 100, .inr (.inl t_least_v3))), (A_t_isKept, .inl (cy 3, 2, .inl t_isKept))] H := hP.sub [4, 0, 5, 1, 2, 6, 3] rfl
      have hD : va_D A [(A_t, .inr (8, [.ref A_t_state, .ref A_t_tape, .int t_taped, .int t_fault, .int t_broken, .int t_brokenAt, .int t_spot, .int t_here, .int t_token, .int t_value, .int t_isRealTold, .ref A_t_ends, .ref A_t_letters, .ref A_t_least, .ref A_t_conflicts, .int t_conflictMany, .ref A_t_behind, .ref A_t_placed, .ref A_t_isKept, .ref A_t_lanes, .ref A_t_lengths, .ref A_t_cells, .int t_torn])), (A_t_tape, .inl (cy 1, 320, .inl t_tape)), (A_t_state, .inl (cy 1, 535, .inl t_state)), (A_t_ends, .inl (cy 1, 7, .inl t_ends)), (A_t_letters, .inl (cy 1, 25, .inl t_letters)), (A_t_least, .inl (cy 2, 100, .inr (.inl t_least_v3))), (A_t_isKept, .inl (cy 3, 2, .inl t_isKept))] := hD.sub [4, 0, 5, 1, 2, 6, 3] (by decide) rfl
      refine lv_if_ne (tgt := 93) hx hb dX8_text_84 (by decide) (fun hc => ?_) (fun hc => ?_)
      · replace h := h.1 hc
        exact J93 t_taped t_fault t_broken t_brokenAt t_spot t_here t_token t_value t_isRealTold t_conflictMany t_state t_least_v3 t_isKept x1 H locs ls h hP hD hS (lv_sub hl [0, 1] rfl)
      · replace h := h.2 hc
        refine lv_aload_n hx hb dX8_text_87 rfl (lv_at hl 0 rfl) ?_
        refine lv_bipush (v := 6) hx hb dX8_text_88 (by decide) ?_
        have hPn : va_P D vwCl ([(A_t_tape, .inl (cy 1, 320, .inl t_tape)), (A_t_state, .inl (cy 1, 535, .inl t_state)), (A_t_ends, .inl (cy 1, 7, .inl t_ends)), (A_t_letters, .inl (cy 1, 25, .inl t_letters)), (A_t_least, .inl (cy 2, 100, .inr (.inl t_least_v3))), (A_t_isKept, .inl (cy 3, 2, .inl t_isKept))] ++ [(A_t, .inr (8, [.ref A_t_state, .ref A_t_tape, .int t_taped, .int t_fault, .int t_broken, .int t_brokenAt, .int t_spot, .int t_here, .int t_token, .int t_value, .int t_isRealTold, .ref A_t_ends, .ref A_t_letters, .ref A_t_least, .ref A_t_conflicts, .int t_conflictMany, .ref A_t_behind, .ref A_t_placed, .ref A_t_isKept, .ref A_t_lanes, .ref A_t_lengths, .ref A_t_cells, .int t_torn]))]) H := hP.sub [1, 2, 3, 4, 5, 6, 0] rfl
        have hDn : va_D A ([(A_t_tape, .inl (cy 1, 320, .inl t_tape)), (A_t_state, .inl (cy 1, 535, .inl t_state)), (A_t_ends, .inl (cy 1, 7, .inl t_ends)), (A_t_letters, .inl (cy 1, 25, .inl t_letters)), (A_t_least, .inl (cy 2, 100, .inr (.inl t_least_v3))), (A_t_isKept, .inl (cy 3, 2, .inl t_isKept))] ++ [(A_t, .inr (8, [.ref A_t_state, .ref A_t_tape, .int t_taped, .int t_fault, .int t_broken, .int t_brokenAt, .int t_spot, .int t_here, .int t_token, .int t_value, .int t_isRealTold, .ref A_t_ends, .ref A_t_letters, .ref A_t_least, .ref A_t_conflicts, .int t_conflictMany, .ref A_t_behind, .ref A_t_placed, .ref A_t_isKept, .ref A_t_lanes, .ref A_t_lengths, .ref A_t_cells, .int t_torn]))]) := hD.sub [1, 2, 3, 4, 5, 6, 0] (by decide) rfl
        have hPc := gPR hPn
        have hDc := gDR hDn
        refine mw_v (va_runV (As := [.int (6 : Int32)]) (rest := []) CF (c_X8_fails l D cy H.size A_t A_t_state A_t_tape A_t_ends A_t_letters A_t_least A_t_conflicts A_t_behind A_t_placed A_t_isKept A_t_lanes A_t_lengths A_t_cells t_taped t_fault t_broken t_brokenAt t_spot t_here t_token t_value t_isRealTold t_conflictMany t_torn (6 : Int32) _ h) (cwV 1 hts gX8_text_X8_fails rfl rfl rfl qX8_fails ⟨Nat.le_of_ble_eq_true rfl, Nat.le_of_ble_eq_true rfl⟩) (mpVW hK hPc hDc (ci := 8) (q := (RX8, TX8, 23)) (q0 := 0) rfl rfl) rfl rfl hl.1 rfl (lv_room (Nat.le_of_ble_eq_true rfl)) dX8_text_90 ⟨Nat.zero_le _, Nat.zero_le _⟩) hPn hDn hS hA (fun u H locs h hP hD hS => ?_)
        obtain ⟨t_broken_v4, t_brokenAt_v4⟩ := u
        have hP : va_P D vwCl [(A_t, .inr (8, [.ref A_t_state, .ref A_t_tape, .int t_taped, .int t_fault, .int t_broken_v4, .int t_brokenAt_v4, .int t_spot, .int t_here, .int t_token, .int t_value, .int t_isRealTold, .ref A_t_ends, .ref A_t_letters, .ref A_t_least, .ref A_t_conflicts, .int t_conflictMany, .ref A_t_behind, .ref A_t_placed, .ref A_t_isKept, .ref A_t_lanes, .ref A_t_lengths, .ref A_t_cells, .int t_torn])), (A_t_tape, .inl (cy 1, 320, .inl t_tape)), (A_t_state, .inl (cy 1, 535, .inl t_state)), (A_t_ends, .inl (cy 1, 7, .inl t_ends)), (A_t_letters, .inl (cy 1, 25, .inl t_letters)), (A_t_least, .inl (cy 2, 100, .inr (.inl t_least_v3))), (A_t_isKept, .inl (cy 3, 2, .inl t_isKept))] H := hP.sub [6, 0, 1, 2, 3, 4, 5] rfl
        have hD : va_D A [(A_t, .inr (8, [.ref A_t_state, .ref A_t_tape, .int t_taped, .int t_fault, .int t_broken_v4, .int t_brokenAt_v4, .int t_spot, .int t_here, .int t_token, .int t_value, .int t_isRealTold, .ref A_t_ends, .ref A_t_letters, .ref A_t_least, .ref A_t_conflicts, .int t_conflictMany, .ref A_t_behind, .ref A_t_placed, .ref A_t_isKept, .ref A_t_lanes, .ref A_t_lengths, .ref A_t_cells, .int t_torn])), (A_t_tape, .inl (cy 1, 320, .inl t_tape)), (A_t_state, .inl (cy 1, 535, .inl t_state)), (A_t_ends, .inl (cy 1, 7, .inl t_ends)), (A_t_letters, .inl (cy 1, 25, .inl t_letters)), (A_t_least, .inl (cy 2, 100, .inr (.inl t_least_v3))), (A_t_isKept, .inl (cy 3, 2, .inl t_isKept))] := hD.sub [6, 0, 1, 2, 3, 4, 5] (by decide) rfl
        try dsimp only at h
        exact J93 t_taped t_fault t_broken_v4 t_brokenAt_v4 t_spot t_here t_token t_value t_isRealTold t_conflictMany t_state t_least_v3 t_isKept x1 H locs ls h hP hD hS (lv_sub hl [0, 1] rfl)
  have L46 : ∀ (n46 : Nat) (t_taped : Int32) (t_fault : Int32) (t_broken : Int32) (t_brokenAt : Int32) (t_spot : Int32) (t_here : Int32) (t_token : Int32) (t_value : Int32) (t_isRealTold : Int32) (t_conflictMany : Int32) (t_state : Nat → Int32) (t_least : Nat → Int64) (t_isKept : Nat → Int32) (x1 : Int32) (H : Heap) (locs : List Loc) (ls : Array Slot), L_X8_text_46 post t_taped t_conflictMany t_tape t_ends t_letters t_least t_isKept n46 t_broken t_brokenAt t_spot t_here t_token t_value t_isRealTold t_state x1 → va_P D vwCl [(A_t, .inr (8, [.ref A_t_state, .ref A_t_tape, .int t_taped, .int t_fault, .int t_broken, .int t_brokenAt, .int t_spot, .int t_here, .int t_token, .int t_value, .int t_isRealTold, .ref A_t_ends, .ref A_t_letters, .ref A_t_least, .ref A_t_conflicts, .int t_conflictMany, .ref A_t_behind, .ref A_t_placed, .ref A_t_isKept, .ref A_t_lanes, .ref A_t_lengths, .ref A_t_cells, .int t_torn])), (A_t_tape, .inl (cy 1, 320, .inl t_tape)), (A_t_state, .inl (cy 1, 535, .inl t_state)), (A_t_ends, .inl (cy 1, 7, .inl t_ends)), (A_t_letters, .inl (cy 1, 25, .inl t_letters)), (A_t_least, .inl (cy 2, 100, .inr (.inl t_least))), (A_t_isKept, .inl (cy 3, 2, .inl t_isKept))] H → va_D A [(A_t, .inr (8, [.ref A_t_state, .ref A_t_tape, .int t_taped, .int t_fault, .int t_broken, .int t_brokenAt, .int t_spot, .int t_here, .int t_token, .int t_value, .int t_isRealTold, .ref A_t_ends, .ref A_t_letters, .ref A_t_least, .ref A_t_conflicts, .int t_conflictMany, .ref A_t_behind, .ref A_t_placed, .ref A_t_isKept, .ref A_t_lanes, .ref A_t_lengths, .ref A_t_cells, .int t_torn])), (A_t_tape, .inl (cy 1, 320, .inl t_tape)), (A_t_state, .inl (cy 1, 535, .inl t_state)), (A_t_ends, .inl (cy 1, 7, .inl t_ends)), (A_t_letters, .inl (cy 1, 25, .inl t_letters)), (A_t_least, .inl (cy 2, 100, .inr (.inl t_least))), (A_t_isKept, .inl (cy 3, 2, .inl t_isKept))] → va_S A s.heap H locs → lv_has ls 3 [(0, .ref A_t), (1, .int x1)] → W p l e (headSpec wsX8_text { frames := 5, cells := 0, slots := 0, locals := 115 }).room s m ([.ref A_t] : List Value).toArray below meth c H locs 0 0 Q0 (F0 m 46 ls []) := by
    intro n46
    induction n46 with
    | zero => intro t_taped t_fault t_broken t_brokenAt t_spot t_here t_token t_value t_isRealTold t_conflictMany t_state t_least t_isKept x1 H locs ls h; exact False.elim h
    | succ n46 ih46 =>
      intro t_taped t_fault t_broken t_brokenAt t_spot t_here t_token t_value t_isRealTold t_conflictMany t_state t_least t_isKept x1 H locs ls h hP hD hS hl
      have h : LB_X8_text_46 post t_taped t_conflictMany t_tape t_ends t_letters t_least t_isKept (L_X8_text_46 post t_taped t_conflictMany t_tape t_ends t_letters t_least t_isKept n46) t_broken t_brokenAt t_spot t_here t_token t_value t_isRealTold t_state x1 := h
      unfold LB_X8_text_46 at h
      refine lv_aload_n hx hb dX8_text_46 rfl (lv_at hl 0 rfl) ?_
      refine va_get (D := D) (ci := 8) (v := .int t_broken) (C := RX8) (T := TX8) (N := 23) hx hb hts iX8 hown hK.1 hP 0 rfl rfl 4 (by decide) f0 (fun _ h9 => h9) rfl dX8_text_47 ?_
      refine lv_if_ne (tgt := 70) hx hb dX8_text_50 (by decide) (fun hc => ?_) (fun hc => ?_)
      · replace h := h.1 hc
        exact J70 t_taped t_fault t_broken t_brokenAt t_spot t_here t_token t_value t_isRealTold t_conflictMany t_state t_least t_isKept x1 H locs ls h hP hD hS (lv_sub hl [0, 1] rfl)
      · replace h := h.2 hc
        refine lv_aload_n hx hb dX8_text_53 rfl (lv_at hl 0 rfl) ?_
        refine va_get (D := D) (ci := 8) (v := .int t_token) (C := RX8) (T := TX8) (N := 23) hx hb hts iX8 hown hK.1 hP 0 rfl rfl 8 (by decide) f8 (fun _ h9 => h9) rfl dX8_text_54 ?_
        refine lv_if_eq (tgt := 70) hx hb dX8_text_57 (by decide) (fun hc => ?_) (fun hc => ?_)
        · replace h := h.1 hc
          exact J70 t_taped t_fault t_broken t_brokenAt t_spot t_here t_token t_value t_isRealTold t_conflictMany t_state t_least t_isKept x1 H locs ls h hP hD hS (lv_sub hl [0, 1] rfl)
        · replace h := h.2 hc
          refine lv_aload_n hx hb dX8_text_60 rfl (lv_at hl 0 rfl) ?_
          have hPn : va_P D vwCl ([(A_t_least, .inl (cy 2, 100, .inr (.inl t_least))), (A_t_isKept, .inl (cy 3, 2, .inl t_isKept))] ++ [(A_t, .inr (8, [.ref A_t_state, .ref A_t_tape, .int t_taped, .int t_fault, .int t_broken, .int t_brokenAt, .int t_spot, .int t_here, .int t_token, .int t_value, .int t_isRealTold, .ref A_t_ends, .ref A_t_letters, .ref A_t_least, .ref A_t_conflicts, .int t_conflictMany, .ref A_t_behind, .ref A_t_placed, .ref A_t_isKept, .ref A_t_lanes, .ref A_t_lengths, .ref A_t_cells, .int t_torn])), (A_t_ends, .inl (cy 1, 7, .inl t_ends)), (A_t_tape, .inl (cy 1, 320, .inl t_tape)), (A_t_letters, .inl (cy 1, 25, .inl t_letters)), (A_t_state, .inl (cy 1, 535, .inl t_state))]) H := hP.sub [5, 6, 0, 3, 1, 4, 2] rfl
          have hDn : va_D A ([(A_t_least, .inl (cy 2, 100, .inr (.inl t_least))), (A_t_isKept, .inl (cy 3, 2, .inl t_isKept))] ++ [(A_t, .inr (8, [.ref A_t_state, .ref A_t_tape, .int t_taped, .int t_fault, .int t_broken, .int t_brokenAt, .int t_spot, .int t_here, .int t_token, .int t_value, .int t_isRealTold, .ref A_t_ends, .ref A_t_letters, .ref A_t_least, .ref A_t_conflicts, .int t_conflictMany, .ref A_t_behind, .ref A_t_placed, .ref A_t_isKept, .ref A_t_lanes, .ref A_t_lengths, .ref A_t_cells, .int t_torn])), (A_t_ends, .inl (cy 1, 7, .inl t_ends)), (A_t_tape, .inl (cy 1, 320, .inl t_tape)), (A_t_letters, .inl (cy 1, 25, .inl t_letters)), (A_t_state, .inl (cy 1, 535, .inl t_state))]) := hD.sub [5, 6, 0, 3, 1, 4, 2] (by decide) rfl
          have hPc := gPR hPn
          have hDc := gDR hDn
          refine mw_v (va_runV (As := []) (rest := []) CF (c_X8_readLine l D cy H.size A_t A_t_state A_t_tape A_t_ends A_t_letters A_t_least A_t_conflicts A_t_behind A_t_placed A_t_isKept A_t_lanes A_t_lengths A_t_cells t_taped t_fault t_broken t_brokenAt t_spot t_here t_token t_value t_isRealTold t_conflictMany t_torn t_ends t_tape t_letters t_state _ h) (cwV 0 hts gX8_text_X8_readLine rfl rfl rfl qX8_readLine ⟨Nat.le_of_ble_eq_true rfl, Nat.le_of_ble_eq_true rfl⟩) (mpVW hK hPc hDc (ci := 8) (q := (RX8, TX8, 23)) (q0 := 0) rfl rfl) rfl rfl hl.1 rfl (lv_room (Nat.le_of_ble_eq_true rfl)) dX8_text_61 ⟨Nat.zero_le _, Nat.zero_le _⟩) hPn hDn hS hA (fun u H locs h hP hD hS => ?_)
          obtain ⟨t_broken_v5, t_brokenAt_v5, t_spot_v5, t_here_v5, t_token_v5, t_value_v5, t_isRealTold_v5, t_state_v5⟩ := u
          have hP : va_P D vwCl [(A_t, .inr (8, [.ref A_t_state, .ref A_t_tape, .int t_taped, .int t_fault, .int t_broken_v5, .int t_brokenAt_v5, .int t_spot_v5, .int t_here_v5, .int t_token_v5, .int t_value_v5, .int t_isRealTold_v5, .ref A_t_ends, .ref A_t_letters, .ref A_t_least, .ref A_t_conflicts, .int t_conflictMany, .ref A_t_behind, .ref A_t_placed, .ref A_t_isKept, .ref A_t_lanes, .ref A_t_lengths, .ref A_t_cells, .int t_torn])), (A_t_tape, .inl (cy 1, 320, .inl t_tape)), (A_t_state, .inl (cy 1, 535, .inl t_state_v5)), (A_t_ends, .inl (cy 1, 7, .inl t_ends)), (A_t_letters, .inl (cy 1, 25, .inl t_letters)), (A_t_least, .inl (cy 2, 100, .inr (.inl t_least))), (A_t_isKept, .inl (cy 3, 2, .inl t_isKept))] H := hP.sub [2, 4, 6, 3, 5, 0, 1] rfl
          have hD : va_D A [(A_t, .inr (8, [.ref A_t_state, .ref A_t_tape, .int t_taped, .int t_fault, .int t_broken_v5, .int t_brokenAt_v5, .int t_spot_v5, .int t_here_v5, .int t_token_v5, .int t_value_v5, .int t_isRealTold_v5, .ref A_t_ends, .ref A_t_letters, .ref A_t_least, .ref A_t_conflicts, .int t_conflictMany, .ref A_t_behind, .ref A_t_placed, .ref A_t_isKept, .ref A_t_lanes, .ref A_t_lengths, .ref A_t_cells, .int t_torn])), (A_t_tape, .inl (cy 1, 320, .inl t_tape)), (A_t_state, .inl (cy 1, 535, .inl t_state_v5)), (A_t_ends, .inl (cy 1, 7, .inl t_ends)), (A_t_letters, .inl (cy 1, 25, .inl t_letters)), (A_t_least, .inl (cy 2, 100, .inr (.inl t_least))), (A_t_isKept, .inl (cy 3, 2, .inl t_isKept))] := hD.sub [2, 4, 6, 3, 5, 0, 1] (by decide) rfl
          try dsimp only at h
          refine lv_iinc (v := x1 + (1 : Int32)) (lv' := [(1, .int (x1 + (1 : Int32))), (0, .ref A_t)]) hx hb dX8_text_64 hl (k := 1) rfl rfl (by decide) rfl (fun ls hl => ?_)
          refine lv_goto (tgt := 46) hx hb dX8_text_67 (by decide) ?_
          exact ih46 t_taped t_fault t_broken_v5 t_brokenAt_v5 t_spot_v5 t_here_v5 t_token_v5 t_value_v5 t_isRealTold_v5 t_conflictMany t_state_v5 t_least t_isKept (x1 + (1 : Int32)) H locs ls h hP hD hS (lv_sub hl [1, 0] rfl)
  have L19 : ∀ (n19 : Nat) (t_taped : Int32) (t_fault : Int32) (t_broken : Int32) (t_brokenAt : Int32) (t_spot : Int32) (t_here : Int32) (t_token : Int32) (t_value : Int32) (t_isRealTold : Int32) (t_conflictMany : Int32) (t_state : Nat → Int32) (t_least : Nat → Int64) (t_isKept : Nat → Int32) (x1 : Int32) (x2 : Int32) (H : Heap) (locs : List Loc) (ls : Array Slot), L_X8_text_19 post t_taped t_broken t_brokenAt t_spot t_here t_token t_value t_isRealTold t_conflictMany t_tape t_ends t_letters t_least t_isKept x1 n19 t_state x2 → va_P D vwCl [(A_t, .inr (8, [.ref A_t_state, .ref A_t_tape, .int t_taped, .int t_fault, .int t_broken, .int t_brokenAt, .int t_spot, .int t_here, .int t_token, .int t_value, .int t_isRealTold, .ref A_t_ends, .ref A_t_letters, .ref A_t_least, .ref A_t_conflicts, .int t_conflictMany, .ref A_t_behind, .ref A_t_placed, .ref A_t_isKept, .ref A_t_lanes, .ref A_t_lengths, .ref A_t_cells, .int t_torn])), (A_t_tape, .inl (cy 1, 320, .inl t_tape)), (A_t_state, .inl (cy 1, 535, .inl t_state)), (A_t_ends, .inl (cy 1, 7, .inl t_ends)), (A_t_letters, .inl (cy 1, 25, .inl t_letters)), (A_t_least, .inl (cy 2, 100, .inr (.inl t_least))), (A_t_isKept, .inl (cy 3, 2, .inl t_isKept))] H → va_D A [(A_t, .inr (8, [.ref A_t_state, .ref A_t_tape, .int t_taped, .int t_fault, .int t_broken, .int t_brokenAt, .int t_spot, .int t_here, .int t_token, .int t_value, .int t_isRealTold, .ref A_t_ends, .ref A_t_letters, .ref A_t_least, .ref A_t_conflicts, .int t_conflictMany, .ref A_t_behind, .ref A_t_placed, .ref A_t_isKept, .ref A_t_lanes, .ref A_t_lengths, .ref A_t_cells, .int t_torn])), (A_t_tape, .inl (cy 1, 320, .inl t_tape)), (A_t_state, .inl (cy 1, 535, .inl t_state)), (A_t_ends, .inl (cy 1, 7, .inl t_ends)), (A_t_letters, .inl (cy 1, 25, .inl t_letters)), (A_t_least, .inl (cy 2, 100, .inr (.inl t_least))), (A_t_isKept, .inl (cy 3, 2, .inl t_isKept))] → va_S A s.heap H locs → lv_has ls 3 [(0, .ref A_t), (1, .int x1), (2, .int x2)] → W p l e (headSpec wsX8_text { frames := 5, cells := 0, slots := 0, locals := 115 }).room s m ([.ref A_t] : List Value).toArray below meth c H locs 0 0 Q0 (F0 m 19 ls []) := by
    intro n19
    induction n19 with
    | zero => intro t_taped t_fault t_broken t_brokenAt t_spot t_here t_token t_value t_isRealTold t_conflictMany t_state t_least t_isKept x1 x2 H locs ls h; exact False.elim h
    | succ n19 ih19 =>
      intro t_taped t_fault t_broken t_brokenAt t_spot t_here t_token t_value t_isRealTold t_conflictMany t_state t_least t_isKept x1 x2 H locs ls h hP hD hS hl
      have h : LB_X8_text_19 post t_taped t_broken t_brokenAt t_spot t_here t_token t_value t_isRealTold t_conflictMany t_tape t_ends t_letters t_least t_isKept x1 (L_X8_text_19 post t_taped t_broken t_brokenAt t_spot t_here t_token t_value t_isRealTold t_conflictMany t_tape t_ends t_letters t_least t_isKept x1 n19) t_state x2 := h
      unfold LB_X8_text_19 at h
      refine lv_iload_n hx hb dX8_text_19 rfl (lv_at hl 2 rfl) ?_
      refine lv_bipush (v := 107) hx hb dX8_text_20 (by decide) ?_
      refine lv_icmp_ge (tgt := 42) hx hb dX8_text_22 (by decide) (fun hc => ?_) (fun hc => ?_)
      · replace h := h.1 hc
        refine lv_aload_n hx hb dX8_text_42 rfl (lv_at hl 0 rfl) ?_
        have hPn : va_P D vwCl ([(A_t_state, .inl (cy 1, 535, .inl t_state)), (A_t_ends, .inl (cy 1, 7, .inl t_ends)), (A_t_letters, .inl (cy 1, 25, .inl t_letters)), (A_t_least, .inl (cy 2, 100, .inr (.inl t_least))), (A_t_isKept, .inl (cy 3, 2, .inl t_isKept))] ++ [(A_t, .inr (8, [.ref A_t_state, .ref A_t_tape, .int t_taped, .int t_fault, .int t_broken, .int t_brokenAt, .int t_spot, .int t_here, .int t_token, .int t_value, .int t_isRealTold, .ref A_t_ends, .ref A_t_letters, .ref A_t_least, .ref A_t_conflicts, .int t_conflictMany, .ref A_t_behind, .ref A_t_placed, .ref A_t_isKept, .ref A_t_lanes, .ref A_t_lengths, .ref A_t_cells, .int t_torn])), (A_t_tape, .inl (cy 1, 320, .inl t_tape))]) H := hP.sub [2, 3, 4, 5, 6, 0, 1] rfl
        have hDn : va_D A ([(A_t_state, .inl (cy 1, 535, .inl t_state)), (A_t_ends, .inl (cy 1, 7, .inl t_ends)), (A_t_letters, .inl (cy 1, 25, .inl t_letters)), (A_t_least, .inl (cy 2, 100, .inr (.inl t_least))), (A_t_isKept, .inl (cy 3, 2, .inl t_isKept))] ++ [(A_t, .inr (8, [.ref A_t_state, .ref A_t_tape, .int t_taped, .int t_fault, .int t_broken, .int t_brokenAt, .int t_spot, .int t_here, .int t_token, .int t_value, .int t_isRealTold, .ref A_t_ends, .ref A_t_letters, .ref A_t_least, .ref A_t_conflicts, .int t_conflictMany, .ref A_t_behind, .ref A_t_placed, .ref A_t_isKept, .ref A_t_lanes, .ref A_t_lengths, .ref A_t_cells, .int t_torn])), (A_t_tape, .inl (cy 1, 320, .inl t_tape))]) := hD.sub [2, 3, 4, 5, 6, 0, 1] (by decide) rfl
        have hPc := gPR hPn
        have hDc := gDR hDn
        refine mw_v (va_runV (As := []) (rest := []) CF (c_X8_readsOn l D cy H.size A_t A_t_state A_t_tape A_t_ends A_t_letters A_t_least A_t_conflicts A_t_behind A_t_placed A_t_isKept A_t_lanes A_t_lengths A_t_cells t_taped t_fault t_broken t_brokenAt t_spot t_here t_token t_value t_isRealTold t_conflictMany t_torn t_tape _ h) (cwV 0 hts gX8_text_X8_readsOn rfl rfl rfl qX8_readsOn ⟨Nat.le_of_ble_eq_true rfl, Nat.le_of_ble_eq_true rfl⟩) (mpVW hK hPc hDc (ci := 8) (q := (RX8, TX8, 23)) (q0 := 0) rfl rfl) rfl rfl hl.1 rfl (lv_room (Nat.le_of_ble_eq_true rfl)) dX8_text_43 ⟨Nat.zero_le _, Nat.zero_le _⟩) hPn hDn hS hA (fun u H locs h hP hD hS => ?_)
        obtain ⟨t_broken_v1, t_brokenAt_v1, t_spot_v1, t_here_v1, t_token_v1, t_value_v1⟩ := u
        have hP : va_P D vwCl [(A_t, .inr (8, [.ref A_t_state, .ref A_t_tape, .int t_taped, .int t_fault, .int t_broken_v1, .int t_brokenAt_v1, .int t_spot_v1, .int t_here_v1, .int t_token_v1, .int t_value_v1, .int t_isRealTold, .ref A_t_ends, .ref A_t_letters, .ref A_t_least, .ref A_t_conflicts, .int t_conflictMany, .ref A_t_behind, .ref A_t_placed, .ref A_t_isKept, .ref A_t_lanes, .ref A_t_lengths, .ref A_t_cells, .int t_torn])), (A_t_tape, .inl (cy 1, 320, .inl t_tape)), (A_t_state, .inl (cy 1, 535, .inl t_state)), (A_t_ends, .inl (cy 1, 7, .inl t_ends)), (A_t_letters, .inl (cy 1, 25, .inl t_letters)), (A_t_least, .inl (cy 2, 100, .inr (.inl t_least))), (A_t_isKept, .inl (cy 3, 2, .inl t_isKept))] H := hP.sub [5, 6, 0, 1, 2, 3, 4] rfl
        have hD : va_D A [(A_t, .inr (8, [.ref A_t_state, .ref A_t_tape, .int t_taped, .int t_fault, .int t_broken_v1, .int t_brokenAt_v1, .int t_spot_v1, .int t_here_v1, .int t_token_v1, .int t_value_v1, .int t_isRealTold, .ref A_t_ends, .ref A_t_letters, .ref A_t_least, .ref A_t_conflicts, .int t_conflictMany, .ref A_t_behind, .ref A_t_placed, .ref A_t_isKept, .ref A_t_lanes, .ref A_t_lengths, .ref A_t_cells, .int t_torn])), (A_t_tape, .inl (cy 1, 320, .inl t_tape)), (A_t_state, .inl (cy 1, 535, .inl t_state)), (A_t_ends, .inl (cy 1, 7, .inl t_ends)), (A_t_letters, .inl (cy 1, 25, .inl t_letters)), (A_t_least, .inl (cy 2, 100, .inr (.inl t_least))), (A_t_isKept, .inl (cy 3, 2, .inl t_isKept))] := hD.sub [5, 6, 0, 1, 2, 3, 4] (by decide) rfl
        try dsimp only at h
        obtain ⟨nn, h⟩ := h
        exact L46 nn t_taped t_fault t_broken_v1 t_brokenAt_v1 t_spot_v1 t_here_v1 t_token_v1 t_value_v1 t_isRealTold t_conflictMany t_state t_least t_isKept x1 H locs ls h hP hD hS (lv_sub hl [0, 1] rfl)
      · replace h := h.2 hc
        refine lv_aload_n hx hb dX8_text_25 rfl (lv_at hl 0 rfl) ?_
        refine va_get (D := D) (ci := 8) (v := .ref A_t_state) (C := RX8) (T := TX8) (N := 23) hx hb hts iX8 hown hK.1 hP 0 rfl rfl 0 (by decide) f9 (fun _ h9 => h9) rfl dX8_text_26 ?_
        refine lv_sipush (v := 321) hx hb dX8_text_29 (by decide) ?_
        refine lv_iload_n hx hb dX8_text_32 rfl (lv_at hl 2 rfl) ?_
        refine lv_iadd hx hb dX8_text_33 ?_
        refine lv_iconst (v := 0) hx hb dX8_text_34 (by decide) ?_
        refine va_iast hx hb hK.1 hP hD hS 2 1 rfl rfl h.1 dX8_text_35 (fun H locs hP hD hS => ?_)
        replace h := h.2
        have hP : va_P D vwCl [(A_t, .inr (8, [.ref A_t_state, .ref A_t_tape, .int t_taped, .int t_fault, .int t_broken, .int t_brokenAt, .int t_spot, .int t_here, .int t_token, .int t_value, .int t_isRealTold, .ref A_t_ends, .ref A_t_letters, .ref A_t_least, .ref A_t_conflicts, .int t_conflictMany, .ref A_t_behind, .ref A_t_placed, .ref A_t_isKept, .ref A_t_lanes, .ref A_t_lengths, .ref A_t_cells, .int t_torn])), (A_t_tape, .inl (cy 1, 320, .inl t_tape)), (A_t_state, .inl (cy 1, 535, .inl (upd t_state ((321 : Int32) + x2).toNatClampNeg (0 : Int32)))), (A_t_ends, .inl (cy 1, 7, .inl t_ends)), (A_t_letters, .inl (cy 1, 25, .inl t_letters)), (A_t_least, .inl (cy 2, 100, .inr (.inl t_least))), (A_t_isKept, .inl (cy 3, 2, .inl t_isKept))] H := hP
        have hD : va_D A [(A_t, .inr (8, [.ref A_t_state, .ref A_t_tape, .int t_taped, .int t_fault, .int t_broken, .int t_brokenAt, .int t_spot, .int t_here, .int t_token, .int t_value, .int t_isRealTold, .ref A_t_ends, .ref A_t_letters, .ref A_t_least, .ref A_t_conflicts, .int t_conflictMany, .ref A_t_behind, .ref A_t_placed, .ref A_t_isKept, .ref A_t_lanes, .ref A_t_lengths, .ref A_t_cells, .int t_torn])), (A_t_tape, .inl (cy 1, 320, .inl t_tape)), (A_t_state, .inl (cy 1, 535, .inl (upd t_state ((321 : Int32) + x2).toNatClampNeg (0 : Int32)))), (A_t_ends, .inl (cy 1, 7, .inl t_ends)), (A_t_letters, .inl (cy 1, 25, .inl t_letters)), (A_t_least, .inl (cy 2, 100, .inr (.inl t_least))), (A_t_isKept, .inl (cy 3, 2, .inl t_isKept))] := hD
        refine lv_iinc (v := x2 + (1 : Int32)) (lv' := [(2, .int (x2 + (1 : Int32))), (0, .ref A_t), (1, .int x1)]) hx hb dX8_text_36 hl (k := 2) rfl rfl (by decide) rfl (fun ls hl => ?_)
        refine lv_goto (tgt := 19) hx hb dX8_text_39 (by decide) ?_
        exact ih19 t_taped t_fault t_broken t_brokenAt t_spot t_here t_token t_value t_isRealTold t_conflictMany (upd t_state ((321 : Int32) + x2).toNatClampNeg (0 : Int32)) t_least t_isKept x1 (x2 + (1 : Int32)) H locs ls h hP hD hS (lv_sub hl [1, 2, 0] rfl)
  unfold P_X8_text at h
  refine lv_aload_n hx hb dX8_text_0 rfl (lv_at hl 0 rfl) ?_
  refine lv_iconst (v := 0) hx hb dX8_text_1 (by decide) ?_
  refine va_put (D := D) (ci := 8) (v := .int (0 : Int32)) (ty := .int) (C := RX8) (T := TX8) (N := 23) hx hb hts iX8 tyX8 tyX8_ok nmX8 hown hK.1 hP hD hS 0 rfl rfl 4 (by decide) f0 (fun _ h9 => h9) rfl (tyX8_ok 4 (by decide)) rfl rfl (Nat.le_of_ble_eq_true rfl) dX8_text_2 (fun H locs hP hD hS => ?_)
  have hP : va_P D vwCl [(A_t, .inr (8, [.ref A_t_state, .ref A_t_tape, .int t_taped, .int t_fault, .int ((0 : Int32)), .int t_brokenAt, .int t_spot, .int t_here, .int t_token, .int t_value, .int t_isRealTold, .ref A_t_ends, .ref A_t_letters, .ref A_t_least, .ref A_t_conflicts, .int t_conflictMany, .ref A_t_behind, .ref A_t_placed, .ref A_t_isKept, .ref A_t_lanes, .ref A_t_lengths, .ref A_t_cells, .int t_torn])), (A_t_tape, .inl (cy 1, 320, .inl t_tape)), (A_t_state, .inl (cy 1, 535, .inl t_state)), (A_t_ends, .inl (cy 1, 7, .inl t_ends)), (A_t_letters, .inl (cy 1, 25, .inl t_letters)), (A_t_least, .inl (cy 2, 100, .inr (.inl t_least))), (A_t_isKept, .inl (cy 3, 2, .inl t_isKept))] H := hP
  have hD : va_D A [(A_t, .inr (8, [.ref A_t_state, .ref A_t_tape, .int t_taped, .int t_fault, .int ((0 : Int32)), .int t_brokenAt, .int t_spot, .int t_here, .int t_token, .int t_value, .int t_isRealTold, .ref A_t_ends, .ref A_t_letters, .ref A_t_least, .ref A_t_conflicts, .int t_conflictMany, .ref A_t_behind, .ref A_t_placed, .ref A_t_isKept, .ref A_t_lanes, .ref A_t_lengths, .ref A_t_cells, .int t_torn])), (A_t_tape, .inl (cy 1, 320, .inl t_tape)), (A_t_state, .inl (cy 1, 535, .inl t_state)), (A_t_ends, .inl (cy 1, 7, .inl t_ends)), (A_t_letters, .inl (cy 1, 25, .inl t_letters)), (A_t_least, .inl (cy 2, 100, .inr (.inl t_least))), (A_t_isKept, .inl (cy 3, 2, .inl t_isKept))] := hD
  refine lv_aload_n hx hb dX8_text_5 rfl (lv_at hl 0 rfl) ?_
  refine lv_iconst (v := 0) hx hb dX8_text_6 (by decide) ?_
  refine va_put (D := D) (ci := 8) (v := .int (0 : Int32)) (ty := .int) (C := RX8) (T := TX8) (N := 23) hx hb hts iX8 tyX8 tyX8_ok nmX8 hown hK.1 hP hD hS 0 rfl rfl 6 (by decide) f1 (fun _ h9 => h9) rfl (tyX8_ok 6 (by decide)) rfl rfl (Nat.le_of_ble_eq_true rfl) dX8_text_7 (fun H locs hP hD hS => ?_)
  have hP : va_P D vwCl [(A_t, .inr (8, [.ref A_t_state, .ref A_t_tape, .int t_taped, .int t_fault, .int ((0 : Int32)), .int t_brokenAt, .int ((0 : Int32)), .int t_here, .int t_token, .int t_value, .int t_isRealTold, .ref A_t_ends, .ref A_t_letters, .ref A_t_least, .ref A_t_conflicts, .int t_conflictMany, .ref A_t_behind, .ref A_t_placed, .ref A_t_isKept, .ref A_t_lanes, .ref A_t_lengths, .ref A_t_cells, .int t_torn])), (A_t_tape, .inl (cy 1, 320, .inl t_tape)), (A_t_state, .inl (cy 1, 535, .inl t_state)), (A_t_ends, .inl (cy 1, 7, .inl t_ends)), (A_t_letters, .inl (cy 1, 25, .inl t_letters)), (A_t_least, .inl (cy 2, 100, .inr (.inl t_least))), (A_t_isKept, .inl (cy 3, 2, .inl t_isKept))] H := hP
  have hD : va_D A [(A_t, .inr (8, [.ref A_t_state, .ref A_t_tape, .int t_taped, .int t_fault, .int ((0 : Int32)), .int t_brokenAt, .int ((0 : Int32)), .int t_here, .int t_token, .int t_value, .int t_isRealTold, .ref A_t_ends, .ref A_t_letters, .ref A_t_least, .ref A_t_conflicts, .int t_conflictMany, .ref A_t_behind, .ref A_t_placed, .ref A_t_isKept, .ref A_t_lanes, .ref A_t_lengths, .ref A_t_cells, .int t_torn])), (A_t_tape, .inl (cy 1, 320, .inl t_tape)), (A_t_state, .inl (cy 1, 535, .inl t_state)), (A_t_ends, .inl (cy 1, 7, .inl t_ends)), (A_t_letters, .inl (cy 1, 25, .inl t_letters)), (A_t_least, .inl (cy 2, 100, .inr (.inl t_least))), (A_t_isKept, .inl (cy 3, 2, .inl t_isKept))] := hD
  refine lv_aload_n hx hb dX8_text_10 rfl (lv_at hl 0 rfl) ?_
  refine lv_iconst (v := 0) hx hb dX8_text_11 (by decide) ?_
  refine va_put (D := D) (ci := 8) (v := .int (0 : Int32)) (ty := .boolean) (C := RX8) (T := TX8) (N := 23) hx hb hts iX8 tyX8 tyX8_ok nmX8 hown hK.1 hP hD hS 0 rfl rfl 10 (by decide) f2 (fun _ h9 => h9) rfl (tyX8_ok 10 (by decide)) (by decide) (by decide) (Nat.le_of_ble_eq_true rfl) dX8_text_12 (fun H locs hP hD hS => ?_)
  have hP : va_P D vwCl [(A_t, .inr (8, [.ref A_t_state, .ref A_t_tape, .int t_taped, .int t_fault, .int ((0 : Int32)), .int t_brokenAt, .int ((0 : Int32)), .int t_here, .int t_token, .int t_value, .int ((0 : Int32)), .ref A_t_ends, .ref A_t_letters, .ref A_t_least, .ref A_t_conflicts, .int t_conflictMany, .ref A_t_behind, .ref A_t_placed, .ref A_t_isKept, .ref A_t_lanes, .ref A_t_lengths, .ref A_t_cells, .int t_torn])), (A_t_tape, .inl (cy 1, 320, .inl t_tape)), (A_t_state, .inl (cy 1, 535, .inl t_state)), (A_t_ends, .inl (cy 1, 7, .inl t_ends)), (A_t_letters, .inl (cy 1, 25, .inl t_letters)), (A_t_least, .inl (cy 2, 100, .inr (.inl t_least))), (A_t_isKept, .inl (cy 3, 2, .inl t_isKept))] H := hP
  have hD : va_D A [(A_t, .inr (8, [.ref A_t_state, .ref A_t_tape, .int t_taped, .int t_fault, .int ((0 : Int32)), .int t_brokenAt, .int ((0 : Int32)), .int t_here, .int t_token, .int t_value, .int ((0 : Int32)), .ref A_t_ends, .ref A_t_letters, .ref A_t_least, .ref A_t_conflicts, .int t_conflictMany, .ref A_t_behind, .ref A_t_placed, .ref A_t_isKept, .ref A_t_lanes, .ref A_t_lengths, .ref A_t_cells, .int t_torn])), (A_t_tape, .inl (cy 1, 320, .inl t_tape)), (A_t_state, .inl (cy 1, 535, .inl t_state)), (A_t_ends, .inl (cy 1, 7, .inl t_ends)), (A_t_letters, .inl (cy 1, 25, .inl t_letters)), (A_t_least, .inl (cy 2, 100, .inr (.inl t_least))), (A_t_isKept, .inl (cy 3, 2, .inl t_isKept))] := hD
  refine lv_iconst (v := 0) hx hb dX8_text_15 (by decide) ?_
  refine lv_istore_n (lv' := [(1, .int (0 : Int32)), (0, .ref A_t)]) hx hb dX8_text_16 rfl hl (by decide) rfl (fun ls hl => ?_)
  refine lv_iconst (v := 0) hx hb dX8_text_17 (by decide) ?_
  refine lv_istore_n (lv' := [(2, .int (0 : Int32)), (1, .int (0 : Int32)), (0, .ref A_t)]) hx hb dX8_text_18 rfl hl (by decide) rfl (fun ls hl => ?_)
  obtain ⟨nn, h⟩ := h
  exact L19 nn t_taped t_fault (0 : Int32) t_brokenAt (0 : Int32) t_here t_token t_value (0 : Int32) t_conflictMany t_state t_least t_isKept (0 : Int32) (0 : Int32) H locs ls h hP hD hS (lv_sub hl [2, 1, 0] rfl)
theorem qX8_fault : yX8_fault.cls = RX8 ∧ yX8_fault.cls ≠ "java/lang/invoke/MethodHandle" ∧ yX8_fault.cls ≠ "java/lang/invoke/VarHandle" ∧ (parseMethodDescriptor yX8_fault.desc).map (fun d => d.parameters.length) = some 0 := by decide +kernel
def P_X8_fault (post : Int32 → Prop) (t_fault : Int32) : Prop :=
  post t_fault
set_option maxHeartbeats 4000000 in
set_option maxRecDepth 100000 in
theorem c_X8_fault (l : Launch) (D : va_G) (cy : Nat → ClassId) (A_t A_t_state A_t_tape A_t_ends A_t_letters A_t_least A_t_conflicts A_t_behind A_t_placed A_t_isKept A_t_lanes A_t_lengths A_t_cells : Nat) (t_taped : Int32) (t_fault : Int32) (t_broken : Int32) (t_brokenAt : Int32) (t_spot : Int32) (t_here : Int32) (t_token : Int32) (t_value : Int32) (t_isRealTold : Int32) (t_conflictMany : Int32) (t_torn : Int32) (post : Int32 → Prop) (h : P_X8_fault post t_fault) : Met l yX8_fault wsX8_fault { frames := 0, cells := 0, slots := 0, locals := 0 } (pcR D cy [(A_t, .inr (8, [.ref A_t_state, .ref A_t_tape, .int t_taped, .int t_fault, .int t_broken, .int t_brokenAt, .int t_spot, .int t_here, .int t_token, .int t_value, .int t_isRealTold, .ref A_t_ends, .ref A_t_letters, .ref A_t_least, .ref A_t_conflicts, .int t_conflictMany, .ref A_t_behind, .ref A_t_placed, .ref A_t_isKept, .ref A_t_lanes, .ref A_t_lengths, .ref A_t_cells, .int t_torn]))] [.ref A_t]) (vp_Si post) 0 0 (fun _ => False) := by
  refine Met.ofW (cc := cX8_fault) (maxL := 1) (ret := (some .int)) (by decide) rfl ?_
  intro p e s m args below meth c s₁ B hml hv
  obtain ⟨rfl, hP, hK⟩ := hv
  have hx := B.exec
  have hb := B.bytes
  have hr := B.returns
  have hts := atoms_spec (ws := wsX8_fault) B.pre
  have hown : s.vm.findClass RX8 = some m.cls := findClass_of_methodNamed B.named
  have hlocks := B.notSynchronized
  have CF : CallFix p m c cX8_fault 1 s ([.ref A_t] : List Value).toArray wsX8_fault RX8 := ⟨hx, hb, hml, hown, hts⟩
  have f0 := hts (.fieldLink RX8 129 "GapBoundsModel" "fault" "I") (by decide +kernel)
  have iX8 : ∀ w ∈ u_ws RX8 TX8 23, w ∈ wsX8_fault := by decide +kernel
  have hl := lv_entry [.ref A_t] (n := 1) (Nat.le_of_ble_eq_true rfl)
  rw [lg_entry_eq]
  generalize (lg_sl [.ref A_t] ++ List.replicate (1 - (lg_sl [.ref A_t]).length) Slot.unset).toArray = ls at hl ⊢
  have hl : lv_has ls 1 [(0, .ref A_t)] := hl
  refine W.gen (fun Q0 hQ => ?_)
  unfold P_X8_fault at h
  refine lv_aload_n hx hb dX8_fault_0 rfl (lv_at hl 0 rfl) ?_
  refine va_get (D := D) (ci := 8) (v := .int t_fault) (C := RX8) (T := TX8) (N := 23) hx hb hts iX8 hown hK.1 hP 0 rfl rfl 3 (by decide) f0 (fun _ h9 => h9) rfl dX8_fault_1 ?_
  subst hQ
  exact W.iret (v := t_fault) hx hb hr (fun t ht _ => ⟨t_fault, rfl, h, ht⟩) (fun _ hq => absurd hq List.not_mem_nil) dX8_fault_4
theorem qX8_limitOf : yX8_limitOf.cls = RX8 ∧ yX8_limitOf.cls ≠ "java/lang/invoke/MethodHandle" ∧ yX8_limitOf.cls ≠ "java/lang/invoke/VarHandle" ∧ (parseMethodDescriptor yX8_limitOf.desc).map (fun d => d.parameters.length) = some 1 := by decide +kernel
def P_X8_limitOf (post : Int64 → Prop) (y0 : Int64) : Prop :=
  (((y0 + (1000 : Int64)) - (1 : Int64) < (0 : Int64) → post (-(((999 : Int64) - ((y0 + (1000 : Int64)) - (1 : Int64))) / (1000 : Int64)))) ∧ (¬ (y0 + (1000 : Int64)) - (1 : Int64) < (0 : Int64) → post (((y0 + (1000 : Int64)) - (1 : Int64)) / (1000 : Int64))))
set_option maxHeartbeats 4000000 in
set_option maxRecDepth 100000 in
theorem c_X8_limitOf (l : Launch) (y0 : Int64) (post : Int64 → Prop) (h : P_X8_limitOf post y0) : Met l yX8_limitOf wsX8_limitOf { frames := 0, cells := 0, slots := 0, locals := 0 } (pcN [.long y0]) (vp_Sl post) 0 0 (fun _ => False) := by
  refine Met.ofW (cc := cX8_limitOf) (maxL := 4) (ret := (some .long)) (by decide) rfl ?_
  intro p e s m args below meth c s₁ B hml hv
  obtain ⟨rfl, -⟩ := hv
  have hx := B.exec
  have hb := B.bytes
  have hr := B.returns
  have hts := atoms_spec (ws := wsX8_limitOf) B.pre
  have hown : s.vm.findClass RX8 = some m.cls := findClass_of_methodNamed B.named
  have hlocks := B.notSynchronized
  have CF : CallFix p m c cX8_limitOf 4 s ([.long y0] : List Value).toArray wsX8_limitOf RX8 := ⟨hx, hb, hml, hown, hts⟩
  have f0 := hts (.constantLong RX8 139 (1000)) (by decide +kernel)
  have f1 := hts (.constantLong RX8 145 (999)) (by decide +kernel)
  have hl := lv_entry [.long y0] (n := 4) (Nat.le_of_ble_eq_true rfl)
  rw [lg_entry_eq]
  generalize (lg_sl [.long y0] ++ List.replicate (4 - (lg_sl [.long y0]).length) Slot.unset).toArray = ls at hl ⊢
  have hl : lv_has ls 4 [(0, .long y0)] := hl
  refine W.gen (fun Q0 hQ => ?_)
  unfold P_X8_limitOf at h
  refine lv_lload_n hx hb dX8_limitOf_0 rfl (lv_at hl 0 rfl) ?_
  refine lv_ldc2 (v := 1000) hx hb hown f0 dX8_limitOf_1 ?_
  refine lv_ladd hx hb dX8_limitOf_4 ?_
  refine lv_lconst (v := 1) hx hb dX8_limitOf_5 (by decide) ?_
  refine lv_lsub hx hb dX8_limitOf_6 ?_
  refine lv_lstore_n (lv' := [(2, .long ((y0 + (1000 : Int64)) - (1 : Int64))), (0, .long y0)]) hx hb dX8_limitOf_7 rfl hl (by decide) rfl (fun ls hl => ?_)
  refine lv_lload_n hx hb dX8_limitOf_8 rfl (lv_at hl 0 rfl) ?_
  refine lv_lconst (v := 0) hx hb dX8_limitOf_9 (by decide) ?_
  refine lx_lt (tgt := 22) hx hb dX8_limitOf_10 dX8_limitOf_11 (by decide) (fun hc => ?_) (fun hc => ?_)
  · replace h := h.1 hc
    refine lv_ldc2 (v := 999) hx hb hown f1 dX8_limitOf_22 ?_
    refine lv_lload_n hx hb dX8_limitOf_25 rfl (lv_at hl 0 rfl) ?_
    refine lv_lsub hx hb dX8_limitOf_26 ?_
    refine lv_ldc2 (v := 1000) hx hb hown f0 dX8_limitOf_27 ?_
    refine lv_ldiv hx hb dX8_limitOf_30 (by decide) ?_
    refine lv_lneg hx hb dX8_limitOf_31 ?_
    subst hQ
    exact W.lret (v := -(((999 : Int64) - ((y0 + (1000 : Int64)) - (1 : Int64))) / (1000 : Int64))) hx hb hr (fun t ht _ => ⟨-(((999 : Int64) - ((y0 + (1000 : Int64)) - (1 : Int64))) / (1000 : Int64)), rfl, h, ht⟩) (fun _ hq => absurd hq List.not_mem_nil) dX8_limitOf_32
  · replace h := h.2 hc
    refine lv_lload_n hx hb dX8_limitOf_14 rfl (lv_at hl 0 rfl) ?_
    refine lv_ldc2 (v := 1000) hx hb hown f0 dX8_limitOf_15 ?_
    refine lv_ldiv hx hb dX8_limitOf_18 (by decide) ?_
    refine lv_goto (tgt := 32) hx hb dX8_limitOf_19 (by decide) ?_
    subst hQ
    exact W.lret (v := ((y0 + (1000 : Int64)) - (1 : Int64)) / (1000 : Int64)) hx hb hr (fun t ht _ => ⟨((y0 + (1000 : Int64)) - (1 : Int64)) / (1000 : Int64), rfl, h, ht⟩) (fun _ hq => absurd hq List.not_mem_nil) dX8_limitOf_32
theorem qX8_edgesOf : yX8_edgesOf.cls = RX8 ∧ yX8_edgesOf.cls ≠ "java/lang/invoke/MethodHandle" ∧ yX8_edgesOf.cls ≠ "java/lang/invoke/VarHandle" ∧ (parseMethodDescriptor yX8_edgesOf.desc).map (fun d => d.parameters.length) = some 1 := by decide +kernel
def P_X8_edgesOf (post : Int64 → Prop) (y0 : Int64) : Prop :=
  P_X8_limitOf (fun (r1 : Int64) => post (((1000 : Int64) * r1) - y0)) y0
set_option maxHeartbeats 4000000 in
set_option maxRecDepth 100000 in
theorem c_X8_edgesOf (l : Launch) (y0 : Int64) (post : Int64 → Prop) (h : P_X8_edgesOf post y0) : Met l yX8_edgesOf wsX8_edgesOf { frames := 1, cells := 0, slots := 0, locals := 23 } (pcN [.long y0]) (vp_Sl post) 0 0 (fun _ => False) := by
  refine Met.ofW (cc := cX8_edgesOf) (maxL := 2) (ret := (some .long)) (by decide) rfl ?_
  intro p e s m args below meth c s₁ B hml hv
  obtain ⟨rfl, -⟩ := hv
  have hx := B.exec
  have hb := B.bytes
  have hr := B.returns
  have hts := atoms_spec (ws := wsX8_edgesOf) B.pre
  have hown : s.vm.findClass RX8 = some m.cls := findClass_of_methodNamed B.named
  have hlocks := B.notSynchronized
  have CF : CallFix p m c cX8_edgesOf 2 s ([.long y0] : List Value).toArray wsX8_edgesOf RX8 := ⟨hx, hb, hml, hown, hts⟩
  have f0 := hts (.constantLong RX8 139 (1000)) (by decide +kernel)
  have hl := lv_entry [.long y0] (n := 2) (Nat.le_of_ble_eq_true rfl)
  rw [lg_entry_eq]
  generalize (lg_sl [.long y0] ++ List.replicate (2 - (lg_sl [.long y0]).length) Slot.unset).toArray = ls at hl ⊢
  have hl : lv_has ls 2 [(0, .long y0)] := hl
  refine W.gen (fun Q0 hQ => ?_)
  unfold P_X8_edgesOf at h
  refine lv_ldc2 (v := 1000) hx hb hown f0 dX8_edgesOf_0 ?_
  refine lv_lload_n hx hb dX8_edgesOf_3 rfl (lv_at hl 0 rfl) ?_
  refine vp_callSl (W.runS (As := [.long y0]) (rest := [.long (1000 : Int64)]) CF (c_X8_limitOf l y0 _ h) (va_cwS 1 hts gX8_edgesOf_X8_limitOf rfl rfl rfl qX8_limitOf.2 ⟨Nat.le_of_ble_eq_true rfl, Nat.le_of_ble_eq_true rfl⟩) mpSN rfl rfl hl.1 rfl (lv_room (Nat.le_of_ble_eq_true rfl)) dX8_edgesOf_4 ⟨Nat.zero_le _, Nat.zero_le _⟩) (fun r1 h => ?_)
  refine lv_lmul hx hb dX8_edgesOf_7 ?_
  refine lv_lload_n hx hb dX8_edgesOf_8 rfl (lv_at hl 0 rfl) ?_
  refine lv_lsub hx hb dX8_edgesOf_9 ?_
  subst hQ
  exact W.lret (v := ((1000 : Int64) * r1) - y0) hx hb hr (fun t ht _ => ⟨((1000 : Int64) * r1) - y0, rfl, h, ht⟩) (fun _ hq => absurd hq List.not_mem_nil) dX8_edgesOf_10
theorem qX8_many : yX8_many.cls = RX8 ∧ yX8_many.cls ≠ "java/lang/invoke/MethodHandle" ∧ yX8_many.cls ≠ "java/lang/invoke/VarHandle" ∧ (parseMethodDescriptor yX8_many.desc).map (fun d => d.parameters.length) = some 0 := by decide +kernel
def P_X8_many (post : Int32 → Prop) (t_state : Nat → Int32) : Prop :=
  (vp_in (104 : Int32) 535 ∧ post (t_state (104 : Int32).toNatClampNeg))
set_option maxHeartbeats 4000000 in
set_option maxRecDepth 100000 in
theorem c_X8_many (l : Launch) (D : va_G) (cy : Nat → ClassId) (A_t A_t_state A_t_tape A_t_ends A_t_letters A_t_least A_t_conflicts A_t_behind A_t_placed A_t_isKept A_t_lanes A_t_lengths A_t_cells : Nat) (t_taped : Int32) (t_fault : Int32) (t_broken : Int32) (t_brokenAt : Int32) (t_spot : Int32) (t_here : Int32) (t_token : Int32) (t_value : Int32) (t_isRealTold : Int32) (t_conflictMany : Int32) (t_torn : Int32) (t_state : Nat → Int32) (post : Int32 → Prop) (h : P_X8_many post t_state) : Met l yX8_many wsX8_many { frames := 0, cells := 0, slots := 0, locals := 0 } (pcR D cy [(A_t, .inr (8, [.ref A_t_state, .ref A_t_tape, .int t_taped, .int t_fault, .int t_broken, .int t_brokenAt, .int t_spot, .int t_here, .int t_token, .int t_value, .int t_isRealTold, .ref A_t_ends, .ref A_t_letters, .ref A_t_least, .ref A_t_conflicts, .int t_conflictMany, .ref A_t_behind, .ref A_t_placed, .ref A_t_isKept, .ref A_t_lanes, .ref A_t_lengths, .ref A_t_cells, .int t_torn])), (A_t_state, .inl (cy 1, 535, .inl t_state))] [.ref A_t]) (vp_Si post) 0 0 (fun _ => False) := by
  refine Met.ofW (cc := cX8_many) (maxL := 1) (ret := (some .int)) (by decide) rfl ?_
  intro p e s m args below meth c s₁ B hml hv
  obtain ⟨rfl, hP, hK⟩ := hv
  have hx := B.exec
  have hb := B.bytes
  have hr := B.returns
  have hts := atoms_spec (ws := wsX8_many) B.pre
  have hown : s.vm.findClass RX8 = some m.cls := findClass_of_methodNamed B.named
  have hlocks := B.notSynchronized
  have CF : CallFix p m c cX8_many 1 s ([.ref A_t] : List Value).toArray wsX8_many RX8 := ⟨hx, hb, hml, hown, hts⟩
  have f0 := hts (.fieldLink RX8 7 "GapBoundsModel" "state" "[I") (by decide +kernel)
  have iX8 : ∀ w ∈ u_ws RX8 TX8 23, w ∈ wsX8_many := by decide +kernel
  have hl := lv_entry [.ref A_t] (n := 1) (Nat.le_of_ble_eq_true rfl)
  rw [lg_entry_eq]
  generalize (lg_sl [.ref A_t] ++ List.replicate (1 - (lg_sl [.ref A_t]).length) Slot.unset).toArray = ls at hl ⊢
  have hl : lv_has ls 1 [(0, .ref A_t)] := hl
  refine W.gen (fun Q0 hQ => ?_)
  unfold P_X8_many at h
  refine lv_aload_n hx hb dX8_many_0 rfl (lv_at hl 0 rfl) ?_
  refine va_get (D := D) (ci := 8) (v := .ref A_t_state) (C := RX8) (T := TX8) (N := 23) hx hb hts iX8 hown hK.1 hP 0 rfl rfl 0 (by decide) f0 (fun _ h9 => h9) rfl dX8_many_1 ?_
  refine lv_bipush (v := 104) hx hb dX8_many_4 (by decide) ?_
  refine va_iald hx hb hK.1 hP 1 1 rfl rfl h.1 dX8_many_6 ?_
  replace h := h.2
  subst hQ
  exact W.iret (v := t_state (104 : Int32).toNatClampNeg) hx hb hr (fun t ht _ => ⟨t_state (104 : Int32).toNatClampNeg, rfl, h, ht⟩) (fun _ hq => absurd hq List.not_mem_nil) dX8_many_7
theorem qX8_isReal : yX8_isReal.cls = RX8 ∧ yX8_isReal.cls ≠ "java/lang/invoke/MethodHandle" ∧ yX8_isReal.cls ≠ "java/lang/invoke/VarHandle" ∧ (parseMethodDescriptor yX8_isReal.desc).map (fun d => d.parameters.length) = some 0 := by decide +kernel
def P_X8_isReal (post : Int32 → Prop) (t_state : Nat → Int32) : Prop :=
  (vp_in (105 : Int32) 535 ∧ ((¬ t_state (105 : Int32).toNatClampNeg = (1 : Int32) → post (0 : Int32)) ∧ (t_state (105 : Int32).toNatClampNeg = (1 : Int32) → post (1 : Int32))))
set_option maxHeartbeats 4000000 in
set_option maxRecDepth 100000 in
theorem c_X8_isReal (l : Launch) (D : va_G) (cy : Nat → ClassId) (A_t A_t_state A_t_tape A_t_ends A_t_letters A_t_least A_t_conflicts A_t_behind A_t_placed A_t_isKept A_t_lanes A_t_lengths A_t_cells : Nat) (t_taped : Int32) (t_fault : Int32) (t_broken : Int32) (t_brokenAt : Int32) (t_spot : Int32) (t_here : Int32) (t_token : Int32) (t_value : Int32) (t_isRealTold : Int32) (t_conflictMany : Int32) (t_torn : Int32) (t_state : Nat → Int32) (post : Int32 → Prop) (h : P_X8_isReal post t_state) : Met l yX8_isReal wsX8_isReal { frames := 0, cells := 0, slots := 0, locals := 0 } (pcR D cy [(A_t, .inr (8, [.ref A_t_state, .ref A_t_tape, .int t_taped, .int t_fault, .int t_broken, .int t_brokenAt, .int t_spot, .int t_here, .int t_token, .int t_value, .int t_isRealTold, .ref A_t_ends, .ref A_t_letters, .ref A_t_least, .ref A_t_conflicts, .int t_conflictMany, .ref A_t_behind, .ref A_t_placed, .ref A_t_isKept, .ref A_t_lanes, .ref A_t_lengths, .ref A_t_cells, .int t_torn])), (A_t_state, .inl (cy 1, 535, .inl t_state))] [.ref A_t]) (vp_Si post) 0 0 (fun _ => False) := by
  refine Met.ofW (cc := cX8_isReal) (maxL := 1) (ret := (some .boolean)) (by decide) rfl ?_
  intro p e s m args below meth c s₁ B hml hv
  obtain ⟨rfl, hP, hK⟩ := hv
  have hx := B.exec
  have hb := B.bytes
  have hr := B.returns
  have hts := atoms_spec (ws := wsX8_isReal) B.pre
  have hown : s.vm.findClass RX8 = some m.cls := findClass_of_methodNamed B.named
  have hlocks := B.notSynchronized
  have CF : CallFix p m c cX8_isReal 1 s ([.ref A_t] : List Value).toArray wsX8_isReal RX8 := ⟨hx, hb, hml, hown, hts⟩
  have f0 := hts (.fieldLink RX8 7 "GapBoundsModel" "state" "[I") (by decide +kernel)
  have iX8 : ∀ w ∈ u_ws RX8 TX8 23, w ∈ wsX8_isReal := by decide +kernel
  have hl := lv_entry [.ref A_t] (n := 1) (Nat.le_of_ble_eq_true rfl)
  rw [lg_entry_eq]
  generalize (lg_sl [.ref A_t] ++ List.replicate (1 - (lg_sl [.ref A_t]).length) Slot.unset).toArray = ls at hl ⊢
  have hl : lv_has ls 1 [(0, .ref A_t)] := hl
  refine W.gen (fun Q0 hQ => ?_)
  unfold P_X8_isReal at h
  refine lv_aload_n hx hb dX8_isReal_0 rfl (lv_at hl 0 rfl) ?_
  refine va_get (D := D) (ci := 8) (v := .ref A_t_state) (C := RX8) (T := TX8) (N := 23) hx hb hts iX8 hown hK.1 hP 0 rfl rfl 0 (by decide) f0 (fun _ h9 => h9) rfl dX8_isReal_1 ?_
  refine lv_bipush (v := 105) hx hb dX8_isReal_4 (by decide) ?_
  refine va_iald hx hb hK.1 hP 1 1 rfl rfl h.1 dX8_isReal_6 ?_
  replace h := h.2
  refine lv_iconst (v := 1) hx hb dX8_isReal_7 (by decide) ?_
  refine lv_icmp_ne (tgt := 15) hx hb dX8_isReal_8 (by decide) (fun hc => ?_) (fun hc => ?_)
  · replace h := h.1 hc
    refine lv_iconst (v := 0) hx hb dX8_isReal_15 (by decide) ?_
    subst hQ
    exact W.zret (v := (0 : Int32)) hx hb hr bz0 (fun t ht _ => ⟨(0 : Int32), rfl, h, ht⟩) (fun _ hq => absurd hq List.not_mem_nil) dX8_isReal_16
  · replace h := h.2 hc
    refine lv_iconst (v := 1) hx hb dX8_isReal_11 (by decide) ?_
    refine lv_goto (tgt := 16) hx hb dX8_isReal_12 (by decide) ?_
    subst hQ
    exact W.zret (v := (1 : Int32)) hx hb hr bz1 (fun t ht _ => ⟨(1 : Int32), rfl, h, ht⟩) (fun _ hq => absurd hq List.not_mem_nil) dX8_isReal_16
theorem qX8_isBound : yX8_isBound.cls = RX8 ∧ yX8_isBound.cls ≠ "java/lang/invoke/MethodHandle" ∧ yX8_isBound.cls ≠ "java/lang/invoke/VarHandle" ∧ (parseMethodDescriptor yX8_isBound.desc).map (fun d => d.parameters.length) = some 1 := by decide +kernel
def P_X8_isBound (post : Int32 → Prop) (t_state : Nat → Int32) (x1 : Int32) : Prop :=
  P_X8_many (fun (r1 : Int32) => P_X8_in (fun (r2 : Int32) => (bz r2 ∧ post r2)) x1.toInt64 (0 : Int64) ((r1 - (1 : Int32)).toInt64)) t_state
set_option maxHeartbeats 4000000 in
set_option maxRecDepth 100000 in
theorem c_X8_isBound (l : Launch) (D : va_G) (cy : Nat → ClassId) (A_t A_t_state A_t_tape A_t_ends A_t_letters A_t_least A_t_conflicts A_t_behind A_t_placed A_t_isKept A_t_lanes A_t_lengths A_t_cells : Nat) (t_taped : Int32) (t_fault : Int32) (t_broken : Int32) (t_brokenAt : Int32) (t_spot : Int32) (t_here : Int32) (t_token : Int32) (t_value : Int32) (t_isRealTold : Int32) (t_conflictMany : Int32) (t_torn : Int32) (t_state : Nat → Int32) (x1 : Int32) (post : Int32 → Prop) (h : P_X8_isBound post t_state x1) : Met l yX8_isBound wsX8_isBound { frames := 1, cells := 0, slots := 0, locals := 25 } (pcR D cy [(A_t, .inr (8, [.ref A_t_state, .ref A_t_tape, .int t_taped, .int t_fault, .int t_broken, .int t_brokenAt, .int t_spot, .int t_here, .int t_token, .int t_value, .int t_isRealTold, .ref A_t_ends, .ref A_t_letters, .ref A_t_least, .ref A_t_conflicts, .int t_conflictMany, .ref A_t_behind, .ref A_t_placed, .ref A_t_isKept, .ref A_t_lanes, .ref A_t_lengths, .ref A_t_cells, .int t_torn])), (A_t_state, .inl (cy 1, 535, .inl t_state))] [.ref A_t, .int x1]) (vp_Si post) 0 0 (fun _ => False) := by
  refine Met.ofW (cc := cX8_isBound) (maxL := 2) (ret := (some .boolean)) (by decide) rfl ?_
  intro p e s m args below meth c s₁ B hml hv
  obtain ⟨rfl, hP, hK⟩ := hv
  have hx := B.exec
  have hb := B.bytes
  have hr := B.returns
  have hts := atoms_spec (ws := wsX8_isBound) B.pre
  have hown : s.vm.findClass RX8 = some m.cls := findClass_of_methodNamed B.named
  have hlocks := B.notSynchronized
  have CF : CallFix p m c cX8_isBound 2 s ([.ref A_t, .int x1] : List Value).toArray wsX8_isBound RX8 := ⟨hx, hb, hml, hown, hts⟩
  have hl := lv_entry [.ref A_t, .int x1] (n := 2) (Nat.le_of_ble_eq_true rfl)
  rw [lg_entry_eq]
  generalize (lg_sl [.ref A_t, .int x1] ++ List.replicate (2 - (lg_sl [.ref A_t, .int x1]).length) Slot.unset).toArray = ls at hl ⊢
  have hl : lv_has ls 2 [(0, .ref A_t), (1, .int x1)] := hl
  refine W.gen (fun Q0 hQ => ?_)
  unfold P_X8_isBound at h
  refine lv_iload_n hx hb dX8_isBound_0 rfl (lv_at hl 1 rfl) ?_
  refine lv_i2l (v := x1.toInt64) hx hb dX8_isBound_1 rfl ?_
  refine lv_lconst (v := 0) hx hb dX8_isBound_2 (by decide) ?_
  refine lv_aload_n hx hb dX8_isBound_3 rfl (lv_at hl 0 rfl) ?_
  have hPc := hP.sub (ws' := [(A_t, .inr (8, [.ref A_t_state, .ref A_t_tape, .int t_taped, .int t_fault, .int t_broken, .int t_brokenAt, .int t_spot, .int t_here, .int t_token, .int t_value, .int t_isRealTold, .ref A_t_ends, .ref A_t_letters, .ref A_t_least, .ref A_t_conflicts, .int t_conflictMany, .ref A_t_behind, .ref A_t_placed, .ref A_t_isKept, .ref A_t_lanes, .ref A_t_lengths, .ref A_t_cells, .int t_torn])), (A_t_state, .inl (cy 1, 535, .inl t_state))]) [0, 1] rfl
  refine vp_callSi (W.runV (As := []) (rest := [.long (0 : Int64), .long x1.toInt64]) CF (c_X8_many l D cy A_t A_t_state A_t_tape A_t_ends A_t_letters A_t_least A_t_conflicts A_t_behind A_t_placed A_t_isKept A_t_lanes A_t_lengths A_t_cells t_taped t_fault t_broken t_brokenAt t_spot t_here t_token t_value t_isRealTold t_conflictMany t_torn t_state _ h) (cwV 0 hts gX8_isBound_X8_many rfl rfl rfl qX8_many ⟨Nat.le_of_ble_eq_true rfl, Nat.le_of_ble_eq_true rfl⟩) (mpVR hK hPc (ci := 8) (q := (RX8, TX8, 23)) (q0 := 0) rfl rfl) rfl rfl hl.1 rfl (lv_room (Nat.le_of_ble_eq_true rfl)) dX8_isBound_4 ⟨Nat.zero_le _, Nat.zero_le _⟩) (fun r1 h => ?_)
  refine lv_iconst (v := 1) hx hb dX8_isBound_7 (by decide) ?_
  refine lv_isub hx hb dX8_isBound_8 ?_
  refine lv_i2l (v := (r1 - (1 : Int32)).toInt64) hx hb dX8_isBound_9 rfl ?_
  refine vp_callSi (W.runS (As := [.long x1.toInt64, .long (0 : Int64), .long ((r1 - (1 : Int32)).toInt64)]) (rest := []) CF (c_X8_in l x1.toInt64 (0 : Int64) ((r1 - (1 : Int32)).toInt64) _ h) (va_cwS 3 hts gX8_isBound_X8_in rfl rfl rfl qX8_in.2 ⟨Nat.le_of_ble_eq_true rfl, Nat.le_of_ble_eq_true rfl⟩) mpSN rfl rfl hl.1 rfl (lv_room (Nat.le_of_ble_eq_true rfl)) dX8_isBound_10 ⟨Nat.zero_le _, Nat.zero_le _⟩) (fun r2 h => ?_)
  subst hQ
  exact W.zret (v := r2) hx hb hr h.1 (fun t ht _ => ⟨r2, rfl, h.2, ht⟩) (fun _ hq => absurd hq List.not_mem_nil) dX8_isBound_13
theorem qX8_isThing : yX8_isThing.cls = RX8 ∧ yX8_isThing.cls ≠ "java/lang/invoke/MethodHandle" ∧ yX8_isThing.cls ≠ "java/lang/invoke/VarHandle" ∧ (parseMethodDescriptor yX8_isThing.desc).map (fun d => d.parameters.length) = some 1 := by decide +kernel
def P_X8_isThing (post : Int32 → Prop) (x0 : Int32) : Prop :=
  P_X8_in (fun (r1 : Int32) => (bz r1 ∧ post r1)) x0.toInt64 (0 : Int64) (9 : Int64)
set_option maxHeartbeats 4000000 in
set_option maxRecDepth 100000 in
theorem c_X8_isThing (l : Launch) (x0 : Int32) (post : Int32 → Prop) (h : P_X8_isThing post x0) : Met l yX8_isThing wsX8_isThing { frames := 1, cells := 0, slots := 0, locals := 25 } (pcN [.int x0]) (vp_Si post) 0 0 (fun _ => False) := by
  refine Met.ofW (cc := cX8_isThing) (maxL := 1) (ret := (some .boolean)) (by decide) rfl ?_
  intro p e s m args below meth c s₁ B hml hv
  obtain ⟨rfl, -⟩ := hv
  have hx := B.exec
  have hb := B.bytes
  have hr := B.returns
  have hts := atoms_spec (ws := wsX8_isThing) B.pre
  have hown : s.vm.findClass RX8 = some m.cls := findClass_of_methodNamed B.named
  have hlocks := B.notSynchronized
  have CF : CallFix p m c cX8_isThing 1 s ([.int x0] : List Value).toArray wsX8_isThing RX8 := ⟨hx, hb, hml, hown, hts⟩
  have f0 := hts (.constantLong RX8 163 (9)) (by decide +kernel)
  have hl := lv_entry [.int x0] (n := 1) (Nat.le_of_ble_eq_true rfl)
  rw [lg_entry_eq]
  generalize (lg_sl [.int x0] ++ List.replicate (1 - (lg_sl [.int x0]).length) Slot.unset).toArray = ls at hl ⊢
  have hl : lv_has ls 1 [(0, .int x0)] := hl
  refine W.gen (fun Q0 hQ => ?_)
  unfold P_X8_isThing at h
  refine lv_iload_n hx hb dX8_isThing_0 rfl (lv_at hl 0 rfl) ?_
  refine lv_i2l (v := x0.toInt64) hx hb dX8_isThing_1 rfl ?_
  refine lv_lconst (v := 0) hx hb dX8_isThing_2 (by decide) ?_
  refine lv_ldc2 (v := 9) hx hb hown f0 dX8_isThing_3 ?_
  refine vp_callSi (W.runS (As := [.long x0.toInt64, .long (0 : Int64), .long (9 : Int64)]) (rest := []) CF (c_X8_in l x0.toInt64 (0 : Int64) (9 : Int64) _ h) (va_cwS 3 hts gX8_isThing_X8_in rfl rfl rfl qX8_in.2 ⟨Nat.le_of_ble_eq_true rfl, Nat.le_of_ble_eq_true rfl⟩) mpSN rfl rfl hl.1 rfl (lv_room (Nat.le_of_ble_eq_true rfl)) dX8_isThing_6 ⟨Nat.zero_le _, Nat.zero_le _⟩) (fun r1 h => ?_)
  subst hQ
  exact W.zret (v := r1) hx hb hr h.1 (fun t ht _ => ⟨r1, rfl, h.2, ht⟩) (fun _ hq => absurd hq List.not_mem_nil) dX8_isThing_9
theorem qX8_isPair : yX8_isPair.cls = RX8 ∧ yX8_isPair.cls ≠ "java/lang/invoke/MethodHandle" ∧ yX8_isPair.cls ≠ "java/lang/invoke/VarHandle" ∧ (parseMethodDescriptor yX8_isPair.desc).map (fun d => d.parameters.length) = some 2 := by decide +kernel
def P_X8_isPair (post : Int32 → Prop) (x0 : Int32) (x1 : Int32) : Prop :=
  P_X8_isThing (fun (r1 : Int32) => ((r1 = 0 → post (0 : Int32)) ∧ (¬ r1 = 0 → P_X8_isThing (fun (r2 : Int32) => ((r2 = 0 → post (0 : Int32)) ∧ (¬ r2 = 0 → ((x0 = x1 → post (0 : Int32)) ∧ (¬ x0 = x1 → post (1 : Int32)))))) x1))) x0
set_option maxHeartbeats 4000000 in
set_option maxRecDepth 100000 in
theorem c_X8_isPair (l : Launch) (x0 : Int32) (x1 : Int32) (post : Int32 → Prop) (h : P_X8_isPair post x0 x1) : Met l yX8_isPair wsX8_isPair { frames := 2, cells := 0, slots := 0, locals := 45 } (pcN [.int x0, .int x1]) (vp_Si post) 0 0 (fun _ => False) := by
  refine Met.ofW (cc := cX8_isPair) (maxL := 2) (ret := (some .boolean)) (by decide) rfl ?_
  intro p e s m args below meth c s₁ B hml hv
  obtain ⟨rfl, -⟩ := hv
  have hx := B.exec
  have hb := B.bytes
  have hr := B.returns
  have hts := atoms_spec (ws := wsX8_isPair) B.pre
  have hown : s.vm.findClass RX8 = some m.cls := findClass_of_methodNamed B.named
  have hlocks := B.notSynchronized
  have CF : CallFix p m c cX8_isPair 2 s ([.int x0, .int x1] : List Value).toArray wsX8_isPair RX8 := ⟨hx, hb, hml, hown, hts⟩
  have hl := lv_entry [.int x0, .int x1] (n := 2) (Nat.le_of_ble_eq_true rfl)
  rw [lg_entry_eq]
  generalize (lg_sl [.int x0, .int x1] ++ List.replicate (2 - (lg_sl [.int x0, .int x1]).length) Slot.unset).toArray = ls at hl ⊢
  have hl : lv_has ls 2 [(0, .int x0), (1, .int x1)] := hl
  refine W.gen (fun Q0 hQ => ?_)
  unfold P_X8_isPair at h
  refine lv_iload_n hx hb dX8_isPair_0 rfl (lv_at hl 0 rfl) ?_
  refine vp_callSi (W.runS (As := [.int x0]) (rest := []) CF (c_X8_isThing l x0 _ h) (va_cwS 1 hts gX8_isPair_X8_isThing rfl rfl rfl qX8_isThing.2 ⟨Nat.le_of_ble_eq_true rfl, Nat.le_of_ble_eq_true rfl⟩) mpSN rfl rfl hl.1 rfl (lv_room (Nat.le_of_ble_eq_true rfl)) dX8_isPair_1 ⟨Nat.zero_le _, Nat.zero_le _⟩) (fun r1 h => ?_)
  refine lv_if_eq (tgt := 23) hx hb dX8_isPair_4 (by decide) (fun hc => ?_) (fun hc => ?_)
  · replace h := h.1 hc
    refine lv_iconst (v := 0) hx hb dX8_isPair_23 (by decide) ?_
    subst hQ
    exact W.zret (v := (0 : Int32)) hx hb hr bz0 (fun t ht _ => ⟨(0 : Int32), rfl, h, ht⟩) (fun _ hq => absurd hq List.not_mem_nil) dX8_isPair_24
  · replace h := h.2 hc
    refine lv_iload_n hx hb dX8_isPair_7 rfl (lv_at hl 1 rfl) ?_
    refine vp_callSi (W.runS (As := [.int x1]) (rest := []) CF (c_X8_isThing l x1 _ h) (va_cwS 1 hts gX8_isPair_X8_isThing rfl rfl rfl qX8_isThing.2 ⟨Nat.le_of_ble_eq_true rfl, Nat.le_of_ble_eq_true rfl⟩) mpSN rfl rfl hl.1 rfl (lv_room (Nat.le_of_ble_eq_true rfl)) dX8_isPair_8 ⟨Nat.zero_le _, Nat.zero_le _⟩) (fun r2 h => ?_)
    refine lv_if_eq (tgt := 23) hx hb dX8_isPair_11 (by decide) (fun hc => ?_) (fun hc => ?_)
    · replace h := h.1 hc
      refine lv_iconst (v := 0) hx hb dX8_isPair_23 (by decide) ?_
      subst hQ
      exact W.zret (v := (0 : Int32)) hx hb hr bz0 (fun t ht _ => ⟨(0 : Int32), rfl, h, ht⟩) (fun _ hq => absurd hq List.not_mem_nil) dX8_isPair_24
    · replace h := h.2 hc
      refine lv_iload_n hx hb dX8_isPair_14 rfl (lv_at hl 0 rfl) ?_
      refine lv_iload_n hx hb dX8_isPair_15 rfl (lv_at hl 1 rfl) ?_
      refine lv_icmp_eq (tgt := 23) hx hb dX8_isPair_16 (by decide) (fun hc => ?_) (fun hc => ?_)
      · replace h := h.1 hc
        refine lv_iconst (v := 0) hx hb dX8_isPair_23 (by decide) ?_
        subst hQ
        exact W.zret (v := (0 : Int32)) hx hb hr bz0 (fun t ht _ => ⟨(0 : Int32), rfl, h, ht⟩) (fun _ hq => absurd hq List.not_mem_nil) dX8_isPair_24
      · replace h := h.2 hc
        refine lv_iconst (v := 1) hx hb dX8_isPair_19 (by decide) ?_
        refine lv_goto (tgt := 24) hx hb dX8_isPair_20 (by decide) ?_
        subst hQ
        exact W.zret (v := (1 : Int32)) hx hb hr bz1 (fun t ht _ => ⟨(1 : Int32), rfl, h, ht⟩) (fun _ hq => absurd hq List.not_mem_nil) dX8_isPair_24
theorem qX8_isNeedless : yX8_isNeedless.cls = RX8 ∧ yX8_isNeedless.cls ≠ "java/lang/invoke/MethodHandle" ∧ yX8_isNeedless.cls ≠ "java/lang/invoke/VarHandle" ∧ (parseMethodDescriptor yX8_isNeedless.desc).map (fun d => d.parameters.length) = some 1 := by decide +kernel
def P_X8_isNeedless (post : Int32 → (Nat → Int64) → Prop) (t_state : Nat → Int32) (t_least : Nat → Int64) (x1 : Int32) : Prop :=
  P_X8_reckons (fun (t_least_v1 : Nat → Int64) => (vp_in ((24 : Int32) + x1) 535 ∧ (vp_in x1 535 ∧ (vp_in (((10 : Int32) * (t_state ((24 : Int32) + x1).toNatClampNeg)) + (t_state x1.toNatClampNeg)) 100 ∧ P_X8_weightOf (fun (r2 : Int64) => ((r2 < t_least_v1 (((10 : Int32) * (t_state ((24 : Int32) + x1).toNatClampNeg)) + (t_state x1.toNatClampNeg)).toNatClampNeg → post (0 : Int32) t_least_v1) ∧ (¬ r2 < t_least_v1 (((10 : Int32) * (t_state ((24 : Int32) + x1).toNatClampNeg)) + (t_state x1.toNatClampNeg)).toNatClampNeg → post (1 : Int32) t_least_v1))) t_state (0 : Int32) x1)))) t_state t_least (0 : Int32) x1
set_option maxHeartbeats 4000000 in
set_option maxRecDepth 100000 in
theorem c_X8_isNeedless (l : Launch) (D : va_G) (cy : Nat → ClassId) (sz : Nat) (A_t A_t_state A_t_tape A_t_ends A_t_letters A_t_least A_t_conflicts A_t_behind A_t_placed A_t_isKept A_t_lanes A_t_lengths A_t_cells : Nat) (t_taped : Int32) (t_fault : Int32) (t_broken : Int32) (t_brokenAt : Int32) (t_spot : Int32) (t_here : Int32) (t_token : Int32) (t_value : Int32) (t_isRealTold : Int32) (t_conflictMany : Int32) (t_torn : Int32) (t_state : Nat → Int32) (t_least : Nat → Int64) (x1 : Int32) (post : Int32 → (Nat → Int64) → Prop) (h : P_X8_isNeedless post t_state t_least x1) : Met l yX8_isNeedless wsX8_isNeedless { frames := 3, cells := 0, slots := 0, locals := 72 } (pcW D cy [(A_t, .inr (8, [.ref A_t_state, .ref A_t_tape, .int t_taped, .int t_fault, .int t_broken, .int t_brokenAt, .int t_spot, .int t_here, .int t_token, .int t_value, .int t_isRealTold, .ref A_t_ends, .ref A_t_letters, .ref A_t_least, .ref A_t_conflicts, .int t_conflictMany, .ref A_t_behind, .ref A_t_placed, .ref A_t_isKept, .ref A_t_lanes, .ref A_t_lengths, .ref A_t_cells, .int t_torn])), (A_t_state, .inl (cy 1, 535, .inl t_state)), (A_t_least, .inl (cy 2, 100, .inr (.inl t_least)))] sz [.ref A_t, .int x1]) (va_Qi (fun r (u : (Nat → Int64)) => post r u) (bW D [(A_t, .inr (8, [.ref A_t_state, .ref A_t_tape, .int t_taped, .int t_fault, .int t_broken, .int t_brokenAt, .int t_spot, .int t_here, .int t_token, .int t_value, .int t_isRealTold, .ref A_t_ends, .ref A_t_letters, .ref A_t_least, .ref A_t_conflicts, .int t_conflictMany, .ref A_t_behind, .ref A_t_placed, .ref A_t_isKept, .ref A_t_lanes, .ref A_t_lengths, .ref A_t_cells, .int t_torn])), (A_t_state, .inl (cy 1, 535, .inl t_state)), (A_t_least, .inl (cy 2, 100, .inr (.inl t_least)))] sz (fun u => [(A_t, .inr (8, [.ref A_t_state, .ref A_t_tape, .int t_taped, .int t_fault, .int t_broken, .int t_brokenAt, .int t_spot, .int t_here, .int t_token, .int t_value, .int t_isRealTold, .ref A_t_ends, .ref A_t_letters, .ref A_t_least, .ref A_t_conflicts, .int t_conflictMany, .ref A_t_behind, .ref A_t_placed, .ref A_t_isKept, .ref A_t_lanes, .ref A_t_lengths, .ref A_t_cells, .int t_torn])), (A_t_state, .inl (cy 1, 535, .inl t_state)), (A_t_least, .inl (cy 2, 100, .inr (.inl u)))])) (va_A [(A_t, .inr (8, [.ref A_t_state, .ref A_t_tape, .int t_taped, .int t_fault, .int t_broken, .int t_brokenAt, .int t_spot, .int t_here, .int t_token, .int t_value, .int t_isRealTold, .ref A_t_ends, .ref A_t_letters, .ref A_t_least, .ref A_t_conflicts, .int t_conflictMany, .ref A_t_behind, .ref A_t_placed, .ref A_t_isKept, .ref A_t_lanes, .ref A_t_lengths, .ref A_t_cells, .int t_torn])), (A_t_state, .inl (cy 1, 535, .inl t_state)), (A_t_least, .inl (cy 2, 100, .inr (.inl t_least)))] sz)) 0 0 (va_A [(A_t, .inr (8, [.ref A_t_state, .ref A_t_tape, .int t_taped, .int t_fault, .int t_broken, .int t_brokenAt, .int t_spot, .int t_here, .int t_token, .int t_value, .int t_isRealTold, .ref A_t_ends, .ref A_t_letters, .ref A_t_least, .ref A_t_conflicts, .int t_conflictMany, .ref A_t_behind, .ref A_t_placed, .ref A_t_isKept, .ref A_t_lanes, .ref A_t_lengths, .ref A_t_cells, .int t_torn])), (A_t_state, .inl (cy 1, 535, .inl t_state)), (A_t_least, .inl (cy 2, 100, .inr (.inl t_least)))] sz) := by
  refine Met.ofW (cc := cX8_isNeedless) (maxL := 2) (ret := (some .boolean)) (by decide) rfl ?_
  intro p e s m args below meth c s₁ B hml hv
  obtain ⟨rfl, hsz, hP, hK, hD0⟩ := hv
  have hx := B.exec
  have hb := B.bytes
  have hr := B.returns
  have hts := atoms_spec (ws := wsX8_isNeedless) B.pre
  have hown : s.vm.findClass RX8 = some m.cls := findClass_of_methodNamed B.named
  have hlocks := B.notSynchronized
  have CF : CallFix p m c cX8_isNeedless 2 s ([.ref A_t, .int x1] : List Value).toArray wsX8_isNeedless RX8 := ⟨hx, hb, hml, hown, hts⟩
  have f0 := hts (.fieldLink RX8 22 "GapBoundsModel" "least" "[J") (by decide +kernel)
  have f1 := hts (.fieldLink RX8 7 "GapBoundsModel" "state" "[I") (by decide +kernel)
  have iX8 : ∀ w ∈ u_ws RX8 TX8 23, w ∈ wsX8_isNeedless := by decide +kernel
  subst hsz
  obtain ⟨A, hAe⟩ : ∃ A, A = va_A [(A_t, .inr (8, [.ref A_t_state, .ref A_t_tape, .int t_taped, .int t_fault, .int t_broken, .int t_brokenAt, .int t_spot, .int t_here, .int t_token, .int t_value, .int t_isRealTold, .ref A_t_ends, .ref A_t_letters, .ref A_t_least, .ref A_t_conflicts, .int t_conflictMany, .ref A_t_behind, .ref A_t_placed, .ref A_t_isKept, .ref A_t_lanes, .ref A_t_lengths, .ref A_t_cells, .int t_torn])), (A_t_state, .inl (cy 1, 535, .inl t_state)), (A_t_least, .inl (cy 2, 100, .inr (.inl t_least)))] s.heap.size := ⟨_, rfl⟩
  have hD : va_D A [(A_t, .inr (8, [.ref A_t_state, .ref A_t_tape, .int t_taped, .int t_fault, .int t_broken, .int t_brokenAt, .int t_spot, .int t_here, .int t_token, .int t_value, .int t_isRealTold, .ref A_t_ends, .ref A_t_letters, .ref A_t_least, .ref A_t_conflicts, .int t_conflictMany, .ref A_t_behind, .ref A_t_placed, .ref A_t_isKept, .ref A_t_lanes, .ref A_t_lengths, .ref A_t_cells, .int t_torn])), (A_t_state, .inl (cy 1, 535, .inl t_state)), (A_t_least, .inl (cy 2, 100, .inr (.inl t_least)))] := by rw [hAe]; exact hD0.self
  have hA : ∀ q : Nat, s.heap.size ≤ q → A q := fun q hq => by rw [hAe]; exact Or.inr hq
  have hS : va_S A s.heap s.heap [] := va_S.rf
  have hl := lv_entry [.ref A_t, .int x1] (n := 2) (Nat.le_of_ble_eq_true rfl)
  rw [lg_entry_eq]
  generalize (lg_sl [.ref A_t, .int x1] ++ List.replicate (2 - (lg_sl [.ref A_t, .int x1]).length) Slot.unset).toArray = ls at hl ⊢
  have hl : lv_has ls 2 [(0, .ref A_t), (1, .int x1)] := hl
  refine W.gen (fun Q0 hQ => ?_)
  unfold P_X8_isNeedless at h
  refine lv_aload_n hx hb dX8_isNeedless_0 rfl (lv_at hl 0 rfl) ?_
  refine lv_iconst (v := 0) hx hb dX8_isNeedless_1 (by decide) ?_
  refine lv_iload_n hx hb dX8_isNeedless_2 rfl (lv_at hl 1 rfl) ?_
  have hPn : va_P D vwCl ([] ++ [(A_t, .inr (8, [.ref A_t_state, .ref A_t_tape, .int t_taped, .int t_fault, .int t_broken, .int t_brokenAt, .int t_spot, .int t_here, .int t_token, .int t_value, .int t_isRealTold, .ref A_t_ends, .ref A_t_letters, .ref A_t_least, .ref A_t_conflicts, .int t_conflictMany, .ref A_t_behind, .ref A_t_placed, .ref A_t_isKept, .ref A_t_lanes, .ref A_t_lengths, .ref A_t_cells, .int t_torn])), (A_t_state, .inl (cy 1, 535, .inl t_state)), (A_t_least, .inl (cy 2, 100, .inr (.inl t_least)))]) s.heap := hP.sub [0, 1, 2] rfl
  have hDn : va_D A ([] ++ [(A_t, .inr (8, [.ref A_t_state, .ref A_t_tape, .int t_taped, .int t_fault, .int t_broken, .int t_brokenAt, .int t_spot, .int t_here, .int t_token, .int t_value, .int t_isRealTold, .ref A_t_ends, .ref A_t_letters, .ref A_t_least, .ref A_t_conflicts, .int t_conflictMany, .ref A_t_behind, .ref A_t_placed, .ref A_t_isKept, .ref A_t_lanes, .ref A_t_lengths, .ref A_t_cells, .int t_torn])), (A_t_state, .inl (cy 1, 535, .inl t_state)), (A_t_least, .inl (cy 2, 100, .inr (.inl t_least)))]) := hD.sub [0, 1, 2] (by decide) rfl
  have hPc := gPR hPn
  have hDc := gDR hDn
  refine mw_v (va_runV (As := [.int (0 : Int32), .int x1]) (rest := []) CF (c_X8_reckons l D cy s.heap.size A_t A_t_state A_t_tape A_t_ends A_t_letters A_t_least A_t_conflicts A_t_behind A_t_placed A_t_isKept A_t_lanes A_t_lengths A_t_cells t_taped t_fault t_broken t_brokenAt t_spot t_here t_token t_value t_isRealTold t_conflictMany t_torn t_state t_least (0 : Int32) x1 _ h) (cwV 2 hts gX8_isNeedless_X8_reckons rfl rfl rfl qX8_reckons ⟨Nat.le_of_ble_eq_true rfl, Nat.le_of_ble_eq_true rfl⟩) (mpVW hK hPc hDc (ci := 8) (q := (RX8, TX8, 23)) (q0 := 0) rfl rfl) rfl rfl hl.1 rfl (lv_room (Nat.le_of_ble_eq_true rfl)) dX8_isNeedless_3 ⟨Nat.zero_le _, Nat.zero_le _⟩) hPn hDn hS hA (fun t_least_v1 H locs h hP hD hS => ?_)
  have hP : va_P D vwCl [(A_t, .inr (8, [.ref A_t_state, .ref A_t_tape, .int t_taped, .int t_fault, .int t_broken, .int t_brokenAt, .int t_spot, .int t_here, .int t_token, .int t_value, .int t_isRealTold, .ref A_t_ends, .ref A_t_letters, .ref A_t_least, .ref A_t_conflicts, .int t_conflictMany, .ref A_t_behind, .ref A_t_placed, .ref A_t_isKept, .ref A_t_lanes, .ref A_t_lengths, .ref A_t_cells, .int t_torn])), (A_t_state, .inl (cy 1, 535, .inl t_state)), (A_t_least, .inl (cy 2, 100, .inr (.inl t_least_v1)))] H := hP.sub [0, 1, 2] rfl
  have hD : va_D A [(A_t, .inr (8, [.ref A_t_state, .ref A_t_tape, .int t_taped, .int t_fault, .int t_broken, .int t_brokenAt, .int t_spot, .int t_here, .int t_token, .int t_value, .int t_isRealTold, .ref A_t_ends, .ref A_t_letters, .ref A_t_least, .ref A_t_conflicts, .int t_conflictMany, .ref A_t_behind, .ref A_t_placed, .ref A_t_isKept, .ref A_t_lanes, .ref A_t_lengths, .ref A_t_cells, .int t_torn])), (A_t_state, .inl (cy 1, 535, .inl t_state)), (A_t_least, .inl (cy 2, 100, .inr (.inl t_least_v1)))] := hD.sub [0, 1, 2] (by decide) rfl
  refine lv_aload_n hx hb dX8_isNeedless_6 rfl (lv_at hl 0 rfl) ?_
  refine va_get (D := D) (ci := 8) (v := .ref A_t_least) (C := RX8) (T := TX8) (N := 23) hx hb hts iX8 hown hK.1 hP 0 rfl rfl 13 (by decide) f0 (fun _ h9 => h9) rfl dX8_isNeedless_7 ?_
  refine lv_bipush (v := 10) hx hb dX8_isNeedless_10 (by decide) ?_
  refine lv_aload_n hx hb dX8_isNeedless_12 rfl (lv_at hl 0 rfl) ?_
  refine va_get (D := D) (ci := 8) (v := .ref A_t_state) (C := RX8) (T := TX8) (N := 23) hx hb hts iX8 hown hK.1 hP 0 rfl rfl 0 (by decide) f1 (fun _ h9 => h9) rfl dX8_isNeedless_13 ?_
  refine lv_bipush (v := 24) hx hb dX8_isNeedless_16 (by decide) ?_
  refine lv_iload_n hx hb dX8_isNeedless_18 rfl (lv_at hl 1 rfl) ?_
  refine lv_iadd hx hb dX8_isNeedless_19 ?_
  refine va_iald hx hb hK.1 hP 1 1 rfl rfl h.1 dX8_isNeedless_20 ?_
  replace h := h.2
  refine lv_imul hx hb dX8_isNeedless_21 ?_
  refine lv_aload_n hx hb dX8_isNeedless_22 rfl (lv_at hl 0 rfl) ?_
  refine va_get (D := D) (ci := 8) (v := .ref A_t_state) (C := RX8) (T := TX8) (N := 23) hx hb hts iX8 hown hK.1 hP 0 rfl rfl 0 (by decide) f1 (fun _ h9 => h9) rfl dX8_isNeedless_23 ?_
  refine lv_iload_n hx hb dX8_isNeedless_26 rfl (lv_at hl 1 rfl) ?_
  refine va_iald hx hb hK.1 hP 1 1 rfl rfl h.1 dX8_isNeedless_27 ?_
  replace h := h.2
  refine lv_iadd hx hb dX8_isNeedless_28 ?_
  refine va_lald hx hb hK.1 hP 2 2 rfl rfl h.1 dX8_isNeedless_29 ?_
  replace h := h.2
  refine lv_aload_n hx hb dX8_isNeedless_30 rfl (lv_at hl 0 rfl) ?_
  refine lv_iconst (v := 0) hx hb dX8_isNeedless_31 (by decide) ?_
  refine lv_iload_n hx hb dX8_isNeedless_32 rfl (lv_at hl 1 rfl) ?_
  have hPc := hP.sub (ws' := [(A_t, .inr (8, [.ref A_t_state, .ref A_t_tape, .int t_taped, .int t_fault, .int t_broken, .int t_brokenAt, .int t_spot, .int t_here, .int t_token, .int t_value, .int t_isRealTold, .ref A_t_ends, .ref A_t_letters, .ref A_t_least, .ref A_t_conflicts, .int t_conflictMany, .ref A_t_behind, .ref A_t_placed, .ref A_t_isKept, .ref A_t_lanes, .ref A_t_lengths, .ref A_t_cells, .int t_torn])), (A_t_state, .inl (cy 1, 535, .inl t_state))]) [0, 1] rfl
  refine vp_callSl (W.runV (As := [.int (0 : Int32), .int x1]) (rest := [.long (t_least_v1 (((10 : Int32) * (t_state ((24 : Int32) + x1).toNatClampNeg)) + (t_state x1.toNatClampNeg)).toNatClampNeg)]) CF (c_X8_weightOf l D cy A_t A_t_state A_t_tape A_t_ends A_t_letters A_t_least A_t_conflicts A_t_behind A_t_placed A_t_isKept A_t_lanes A_t_lengths A_t_cells t_taped t_fault t_broken t_brokenAt t_spot t_here t_token t_value t_isRealTold t_conflictMany t_torn t_state (0 : Int32) x1 _ h) (cwV 2 hts gX8_isNeedless_X8_weightOf rfl rfl rfl qX8_weightOf ⟨Nat.le_of_ble_eq_true rfl, Nat.le_of_ble_eq_true rfl⟩) (mpVR hK hPc (ci := 8) (q := (RX8, TX8, 23)) (q0 := 0) rfl rfl) rfl rfl hl.1 rfl (lv_room (Nat.le_of_ble_eq_true rfl)) dX8_isNeedless_33 ⟨Nat.zero_le _, Nat.zero_le _⟩) (fun r2 h => ?_)
  refine lx_gt (tgt := 44) hx hb dX8_isNeedless_36 dX8_isNeedless_37 (by decide) (fun hc => ?_) (fun hc => ?_)
  · replace h := h.1 hc
    refine lv_iconst (v := 0) hx hb dX8_isNeedless_44 (by decide) ?_
    subst hQ
    subst hAe
    exact W.zret (v := (0 : Int32)) hx hb hr bz0 (fun t ht _ => ⟨⟨(0 : Int32), t_least_v1, rfl, h, by rw [ht]; exact hP, hD⟩, hS.F ht⟩) hS.2.2 dX8_isNeedless_45
  · replace h := h.2 hc
    refine lv_iconst (v := 1) hx hb dX8_isNeedless_40 (by decide) ?_
    refine lv_goto (tgt := 45) hx hb dX8_isNeedless_41 (by decide) ?_
    subst hQ
    subst hAe
    exact W.zret (v := (1 : Int32)) hx hb hr bz1 (fun t ht _ => ⟨⟨(1 : Int32), t_least_v1, rfl, h, by rw [ht]; exact hP, hD⟩, hS.F ht⟩) hS.2.2 dX8_isNeedless_45
theorem qX8_pairOf : yX8_pairOf.cls = RX8 ∧ yX8_pairOf.cls ≠ "java/lang/invoke/MethodHandle" ∧ yX8_pairOf.cls ≠ "java/lang/invoke/VarHandle" ∧ (parseMethodDescriptor yX8_pairOf.desc).map (fun d => d.parameters.length) = some 1 := by decide +kernel
def P_X8_pairOf (post : Int32 → Prop) (t_state : Nat → Int32) (x1 : Int32) : Prop :=
  (vp_in x1 535 ∧ (vp_in ((24 : Int32) + x1) 535 ∧ post (((10 : Int32) * (t_state x1.toNatClampNeg)) + (t_state ((24 : Int32) + x1).toNatClampNeg))))
set_option maxHeartbeats 4000000 in
set_option maxRecDepth 100000 in
theorem c_X8_pairOf (l : Launch) (D : va_G) (cy : Nat → ClassId) (A_t A_t_state A_t_tape A_t_ends A_t_letters A_t_least A_t_conflicts A_t_behind A_t_placed A_t_isKept A_t_lanes A_t_lengths A_t_cells : Nat) (t_taped : Int32) (t_fault : Int32) (t_broken : Int32) (t_brokenAt : Int32) (t_spot : Int32) (t_here : Int32) (t_token : Int32) (t_value : Int32) (t_isRealTold : Int32) (t_conflictMany : Int32) (t_torn : Int32) (t_state : Nat → Int32) (x1 : Int32) (post : Int32 → Prop) (h : P_X8_pairOf post t_state x1) : Met l yX8_pairOf wsX8_pairOf { frames := 0, cells := 0, slots := 0, locals := 0 } (pcR D cy [(A_t, .inr (8, [.ref A_t_state, .ref A_t_tape, .int t_taped, .int t_fault, .int t_broken, .int t_brokenAt, .int t_spot, .int t_here, .int t_token, .int t_value, .int t_isRealTold, .ref A_t_ends, .ref A_t_letters, .ref A_t_least, .ref A_t_conflicts, .int t_conflictMany, .ref A_t_behind, .ref A_t_placed, .ref A_t_isKept, .ref A_t_lanes, .ref A_t_lengths, .ref A_t_cells, .int t_torn])), (A_t_state, .inl (cy 1, 535, .inl t_state))] [.ref A_t, .int x1]) (vp_Si post) 0 0 (fun _ => False) := by
  refine Met.ofW (cc := cX8_pairOf) (maxL := 2) (ret := (some .int)) (by decide) rfl ?_
  intro p e s m args below meth c s₁ B hml hv
  obtain ⟨rfl, hP, hK⟩ := hv
  have hx := B.exec
  have hb := B.bytes
  have hr := B.returns
  have hts := atoms_spec (ws := wsX8_pairOf) B.pre
  have hown : s.vm.findClass RX8 = some m.cls := findClass_of_methodNamed B.named
  have hlocks := B.notSynchronized
  have CF : CallFix p m c cX8_pairOf 2 s ([.ref A_t, .int x1] : List Value).toArray wsX8_pairOf RX8 := ⟨hx, hb, hml, hown, hts⟩
  have f0 := hts (.fieldLink RX8 7 "GapBoundsModel" "state" "[I") (by decide +kernel)
  have iX8 : ∀ w ∈ u_ws RX8 TX8 23, w ∈ wsX8_pairOf := by decide +kernel
  have hl := lv_entry [.ref A_t, .int x1] (n := 2) (Nat.le_of_ble_eq_true rfl)
  rw [lg_entry_eq]
  generalize (lg_sl [.ref A_t, .int x1] ++ List.replicate (2 - (lg_sl [.ref A_t, .int x1]).length) Slot.unset).toArray = ls at hl ⊢
  have hl : lv_has ls 2 [(0, .ref A_t), (1, .int x1)] := hl
  refine W.gen (fun Q0 hQ => ?_)
  unfold P_X8_pairOf at h
  refine lv_bipush (v := 10) hx hb dX8_pairOf_0 (by decide) ?_
  refine lv_aload_n hx hb dX8_pairOf_2 rfl (lv_at hl 0 rfl) ?_
  refine va_get (D := D) (ci := 8) (v := .ref A_t_state) (C := RX8) (T := TX8) (N := 23) hx hb hts iX8 hown hK.1 hP 0 rfl rfl 0 (by decide) f0 (fun _ h9 => h9) rfl dX8_pairOf_3 ?_
  refine lv_iload_n hx hb dX8_pairOf_6 rfl (lv_at hl 1 rfl) ?_
  refine va_iald hx hb hK.1 hP 1 1 rfl rfl h.1 dX8_pairOf_7 ?_
  replace h := h.2
  refine lv_imul hx hb dX8_pairOf_8 ?_
  refine lv_aload_n hx hb dX8_pairOf_9 rfl (lv_at hl 0 rfl) ?_
  refine va_get (D := D) (ci := 8) (v := .ref A_t_state) (C := RX8) (T := TX8) (N := 23) hx hb hts iX8 hown hK.1 hP 0 rfl rfl 0 (by decide) f0 (fun _ h9 => h9) rfl dX8_pairOf_10 ?_
  refine lv_bipush (v := 24) hx hb dX8_pairOf_13 (by decide) ?_
  refine lv_iload_n hx hb dX8_pairOf_15 rfl (lv_at hl 1 rfl) ?_
  refine lv_iadd hx hb dX8_pairOf_16 ?_
  refine va_iald hx hb hK.1 hP 1 1 rfl rfl h.1 dX8_pairOf_17 ?_
  replace h := h.2
  refine lv_iadd hx hb dX8_pairOf_18 ?_
  subst hQ
  exact W.iret (v := ((10 : Int32) * (t_state x1.toNatClampNeg)) + (t_state ((24 : Int32) + x1).toNatClampNeg)) hx hb hr (fun t ht _ => ⟨((10 : Int32) * (t_state x1.toNatClampNeg)) + (t_state ((24 : Int32) + x1).toNatClampNeg), rfl, h, ht⟩) (fun _ hq => absurd hq List.not_mem_nil) dX8_pairOf_19
theorem qX8_isFirstPair : yX8_isFirstPair.cls = RX8 ∧ yX8_isFirstPair.cls ≠ "java/lang/invoke/MethodHandle" ∧ yX8_isFirstPair.cls ≠ "java/lang/invoke/VarHandle" ∧ (parseMethodDescriptor yX8_isFirstPair.desc).map (fun d => d.parameters.length) = some 1 := by decide +kernel
def B_X8_isFirstPair_31 (K_4 : Int32 → Int32 → Prop) (k0 : Int32) (x3 : Int32) : Prop :=
  K_4 k0 (x3 + (1 : Int32))
def B_X8_isFirstPair_30 (K_4 : Int32 → Int32 → Prop) (x3 : Int32) : Prop :=
  B_X8_isFirstPair_31 K_4 (0 : Int32) x3
def LB_X8_isFirstPair_4 (post : Int32 → Prop) (t_state : Nat → Int32) (x1 : Int32) (K_4 : Int32 → Int32 → Prop) (x2 : Int32) (x3 : Int32) : Prop :=
  ((x1 ≤ x3 → (bz x2 ∧ post x2)) ∧ (¬ x1 ≤ x3 → ((x2 = 0 → B_X8_isFirstPair_30 K_4 x3) ∧ (¬ x2 = 0 → P_X8_pairOf (fun (r1 : Int32) => P_X8_pairOf (fun (r2 : Int32) => ((r1 = r2 → B_X8_isFirstPair_30 K_4 x3) ∧ (¬ r1 = r2 → B_X8_isFirstPair_31 K_4 (1 : Int32) x3))) t_state x1) t_state x3))))
noncomputable def L_X8_isFirstPair_4 (post : Int32 → Prop) (t_state : Nat → Int32) (x1 : Int32) (n : Nat) : Int32 → Int32 → Prop := Nat.rec (motive := fun _ => Int32 → Int32 → Prop) (fun _ _ => False) (fun _ K => LB_X8_isFirstPair_4 post t_state x1 K) n
def P_X8_isFirstPair (post : Int32 → Prop) (t_state : Nat → Int32) (x1 : Int32) : Prop :=
  ∃ n : Nat, L_X8_isFirstPair_4 post t_state x1 n (1 : Int32) (0 : Int32)
set_option maxHeartbeats 4000000 in
set_option maxRecDepth 100000 in
theorem c_X8_isFirstPair (l : Launch) (D : va_G) (cy : Nat → ClassId) (A_t A_t_state A_t_tape A_t_ends A_t_letters A_t_least A_t_conflicts A_t_behind A_t_placed A_t_isKept A_t_lanes A_t_lengths A_t_cells : Nat) (t_taped : Int32) (t_fault : Int32) (t_broken : Int32) (t_brokenAt : Int32) (t_spot : Int32) (t_here : Int32) (t_token : Int32) (t_value : Int32) (t_isRealTold : Int32) (t_conflictMany : Int32) (t_torn : Int32) (t_state : Nat → Int32) (x1 : Int32) (post : Int32 → Prop) (h : P_X8_isFirstPair post t_state x1) : Met l yX8_isFirstPair wsX8_isFirstPair { frames := 1, cells := 0, slots := 0, locals := 21 } (pcR D cy [(A_t, .inr (8, [.ref A_t_state, .ref A_t_tape, .int t_taped, .int t_fault, .int t_broken, .int t_brokenAt, .int t_spot, .int t_here, .int t_token, .int t_value, .int t_isRealTold, .ref A_t_ends, .ref A_t_letters, .ref A_t_least, .ref A_t_conflicts, .int t_conflictMany, .ref A_t_behind, .ref A_t_placed, .ref A_t_isKept, .ref A_t_lanes, .ref A_t_lengths, .ref A_t_cells, .int t_torn])), (A_t_state, .inl (cy 1, 535, .inl t_state))] [.ref A_t, .int x1]) (vp_Si post) 0 0 (fun _ => False) := by
  refine Met.ofW (cc := cX8_isFirstPair) (maxL := 4) (ret := (some .boolean)) (by decide) rfl ?_
  intro p e s m args below meth c s₁ B hml hv
  obtain ⟨rfl, hP, hK⟩ := hv
  have hx := B.exec
  have hb := B.bytes
  have hr := B.returns
  have hts := atoms_spec (ws := wsX8_isFirstPair) B.pre
  have hown : s.vm.findClass RX8 = some m.cls := findClass_of_methodNamed B.named
  have hlocks := B.notSynchronized
  have CF : CallFix p m c cX8_isFirstPair 4 s ([.ref A_t, .int x1] : List Value).toArray wsX8_isFirstPair RX8 := ⟨hx, hb, hml, hown, hts⟩
  have hl := lv_entry [.ref A_t, .int x1] (n := 4) (Nat.le_of_ble_eq_true rfl)
  rw [lg_entry_eq]
  generalize (lg_sl [.ref A_t, .int x1] ++ List.replicate (4 - (lg_sl [.ref A_t, .int x1]).length) Slot.unset).toArray = ls at hl ⊢
  have hl : lv_has ls 4 [(0, .ref A_t), (1, .int x1)] := hl
  refine W.gen (fun Q0 hQ => ?_)
  have L4 : ∀ (n4 : Nat) (x2 : Int32) (x3 : Int32) (ls : Array Slot), L_X8_isFirstPair_4 post t_state x1 n4 x2 x3 → lv_has ls 4 [(0, .ref A_t), (1, .int x1), (2, .int x2), (3, .int x3)] → W p l e (headSpec wsX8_isFirstPair { frames := 1, cells := 0, slots := 0, locals := 21 }).room s m ([.ref A_t, .int x1] : List Value).toArray below meth c s.heap [] 0 0 Q0 (F0 m 4 ls []) := by
    intro n4
    induction n4 with
    | zero => intro x2 x3 ls h; exact False.elim h
    | succ n4 ih4 =>
      intro x2 x3 ls h hl
      have h : LB_X8_isFirstPair_4 post t_state x1 (L_X8_isFirstPair_4 post t_state x1 n4) x2 x3 := h
      unfold LB_X8_isFirstPair_4 at h
      have J31 : ∀ (x3 : Int32) (k0 : Int32) (ls : Array Slot), B_X8_isFirstPair_31 (L_X8_isFirstPair_4 post t_state x1 n4) k0 x3 → lv_has ls 4 [(0, .ref A_t), (1, .int x1), (3, .int x3)] → W p l e (headSpec wsX8_isFirstPair { frames := 1, cells := 0, slots := 0, locals := 21 }).room s m ([.ref A_t, .int x1] : List Value).toArray below meth c s.heap [] 0 0 Q0 (F0 m 31 ls [.int k0]) := by
        intro x3 k0 ls h hl
        unfold B_X8_isFirstPair_31 at h
        refine lv_istore_n (lv' := [(2, .int k0), (0, .ref A_t), (1, .int x1), (3, .int x3)]) hx hb dX8_isFirstPair_31 rfl hl (by decide) rfl (fun ls hl => ?_)
        refine lv_iinc (v := x3 + (1 : Int32)) (lv' := [(3, .int (x3 + (1 : Int32))), (2, .int k0), (0, .ref A_t), (1, .int x1)]) hx hb dX8_isFirstPair_32 hl (k := 3) rfl rfl (by decide) rfl (fun ls hl => ?_)
        refine lv_goto (tgt := 4) hx hb dX8_isFirstPair_35 (by decide) ?_
        exact ih4 k0 (x3 + (1 : Int32)) ls h (lv_sub hl [2, 3, 1, 0] rfl)
      have J30 : ∀ (x3 : Int32) (ls : Array Slot), B_X8_isFirstPair_30 (L_X8_isFirstPair_4 post t_state x1 n4) x3 → lv_has ls 4 [(0, .ref A_t), (1, .int x1), (3, .int x3)] → W p l e (headSpec wsX8_isFirstPair { frames := 1, cells := 0, slots := 0, locals := 21 }).room s m ([.ref A_t, .int x1] : List Value).toArray below meth c s.heap [] 0 0 Q0 (F0 m 30 ls []) := by
        intro x3 ls h hl
        unfold B_X8_isFirstPair_30 at h
        refine lv_iconst (v := 0) hx hb dX8_isFirstPair_30 (by decide) ?_
        exact J31 x3 (0 : Int32) ls h (lv_sub hl [0, 1, 2] rfl)
      refine lv_iload_n hx hb dX8_isFirstPair_4 rfl (lv_at hl 3 rfl) ?_
      refine lv_iload_n hx hb dX8_isFirstPair_5 rfl (lv_at hl 1 rfl) ?_
      refine lv_icmp_ge (tgt := 38) hx hb dX8_isFirstPair_6 (by decide) (fun hc => ?_) (fun hc => ?_)
      · replace h := h.1 hc
        refine lv_iload_n hx hb dX8_isFirstPair_38 rfl (lv_at hl 2 rfl) ?_
        subst hQ
        exact W.zret (v := x2) hx hb hr h.1 (fun t ht _ => ⟨x2, rfl, h.2, ht⟩) (fun _ hq => absurd hq List.not_mem_nil) dX8_isFirstPair_39
      · replace h := h.2 hc
        refine lv_iload_n hx hb dX8_isFirstPair_9 rfl (lv_at hl 2 rfl) ?_
        refine lv_if_eq (tgt := 30) hx hb dX8_isFirstPair_10 (by decide) (fun hc => ?_) (fun hc => ?_)
        · replace h := h.1 hc
          exact J30 x3 ls h (lv_sub hl [0, 1, 3] rfl)
        · replace h := h.2 hc
          refine lv_aload_n hx hb dX8_isFirstPair_13 rfl (lv_at hl 0 rfl) ?_
          refine lv_iload_n hx hb dX8_isFirstPair_14 rfl (lv_at hl 3 rfl) ?_
          have hPc := hP.sub (ws' := [(A_t, .inr (8, [.ref A_t_state, .ref A_t_tape, .int t_taped, .int t_fault, .int t_broken, .int t_brokenAt, .int t_spot, .int t_here, .int t_token, .int t_value, .int t_isRealTold, .ref A_t_ends, .ref A_t_letters, .ref A_t_least, .ref A_t_conflicts, .int t_conflictMany, .ref A_t_behind, .ref A_t_placed, .ref A_t_isKept, .ref A_t_lanes, .ref A_t_lengths, .ref A_t_cells, .int t_torn])), (A_t_state, .inl (cy 1, 535, .inl t_state))]) [0, 1] rfl
          refine vp_callSi (W.runV (As := [.int x3]) (rest := []) CF (c_X8_pairOf l D cy A_t A_t_state A_t_tape A_t_ends A_t_letters A_t_least A_t_conflicts A_t_behind A_t_placed A_t_isKept A_t_lanes A_t_lengths A_t_cells t_taped t_fault t_broken t_brokenAt t_spot t_here t_token t_value t_isRealTold t_conflictMany t_torn t_state x3 _ h) (cwV 1 hts gX8_isFirstPair_X8_pairOf rfl rfl rfl qX8_pairOf ⟨Nat.le_of_ble_eq_true rfl, Nat.le_of_ble_eq_true rfl⟩) (mpVR hK hPc (ci := 8) (q := (RX8, TX8, 23)) (q0 := 0) rfl rfl) rfl rfl hl.1 rfl (lv_room (Nat.le_of_ble_eq_true rfl)) dX8_isFirstPair_15 ⟨Nat.zero_le _, Nat.zero_le _⟩) (fun r1 h => ?_)
          refine lv_aload_n hx hb dX8_isFirstPair_18 rfl (lv_at hl 0 rfl) ?_
          refine lv_iload_n hx hb dX8_isFirstPair_19 rfl (lv_at hl 1 rfl) ?_
          have hPc := hP.sub (ws' := [(A_t, .inr (8, [.ref A_t_state, .ref A_t_tape, .int t_taped, .int t_fault, .int t_broken, .int t_brokenAt, .int t_spot, .int t_here, .int t_token, .int t_value, .int t_isRealTold, .ref A_t_ends, .ref A_t_letters, .ref A_t_least, .ref A_t_conflicts, .int t_conflictMany, .ref A_t_behind, .ref A_t_placed, .ref A_t_isKept, .ref A_t_lanes, .ref A_t_lengths, .ref A_t_cells, .int t_torn])), (A_t_state, .inl (cy 1, 535, .inl t_state))]) [0, 1] rfl
          refine vp_callSi (W.runV (As := [.int x1]) (rest := [.int r1]) CF (c_X8_pairOf l D cy A_t A_t_state A_t_tape A_t_ends A_t_letters A_t_least A_t_conflicts A_t_behind A_t_placed A_t_isKept A_t_lanes A_t_lengths A_t_cells t_taped t_fault t_broken t_brokenAt t_spot t_here t_token t_value t_isRealTold t_conflictMany t_torn t_state x1 _ h) (cwV 1 hts gX8_isFirstPair_X8_pairOf rfl rfl rfl qX8_pairOf ⟨Nat.le_of_ble_eq_true rfl, Nat.le_of_ble_eq_true rfl⟩) (mpVR hK hPc (ci := 8) (q := (RX8, TX8, 23)) (q0 := 0) rfl rfl) rfl rfl hl.1 rfl (lv_room (Nat.le_of_ble_eq_true rfl)) dX8_isFirstPair_20 ⟨Nat.zero_le _, Nat.zero_le _⟩) (fun r2 h => ?_)
          refine lv_icmp_eq (tgt := 30) hx hb dX8_isFirstPair_23 (by decide) (fun hc => ?_) (fun hc => ?_)
          · replace h := h.1 hc
            exact J30 x3 ls h (lv_sub hl [0, 1, 3] rfl)
          · replace h := h.2 hc
            refine lv_iconst (v := 1) hx hb dX8_isFirstPair_26 (by decide) ?_
            refine lv_goto (tgt := 31) hx hb dX8_isFirstPair_27 (by decide) ?_
            exact J31 x3 (1 : Int32) ls h (lv_sub hl [0, 1, 3] rfl)
  unfold P_X8_isFirstPair at h
  refine lv_iconst (v := 1) hx hb dX8_isFirstPair_0 (by decide) ?_
  refine lv_istore_n (lv' := [(2, .int (1 : Int32)), (0, .ref A_t), (1, .int x1)]) hx hb dX8_isFirstPair_1 rfl hl (by decide) rfl (fun ls hl => ?_)
  refine lv_iconst (v := 0) hx hb dX8_isFirstPair_2 (by decide) ?_
  refine lv_istore_n (lv' := [(3, .int (0 : Int32)), (2, .int (1 : Int32)), (0, .ref A_t), (1, .int x1)]) hx hb dX8_isFirstPair_3 rfl hl (by decide) rfl (fun ls hl => ?_)
  obtain ⟨nn, h⟩ := h
  exact L4 nn (1 : Int32) (0 : Int32) ls h (lv_sub hl [2, 3, 1, 0] rfl)
theorem qX8_isFirstLimit : yX8_isFirstLimit.cls = RX8 ∧ yX8_isFirstLimit.cls ≠ "java/lang/invoke/MethodHandle" ∧ yX8_isFirstLimit.cls ≠ "java/lang/invoke/VarHandle" ∧ (parseMethodDescriptor yX8_isFirstLimit.desc).map (fun d => d.parameters.length) = some 1 := by decide +kernel
def B_X8_isFirstLimit_39 (K_4 : Int32 → Int32 → Prop) (k0 : Int32) (x3 : Int32) : Prop :=
  K_4 k0 (x3 + (1 : Int32))
def B_X8_isFirstLimit_38 (K_4 : Int32 → Int32 → Prop) (x3 : Int32) : Prop :=
  B_X8_isFirstLimit_39 K_4 (0 : Int32) x3
def LB_X8_isFirstLimit_4 (post : Int32 → Prop) (t_state : Nat → Int32) (x1 : Int32) (K_4 : Int32 → Int32 → Prop) (x2 : Int32) (x3 : Int32) : Prop :=
  ((x1 ≤ x3 → (bz x2 ∧ post x2)) ∧ (¬ x1 ≤ x3 → ((x2 = 0 → B_X8_isFirstLimit_38 K_4 x3) ∧ (¬ x2 = 0 → (vp_in ((48 : Int32) + x3) 535 ∧ (vp_in ((48 : Int32) + x1) 535 ∧ ((t_state ((48 : Int32) + x3).toNatClampNeg = t_state ((48 : Int32) + x1).toNatClampNeg → B_X8_isFirstLimit_38 K_4 x3) ∧ (¬ t_state ((48 : Int32) + x3).toNatClampNeg = t_state ((48 : Int32) + x1).toNatClampNeg → B_X8_isFirstLimit_39 K_4 (1 : Int32) x3))))))))
noncomputable def L_X8_isFirstLimit_4 (post : Int32 → Prop) (t_state : Nat → Int32) (x1 : Int32) (n : Nat) : Int32 → Int32 → Prop := Nat.rec (motive := fun _ => Int32 → Int32 → Prop) (fun _ _ => False) (fun _ K => LB_X8_isFirstLimit_4 post t_state x1 K) n
def P_X8_isFirstLimit (post : Int32 → Prop) (t_state : Nat → Int32) (x1 : Int32) : Prop :=
  ∃ n : Nat, L_X8_isFirstLimit_4 post t_state x1 n (1 : Int32) (0 : Int32)
set_option maxHeartbeats 4000000 in
set_option maxRecDepth 100000 in
theorem c_X8_isFirstLimit (l : Launch) (D : va_G) (cy : Nat → ClassId) (A_t A_t_state A_t_tape A_t_ends A_t_letters A_t_least A_t_conflicts A_t_behind A_t_placed A_t_isKept A_t_lanes A_t_lengths A_t_cells : Nat) (t_taped : Int32) (t_fault : Int32) (t_broken : Int32) (t_brokenAt : Int32) (t_spot : Int32) (t_here : Int32) (t_token : Int32) (t_value : Int32) (t_isRealTold : Int32) (t_conflictMany : Int32) (t_torn : Int32) (t_state : Nat → Int32) (x1 : Int32) (post : Int32 → Prop) (h : P_X8_isFirstLimit post t_state x1) : Met l yX8_isFirstLimit wsX8_isFirstLimit { frames := 0, cells := 0, slots := 0, locals := 0 } (pcR D cy [(A_t, .inr (8, [.ref A_t_state, .ref A_t_tape, .int t_taped, .int t_fault, .int t_broken, .int t_brokenAt, .int t_spot, .int t_here, .int t_token, .int t_value, .int t_isRealTold, .ref A_t_ends, .ref A_t_letters, .ref A_t_least, .ref A_t_conflicts, .int t_conflictMany, .ref A_t_behind, .ref A_t_placed, .ref A_t_isKept, .ref A_t_lanes, .ref A_t_lengths, .ref A_t_cells, .int t_torn])), (A_t_state, .inl (cy 1, 535, .inl t_state))] [.ref A_t, .int x1]) (vp_Si post) 0 0 (fun _ => False) := by
  refine Met.ofW (cc := cX8_isFirstLimit) (maxL := 4) (ret := (some .boolean)) (by decide) rfl ?_
  intro p e s m args below meth c s₁ B hml hv
  obtain ⟨rfl, hP, hK⟩ := hv
  have hx := B.exec
  have hb := B.bytes
  have hr := B.returns
  have hts := atoms_spec (ws := wsX8_isFirstLimit) B.pre
  have hown : s.vm.findClass RX8 = some m.cls := findClass_of_methodNamed B.named
  have hlocks := B.notSynchronized
  have CF : CallFix p m c cX8_isFirstLimit 4 s ([.ref A_t, .int x1] : List Value).toArray wsX8_isFirstLimit RX8 := ⟨hx, hb, hml, hown, hts⟩
  have f0 := hts (.fieldLink RX8 7 "GapBoundsModel" "state" "[I") (by decide +kernel)
  have iX8 : ∀ w ∈ u_ws RX8 TX8 23, w ∈ wsX8_isFirstLimit := by decide +kernel
  have hl := lv_entry [.ref A_t, .int x1] (n := 4) (Nat.le_of_ble_eq_true rfl)
  rw [lg_entry_eq]
  generalize (lg_sl [.ref A_t, .int x1] ++ List.replicate (4 - (lg_sl [.ref A_t, .int x1]).length) Slot.unset).toArray = ls at hl ⊢
  have hl : lv_has ls 4 [(0, .ref A_t), (1, .int x1)] := hl
  refine W.gen (fun Q0 hQ => ?_)
  have L4 : ∀ (n4 : Nat) (x2 : Int32) (x3 : Int32) (ls : Array Slot), L_X8_isFirstLimit_4 post t_state x1 n4 x2 x3 → lv_has ls 4 [(0, .ref A_t), (1, .int x1), (2, .int x2), (3, .int x3)] → W p l e (headSpec wsX8_isFirstLimit { frames := 0, cells := 0, slots := 0, locals := 0 }).room s m ([.ref A_t, .int x1] : List Value).toArray below meth c s.heap [] 0 0 Q0 (F0 m 4 ls []) := by
    intro n4
    induction n4 with
    | zero => intro x2 x3 ls h; exact False.elim h
    | succ n4 ih4 =>
      intro x2 x3 ls h hl
      have h : LB_X8_isFirstLimit_4 post t_state x1 (L_X8_isFirstLimit_4 post t_state x1 n4) x2 x3 := h
      unfold LB_X8_isFirstLimit_4 at h
      have J39 : ∀ (x3 : Int32) (k0 : Int32) (ls : Array Slot), B_X8_isFirstLimit_39 (L_X8_isFirstLimit_4 post t_state x1 n4) k0 x3 → lv_has ls 4 [(0, .ref A_t), (1, .int x1), (3, .int x3)] → W p l e (headSpec wsX8_isFirstLimit { frames := 0, cells := 0, slots := 0, locals := 0 }).room s m ([.ref A_t, .int x1] : List Value).toArray below meth c s.heap [] 0 0 Q0 (F0 m 39 ls [.int k0]) := by
        intro x3 k0 ls h hl
        unfold B_X8_isFirstLimit_39 at h
        refine lv_istore_n (lv' := [(2, .int k0), (0, .ref A_t), (1, .int x1), (3, .int x3)]) hx hb dX8_isFirstLimit_39 rfl hl (by decide) rfl (fun ls hl => ?_)
        refine lv_iinc (v := x3 + (1 : Int32)) (lv' := [(3, .int (x3 + (1 : Int32))), (2, .int k0), (0, .ref A_t), (1, .int x1)]) hx hb dX8_isFirstLimit_40 hl (k := 3) rfl rfl (by decide) rfl (fun ls hl => ?_)
        refine lv_goto (tgt := 4) hx hb dX8_isFirstLimit_43 (by decide) ?_
        exact ih4 k0 (x3 + (1 : Int32)) ls h (lv_sub hl [2, 3, 1, 0] rfl)
      have J38 : ∀ (x3 : Int32) (ls : Array Slot), B_X8_isFirstLimit_38 (L_X8_isFirstLimit_4 post t_state x1 n4) x3 → lv_has ls 4 [(0, .ref A_t), (1, .int x1), (3, .int x3)] → W p l e (headSpec wsX8_isFirstLimit { frames := 0, cells := 0, slots := 0, locals := 0 }).room s m ([.ref A_t, .int x1] : List Value).toArray below meth c s.heap [] 0 0 Q0 (F0 m 38 ls []) := by
        intro x3 ls h hl
        unfold B_X8_isFirstLimit_38 at h
        refine lv_iconst (v := 0) hx hb dX8_isFirstLimit_38 (by decide) ?_
        exact J39 x3 (0 : Int32) ls h (lv_sub hl [0, 1, 2] rfl)
      refine lv_iload_n hx hb dX8_isFirstLimit_4 rfl (lv_at hl 3 rfl) ?_
      refine lv_iload_n hx hb dX8_isFirstLimit_5 rfl (lv_at hl 1 rfl) ?_
      refine lv_icmp_ge (tgt := 46) hx hb dX8_isFirstLimit_6 (by decide) (fun hc => ?_) (fun hc => ?_)
      · replace h := h.1 hc
        refine lv_iload_n hx hb dX8_isFirstLimit_46 rfl (lv_at hl 2 rfl) ?_
        subst hQ
        exact W.zret (v := x2) hx hb hr h.1 (fun t ht _ => ⟨x2, rfl, h.2, ht⟩) (fun _ hq => absurd hq List.not_mem_nil) dX8_isFirstLimit_47
      · replace h := h.2 hc
        refine lv_iload_n hx hb dX8_isFirstLimit_9 rfl (lv_at hl 2 rfl) ?_
        refine lv_if_eq (tgt := 38) hx hb dX8_isFirstLimit_10 (by decide) (fun hc => ?_) (fun hc => ?_)
        · replace h := h.1 hc
          exact J38 x3 ls h (lv_sub hl [0, 1, 3] rfl)
        · replace h := h.2 hc
          refine lv_aload_n hx hb dX8_isFirstLimit_13 rfl (lv_at hl 0 rfl) ?_
          refine va_get (D := D) (ci := 8) (v := .ref A_t_state) (C := RX8) (T := TX8) (N := 23) hx hb hts iX8 hown hK.1 hP 0 rfl rfl 0 (by decide) f0 (fun _ h9 => h9) rfl dX8_isFirstLimit_14 ?_
          refine lv_bipush (v := 48) hx hb dX8_isFirstLimit_17 (by decide) ?_
          refine lv_iload_n hx hb dX8_isFirstLimit_19 rfl (lv_at hl 3 rfl) ?_
          refine lv_iadd hx hb dX8_isFirstLimit_20 ?_
          refine va_iald hx hb hK.1 hP 1 1 rfl rfl h.1 dX8_isFirstLimit_21 ?_
          replace h := h.2
          refine lv_aload_n hx hb dX8_isFirstLimit_22 rfl (lv_at hl 0 rfl) ?_
          refine va_get (D := D) (ci := 8) (v := .ref A_t_state) (C := RX8) (T := TX8) (N := 23) hx hb hts iX8 hown hK.1 hP 0 rfl rfl 0 (by decide) f0 (fun _ h9 => h9) rfl dX8_isFirstLimit_23 ?_
          refine lv_bipush (v := 48) hx hb dX8_isFirstLimit_26 (by decide) ?_
          refine lv_iload_n hx hb dX8_isFirstLimit_28 rfl (lv_at hl 1 rfl) ?_
          refine lv_iadd hx hb dX8_isFirstLimit_29 ?_
          refine va_iald hx hb hK.1 hP 1 1 rfl rfl h.1 dX8_isFirstLimit_30 ?_
          replace h := h.2
          refine lv_icmp_eq (tgt := 38) hx hb dX8_isFirstLimit_31 (by decide) (fun hc => ?_) (fun hc => ?_)
          · replace h := h.1 hc
            exact J38 x3 ls h (lv_sub hl [0, 1, 3] rfl)
          · replace h := h.2 hc
            refine lv_iconst (v := 1) hx hb dX8_isFirstLimit_34 (by decide) ?_
            refine lv_goto (tgt := 39) hx hb dX8_isFirstLimit_35 (by decide) ?_
            exact J39 x3 (1 : Int32) ls h (lv_sub hl [0, 1, 3] rfl)
  unfold P_X8_isFirstLimit at h
  refine lv_iconst (v := 1) hx hb dX8_isFirstLimit_0 (by decide) ?_
  refine lv_istore_n (lv' := [(2, .int (1 : Int32)), (0, .ref A_t), (1, .int x1)]) hx hb dX8_isFirstLimit_1 rfl hl (by decide) rfl (fun ls hl => ?_)
  refine lv_iconst (v := 0) hx hb dX8_isFirstLimit_2 (by decide) ?_
  refine lv_istore_n (lv' := [(3, .int (0 : Int32)), (2, .int (1 : Int32)), (0, .ref A_t), (1, .int x1)]) hx hb dX8_isFirstLimit_3 rfl hl (by decide) rfl (fun ls hl => ?_)
  obtain ⟨nn, h⟩ := h
  exact L4 nn (1 : Int32) (0 : Int32) ls h (lv_sub hl [2, 3, 1, 0] rfl)
theorem qX8_ofBounds : yX8_ofBounds.cls = RX8 ∧ yX8_ofBounds.cls ≠ "java/lang/invoke/MethodHandle" ∧ yX8_ofBounds.cls ≠ "java/lang/invoke/VarHandle" ∧ (parseMethodDescriptor yX8_ofBounds.desc).map (fun d => d.parameters.length) = some 1 := by decide +kernel
def B_X8_ofBounds_82 (K_4 : (Nat → Int64) → Int32 → Int32 → Prop) (t_least : Nat → Int64) (k0 : Int32) (k1 : Int32) (x3 : Int32) : Prop :=
  K_4 t_least (k0 + k1) (x3 + (1 : Int32))
def B_X8_ofBounds_69 (K_4 : (Nat → Int64) → Int32 → Int32 → Prop) (t_least : Nat → Int64) (k0 : Int32) (x2 : Int32) (x3 : Int32) : Prop :=
  ((k0 = 0 → B_X8_ofBounds_82 K_4 t_least x2 (0 : Int32) x3) ∧ (¬ k0 = 0 → B_X8_ofBounds_82 K_4 t_least x2 (1 : Int32) x3))
def LB_X8_ofBounds_4 (post : Int32 → (Nat → Int64) → Prop) (t_state : Nat → Int32) (x1 : Int32) (K_4 : (Nat → Int64) → Int32 → Int32 → Prop) (t_least : Nat → Int64) (x2 : Int32) (x3 : Int32) : Prop :=
  P_X8_many (fun (r1 : Int32) => ((r1 ≤ x3 → post x2 t_least) ∧ (¬ r1 ≤ x3 → ((¬ x1 = (3 : Int32) → ((¬ x1 = (4 : Int32) → ((¬ x1 = (5 : Int32) → (vp_in ((72 : Int32) + x3) 535 ∧ ((¬ t_state ((72 : Int32) + x3).toNatClampNeg = (1 : Int32) → B_X8_ofBounds_69 K_4 t_least (0 : Int32) x2 x3) ∧ (t_state ((72 : Int32) + x3).toNatClampNeg = (1 : Int32) → B_X8_ofBounds_69 K_4 t_least (1 : Int32) x2 x3)))) ∧ (x1 = (5 : Int32) → P_X8_isNeedless (fun (r2 : Int32) (t_least_v2 : Nat → Int64) => B_X8_ofBounds_69 K_4 t_least_v2 r2 x2 x3) t_state t_least x3))) ∧ (x1 = (4 : Int32) → P_X8_isFirstLimit (fun (r3 : Int32) => B_X8_ofBounds_69 K_4 t_least r3 x2 x3) t_state x3))) ∧ (x1 = (3 : Int32) → P_X8_isFirstPair (fun (r4 : Int32) => B_X8_ofBounds_69 K_4 t_least r4 x2 x3) t_state x3))))) t_state
noncomputable def L_X8_ofBounds_4 (post : Int32 → (Nat → Int64) → Prop) (t_state : Nat → Int32) (x1 : Int32) (n : Nat) : (Nat → Int64) → Int32 → Int32 → Prop := Nat.rec (motive := fun _ => (Nat → Int64) → Int32 → Int32 → Prop) (fun _ _ _ => False) (fun _ K => LB_X8_ofBounds_4 post t_state x1 K) n
def P_X8_ofBounds (post : Int32 → (Nat → Int64) → Prop) (t_state : Nat → Int32) (t_least : Nat → Int64) (x1 : Int32) : Prop :=
  ∃ n : Nat, L_X8_ofBounds_4 post t_state x1 n t_least (0 : Int32) (0 : Int32)
set_option maxHeartbeats 4000000 in
set_option maxRecDepth 100000 in
theorem c_X8_ofBounds (l : Launch) (D : va_G) (cy : Nat → ClassId) (sz : Nat) (A_t A_t_state A_t_tape A_t_ends A_t_letters A_t_least A_t_conflicts A_t_behind A_t_placed A_t_isKept A_t_lanes A_t_lengths A_t_cells : Nat) (t_taped : Int32) (t_fault : Int32) (t_broken : Int32) (t_brokenAt : Int32) (t_spot : Int32) (t_here : Int32) (t_token : Int32) (t_value : Int32) (t_isRealTold : Int32) (t_conflictMany : Int32) (t_torn : Int32) (t_state : Nat → Int32) (t_least : Nat → Int64) (x1 : Int32) (post : Int32 → (Nat → Int64) → Prop) (h : P_X8_ofBounds post t_state t_least x1) : Met l yX8_ofBounds wsX8_ofBounds { frames := 4, cells := 0, slots := 0, locals := 93 } (pcW D cy [(A_t, .inr (8, [.ref A_t_state, .ref A_t_tape, .int t_taped, .int t_fault, .int t_broken, .int t_brokenAt, .int t_spot, .int t_here, .int t_token, .int t_value, .int t_isRealTold, .ref A_t_ends, .ref A_t_letters, .ref A_t_least, .ref A_t_conflicts, .int t_conflictMany, .ref A_t_behind, .ref A_t_placed, .ref A_t_isKept, .ref A_t_lanes, .ref A_t_lengths, .ref A_t_cells, .int t_torn])), (A_t_state, .inl (cy 1, 535, .inl t_state)), (A_t_least, .inl (cy 2, 100, .inr (.inl t_least)))] sz [.ref A_t, .int x1]) (va_Qi (fun r (u : (Nat → Int64)) => post r u) (bW D [(A_t, .inr (8, [.ref A_t_state, .ref A_t_tape, .int t_taped, .int t_fault, .int t_broken, .int t_brokenAt, .int t_spot, .int t_here, .int t_token, .int t_value, .int t_isRealTold, .ref A_t_ends, .ref A_t_letters, .ref A_t_least, .ref A_t_conflicts, .int t_conflictMany, .ref A_t_behind, .ref A_t_placed, .ref A_t_isKept, .ref A_t_lanes, .ref A_t_lengths, .ref A_t_cells, .int t_torn])), (A_t_state, .inl (cy 1, 535, .inl t_state)), (A_t_least, .inl (cy 2, 100, .inr (.inl t_least)))] sz (fun u => [(A_t, .inr (8, [.ref A_t_state, .ref A_t_tape, .int t_taped, .int t_fault, .int t_broken, .int t_brokenAt, .int t_spot, .int t_here, .int t_token, .int t_value, .int t_isRealTold, .ref A_t_ends, .ref A_t_letters, .ref A_t_least, .ref A_t_conflicts, .int t_conflictMany, .ref A_t_behind, .ref A_t_placed, .ref A_t_isKept, .ref A_t_lanes, .ref A_t_lengths, .ref A_t_cells, .int t_torn])), (A_t_state, .inl (cy 1, 535, .inl t_state)), (A_t_least, .inl (cy 2, 100, .inr (.inl u)))])) (va_A [(A_t, .inr (8, [.ref A_t_state, .ref A_t_tape, .int t_taped, .int t_fault, .int t_broken, .int t_brokenAt, .int t_spot, .int t_here, .int t_token, .int t_value, .int t_isRealTold, .ref A_t_ends, .ref A_t_letters, .ref A_t_least, .ref A_t_conflicts, .int t_conflictMany, .ref A_t_behind, .ref A_t_placed, .ref A_t_isKept, .ref A_t_lanes, .ref A_t_lengths, .ref A_t_cells, .int t_torn])), (A_t_state, .inl (cy 1, 535, .inl t_state)), (A_t_least, .inl (cy 2, 100, .inr (.inl t_least)))] sz)) 0 0 (va_A [(A_t, .inr (8, [.ref A_t_state, .ref A_t_tape, .int t_taped, .int t_fault, .int t_broken, .int t_brokenAt, .int t_spot, .int t_here, .int t_token, .int t_value, .int t_isRealTold, .ref A_t_ends, .ref A_t_letters, .ref A_t_least, .ref A_t_conflicts, .int t_conflictMany, .ref A_t_behind, .ref A_t_placed, .ref A_t_isKept, .ref A_t_lanes, .ref A_t_lengths, .ref A_t_cells, .int t_torn])), (A_t_state, .inl (cy 1, 535, .inl t_state)), (A_t_least, .inl (cy 2, 100, .inr (.inl t_least)))] sz) := by
  refine Met.ofW (cc := cX8_ofBounds) (maxL := 5) (ret := (some .int)) (by decide) rfl ?_
  intro p e s m args below meth c s₁ B hml hv
  obtain ⟨rfl, hsz, hP, hK, hD0⟩ := hv
  have hx := B.exec
  have hb := B.bytes
  have hr := B.returns
  have hts := atoms_spec (ws := wsX8_ofBounds) B.pre
  have hown : s.vm.findClass RX8 = some m.cls := findClass_of_methodNamed B.named
  have hlocks := B.notSynchronized
  have CF : CallFix p m c cX8_ofBounds 5 s ([.ref A_t, .int x1] : List Value).toArray wsX8_ofBounds RX8 := ⟨hx, hb, hml, hown, hts⟩
  have f0 := hts (.fieldLink RX8 7 "GapBoundsModel" "state" "[I") (by decide +kernel)
  have iX8 : ∀ w ∈ u_ws RX8 TX8 23, w ∈ wsX8_ofBounds := by decide +kernel
  subst hsz
  obtain ⟨A, hAe⟩ : ∃ A, A = va_A [(A_t, .inr (8, [.ref A_t_state, .ref A_t_tape, .int t_taped, .int t_fault, .int t_broken, .int t_brokenAt, .int t_spot, .int t_here, .int t_token, .int t_value, .int t_isRealTold, .ref A_t_ends, .ref A_t_letters, .ref A_t_least, .ref A_t_conflicts, .int t_conflictMany, .ref A_t_behind, .ref A_t_placed, .ref A_t_isKept, .ref A_t_lanes, .ref A_t_lengths, .ref A_t_cells, .int t_torn])), (A_t_state, .inl (cy 1, 535, .inl t_state)), (A_t_least, .inl (cy 2, 100, .inr (.inl t_least)))] s.heap.size := ⟨_, rfl⟩
  have hD : va_D A [(A_t, .inr (8, [.ref A_t_state, .ref A_t_tape, .int t_taped, .int t_fault, .int t_broken, .int t_brokenAt, .int t_spot, .int t_here, .int t_token, .int t_value, .int t_isRealTold, .ref A_t_ends, .ref A_t_letters, .ref A_t_least, .ref A_t_conflicts, .int t_conflictMany, .ref A_t_behind, .ref A_t_placed, .ref A_t_isKept, .ref A_t_lanes, .ref A_t_lengths, .ref A_t_cells, .int t_torn])), (A_t_state, .inl (cy 1, 535, .inl t_state)), (A_t_least, .inl (cy 2, 100, .inr (.inl t_least)))] := by rw [hAe]; exact hD0.self
  have hA : ∀ q : Nat, s.heap.size ≤ q → A q := fun q hq => by rw [hAe]; exact Or.inr hq
  have hS : va_S A s.heap s.heap [] := va_S.rf
  have hl := lv_entry [.ref A_t, .int x1] (n := 5) (Nat.le_of_ble_eq_true rfl)
  rw [lg_entry_eq]
  generalize (lg_sl [.ref A_t, .int x1] ++ List.replicate (5 - (lg_sl [.ref A_t, .int x1]).length) Slot.unset).toArray = ls at hl ⊢
  have hl : lv_has ls 5 [(0, .ref A_t), (1, .int x1)] := hl
  refine W.gen (fun Q0 hQ => ?_)
  have L4 : ∀ (n4 : Nat) (t_least : Nat → Int64) (x2 : Int32) (x3 : Int32) (H : Heap) (locs : List Loc) (ls : Array Slot), L_X8_ofBounds_4 post t_state x1 n4 t_least x2 x3 → va_P D vwCl [(A_t, .inr (8, [.ref A_t_state, .ref A_t_tape, .int t_taped, .int t_fault, .int t_broken, .int t_brokenAt, .int t_spot, .int t_here, .int t_token, .int t_value, .int t_isRealTold, .ref A_t_ends, .ref A_t_letters, .ref A_t_least, .ref A_t_conflicts, .int t_conflictMany, .ref A_t_behind, .ref A_t_placed, .ref A_t_isKept, .ref A_t_lanes, .ref A_t_lengths, .ref A_t_cells, .int t_torn])), (A_t_state, .inl (cy 1, 535, .inl t_state)), (A_t_least, .inl (cy 2, 100, .inr (.inl t_least)))] H → va_D A [(A_t, .inr (8, [.ref A_t_state, .ref A_t_tape, .int t_taped, .int t_fault, .int t_broken, .int t_brokenAt, .int t_spot, .int t_here, .int t_token, .int t_value, .int t_isRealTold, .ref A_t_ends, .ref A_t_letters, .ref A_t_least, .ref A_t_conflicts, .int t_conflictMany, .ref A_t_behind, .ref A_t_placed, .ref A_t_isKept, .ref A_t_lanes, .ref A_t_lengths, .ref A_t_cells, .int t_torn])), (A_t_state, .inl (cy 1, 535, .inl t_state)), (A_t_least, .inl (cy 2, 100, .inr (.inl t_least)))] → va_S A s.heap H locs → lv_has ls 5 [(0, .ref A_t), (1, .int x1), (2, .int x2), (3, .int x3)] → W p l e (headSpec wsX8_ofBounds { frames := 4, cells := 0, slots := 0, locals := 93 }).room s m ([.ref A_t, .int x1] : List Value).toArray below meth c H locs 0 0 Q0 (F0 m 4 ls []) := by
    intro n4
    induction n4 with
    | zero => intro t_least x2 x3 H locs ls h; exact False.elim h
    | succ n4 ih4 =>
      intro t_least x2 x3 H locs ls h hP hD hS hl
      have h : LB_X8_ofBounds_4 post t_state x1 (L_X8_ofBounds_4 post t_state x1 n4) t_least x2 x3 := h
      unfold LB_X8_ofBounds_4 at h
      have J82 : ∀ (t_least : Nat → Int64) (x3 : Int32) (k0 : Int32) (k1 : Int32) (H : Heap) (locs : List Loc) (ls : Array Slot), B_X8_ofBounds_82 (L_X8_ofBounds_4 post t_state x1 n4) t_least k0 k1 x3 → va_P D vwCl [(A_t, .inr (8, [.ref A_t_state, .ref A_t_tape, .int t_taped, .int t_fault, .int t_broken, .int t_brokenAt, .int t_spot, .int t_here, .int t_token, .int t_value, .int t_isRealTold, .ref A_t_ends, .ref A_t_letters, .ref A_t_least, .ref A_t_conflicts, .int t_conflictMany, .ref A_t_behind, .ref A_t_placed, .ref A_t_isKept, .ref A_t_lanes, .ref A_t_lengths, .ref A_t_cells, .int t_torn])), (A_t_state, .inl (cy 1, 535, .inl t_state)), (A_t_least, .inl (cy 2, 100, .inr (.inl t_least)))] H → va_D A [(A_t, .inr (8, [.ref A_t_state, .ref A_t_tape, .int t_taped, .int t_fault, .int t_broken, .int t_brokenAt, .int t_spot, .int t_here, .int t_token, .int t_value, .int t_isRealTold, .ref A_t_ends, .ref A_t_letters, .ref A_t_least, .ref A_t_conflicts, .int t_conflictMany, .ref A_t_behind, .ref A_t_placed, .ref A_t_isKept, .ref A_t_lanes, .ref A_t_lengths, .ref A_t_cells, .int t_torn])), (A_t_state, .inl (cy 1, 535, .inl t_state)), (A_t_least, .inl (cy 2, 100, .inr (.inl t_least)))] → va_S A s.heap H locs → lv_has ls 5 [(0, .ref A_t), (1, .int x1), (3, .int x3)] → W p l e (headSpec wsX8_ofBounds { frames := 4, cells := 0, slots := 0, locals := 93 }).room s m ([.ref A_t, .int x1] : List Value).toArray below meth c H locs 0 0 Q0 (F0 m 82 ls [.int k1, .int k0]) := by
        intro t_least x3 k0 k1 H locs ls h hP hD hS hl
        unfold B_X8_ofBounds_82 at h
        refine lv_iadd hx hb dX8_ofBounds_82 ?_
        refine lv_istore_n (lv' := [(2, .int (k0 + k1)), (0, .ref A_t), (1, .int x1), (3, .int x3)]) hx hb dX8_ofBounds_83 rfl hl (by decide) rfl (fun ls hl => ?_)
        refine lv_iinc (v := x3 + (1 : Int32)) (lv' := [(3, .int (x3 + (1 : Int32))), (2, .int (k0 + k1)), (0, .ref A_t), (1, .int x1)]) hx hb dX8_ofBounds_84 hl (k := 3) rfl rfl (by decide) rfl (fun ls hl => ?_)
        refine lv_goto (tgt := 4) hx hb dX8_ofBounds_87 (by decide) ?_
        exact ih4 t_least (k0 + k1) (x3 + (1 : Int32)) H locs ls h hP hD hS (lv_sub hl [2, 3, 1, 0] rfl)
      have J69 : ∀ (t_least : Nat → Int64) (x2 : Int32) (x3 : Int32) (k0 : Int32) (H : Heap) (locs : List Loc) (ls : Array Slot), B_X8_ofBounds_69 (L_X8_ofBounds_4 post t_state x1 n4) t_least k0 x2 x3 → va_P D vwCl [(A_t, .inr (8, [.ref A_t_state, .ref A_t_tape, .int t_taped, .int t_fault, .int t_broken, .int t_brokenAt, .int t_spot, .int t_here, .int t_token, .int t_value, .int t_isRealTold, .ref A_t_ends, .ref A_t_letters, .ref A_t_least, .ref A_t_conflicts, .int t_conflictMany, .ref A_t_behind, .ref A_t_placed, .ref A_t_isKept, .ref A_t_lanes, .ref A_t_lengths, .ref A_t_cells, .int t_torn])), (A_t_state, .inl (cy 1, 535, .inl t_state)), (A_t_least, .inl (cy 2, 100, .inr (.inl t_least)))] H → va_D A [(A_t, .inr (8, [.ref A_t_state, .ref A_t_tape, .int t_taped, .int t_fault, .int t_broken, .int t_brokenAt, .int t_spot, .int t_here, .int t_token, .int t_value, .int t_isRealTold, .ref A_t_ends, .ref A_t_letters, .ref A_t_least, .ref A_t_conflicts, .int t_conflictMany, .ref A_t_behind, .ref A_t_placed, .ref A_t_isKept, .ref A_t_lanes, .ref A_t_lengths, .ref A_t_cells, .int t_torn])), (A_t_state, .inl (cy 1, 535, .inl t_state)), (A_t_least, .inl (cy 2, 100, .inr (.inl t_least)))] → va_S A s.heap H locs → lv_has ls 5 [(0, .ref A_t), (1, .int x1), (2, .int x2), (3, .int x3)] → W p l e (headSpec wsX8_ofBounds { frames := 4, cells := 0, slots := 0, locals := 93 }).room s m ([.ref A_t, .int x1] : List Value).toArray below meth c H locs 0 0 Q0 (F0 m 69 ls [.int k0]) := by
        intro t_least x2 x3 k0 H locs ls h hP hD hS hl
        unfold B_X8_ofBounds_69 at h
        refine lv_istore (lv' := [(4, .int k0), (0, .ref A_t), (1, .int x1), (2, .int x2), (3, .int x3)]) hx hb dX8_ofBounds_69 hl (by decide) rfl (fun ls hl => ?_)
        refine lv_iload_n hx hb dX8_ofBounds_71 rfl (lv_at hl 3 rfl) ?_
        refine lv_iload hx hb dX8_ofBounds_72 (lv_at hl 0 rfl) ?_
        refine lv_if_eq (tgt := 81) hx hb dX8_ofBounds_74 (by decide) (fun hc => ?_) (fun hc => ?_)
        · replace h := h.1 hc
          refine lv_iconst (v := 0) hx hb dX8_ofBounds_81 (by decide) ?_
          exact J82 t_least x3 x2 (0 : Int32) H locs ls h hP hD hS (lv_sub hl [1, 2, 4] rfl)
        · replace h := h.2 hc
          refine lv_iconst (v := 1) hx hb dX8_ofBounds_77 (by decide) ?_
          refine lv_goto (tgt := 82) hx hb dX8_ofBounds_78 (by decide) ?_
          exact J82 t_least x3 x2 (1 : Int32) H locs ls h hP hD hS (lv_sub hl [1, 2, 4] rfl)
      refine lv_iload_n hx hb dX8_ofBounds_4 rfl (lv_at hl 3 rfl) ?_
      refine lv_aload_n hx hb dX8_ofBounds_5 rfl (lv_at hl 0 rfl) ?_
      have hPc := hP.sub (ws' := [(A_t, .inr (8, [.ref A_t_state, .ref A_t_tape, .int t_taped, .int t_fault, .int t_broken, .int t_brokenAt, .int t_spot, .int t_here, .int t_token, .int t_value, .int t_isRealTold, .ref A_t_ends, .ref A_t_letters, .ref A_t_least, .ref A_t_conflicts, .int t_conflictMany, .ref A_t_behind, .ref A_t_placed, .ref A_t_isKept, .ref A_t_lanes, .ref A_t_lengths, .ref A_t_cells, .int t_torn])), (A_t_state, .inl (cy 1, 535, .inl t_state))]) [0, 1] rfl
      refine vp_callSi (W.runV (As := []) (rest := [.int x3]) CF (c_X8_many l D cy A_t A_t_state A_t_tape A_t_ends A_t_letters A_t_least A_t_conflicts A_t_behind A_t_placed A_t_isKept A_t_lanes A_t_lengths A_t_cells t_taped t_fault t_broken t_brokenAt t_spot t_here t_token t_value t_isRealTold t_conflictMany t_torn t_state _ h) (cwV 0 hts gX8_ofBounds_X8_many rfl rfl rfl qX8_many ⟨Nat.le_of_ble_eq_true rfl, Nat.le_of_ble_eq_true rfl⟩) (mpVR hK hPc (ci := 8) (q := (RX8, TX8, 23)) (q0 := 0) rfl rfl) rfl rfl hl.1 rfl (lv_room (Nat.le_of_ble_eq_true rfl)) dX8_ofBounds_6 ⟨Nat.zero_le _, Nat.zero_le _⟩) (fun r1 h => ?_)
      refine lv_icmp_ge (tgt := 90) hx hb dX8_ofBounds_9 (by decide) (fun hc => ?_) (fun hc => ?_)
      · replace h := h.1 hc
        refine lv_iload_n hx hb dX8_ofBounds_90 rfl (lv_at hl 2 rfl) ?_
        subst hQ
        subst hAe
        exact W.iret (v := x2) hx hb hr (fun t ht _ => ⟨⟨x2, t_least, rfl, h, by rw [ht]; exact hP, hD⟩, hS.F ht⟩) hS.2.2 dX8_ofBounds_91
      · replace h := h.2 hc
        refine lv_iload_n hx hb dX8_ofBounds_12 rfl (lv_at hl 1 rfl) ?_
        refine lv_iconst (v := 3) hx hb dX8_ofBounds_13 (by decide) ?_
        refine lv_icmp_ne (tgt := 25) hx hb dX8_ofBounds_14 (by decide) (fun hc => ?_) (fun hc => ?_)
        · replace h := h.1 hc
          refine lv_iload_n hx hb dX8_ofBounds_25 rfl (lv_at hl 1 rfl) ?_
          refine lv_iconst (v := 4) hx hb dX8_ofBounds_26 (by decide) ?_
          refine lv_icmp_ne (tgt := 38) hx hb dX8_ofBounds_27 (by decide) (fun hc => ?_) (fun hc => ?_)
          · replace h := h.1 hc
            refine lv_iload_n hx hb dX8_ofBounds_38 rfl (lv_at hl 1 rfl) ?_
            refine lv_iconst (v := 5) hx hb dX8_ofBounds_39 (by decide) ?_
            refine lv_icmp_ne (tgt := 51) hx hb dX8_ofBounds_40 (by decide) (fun hc => ?_) (fun hc => ?_)
            · replace h := h.1 hc
              refine lv_aload_n hx hb dX8_ofBounds_51 rfl (lv_at hl 0 rfl) ?_
              refine va_get (D := D) (ci := 8) (v := .ref A_t_state) (C := RX8) (T := TX8) (N := 23) hx hb hts iX8 hown hK.1 hP 0 rfl rfl 0 (by decide) f0 (fun _ h9 => h9) rfl dX8_ofBounds_52 ?_
              refine lv_bipush (v := 72) hx hb dX8_ofBounds_55 (by decide) ?_
              refine lv_iload_n hx hb dX8_ofBounds_57 rfl (lv_at hl 3 rfl) ?_
              refine lv_iadd hx hb dX8_ofBounds_58 ?_
              refine va_iald hx hb hK.1 hP 1 1 rfl rfl h.1 dX8_ofBounds_59 ?_
              replace h := h.2
              refine lv_iconst (v := 1) hx hb dX8_ofBounds_60 (by decide) ?_
              refine lv_icmp_ne (tgt := 68) hx hb dX8_ofBounds_61 (by decide) (fun hc => ?_) (fun hc => ?_)
              · replace h := h.1 hc
                refine lv_iconst (v := 0) hx hb dX8_ofBounds_68 (by decide) ?_
                exact J69 t_least x2 x3 (0 : Int32) H locs ls h hP hD hS (lv_sub hl [0, 1, 2, 3] rfl)
              · replace h := h.2 hc
                refine lv_iconst (v := 1) hx hb dX8_ofBounds_64 (by decide) ?_
                refine lv_goto (tgt := 69) hx hb dX8_ofBounds_65 (by decide) ?_
                exact J69 t_least x2 x3 (1 : Int32) H locs ls h hP hD hS (lv_sub hl [0, 1, 2, 3] rfl)
            · replace h := h.2 hc
              refine lv_aload_n hx hb dX8_ofBounds_43 rfl (lv_at hl 0 rfl) ?_
              refine lv_iload_n hx hb dX8_ofBounds_44 rfl (lv_at hl 3 rfl) ?_
              have hPn : va_P D vwCl ([] ++ [(A_t, .inr (8, [.ref A_t_state, .ref A_t_tape, .int t_taped, .int t_fault, .int t_broken, .int t_brokenAt, .int t_spot, .int t_here, .int t_token, .int t_value, .int t_isRealTold, .ref A_t_ends, .ref A_t_letters, .ref A_t_least, .ref A_t_conflicts, .int t_conflictMany, .ref A_t_behind, .ref A_t_placed, .ref A_t_isKept, .ref A_t_lanes, .ref A_t_lengths, .ref A_t_cells, .int t_torn])), (A_t_state, .inl (cy 1, 535, .inl t_state)), (A_t_least, .inl (cy 2, 100, .inr (.inl t_least)))]) H := hP.sub [0, 1, 2] rfl
              have hDn : va_D A ([] ++ [(A_t, .inr (8, [.ref A_t_state, .ref A_t_tape, .int t_taped, .int t_fault, .int t_broken, .int t_brokenAt, .int t_spot, .int t_here, .int t_token, .int t_value, .int t_isRealTold, .ref A_t_ends, .ref A_t_letters, .ref A_t_least, .ref A_t_conflicts, .int t_conflictMany, .ref A_t_behind, .ref A_t_placed, .ref A_t_isKept, .ref A_t_lanes, .ref A_t_lengths, .ref A_t_cells, .int t_torn])), (A_t_state, .inl (cy 1, 535, .inl t_state)), (A_t_least, .inl (cy 2, 100, .inr (.inl t_least)))]) := hD.sub [0, 1, 2] (by decide) rfl
              have hPc := gPR hPn
              have hDc := gDR hDn
              refine mw_i (va_runV (As := [.int x3]) (rest := []) CF (c_X8_isNeedless l D cy H.size A_t A_t_state A_t_tape A_t_ends A_t_letters A_t_least A_t_conflicts A_t_behind A_t_placed A_t_isKept A_t_lanes A_t_lengths A_t_cells t_taped t_fault t_broken t_brokenAt t_spot t_here t_token t_value t_isRealTold t_conflictMany t_torn t_state t_least x3 _ h) (cwV 1 hts gX8_ofBounds_X8_isNeedless rfl rfl rfl qX8_isNeedless ⟨Nat.le_of_ble_eq_true rfl, Nat.le_of_ble_eq_true rfl⟩) (mpVW hK hPc hDc (ci := 8) (q := (RX8, TX8, 23)) (q0 := 0) rfl rfl) rfl rfl hl.1 rfl (lv_room (Nat.le_of_ble_eq_true rfl)) dX8_ofBounds_45 ⟨Nat.zero_le _, Nat.zero_le _⟩) hPn hDn hS hA (fun r2 t_least_v2 H locs h hP hD hS => ?_)
              have hP : va_P D vwCl [(A_t, .inr (8, [.ref A_t_state, .ref A_t_tape, .int t_taped, .int t_fault, .int t_broken, .int t_brokenAt, .int t_spot, .int t_here, .int t_token, .int t_value, .int t_isRealTold, .ref A_t_ends, .ref A_t_letters, .ref A_t_least, .ref A_t_conflicts, .int t_conflictMany, .ref A_t_behind, .ref A_t_placed, .ref A_t_isKept, .ref A_t_lanes, .ref A_t_lengths, .ref A_t_cells, .int t_torn])), (A_t_state, .inl (cy 1, 535, .inl t_state)), (A_t_least, .inl (cy 2, 100, .inr (.inl t_least_v2)))] H := hP.sub [0, 1, 2] rfl
              have hD : va_D A [(A_t, .inr (8, [.ref A_t_state, .ref A_t_tape, .int t_taped, .int t_fault, .int t_broken, .int t_brokenAt, .int t_spot, .int t_here, .int t_token, .int t_value, .int t_isRealTold, .ref A_t_ends, .ref A_t_letters, .ref A_t_least, .ref A_t_conflicts, .int t_conflictMany, .ref A_t_behind, .ref A_t_placed, .ref A_t_isKept, .ref A_t_lanes, .ref A_t_lengths, .ref A_t_cells, .int t_torn])), (A_t_state, .inl (cy 1, 535, .inl t_state)), (A_t_least, .inl (cy 2, 100, .inr (.inl t_least_v2)))] := hD.sub [0, 1, 2] (by decide) rfl
              refine lv_goto (tgt := 69) hx hb dX8_ofBounds_48 (by decide) ?_
              exact J69 t_least_v2 x2 x3 r2 H locs ls h hP hD hS (lv_sub hl [0, 1, 2, 3] rfl)
          · replace h := h.2 hc
            refine lv_aload_n hx hb dX8_ofBounds_30 rfl (lv_at hl 0 rfl) ?_
            refine lv_iload_n hx hb dX8_ofBounds_31 rfl (lv_at hl 3 rfl) ?_
            have hPc := hP.sub (ws' := [(A_t, .inr (8, [.ref A_t_state, .ref A_t_tape, .int t_taped, .int t_fault, .int t_broken, .int t_brokenAt, .int t_spot, .int t_here, .int t_token, .int t_value, .int t_isRealTold, .ref A_t_ends, .ref A_t_letters, .ref A_t_least, .ref A_t_conflicts, .int t_conflictMany, .ref A_t_behind, .ref A_t_placed, .ref A_t_isKept, .ref A_t_lanes, .ref A_t_lengths, .ref A_t_cells, .int t_torn])), (A_t_state, .inl (cy 1, 535, .inl t_state))]) [0, 1] rfl
            refine vp_callSi (W.runV (As := [.int x3]) (rest := []) CF (c_X8_isFirstLimit l D cy A_t A_t_state A_t_tape A_t_ends A_t_letters A_t_least A_t_conflicts A_t_behind A_t_placed A_t_isKept A_t_lanes A_t_lengths A_t_cells t_taped t_fault t_broken t_brokenAt t_spot t_here t_token t_value t_isRealTold t_conflictMany t_torn t_state x3 _ h) (cwV 1 hts gX8_ofBounds_X8_isFirstLimit rfl rfl rfl qX8_isFirstLimit ⟨Nat.le_of_ble_eq_true rfl, Nat.le_of_ble_eq_true rfl⟩) (mpVR hK hPc (ci := 8) (q := (RX8, TX8, 23)) (q0 := 0) rfl rfl) rfl rfl hl.1 rfl (lv_room (Nat.le_of_ble_eq_true rfl)) dX8_ofBounds_32 ⟨Nat.zero_le _, Nat.zero_le _⟩) (fun r3 h => ?_)
            refine lv_goto (tgt := 69) hx hb dX8_ofBounds_35 (by decide) ?_
            exact J69 t_least x2 x3 r3 H locs ls h hP hD hS (lv_sub hl [0, 1, 2, 3] rfl)
        · replace h := h.2 hc
          refine lv_aload_n hx hb dX8_ofBounds_17 rfl (lv_at hl 0 rfl) ?_
          refine lv_iload_n hx hb dX8_ofBounds_18 rfl (lv_at hl 3 rfl) ?_
          have hPc := hP.sub (ws' := [(A_t, .inr (8, [.ref A_t_state, .ref A_t_tape, .int t_taped, .int t_fault, .int t_broken, .int t_brokenAt, .int t_spot, .int t_here, .int t_token, .int t_value, .int t_isRealTold, .ref A_t_ends, .ref A_t_letters, .ref A_t_least, .ref A_t_conflicts, .int t_conflictMany, .ref A_t_behind, .ref A_t_placed, .ref A_t_isKept, .ref A_t_lanes, .ref A_t_lengths, .ref A_t_cells, .int t_torn])), (A_t_state, .inl (cy 1, 535, .inl t_state))]) [0, 1] rfl
          refine vp_callSi (W.runV (As := [.int x3]) (rest := []) CF (c_X8_isFirstPair l D cy A_t A_t_state A_t_tape A_t_ends A_t_letters A_t_least A_t_conflicts A_t_behind A_t_placed A_t_isKept A_t_lanes A_t_lengths A_t_cells t_taped t_fault t_broken t_brokenAt t_spot t_here t_token t_value t_isRealTold t_conflictMany t_torn t_state x3 _ h) (cwV 1 hts gX8_ofBounds_X8_isFirstPair rfl rfl rfl qX8_isFirstPair ⟨Nat.le_of_ble_eq_true rfl, Nat.le_of_ble_eq_true rfl⟩) (mpVR hK hPc (ci := 8) (q := (RX8, TX8, 23)) (q0 := 0) rfl rfl) rfl rfl hl.1 rfl (lv_room (Nat.le_of_ble_eq_true rfl)) dX8_ofBounds_19 ⟨Nat.zero_le _, Nat.zero_le _⟩) (fun r4 h => ?_)
          refine lv_goto (tgt := 69) hx hb dX8_ofBounds_22 (by decide) ?_
          exact J69 t_least x2 x3 r4 H locs ls h hP hD hS (lv_sub hl [0, 1, 2, 3] rfl)
  unfold P_X8_ofBounds at h
  refine lv_iconst (v := 0) hx hb dX8_ofBounds_0 (by decide) ?_
  refine lv_istore_n (lv' := [(2, .int (0 : Int32)), (0, .ref A_t), (1, .int x1)]) hx hb dX8_ofBounds_1 rfl hl (by decide) rfl (fun ls hl => ?_)
  refine lv_iconst (v := 0) hx hb dX8_ofBounds_2 (by decide) ?_
  refine lv_istore_n (lv' := [(3, .int (0 : Int32)), (2, .int (0 : Int32)), (0, .ref A_t), (1, .int x1)]) hx hb dX8_ofBounds_3 rfl hl (by decide) rfl (fun ls hl => ?_)
  obtain ⟨nn, h⟩ := h
  exact L4 nn t_least (0 : Int32) (0 : Int32) s.heap [] ls h hP hD hS (lv_sub hl [2, 3, 1, 0] rfl)
theorem qX8_isFixed : yX8_isFixed.cls = RX8 ∧ yX8_isFixed.cls ≠ "java/lang/invoke/MethodHandle" ∧ yX8_isFixed.cls ≠ "java/lang/invoke/VarHandle" ∧ (parseMethodDescriptor yX8_isFixed.desc).map (fun d => d.parameters.length) = some 2 := by decide +kernel
def P_X8_isFixed (post : Int32 → Prop) (t_least : Nat → Int64) (x1 : Int32) (x2 : Int32) : Prop :=
  (vp_in (((10 : Int32) * x2) + x1) 100 ∧ (vp_in (((10 : Int32) * x1) + x2) 100 ∧ (((1000000000000000000 : Int64) ≤ t_least (((10 : Int32) * x2) + x1).toNatClampNeg → post (0 : Int32)) ∧ (¬ (1000000000000000000 : Int64) ≤ t_least (((10 : Int32) * x2) + x1).toNatClampNeg → (((1000000000000000000 : Int64) ≤ t_least (((10 : Int32) * x1) + x2).toNatClampNeg → post (0 : Int32)) ∧ (¬ (1000000000000000000 : Int64) ≤ t_least (((10 : Int32) * x1) + x2).toNatClampNeg → ((¬ (t_least (((10 : Int32) * x2) + x1).toNatClampNeg) + (t_least (((10 : Int32) * x1) + x2).toNatClampNeg) = (0 : Int64) → post (0 : Int32)) ∧ ((t_least (((10 : Int32) * x2) + x1).toNatClampNeg) + (t_least (((10 : Int32) * x1) + x2).toNatClampNeg) = (0 : Int64) → post (1 : Int32)))))))))
set_option maxHeartbeats 4000000 in
set_option maxRecDepth 100000 in
theorem c_X8_isFixed (l : Launch) (D : va_G) (cy : Nat → ClassId) (A_t A_t_state A_t_tape A_t_ends A_t_letters A_t_least A_t_conflicts A_t_behind A_t_placed A_t_isKept A_t_lanes A_t_lengths A_t_cells : Nat) (t_taped : Int32) (t_fault : Int32) (t_broken : Int32) (t_brokenAt : Int32) (t_spot : Int32) (t_here : Int32) (t_token : Int32) (t_value : Int32) (t_isRealTold : Int32) (t_conflictMany : Int32) (t_torn : Int32) (t_least : Nat → Int64) (x1 : Int32) (x2 : Int32) (post : Int32 → Prop) (h : P_X8_isFixed post t_least x1 x2) : Met l yX8_isFixed wsX8_isFixed { frames := 0, cells := 0, slots := 0, locals := 0 } (pcR D cy [(A_t, .inr (8, [.ref A_t_state, .ref A_t_tape, .int t_taped, .int t_fault, .int t_broken, .int t_brokenAt, .int t_spot, .int t_here, .int t_token, .int t_value, .int t_isRealTold, .ref A_t_ends, .ref A_t_letters, .ref A_t_least, .ref A_t_conflicts, .int t_conflictMany, .ref A_t_behind, .ref A_t_placed, .ref A_t_isKept, .ref A_t_lanes, .ref A_t_lengths, .ref A_t_cells, .int t_torn])), (A_t_least, .inl (cy 2, 100, .inr (.inl t_least)))] [.ref A_t, .int x1, .int x2]) (vp_Si post) 0 0 (fun _ => False) := by
  refine Met.ofW (cc := cX8_isFixed) (maxL := 7) (ret := (some .boolean)) (by decide) rfl ?_
  intro p e s m args below meth c s₁ B hml hv
  obtain ⟨rfl, hP, hK⟩ := hv
  have hx := B.exec
  have hb := B.bytes
  have hr := B.returns
  have hts := atoms_spec (ws := wsX8_isFixed) B.pre
  have hown : s.vm.findClass RX8 = some m.cls := findClass_of_methodNamed B.named
  have hlocks := B.notSynchronized
  have CF : CallFix p m c cX8_isFixed 7 s ([.ref A_t, .int x1, .int x2] : List Value).toArray wsX8_isFixed RX8 := ⟨hx, hb, hml, hown, hts⟩
  have f0 := hts (.fieldLink RX8 22 "GapBoundsModel" "least" "[J") (by decide +kernel)
  have f1 := hts (.constantLong RX8 151 (1000000000000000000)) (by decide +kernel)
  have iX8 : ∀ w ∈ u_ws RX8 TX8 23, w ∈ wsX8_isFixed := by decide +kernel
  have hl := lv_entry [.ref A_t, .int x1, .int x2] (n := 7) (Nat.le_of_ble_eq_true rfl)
  rw [lg_entry_eq]
  generalize (lg_sl [.ref A_t, .int x1, .int x2] ++ List.replicate (7 - (lg_sl [.ref A_t, .int x1, .int x2]).length) Slot.unset).toArray = ls at hl ⊢
  have hl : lv_has ls 7 [(0, .ref A_t), (1, .int x1), (2, .int x2)] := hl
  refine W.gen (fun Q0 hQ => ?_)
  unfold P_X8_isFixed at h
  refine lv_aload_n hx hb dX8_isFixed_0 rfl (lv_at hl 0 rfl) ?_
  refine va_get (D := D) (ci := 8) (v := .ref A_t_least) (C := RX8) (T := TX8) (N := 23) hx hb hts iX8 hown hK.1 hP 0 rfl rfl 13 (by decide) f0 (fun _ h9 => h9) rfl dX8_isFixed_1 ?_
  refine lv_bipush (v := 10) hx hb dX8_isFixed_4 (by decide) ?_
  refine lv_iload_n hx hb dX8_isFixed_6 rfl (lv_at hl 2 rfl) ?_
  refine lv_imul hx hb dX8_isFixed_7 ?_
  refine lv_iload_n hx hb dX8_isFixed_8 rfl (lv_at hl 1 rfl) ?_
  refine lv_iadd hx hb dX8_isFixed_9 ?_
  refine va_lald hx hb hK.1 hP 1 2 rfl rfl h.1 dX8_isFixed_10 ?_
  replace h := h.2
  refine lv_lstore_n (lv' := [(3, .long (t_least (((10 : Int32) * x2) + x1).toNatClampNeg)), (0, .ref A_t), (1, .int x1), (2, .int x2)]) hx hb dX8_isFixed_11 rfl hl (by decide) rfl (fun ls hl => ?_)
  refine lv_aload_n hx hb dX8_isFixed_12 rfl (lv_at hl 1 rfl) ?_
  refine va_get (D := D) (ci := 8) (v := .ref A_t_least) (C := RX8) (T := TX8) (N := 23) hx hb hts iX8 hown hK.1 hP 0 rfl rfl 13 (by decide) f0 (fun _ h9 => h9) rfl dX8_isFixed_13 ?_
  refine lv_bipush (v := 10) hx hb dX8_isFixed_16 (by decide) ?_
  refine lv_iload_n hx hb dX8_isFixed_18 rfl (lv_at hl 2 rfl) ?_
  refine lv_imul hx hb dX8_isFixed_19 ?_
  refine lv_iload_n hx hb dX8_isFixed_20 rfl (lv_at hl 3 rfl) ?_
  refine lv_iadd hx hb dX8_isFixed_21 ?_
  refine va_lald hx hb hK.1 hP 1 2 rfl rfl h.1 dX8_isFixed_22 ?_
  replace h := h.2
  refine lv_lstore (lv' := [(5, .long (t_least (((10 : Int32) * x1) + x2).toNatClampNeg)), (3, .long (t_least (((10 : Int32) * x2) + x1).toNatClampNeg)), (0, .ref A_t), (1, .int x1), (2, .int x2)]) hx hb dX8_isFixed_23 hl (by decide) rfl (fun ls hl => ?_)
  refine lv_lload_n hx hb dX8_isFixed_25 rfl (lv_at hl 1 rfl) ?_
  refine lv_ldc2 (v := 1000000000000000000) hx hb hown f1 dX8_isFixed_26 ?_
  refine lx_ge (tgt := 55) hx hb dX8_isFixed_29 dX8_isFixed_30 (by decide) (fun hc => ?_) (fun hc => ?_)
  · replace h := h.1 hc
    refine lv_iconst (v := 0) hx hb dX8_isFixed_55 (by decide) ?_
    subst hQ
    exact W.zret (v := (0 : Int32)) hx hb hr bz0 (fun t ht _ => ⟨(0 : Int32), rfl, h, ht⟩) (fun _ hq => absurd hq List.not_mem_nil) dX8_isFixed_56
  · replace h := h.2 hc
    refine lv_lload hx hb dX8_isFixed_33 (lv_at hl 0 rfl) ?_
    refine lv_ldc2 (v := 1000000000000000000) hx hb hown f1 dX8_isFixed_35 ?_
    refine lx_ge (tgt := 55) hx hb dX8_isFixed_38 dX8_isFixed_39 (by decide) (fun hc => ?_) (fun hc => ?_)
    · replace h := h.1 hc
      refine lv_iconst (v := 0) hx hb dX8_isFixed_55 (by decide) ?_
      subst hQ
      exact W.zret (v := (0 : Int32)) hx hb hr bz0 (fun t ht _ => ⟨(0 : Int32), rfl, h, ht⟩) (fun _ hq => absurd hq List.not_mem_nil) dX8_isFixed_56
    · replace h := h.2 hc
      refine lv_lload_n hx hb dX8_isFixed_42 rfl (lv_at hl 1 rfl) ?_
      refine lv_lload hx hb dX8_isFixed_43 (lv_at hl 0 rfl) ?_
      refine lv_ladd hx hb dX8_isFixed_45 ?_
      refine lv_lconst (v := 0) hx hb dX8_isFixed_46 (by decide) ?_
      refine lx_ne (tgt := 55) hx hb dX8_isFixed_47 dX8_isFixed_48 (by decide) (fun hc => ?_) (fun hc => ?_)
      · replace h := h.1 hc
        refine lv_iconst (v := 0) hx hb dX8_isFixed_55 (by decide) ?_
        subst hQ
        exact W.zret (v := (0 : Int32)) hx hb hr bz0 (fun t ht _ => ⟨(0 : Int32), rfl, h, ht⟩) (fun _ hq => absurd hq List.not_mem_nil) dX8_isFixed_56
      · replace h := h.2 hc
        refine lv_iconst (v := 1) hx hb dX8_isFixed_51 (by decide) ?_
        refine lv_goto (tgt := 56) hx hb dX8_isFixed_52 (by decide) ?_
        subst hQ
        exact W.zret (v := (1 : Int32)) hx hb hr bz1 (fun t ht _ => ⟨(1 : Int32), rfl, h, ht⟩) (fun _ hq => absurd hq List.not_mem_nil) dX8_isFixed_56
theorem qX8_groups : yX8_groups.cls = RX8 ∧ yX8_groups.cls ≠ "java/lang/invoke/MethodHandle" ∧ yX8_groups.cls ≠ "java/lang/invoke/VarHandle" ∧ (parseMethodDescriptor yX8_groups.desc).map (fun d => d.parameters.length) = some 0 := by decide +kernel
def B_X8_groups_64 (K_11 : Int32 → Int32 → Prop) (k0 : Int32) (k1 : Int32) (x2 : Int32) : Prop :=
  K_11 (k0 + k1) (x2 + (1 : Int32))
def B_X8_groups_47 (K_22 : Int32 → Int32 → Prop) (k0 : Int32) (x4 : Int32) : Prop :=
  K_22 k0 (x4 + (1 : Int32))
def B_X8_groups_46 (K_22 : Int32 → Int32 → Prop) (x4 : Int32) : Prop :=
  B_X8_groups_47 K_22 (0 : Int32) x4
def LB_X8_groups_22 (K_11 : Int32 → Int32 → Prop) (t_least : Nat → Int64) (x1 : Int32) (x2 : Int32) (K_22 : Int32 → Int32 → Prop) (x3 : Int32) (x4 : Int32) : Prop :=
  ((x2 ≤ x4 → ((x3 = 0 → B_X8_groups_64 K_11 x1 (0 : Int32) x2) ∧ (¬ x3 = 0 → B_X8_groups_64 K_11 x1 (1 : Int32) x2))) ∧ (¬ x2 ≤ x4 → ((x3 = 0 → B_X8_groups_46 K_22 x4) ∧ (¬ x3 = 0 → P_X8_isFixed (fun (r2 : Int32) => ((¬ r2 = 0 → B_X8_groups_46 K_22 x4) ∧ (r2 = 0 → B_X8_groups_47 K_22 (1 : Int32) x4))) t_least x4 x2))))
noncomputable def L_X8_groups_22 (K_11 : Int32 → Int32 → Prop) (t_least : Nat → Int64) (x1 : Int32) (x2 : Int32) (n : Nat) : Int32 → Int32 → Prop := Nat.rec (motive := fun _ => Int32 → Int32 → Prop) (fun _ _ => False) (fun _ K => LB_X8_groups_22 K_11 t_least x1 x2 K) n
def LB_X8_groups_11 (post : Int32 → (Nat → Int64) → Prop) (t_least : Nat → Int64) (K_11 : Int32 → Int32 → Prop) (x1 : Int32) (x2 : Int32) : Prop :=
  (((10 : Int32) ≤ x2 → post x1 t_least) ∧ (¬ (10 : Int32) ≤ x2 → ∃ n : Nat, L_X8_groups_22 K_11 t_least x1 x2 n (1 : Int32) (0 : Int32)))
noncomputable def L_X8_groups_11 (post : Int32 → (Nat → Int64) → Prop) (t_least : Nat → Int64) (n : Nat) : Int32 → Int32 → Prop := Nat.rec (motive := fun _ => Int32 → Int32 → Prop) (fun _ _ => False) (fun _ K => LB_X8_groups_11 post t_least K) n
def P_X8_groups (post : Int32 → (Nat → Int64) → Prop) (t_state : Nat → Int32) (t_least : Nat → Int64) : Prop :=
  P_X8_reckons (fun (t_least_v1 : Nat → Int64) => ∃ n : Nat, L_X8_groups_11 post t_least_v1 n (0 : Int32) (0 : Int32)) t_state t_least (0 : Int32) (-4 : Int32)
set_option maxHeartbeats 4000000 in
set_option maxRecDepth 100000 in
theorem c_X8_groups (l : Launch) (D : va_G) (cy : Nat → ClassId) (sz : Nat) (A_t A_t_state A_t_tape A_t_ends A_t_letters A_t_least A_t_conflicts A_t_behind A_t_placed A_t_isKept A_t_lanes A_t_lengths A_t_cells : Nat) (t_taped : Int32) (t_fault : Int32) (t_broken : Int32) (t_brokenAt : Int32) (t_spot : Int32) (t_here : Int32) (t_token : Int32) (t_value : Int32) (t_isRealTold : Int32) (t_conflictMany : Int32) (t_torn : Int32) (t_state : Nat → Int32) (t_least : Nat → Int64) (post : Int32 → (Nat → Int64) → Prop) (h : P_X8_groups post t_state t_least) : Met l yX8_groups wsX8_groups { frames := 3, cells := 0, slots := 0, locals := 72 } (pcW D cy [(A_t, .inr (8, [.ref A_t_state, .ref A_t_tape, .int t_taped, .int t_fault, .int t_broken, .int t_brokenAt, .int t_spot, .int t_here, .int t_token, .int t_value, .int t_isRealTold, .ref A_t_ends, .ref A_t_letters, .ref A_t_least, .ref A_t_conflicts, .int t_conflictMany, .ref A_t_behind, .ref A_t_placed, .ref A_t_isKept, .ref A_t_lanes, .ref A_t_lengths, .ref A_t_cells, .int t_torn])), (A_t_state, .inl (cy 1, 535, .inl t_state)), (A_t_least, .inl (cy 2, 100, .inr (.inl t_least)))] sz [.ref A_t]) (va_Qi (fun r (u : (Nat → Int64)) => post r u) (bW D [(A_t, .inr (8, [.ref A_t_state, .ref A_t_tape, .int t_taped, .int t_fault, .int t_broken, .int t_brokenAt, .int t_spot, .int t_here, .int t_token, .int t_value, .int t_isRealTold, .ref A_t_ends, .ref A_t_letters, .ref A_t_least, .ref A_t_conflicts, .int t_conflictMany, .ref A_t_behind, .ref A_t_placed, .ref A_t_isKept, .ref A_t_lanes, .ref A_t_lengths, .ref A_t_cells, .int t_torn])), (A_t_state, .inl (cy 1, 535, .inl t_state)), (A_t_least, .inl (cy 2, 100, .inr (.inl t_least)))] sz (fun u => [(A_t, .inr (8, [.ref A_t_state, .ref A_t_tape, .int t_taped, .int t_fault, .int t_broken, .int t_brokenAt, .int t_spot, .int t_here, .int t_token, .int t_value, .int t_isRealTold, .ref A_t_ends, .ref A_t_letters, .ref A_t_least, .ref A_t_conflicts, .int t_conflictMany, .ref A_t_behind, .ref A_t_placed, .ref A_t_isKept, .ref A_t_lanes, .ref A_t_lengths, .ref A_t_cells, .int t_torn])), (A_t_state, .inl (cy 1, 535, .inl t_state)), (A_t_least, .inl (cy 2, 100, .inr (.inl u)))])) (va_A [(A_t, .inr (8, [.ref A_t_state, .ref A_t_tape, .int t_taped, .int t_fault, .int t_broken, .int t_brokenAt, .int t_spot, .int t_here, .int t_token, .int t_value, .int t_isRealTold, .ref A_t_ends, .ref A_t_letters, .ref A_t_least, .ref A_t_conflicts, .int t_conflictMany, .ref A_t_behind, .ref A_t_placed, .ref A_t_isKept, .ref A_t_lanes, .ref A_t_lengths, .ref A_t_cells, .int t_torn])), (A_t_state, .inl (cy 1, 535, .inl t_state)), (A_t_least, .inl (cy 2, 100, .inr (.inl t_least)))] sz)) 0 0 (va_A [(A_t, .inr (8, [.ref A_t_state, .ref A_t_tape, .int t_taped, .int t_fault, .int t_broken, .int t_brokenAt, .int t_spot, .int t_here, .int t_token, .int t_value, .int t_isRealTold, .ref A_t_ends, .ref A_t_letters, .ref A_t_least, .ref A_t_conflicts, .int t_conflictMany, .ref A_t_behind, .ref A_t_placed, .ref A_t_isKept, .ref A_t_lanes, .ref A_t_lengths, .ref A_t_cells, .int t_torn])), (A_t_state, .inl (cy 1, 535, .inl t_state)), (A_t_least, .inl (cy 2, 100, .inr (.inl t_least)))] sz) := by
  refine Met.ofW (cc := cX8_groups) (maxL := 5) (ret := (some .int)) (by decide) rfl ?_
  intro p e s m args below meth c s₁ B hml hv
  obtain ⟨rfl, hsz, hP, hK, hD0⟩ := hv
  have hx := B.exec
  have hb := B.bytes
  have hr := B.returns
  have hts := atoms_spec (ws := wsX8_groups) B.pre
  have hown : s.vm.findClass RX8 = some m.cls := findClass_of_methodNamed B.named
  have hlocks := B.notSynchronized
  have CF : CallFix p m c cX8_groups 5 s ([.ref A_t] : List Value).toArray wsX8_groups RX8 := ⟨hx, hb, hml, hown, hts⟩
  subst hsz
  obtain ⟨A, hAe⟩ : ∃ A, A = va_A [(A_t, .inr (8, [.ref A_t_state, .ref A_t_tape, .int t_taped, .int t_fault, .int t_broken, .int t_brokenAt, .int t_spot, .int t_here, .int t_token, .int t_value, .int t_isRealTold, .ref A_t_ends, .ref A_t_letters, .ref A_t_least, .ref A_t_conflicts, .int t_conflictMany, .ref A_t_behind, .ref A_t_placed, .ref A_t_isKept, .ref A_t_lanes, .ref A_t_lengths, .ref A_t_cells, .int t_torn])), (A_t_state, .inl (cy 1, 535, .inl t_state)), (A_t_least, .inl (cy 2, 100, .inr (.inl t_least)))] s.heap.size := ⟨_, rfl⟩
  have hD : va_D A [(A_t, .inr (8, [.ref A_t_state, .ref A_t_tape, .int t_taped, .int t_fault, .int t_broken, .int t_brokenAt, .int t_spot, .int t_here, .int t_token, .int t_value, .int t_isRealTold, .ref A_t_ends, .ref A_t_letters, .ref A_t_least, .ref A_t_conflicts, .int t_conflictMany, .ref A_t_behind, .ref A_t_placed, .ref A_t_isKept, .ref A_t_lanes, .ref A_t_lengths, .ref A_t_cells, .int t_torn])), (A_t_state, .inl (cy 1, 535, .inl t_state)), (A_t_least, .inl (cy 2, 100, .inr (.inl t_least)))] := by rw [hAe]; exact hD0.self
  have hA : ∀ q : Nat, s.heap.size ≤ q → A q := fun q hq => by rw [hAe]; exact Or.inr hq
  have hS : va_S A s.heap s.heap [] := va_S.rf
  have hl := lv_entry [.ref A_t] (n := 5) (Nat.le_of_ble_eq_true rfl)
  rw [lg_entry_eq]
  generalize (lg_sl [.ref A_t] ++ List.replicate (5 - (lg_sl [.ref A_t]).length) Slot.unset).toArray = ls at hl ⊢
  have hl : lv_has ls 5 [(0, .ref A_t)] := hl
  refine W.gen (fun Q0 hQ => ?_)
  have L11 : ∀ (n11 : Nat) (t_least : Nat → Int64) (x1 : Int32) (x2 : Int32) (H : Heap) (locs : List Loc) (ls : Array Slot), L_X8_groups_11 post t_least n11 x1 x2 → va_P D vwCl [(A_t, .inr (8, [.ref A_t_state, .ref A_t_tape, .int t_taped, .int t_fault, .int t_broken, .int t_brokenAt, .int t_spot, .int t_here, .int t_token, .int t_value, .int t_isRealTold, .ref A_t_ends, .ref A_t_letters, .ref A_t_least, .ref A_t_conflicts, .int t_conflictMany, .ref A_t_behind, .ref A_t_placed, .ref A_t_isKept, .ref A_t_lanes, .ref A_t_lengths, .ref A_t_cells, .int t_torn])), (A_t_state, .inl (cy 1, 535, .inl t_state)), (A_t_least, .inl (cy 2, 100, .inr (.inl t_least)))] H → va_D A [(A_t, .inr (8, [.ref A_t_state, .ref A_t_tape, .int t_taped, .int t_fault, .int t_broken, .int t_brokenAt, .int t_spot, .int t_here, .int t_token, .int t_value, .int t_isRealTold, .ref A_t_ends, .ref A_t_letters, .ref A_t_least, .ref A_t_conflicts, .int t_conflictMany, .ref A_t_behind, .ref A_t_placed, .ref A_t_isKept, .ref A_t_lanes, .ref A_t_lengths, .ref A_t_cells, .int t_torn])), (A_t_state, .inl (cy 1, 535, .inl t_state)), (A_t_least, .inl (cy 2, 100, .inr (.inl t_least)))] → va_S A s.heap H locs → lv_has ls 5 [(0, .ref A_t), (1, .int x1), (2, .int x2)] → W p l e (headSpec wsX8_groups { frames := 3, cells := 0, slots := 0, locals := 72 }).room s m ([.ref A_t] : List Value).toArray below meth c H locs 0 0 Q0 (F0 m 11 ls []) := by
    intro n11
    induction n11 with
    | zero => intro t_least x1 x2 H locs ls h; exact False.elim h
    | succ n11 ih11 =>
      intro t_least x1 x2 H locs ls h hP hD hS hl
      have h : LB_X8_groups_11 post t_least (L_X8_groups_11 post t_least n11) x1 x2 := h
      unfold LB_X8_groups_11 at h
      have J64 : ∀ (t_least : Nat → Int64) (x2 : Int32) (k0 : Int32) (k1 : Int32) (H : Heap) (locs : List Loc) (ls : Array Slot), B_X8_groups_64 (L_X8_groups_11 post t_least n11) k0 k1 x2 → va_P D vwCl [(A_t, .inr (8, [.ref A_t_state, .ref A_t_tape, .int t_taped, .int t_fault, .int t_broken, .int t_brokenAt, .int t_spot, .int t_here, .int t_token, .int t_value, .int t_isRealTold, .ref A_t_ends, .ref A_t_letters, .ref A_t_least, .ref A_t_conflicts, .int t_conflictMany, .ref A_t_behind, .ref A_t_placed, .ref A_t_isKept, .ref A_t_lanes, .ref A_t_lengths, .ref A_t_cells, .int t_torn])), (A_t_state, .inl (cy 1, 535, .inl t_state)), (A_t_least, .inl (cy 2, 100, .inr (.inl t_least)))] H → va_D A [(A_t, .inr (8, [.ref A_t_state, .ref A_t_tape, .int t_taped, .int t_fault, .int t_broken, .int t_brokenAt, .int t_spot, .int t_here, .int t_token, .int t_value, .int t_isRealTold, .ref A_t_ends, .ref A_t_letters, .ref A_t_least, .ref A_t_conflicts, .int t_conflictMany, .ref A_t_behind, .ref A_t_placed, .ref A_t_isKept, .ref A_t_lanes, .ref A_t_lengths, .ref A_t_cells, .int t_torn])), (A_t_state, .inl (cy 1, 535, .inl t_state)), (A_t_least, .inl (cy 2, 100, .inr (.inl t_least)))] → va_S A s.heap H locs → lv_has ls 5 [(0, .ref A_t), (2, .int x2)] → W p l e (headSpec wsX8_groups { frames := 3, cells := 0, slots := 0, locals := 72 }).room s m ([.ref A_t] : List Value).toArray below meth c H locs 0 0 Q0 (F0 m 64 ls [.int k1, .int k0]) := by
        intro t_least x2 k0 k1 H locs ls h hP hD hS hl
        unfold B_X8_groups_64 at h
        refine lv_iadd hx hb dX8_groups_64 ?_
        refine lv_istore_n (lv' := [(1, .int (k0 + k1)), (0, .ref A_t), (2, .int x2)]) hx hb dX8_groups_65 rfl hl (by decide) rfl (fun ls hl => ?_)
        refine lv_iinc (v := x2 + (1 : Int32)) (lv' := [(2, .int (x2 + (1 : Int32))), (1, .int (k0 + k1)), (0, .ref A_t)]) hx hb dX8_groups_66 hl (k := 2) rfl rfl (by decide) rfl (fun ls hl => ?_)
        refine lv_goto (tgt := 11) hx hb dX8_groups_69 (by decide) ?_
        exact ih11 t_least (k0 + k1) (x2 + (1 : Int32)) H locs ls h hP hD hS (lv_sub hl [2, 1, 0] rfl)
      have L22 : ∀ (n22 : Nat) (t_least : Nat → Int64) (x1 : Int32) (x2 : Int32) (x3 : Int32) (x4 : Int32) (H : Heap) (locs : List Loc) (ls : Array Slot), L_X8_groups_22 (L_X8_groups_11 post t_least n11) t_least x1 x2 n22 x3 x4 → va_P D vwCl [(A_t, .inr (8, [.ref A_t_state, .ref A_t_tape, .int t_taped, .int t_fault, .int t_broken, .int t_brokenAt, .int t_spot, .int t_here, .int t_token, .int t_value, .int t_isRealTold, .ref A_t_ends, .ref A_t_letters, .ref A_t_least, .ref A_t_conflicts, .int t_conflictMany, .ref A_t_behind, .ref A_t_placed, .ref A_t_isKept, .ref A_t_lanes, .ref A_t_lengths, .ref A_t_cells, .int t_torn])), (A_t_state, .inl (cy 1, 535, .inl t_state)), (A_t_least, .inl (cy 2, 100, .inr (.inl t_least)))] H → va_D A [(A_t, .inr (8, [.ref A_t_state, .ref A_t_tape, .int t_taped, .int t_fault, .int t_broken, .int t_brokenAt, .int t_spot, .int t_here, .int t_token, .int t_value, .int t_isRealTold, .ref A_t_ends, .ref A_t_letters, .ref A_t_least, .ref A_t_conflicts, .int t_conflictMany, .ref A_t_behind, .ref A_t_placed, .ref A_t_isKept, .ref A_t_lanes, .ref A_t_lengths, .ref A_t_cells, .int t_torn])), (A_t_state, .inl (cy 1, 535, .inl t_state)), (A_t_least, .inl (cy 2, 100, .inr (.inl t_least)))] → va_S A s.heap H locs → lv_has ls 5 [(0, .ref A_t), (1, .int x1), (2, .int x2), (3, .int x3), (4, .int x4)] → W p l e (headSpec wsX8_groups { frames := 3, cells := 0, slots := 0, locals := 72 }).room s m ([.ref A_t] : List Value).toArray below meth c H locs 0 0 Q0 (F0 m 22 ls []) := by
        intro n22
        induction n22 with
        | zero => intro t_least x1 x2 x3 x4 H locs ls h; exact False.elim h
        | succ n22 ih22 =>
          intro t_least x1 x2 x3 x4 H locs ls h hP hD hS hl
          have h : LB_X8_groups_22 (L_X8_groups_11 post t_least n11) t_least x1 x2 (L_X8_groups_22 (L_X8_groups_11 post t_least n11) t_least x1 x2 n22) x3 x4 := h
          unfold LB_X8_groups_22 at h
          have J47 : ∀ (t_least : Nat → Int64) (x1 : Int32) (x2 : Int32) (x4 : Int32) (k0 : Int32) (H : Heap) (locs : List Loc) (ls : Array Slot), B_X8_groups_47 (L_X8_groups_22 (L_X8_groups_11 post t_least n11) t_least x1 x2 n22) k0 x4 → va_P D vwCl [(A_t, .inr (8, [.ref A_t_state, .ref A_t_tape, .int t_taped, .int t_fault, .int t_broken, .int t_brokenAt, .int t_spot, .int t_here, .int t_token, .int t_value, .int t_isRealTold, .ref A_t_ends, .ref A_t_letters, .ref A_t_least, .ref A_t_conflicts, .int t_conflictMany, .ref A_t_behind, .ref A_t_placed, .ref A_t_isKept, .ref A_t_lanes, .ref A_t_lengths, .ref A_t_cells, .int t_torn])), (A_t_state, .inl (cy 1, 535, .inl t_state)), (A_t_least, .inl (cy 2, 100, .inr (.inl t_least)))] H → va_D A [(A_t, .inr (8, [.ref A_t_state, .ref A_t_tape, .int t_taped, .int t_fault, .int t_broken, .int t_brokenAt, .int t_spot, .int t_here, .int t_token, .int t_value, .int t_isRealTold, .ref A_t_ends, .ref A_t_letters, .ref A_t_least, .ref A_t_conflicts, .int t_conflictMany, .ref A_t_behind, .ref A_t_placed, .ref A_t_isKept, .ref A_t_lanes, .ref A_t_lengths, .ref A_t_cells, .int t_torn])), (A_t_state, .inl (cy 1, 535, .inl t_state)), (A_t_least, .inl (cy 2, 100, .inr (.inl t_least)))] → va_S A s.heap H locs → lv_has ls 5 [(0, .ref A_t), (1, .int x1), (2, .int x2), (4, .int x4)] → W p l e (headSpec wsX8_groups { frames := 3, cells := 0, slots := 0, locals := 72 }).room s m ([.ref A_t] : List Value).toArray below meth c H locs 0 0 Q0 (F0 m 47 ls [.int k0]) := by
            intro t_least x1 x2 x4 k0 H locs ls h hP hD hS hl
            unfold B_X8_groups_47 at h
            refine lv_istore_n (lv' := [(3, .int k0), (0, .ref A_t), (1, .int x1), (2, .int x2), (4, .int x4)]) hx hb dX8_groups_47 rfl hl (by decide) rfl (fun ls hl => ?_)
            refine lv_iinc (v := x4 + (1 : Int32)) (lv' := [(4, .int (x4 + (1 : Int32))), (3, .int k0), (0, .ref A_t), (1, .int x1), (2, .int x2)]) hx hb dX8_groups_48 hl (k := 4) rfl rfl (by decide) rfl (fun ls hl => ?_)
            refine lv_goto (tgt := 22) hx hb dX8_groups_51 (by decide) ?_
            exact ih22 t_least x1 x2 k0 (x4 + (1 : Int32)) H locs ls h hP hD hS (lv_sub hl [2, 3, 4, 1, 0] rfl)
          have J46 : ∀ (t_least : Nat → Int64) (x1 : Int32) (x2 : Int32) (x4 : Int32) (H : Heap) (locs : List Loc) (ls : Array Slot), B_X8_groups_46 (L_X8_groups_22 (L_X8_groups_11 post t_least n11) t_least x1 x2 n22) x4 → va_P D vwCl [(A_t, .inr (8, [.ref A_t_state, .ref A_t_tape, .int t_taped, .int t_fault, .int t_broken, .int t_brokenAt, .int t_spot, .int t_here, .int t_token, .int t_value, .int t_isRealTold, .ref A_t_ends, .ref A_t_letters, .ref A_t_least, .ref A_t_conflicts, .int t_conflictMany, .ref A_t_behind, .ref A_t_placed, .ref A_t_isKept, .ref A_t_lanes, .ref A_t_lengths, .ref A_t_cells, .int t_torn])), (A_t_state, .inl (cy 1, 535, .inl t_state)), (A_t_least, .inl (cy 2, 100, .inr (.inl t_least)))] H → va_D A [(A_t, .inr (8, [.ref A_t_state, .ref A_t_tape, .int t_taped, .int t_fault, .int t_broken, .int t_brokenAt, .int t_spot, .int t_here, .int t_token, .int t_value, .int t_isRealTold, .ref A_t_ends, .ref A_t_letters, .ref A_t_least, .ref A_t_conflicts, .int t_conflictMany, .ref A_t_behind, .ref A_t_placed, .ref A_t_isKept, .ref A_t_lanes, .ref A_t_lengths, .ref A_t_cells, .int t_torn])), (A_t_state, .inl (cy 1, 535, .inl t_state)), (A_t_least, .inl (cy 2, 100, .inr (.inl t_least)))] → va_S A s.heap H locs → lv_has ls 5 [(0, .ref A_t), (1, .int x1), (2, .int x2), (4, .int x4)] → W p l e (headSpec wsX8_groups { frames := 3, cells := 0, slots := 0, locals := 72 }).room s m ([.ref A_t] : List Value).toArray below meth c H locs 0 0 Q0 (F0 m 46 ls []) := by
            intro t_least x1 x2 x4 H locs ls h hP hD hS hl
            unfold B_X8_groups_46 at h
            refine lv_iconst (v := 0) hx hb dX8_groups_46 (by decide) ?_
            exact J47 t_least x1 x2 x4 (0 : Int32) H locs ls h hP hD hS (lv_sub hl [0, 1, 2, 3] rfl)
          refine lv_iload hx hb dX8_groups_22 (lv_at hl 4 rfl) ?_
          refine lv_iload_n hx hb dX8_groups_24 rfl (lv_at hl 2 rfl) ?_
          refine lv_icmp_ge (tgt := 54) hx hb dX8_groups_25 (by decide) (fun hc => ?_) (fun hc => ?_)
          · replace h := h.1 hc
            refine lv_iload_n hx hb dX8_groups_54 rfl (lv_at hl 1 rfl) ?_
            refine lv_iload_n hx hb dX8_groups_55 rfl (lv_at hl 3 rfl) ?_
            refine lv_if_eq (tgt := 63) hx hb dX8_groups_56 (by decide) (fun hc => ?_) (fun hc => ?_)
            · replace h := h.1 hc
              refine lv_iconst (v := 0) hx hb dX8_groups_63 (by decide) ?_
              exact J64 t_least x2 x1 (0 : Int32) H locs ls h hP hD hS (lv_sub hl [0, 2] rfl)
            · replace h := h.2 hc
              refine lv_iconst (v := 1) hx hb dX8_groups_59 (by decide) ?_
              refine lv_goto (tgt := 64) hx hb dX8_groups_60 (by decide) ?_
              exact J64 t_least x2 x1 (1 : Int32) H locs ls h hP hD hS (lv_sub hl [0, 2] rfl)
          · replace h := h.2 hc
            refine lv_iload_n hx hb dX8_groups_28 rfl (lv_at hl 3 rfl) ?_
            refine lv_if_eq (tgt := 46) hx hb dX8_groups_29 (by decide) (fun hc => ?_) (fun hc => ?_)
            · replace h := h.1 hc
              exact J46 t_least x1 x2 x4 H locs ls h hP hD hS (lv_sub hl [0, 1, 2, 4] rfl)
            · replace h := h.2 hc
              refine lv_aload_n hx hb dX8_groups_32 rfl (lv_at hl 0 rfl) ?_
              refine lv_iload hx hb dX8_groups_33 (lv_at hl 4 rfl) ?_
              refine lv_iload_n hx hb dX8_groups_35 rfl (lv_at hl 2 rfl) ?_
              have hPc := hP.sub (ws' := [(A_t, .inr (8, [.ref A_t_state, .ref A_t_tape, .int t_taped, .int t_fault, .int t_broken, .int t_brokenAt, .int t_spot, .int t_here, .int t_token, .int t_value, .int t_isRealTold, .ref A_t_ends, .ref A_t_letters, .ref A_t_least, .ref A_t_conflicts, .int t_conflictMany, .ref A_t_behind, .ref A_t_placed, .ref A_t_isKept, .ref A_t_lanes, .ref A_t_lengths, .ref A_t_cells, .int t_torn])), (A_t_least, .inl (cy 2, 100, .inr (.inl t_least)))]) [0, 2] rfl
              refine vp_callSi (W.runV (As := [.int x4, .int x2]) (rest := []) CF (c_X8_isFixed l D cy A_t A_t_state A_t_tape A_t_ends A_t_letters A_t_least A_t_conflicts A_t_behind A_t_placed A_t_isKept A_t_lanes A_t_lengths A_t_cells t_taped t_fault t_broken t_brokenAt t_spot t_here t_token t_value t_isRealTold t_conflictMany t_torn t_least x4 x2 _ h) (cwV 2 hts gX8_groups_X8_isFixed rfl rfl rfl qX8_isFixed ⟨Nat.le_of_ble_eq_true rfl, Nat.le_of_ble_eq_true rfl⟩) (mpVR hK hPc (ci := 8) (q := (RX8, TX8, 23)) (q0 := 0) rfl rfl) rfl rfl hl.1 rfl (lv_room (Nat.le_of_ble_eq_true rfl)) dX8_groups_36 ⟨Nat.zero_le _, Nat.zero_le _⟩) (fun r2 h => ?_)
              refine lv_if_ne (tgt := 46) hx hb dX8_groups_39 (by decide) (fun hc => ?_) (fun hc => ?_)
              · replace h := h.1 hc
                exact J46 t_least x1 x2 x4 H locs ls h hP hD hS (lv_sub hl [0, 1, 2, 4] rfl)
              · replace h := h.2 hc
                refine lv_iconst (v := 1) hx hb dX8_groups_42 (by decide) ?_
                refine lv_goto (tgt := 47) hx hb dX8_groups_43 (by decide) ?_
                exact J47 t_least x1 x2 x4 (1 : Int32) H locs ls h hP hD hS (lv_sub hl [0, 1, 2, 4] rfl)
      refine lv_iload_n hx hb dX8_groups_11 rfl (lv_at hl 2 rfl) ?_
      refine lv_bipush (v := 10) hx hb dX8_groups_12 (by decide) ?_
      refine lv_icmp_ge (tgt := 72) hx hb dX8_groups_14 (by decide) (fun hc => ?_) (fun hc => ?_)
      · replace h := h.1 hc
        refine lv_iload_n hx hb dX8_groups_72 rfl (lv_at hl 1 rfl) ?_
        subst hQ
        subst hAe
        exact W.iret (v := x1) hx hb hr (fun t ht _ => ⟨⟨x1, t_least, rfl, h, by rw [ht]; exact hP, hD⟩, hS.F ht⟩) hS.2.2 dX8_groups_73
      · replace h := h.2 hc
        refine lv_iconst (v := 1) hx hb dX8_groups_17 (by decide) ?_
        refine lv_istore_n (lv' := [(3, .int (1 : Int32)), (0, .ref A_t), (1, .int x1), (2, .int x2)]) hx hb dX8_groups_18 rfl hl (by decide) rfl (fun ls hl => ?_)
        refine lv_iconst (v := 0) hx hb dX8_groups_19 (by decide) ?_
        refine lv_istore (lv' := [(4, .int (0 : Int32)), (3, .int (1 : Int32)), (0, .ref A_t), (1, .int x1), (2, .int x2)]) hx hb dX8_groups_20 hl (by decide) rfl (fun ls hl => ?_)
        obtain ⟨nn, h⟩ := h
        exact L22 nn t_least x1 x2 (1 : Int32) (0 : Int32) H locs ls h hP hD hS (lv_sub hl [2, 3, 4, 1, 0] rfl)
  unfold P_X8_groups at h
  refine lv_aload_n hx hb dX8_groups_0 rfl (lv_at hl 0 rfl) ?_
  refine lv_iconst (v := 0) hx hb dX8_groups_1 (by decide) ?_
  refine lv_bipush (v := -4) hx hb dX8_groups_2 (by decide) ?_
  have hPn : va_P D vwCl ([] ++ [(A_t, .inr (8, [.ref A_t_state, .ref A_t_tape, .int t_taped, .int t_fault, .int t_broken, .int t_brokenAt, .int t_spot, .int t_here, .int t_token, .int t_value, .int t_isRealTold, .ref A_t_ends, .ref A_t_letters, .ref A_t_least, .ref A_t_conflicts, .int t_conflictMany, .ref A_t_behind, .ref A_t_placed, .ref A_t_isKept, .ref A_t_lanes, .ref A_t_lengths, .ref A_t_cells, .int t_torn])), (A_t_state, .inl (cy 1, 535, .inl t_state)), (A_t_least, .inl (cy 2, 100, .inr (.inl t_least)))]) s.heap := hP.sub [0, 1, 2] rfl
  have hDn : va_D A ([] ++ [(A_t, .inr (8, [.ref A_t_state, .ref A_t_tape, .int t_taped, .int t_fault, .int t_broken, .int t_brokenAt, .int t_spot, .int t_here, .int t_token, .int t_value, .int t_isRealTold, .ref A_t_ends, .ref A_t_letters, .ref A_t_least, .ref A_t_conflicts, .int t_conflictMany, .ref A_t_behind, .ref A_t_placed, .ref A_t_isKept, .ref A_t_lanes, .ref A_t_lengths, .ref A_t_cells, .int t_torn])), (A_t_state, .inl (cy 1, 535, .inl t_state)), (A_t_least, .inl (cy 2, 100, .inr (.inl t_least)))]) := hD.sub [0, 1, 2] (by decide) rfl
  have hPc := gPR hPn
  have hDc := gDR hDn
  refine mw_v (va_runV (As := [.int (0 : Int32), .int (-4 : Int32)]) (rest := []) CF (c_X8_reckons l D cy s.heap.size A_t A_t_state A_t_tape A_t_ends A_t_letters A_t_least A_t_conflicts A_t_behind A_t_placed A_t_isKept A_t_lanes A_t_lengths A_t_cells t_taped t_fault t_broken t_brokenAt t_spot t_here t_token t_value t_isRealTold t_conflictMany t_torn t_state t_least (0 : Int32) (-4 : Int32) _ h) (cwV 2 hts gX8_groups_X8_reckons rfl rfl rfl qX8_reckons ⟨Nat.le_of_ble_eq_true rfl, Nat.le_of_ble_eq_true rfl⟩) (mpVW hK hPc hDc (ci := 8) (q := (RX8, TX8, 23)) (q0 := 0) rfl rfl) rfl rfl hl.1 rfl (lv_room (Nat.le_of_ble_eq_true rfl)) dX8_groups_4 ⟨Nat.zero_le _, Nat.zero_le _⟩) hPn hDn hS hA (fun t_least_v1 H locs h hP hD hS => ?_)
  have hP : va_P D vwCl [(A_t, .inr (8, [.ref A_t_state, .ref A_t_tape, .int t_taped, .int t_fault, .int t_broken, .int t_brokenAt, .int t_spot, .int t_here, .int t_token, .int t_value, .int t_isRealTold, .ref A_t_ends, .ref A_t_letters, .ref A_t_least, .ref A_t_conflicts, .int t_conflictMany, .ref A_t_behind, .ref A_t_placed, .ref A_t_isKept, .ref A_t_lanes, .ref A_t_lengths, .ref A_t_cells, .int t_torn])), (A_t_state, .inl (cy 1, 535, .inl t_state)), (A_t_least, .inl (cy 2, 100, .inr (.inl t_least_v1)))] H := hP.sub [0, 1, 2] rfl
  have hD : va_D A [(A_t, .inr (8, [.ref A_t_state, .ref A_t_tape, .int t_taped, .int t_fault, .int t_broken, .int t_brokenAt, .int t_spot, .int t_here, .int t_token, .int t_value, .int t_isRealTold, .ref A_t_ends, .ref A_t_letters, .ref A_t_least, .ref A_t_conflicts, .int t_conflictMany, .ref A_t_behind, .ref A_t_placed, .ref A_t_isKept, .ref A_t_lanes, .ref A_t_lengths, .ref A_t_cells, .int t_torn])), (A_t_state, .inl (cy 1, 535, .inl t_state)), (A_t_least, .inl (cy 2, 100, .inr (.inl t_least_v1)))] := hD.sub [0, 1, 2] (by decide) rfl
  refine lv_iconst (v := 0) hx hb dX8_groups_7 (by decide) ?_
  refine lv_istore_n (lv' := [(1, .int (0 : Int32)), (0, .ref A_t)]) hx hb dX8_groups_8 rfl hl (by decide) rfl (fun ls hl => ?_)
  refine lv_iconst (v := 0) hx hb dX8_groups_9 (by decide) ?_
  refine lv_istore_n (lv' := [(2, .int (0 : Int32)), (1, .int (0 : Int32)), (0, .ref A_t)]) hx hb dX8_groups_10 rfl hl (by decide) rfl (fun ls hl => ?_)
  obtain ⟨nn, h⟩ := h
  exact L11 nn t_least_v1 (0 : Int32) (0 : Int32) H locs ls h hP hD hS (lv_sub hl [2, 1, 0] rfl)
theorem qX8_rule : yX8_rule.cls = RX8 ∧ yX8_rule.cls ≠ "java/lang/invoke/MethodHandle" ∧ yX8_rule.cls ≠ "java/lang/invoke/VarHandle" ∧ (parseMethodDescriptor yX8_rule.desc).map (fun d => d.parameters.length) = some 1 := by decide +kernel
def P_X8_rule (post : Int32 → (Nat → Int64) → Prop) (t_conflictMany : Int32) (t_state : Nat → Int32) (t_least : Nat → Int64) (x1 : Int32) : Prop :=
  ((x1 = (0 : Int32) → P_X8_many (fun (r1 : Int32) => post r1 t_least) t_state) ∧ (¬ x1 = (0 : Int32) → ((x1 = (1 : Int32) → (vp_in (105 : Int32) 535 ∧ post ((1 : Int32) - (t_state (105 : Int32).toNatClampNeg)) t_least)) ∧ (¬ x1 = (1 : Int32) → ((x1 = (2 : Int32) → (vp_in (106 : Int32) 535 ∧ post (t_state (106 : Int32).toNatClampNeg) t_least)) ∧ (¬ x1 = (2 : Int32) → ((x1 = (3 : Int32) → P_X8_ofBounds (fun (r2 : Int32) (t_least_v2 : Nat → Int64) => post r2 t_least_v2) t_state t_least x1) ∧ (¬ x1 = (3 : Int32) → ((x1 = (4 : Int32) → P_X8_ofBounds (fun (r3 : Int32) (t_least_v3 : Nat → Int64) => post r3 t_least_v3) t_state t_least x1) ∧ (¬ x1 = (4 : Int32) → ((x1 = (5 : Int32) → P_X8_ofBounds (fun (r4 : Int32) (t_least_v4 : Nat → Int64) => post r4 t_least_v4) t_state t_least x1) ∧ (¬ x1 = (5 : Int32) → ((x1 = (6 : Int32) → P_X8_groups (fun (r5 : Int32) (t_least_v5 : Nat → Int64) => post r5 t_least_v5) t_state t_least) ∧ (¬ x1 = (6 : Int32) → ((x1 = (7 : Int32) → post t_conflictMany t_least) ∧ (¬ x1 = (7 : Int32) → post (-1 : Int32) t_least))))))))))))))))
set_option maxHeartbeats 4000000 in
set_option maxRecDepth 100000 in
theorem c_X8_rule (l : Launch) (D : va_G) (cy : Nat → ClassId) (sz : Nat) (A_t A_t_state A_t_tape A_t_ends A_t_letters A_t_least A_t_conflicts A_t_behind A_t_placed A_t_isKept A_t_lanes A_t_lengths A_t_cells : Nat) (t_taped : Int32) (t_fault : Int32) (t_broken : Int32) (t_brokenAt : Int32) (t_spot : Int32) (t_here : Int32) (t_token : Int32) (t_value : Int32) (t_isRealTold : Int32) (t_conflictMany : Int32) (t_torn : Int32) (t_state : Nat → Int32) (t_least : Nat → Int64) (x1 : Int32) (post : Int32 → (Nat → Int64) → Prop) (h : P_X8_rule post t_conflictMany t_state t_least x1) : Met l yX8_rule wsX8_rule { frames := 5, cells := 0, slots := 0, locals := 117 } (pcW D cy [(A_t, .inr (8, [.ref A_t_state, .ref A_t_tape, .int t_taped, .int t_fault, .int t_broken, .int t_brokenAt, .int t_spot, .int t_here, .int t_token, .int t_value, .int t_isRealTold, .ref A_t_ends, .ref A_t_letters, .ref A_t_least, .ref A_t_conflicts, .int t_conflictMany, .ref A_t_behind, .ref A_t_placed, .ref A_t_isKept, .ref A_t_lanes, .ref A_t_lengths, .ref A_t_cells, .int t_torn])), (A_t_state, .inl (cy 1, 535, .inl t_state)), (A_t_least, .inl (cy 2, 100, .inr (.inl t_least)))] sz [.ref A_t, .int x1]) (va_Qi (fun r (u : (Nat → Int64)) => post r u) (bW D [(A_t, .inr (8, [.ref A_t_state, .ref A_t_tape, .int t_taped, .int t_fault, .int t_broken, .int t_brokenAt, .int t_spot, .int t_here, .int t_token, .int t_value, .int t_isRealTold, .ref A_t_ends, .ref A_t_letters, .ref A_t_least, .ref A_t_conflicts, .int t_conflictMany, .ref A_t_behind, .ref A_t_placed, .ref A_t_isKept, .ref A_t_lanes, .ref A_t_lengths, .ref A_t_cells, .int t_torn])), (A_t_state, .inl (cy 1, 535, .inl t_state)), (A_t_least, .inl (cy 2, 100, .inr (.inl t_least)))] sz (fun u => [(A_t, .inr (8, [.ref A_t_state, .ref A_t_tape, .int t_taped, .int t_fault, .int t_broken, .int t_brokenAt, .int t_spot, .int t_here, .int t_token, .int t_value, .int t_isRealTold, .ref A_t_ends, .ref A_t_letters, .ref A_t_least, .ref A_t_conflicts, .int t_conflictMany, .ref A_t_behind, .ref A_t_placed, .ref A_t_isKept, .ref A_t_lanes, .ref A_t_lengths, .ref A_t_cells, .int t_torn])), (A_t_state, .inl (cy 1, 535, .inl t_state)), (A_t_least, .inl (cy 2, 100, .inr (.inl u)))])) (va_A [(A_t, .inr (8, [.ref A_t_state, .ref A_t_tape, .int t_taped, .int t_fault, .int t_broken, .int t_brokenAt, .int t_spot, .int t_here, .int t_token, .int t_value, .int t_isRealTold, .ref A_t_ends, .ref A_t_letters, .ref A_t_least, .ref A_t_conflicts, .int t_conflictMany, .ref A_t_behind, .ref A_t_placed, .ref A_t_isKept, .ref A_t_lanes, .ref A_t_lengths, .ref A_t_cells, .int t_torn])), (A_t_state, .inl (cy 1, 535, .inl t_state)), (A_t_least, .inl (cy 2, 100, .inr (.inl t_least)))] sz)) 0 0 (va_A [(A_t, .inr (8, [.ref A_t_state, .ref A_t_tape, .int t_taped, .int t_fault, .int t_broken, .int t_brokenAt, .int t_spot, .int t_here, .int t_token, .int t_value, .int t_isRealTold, .ref A_t_ends, .ref A_t_letters, .ref A_t_least, .ref A_t_conflicts, .int t_conflictMany, .ref A_t_behind, .ref A_t_placed, .ref A_t_isKept, .ref A_t_lanes, .ref A_t_lengths, .ref A_t_cells, .int t_torn])), (A_t_state, .inl (cy 1, 535, .inl t_state)), (A_t_least, .inl (cy 2, 100, .inr (.inl t_least)))] sz) := by
  refine Met.ofW (cc := cX8_rule) (maxL := 2) (ret := (some .int)) (by decide) rfl ?_
  intro p e s m args below meth c s₁ B hml hv
  obtain ⟨rfl, hsz, hP, hK, hD0⟩ := hv
  have hx := B.exec
  have hb := B.bytes
  have hr := B.returns
  have hts := atoms_spec (ws := wsX8_rule) B.pre
  have hown : s.vm.findClass RX8 = some m.cls := findClass_of_methodNamed B.named
  have hlocks := B.notSynchronized
  have CF : CallFix p m c cX8_rule 2 s ([.ref A_t, .int x1] : List Value).toArray wsX8_rule RX8 := ⟨hx, hb, hml, hown, hts⟩
  have f0 := hts (.fieldLink RX8 7 "GapBoundsModel" "state" "[I") (by decide +kernel)
  have f1 := hts (.fieldLink RX8 136 "GapBoundsModel" "conflictMany" "I") (by decide +kernel)
  have iX8 : ∀ w ∈ u_ws RX8 TX8 23, w ∈ wsX8_rule := by decide +kernel
  subst hsz
  obtain ⟨A, hAe⟩ : ∃ A, A = va_A [(A_t, .inr (8, [.ref A_t_state, .ref A_t_tape, .int t_taped, .int t_fault, .int t_broken, .int t_brokenAt, .int t_spot, .int t_here, .int t_token, .int t_value, .int t_isRealTold, .ref A_t_ends, .ref A_t_letters, .ref A_t_least, .ref A_t_conflicts, .int t_conflictMany, .ref A_t_behind, .ref A_t_placed, .ref A_t_isKept, .ref A_t_lanes, .ref A_t_lengths, .ref A_t_cells, .int t_torn])), (A_t_state, .inl (cy 1, 535, .inl t_state)), (A_t_least, .inl (cy 2, 100, .inr (.inl t_least)))] s.heap.size := ⟨_, rfl⟩
  have hD : va_D A [(A_t, .inr (8, [.ref A_t_state, .ref A_t_tape, .int t_taped, .int t_fault, .int t_broken, .int t_brokenAt, .int t_spot, .int t_here, .int t_token, .int t_value, .int t_isRealTold, .ref A_t_ends, .ref A_t_letters, .ref A_t_least, .ref A_t_conflicts, .int t_conflictMany, .ref A_t_behind, .ref A_t_placed, .ref A_t_isKept, .ref A_t_lanes, .ref A_t_lengths, .ref A_t_cells, .int t_torn])), (A_t_state, .inl (cy 1, 535, .inl t_state)), (A_t_least, .inl (cy 2, 100, .inr (.inl t_least)))] := by rw [hAe]; exact hD0.self
  have hA : ∀ q : Nat, s.heap.size ≤ q → A q := fun q hq => by rw [hAe]; exact Or.inr hq
  have hS : va_S A s.heap s.heap [] := va_S.rf
  have hl := lv_entry [.ref A_t, .int x1] (n := 2) (Nat.le_of_ble_eq_true rfl)
  rw [lg_entry_eq]
  generalize (lg_sl [.ref A_t, .int x1] ++ List.replicate (2 - (lg_sl [.ref A_t, .int x1]).length) Slot.unset).toArray = ls at hl ⊢
  have hl : lv_has ls 2 [(0, .ref A_t), (1, .int x1)] := hl
  refine W.gen (fun Q0 hQ => ?_)
  unfold P_X8_rule at h
  refine lv_iload_n hx hb dX8_rule_0 rfl (lv_at hl 1 rfl) ?_
  by_cases hc0 : x1 = (0 : Int32)
  · replace h := h.1 hc0
    refine lv_tableIn (tgt := 48) hx hb dX8_rule_1 (by rw [hc0]; decide) (by rw [hc0]; decide) (by rw [hc0]; rfl) (by decide) ?_
    refine lv_aload_n hx hb dX8_rule_48 rfl (lv_at hl 0 rfl) ?_
    have hPc := hP.sub (ws' := [(A_t, .inr (8, [.ref A_t_state, .ref A_t_tape, .int t_taped, .int t_fault, .int t_broken, .int t_brokenAt, .int t_spot, .int t_here, .int t_token, .int t_value, .int t_isRealTold, .ref A_t_ends, .ref A_t_letters, .ref A_t_least, .ref A_t_conflicts, .int t_conflictMany, .ref A_t_behind, .ref A_t_placed, .ref A_t_isKept, .ref A_t_lanes, .ref A_t_lengths, .ref A_t_cells, .int t_torn])), (A_t_state, .inl (cy 1, 535, .inl t_state))]) [0, 1] rfl
    refine vp_callSi (W.runV (As := []) (rest := []) CF (c_X8_many l D cy A_t A_t_state A_t_tape A_t_ends A_t_letters A_t_least A_t_conflicts A_t_behind A_t_placed A_t_isKept A_t_lanes A_t_lengths A_t_cells t_taped t_fault t_broken t_brokenAt t_spot t_here t_token t_value t_isRealTold t_conflictMany t_torn t_state _ h) (cwV 0 hts gX8_rule_X8_many rfl rfl rfl qX8_many ⟨Nat.le_of_ble_eq_true rfl, Nat.le_of_ble_eq_true rfl⟩) (mpVR hK hPc (ci := 8) (q := (RX8, TX8, 23)) (q0 := 0) rfl rfl) rfl rfl hl.1 rfl (lv_room (Nat.le_of_ble_eq_true rfl)) dX8_rule_49 ⟨Nat.zero_le _, Nat.zero_le _⟩) (fun r1 h => ?_)
    subst hQ
    subst hAe
    exact W.iret (v := r1) hx hb hr (fun t ht _ => ⟨⟨r1, t_least, rfl, h, by rw [ht]; exact hP, hD⟩, hS.F ht⟩) hS.2.2 dX8_rule_52
  · replace h := h.2 hc0
    by_cases hc1 : x1 = (1 : Int32)
    · replace h := h.1 hc1
      refine lv_tableIn (tgt := 53) hx hb dX8_rule_1 (by rw [hc1]; decide) (by rw [hc1]; decide) (by rw [hc1]; rfl) (by decide) ?_
      refine lv_iconst (v := 1) hx hb dX8_rule_53 (by decide) ?_
      refine lv_aload_n hx hb dX8_rule_54 rfl (lv_at hl 0 rfl) ?_
      refine va_get (D := D) (ci := 8) (v := .ref A_t_state) (C := RX8) (T := TX8) (N := 23) hx hb hts iX8 hown hK.1 hP 0 rfl rfl 0 (by decide) f0 (fun _ h9 => h9) rfl dX8_rule_55 ?_
      refine lv_bipush (v := 105) hx hb dX8_rule_58 (by decide) ?_
      refine va_iald hx hb hK.1 hP 1 1 rfl rfl h.1 dX8_rule_60 ?_
      replace h := h.2
      refine lv_isub hx hb dX8_rule_61 ?_
      subst hQ
      subst hAe
      exact W.iret (v := (1 : Int32) - (t_state (105 : Int32).toNatClampNeg)) hx hb hr (fun t ht _ => ⟨⟨(1 : Int32) - (t_state (105 : Int32).toNatClampNeg), t_least, rfl, h, by rw [ht]; exact hP, hD⟩, hS.F ht⟩) hS.2.2 dX8_rule_62
    · replace h := h.2 hc1
      by_cases hc2 : x1 = (2 : Int32)
      · replace h := h.1 hc2
        refine lv_tableIn (tgt := 63) hx hb dX8_rule_1 (by rw [hc2]; decide) (by rw [hc2]; decide) (by rw [hc2]; rfl) (by decide) ?_
        refine lv_aload_n hx hb dX8_rule_63 rfl (lv_at hl 0 rfl) ?_
        refine va_get (D := D) (ci := 8) (v := .ref A_t_state) (C := RX8) (T := TX8) (N := 23) hx hb hts iX8 hown hK.1 hP 0 rfl rfl 0 (by decide) f0 (fun _ h9 => h9) rfl dX8_rule_64 ?_
        refine lv_bipush (v := 106) hx hb dX8_rule_67 (by decide) ?_
        refine va_iald hx hb hK.1 hP 1 1 rfl rfl h.1 dX8_rule_69 ?_
        replace h := h.2
        subst hQ
        subst hAe
        exact W.iret (v := t_state (106 : Int32).toNatClampNeg) hx hb hr (fun t ht _ => ⟨⟨t_state (106 : Int32).toNatClampNeg, t_least, rfl, h, by rw [ht]; exact hP, hD⟩, hS.F ht⟩) hS.2.2 dX8_rule_70
      · replace h := h.2 hc2
        by_cases hc3 : x1 = (3 : Int32)
        · replace h := h.1 hc3
          refine lv_tableIn (tgt := 71) hx hb dX8_rule_1 (by rw [hc3]; decide) (by rw [hc3]; decide) (by rw [hc3]; rfl) (by decide) ?_
          refine lv_aload_n hx hb dX8_rule_71 rfl (lv_at hl 0 rfl) ?_
          refine lv_iload_n hx hb dX8_rule_72 rfl (lv_at hl 1 rfl) ?_
          have hPn : va_P D vwCl ([] ++ [(A_t, .inr (8, [.ref A_t_state, .ref A_t_tape, .int t_taped, .int t_fault, .int t_broken, .int t_brokenAt, .int t_spot, .int t_here, .int t_token, .int t_value, .int t_isRealTold, .ref A_t_ends, .ref A_t_letters, .ref A_t_least, .ref A_t_conflicts, .int t_conflictMany, .ref A_t_behind, .ref A_t_placed, .ref A_t_isKept, .ref A_t_lanes, .ref A_t_lengths, .ref A_t_cells, .int t_torn])), (A_t_state, .inl (cy 1, 535, .inl t_state)), (A_t_least, .inl (cy 2, 100, .inr (.inl t_least)))]) s.heap := hP.sub [0, 1, 2] rfl
          have hDn : va_D A ([] ++ [(A_t, .inr (8, [.ref A_t_state, .ref A_t_tape, .int t_taped, .int t_fault, .int t_broken, .int t_brokenAt, .int t_spot, .int t_here, .int t_token, .int t_value, .int t_isRealTold, .ref A_t_ends, .ref A_t_letters, .ref A_t_least, .ref A_t_conflicts, .int t_conflictMany, .ref A_t_behind, .ref A_t_placed, .ref A_t_isKept, .ref A_t_lanes, .ref A_t_lengths, .ref A_t_cells, .int t_torn])), (A_t_state, .inl (cy 1, 535, .inl t_state)), (A_t_least, .inl (cy 2, 100, .inr (.inl t_least)))]) := hD.sub [0, 1, 2] (by decide) rfl
          have hPc := gPR hPn
          have hDc := gDR hDn
          refine mw_i (va_runV (As := [.int x1]) (rest := []) CF (c_X8_ofBounds l D cy s.heap.size A_t A_t_state A_t_tape A_t_ends A_t_letters A_t_least A_t_conflicts A_t_behind A_t_placed A_t_isKept A_t_lanes A_t_lengths A_t_cells t_taped t_fault t_broken t_brokenAt t_spot t_here t_token t_value t_isRealTold t_conflictMany t_torn t_state t_least x1 _ h) (cwV 1 hts gX8_rule_X8_ofBounds rfl rfl rfl qX8_ofBounds ⟨Nat.le_of_ble_eq_true rfl, Nat.le_of_ble_eq_true rfl⟩) (mpVW hK hPc hDc (ci := 8) (q := (RX8, TX8, 23)) (q0 := 0) rfl rfl) rfl rfl hl.1 rfl (lv_room (Nat.le_of_ble_eq_true rfl)) dX8_rule_73 ⟨Nat.zero_le _, Nat.zero_le _⟩) hPn hDn hS hA (fun r2 t_least_v2 H locs h hP hD hS => ?_)
          have hP : va_P D vwCl [(A_t, .inr (8, [.ref A_t_state, .ref A_t_tape, .int t_taped, .int t_fault, .int t_broken, .int t_brokenAt, .int t_spot, .int t_here, .int t_token, .int t_value, .int t_isRealTold, .ref A_t_ends, .ref A_t_letters, .ref A_t_least, .ref A_t_conflicts, .int t_conflictMany, .ref A_t_behind, .ref A_t_placed, .ref A_t_isKept, .ref A_t_lanes, .ref A_t_lengths, .ref A_t_cells, .int t_torn])), (A_t_state, .inl (cy 1, 535, .inl t_state)), (A_t_least, .inl (cy 2, 100, .inr (.inl t_least_v2)))] H := hP.sub [0, 1, 2] rfl
          have hD : va_D A [(A_t, .inr (8, [.ref A_t_state, .ref A_t_tape, .int t_taped, .int t_fault, .int t_broken, .int t_brokenAt, .int t_spot, .int t_here, .int t_token, .int t_value, .int t_isRealTold, .ref A_t_ends, .ref A_t_letters, .ref A_t_least, .ref A_t_conflicts, .int t_conflictMany, .ref A_t_behind, .ref A_t_placed, .ref A_t_isKept, .ref A_t_lanes, .ref A_t_lengths, .ref A_t_cells, .int t_torn])), (A_t_state, .inl (cy 1, 535, .inl t_state)), (A_t_least, .inl (cy 2, 100, .inr (.inl t_least_v2)))] := hD.sub [0, 1, 2] (by decide) rfl
          subst hQ
          subst hAe
          exact W.iret (v := r2) hx hb hr (fun t ht _ => ⟨⟨r2, t_least_v2, rfl, h, by rw [ht]; exact hP, hD⟩, hS.F ht⟩) hS.2.2 dX8_rule_76
        · replace h := h.2 hc3
          by_cases hc4 : x1 = (4 : Int32)
          · replace h := h.1 hc4
            refine lv_tableIn (tgt := 71) hx hb dX8_rule_1 (by rw [hc4]; decide) (by rw [hc4]; decide) (by rw [hc4]; rfl) (by decide) ?_
            refine lv_aload_n hx hb dX8_rule_71 rfl (lv_at hl 0 rfl) ?_
            refine lv_iload_n hx hb dX8_rule_72 rfl (lv_at hl 1 rfl) ?_
            have hPn : va_P D vwCl ([] ++ [(A_t, .inr (8, [.ref A_t_state, .ref A_t_tape, .int t_taped, .int t_fault, .int t_broken, .int t_brokenAt, .int t_spot, .int t_here, .int t_token, .int t_value, .int t_isRealTold, .ref A_t_ends, .ref A_t_letters, .ref A_t_least, .ref A_t_conflicts, .int t_conflictMany, .ref A_t_behind, .ref A_t_placed, .ref A_t_isKept, .ref A_t_lanes, .ref A_t_lengths, .ref A_t_cells, .int t_torn])), (A_t_state, .inl (cy 1, 535, .inl t_state)), (A_t_least, .inl (cy 2, 100, .inr (.inl t_least)))]) s.heap := hP.sub [0, 1, 2] rfl
            have hDn : va_D A ([] ++ [(A_t, .inr (8, [.ref A_t_state, .ref A_t_tape, .int t_taped, .int t_fault, .int t_broken, .int t_brokenAt, .int t_spot, .int t_here, .int t_token, .int t_value, .int t_isRealTold, .ref A_t_ends, .ref A_t_letters, .ref A_t_least, .ref A_t_conflicts, .int t_conflictMany, .ref A_t_behind, .ref A_t_placed, .ref A_t_isKept, .ref A_t_lanes, .ref A_t_lengths, .ref A_t_cells, .int t_torn])), (A_t_state, .inl (cy 1, 535, .inl t_state)), (A_t_least, .inl (cy 2, 100, .inr (.inl t_least)))]) := hD.sub [0, 1, 2] (by decide) rfl
            have hPc := gPR hPn
            have hDc := gDR hDn
            refine mw_i (va_runV (As := [.int x1]) (rest := []) CF (c_X8_ofBounds l D cy s.heap.size A_t A_t_state A_t_tape A_t_ends A_t_letters A_t_least A_t_conflicts A_t_behind A_t_placed A_t_isKept A_t_lanes A_t_lengths A_t_cells t_taped t_fault t_broken t_brokenAt t_spot t_here t_token t_value t_isRealTold t_conflictMany t_torn t_state t_least x1 _ h) (cwV 1 hts gX8_rule_X8_ofBounds rfl rfl rfl qX8_ofBounds ⟨Nat.le_of_ble_eq_true rfl, Nat.le_of_ble_eq_true rfl⟩) (mpVW hK hPc hDc (ci := 8) (q := (RX8, TX8, 23)) (q0 := 0) rfl rfl) rfl rfl hl.1 rfl (lv_room (Nat.le_of_ble_eq_true rfl)) dX8_rule_73 ⟨Nat.zero_le _, Nat.zero_le _⟩) hPn hDn hS hA (fun r3 t_least_v3 H locs h hP hD hS => ?_)
            have hP : va_P D vwCl [(A_t, .inr (8, [.ref A_t_state, .ref A_t_tape, .int t_taped, .int t_fault, .int t_broken, .int t_brokenAt, .int t_spot, .int t_here, .int t_token, .int t_value, .int t_isRealTold, .ref A_t_ends, .ref A_t_letters, .ref A_t_least, .ref A_t_conflicts, .int t_conflictMany, .ref A_t_behind, .ref A_t_placed, .ref A_t_isKept, .ref A_t_lanes, .ref A_t_lengths, .ref A_t_cells, .int t_torn])), (A_t_state, .inl (cy 1, 535, .inl t_state)), (A_t_least, .inl (cy 2, 100, .inr (.inl t_least_v3)))] H := hP.sub [0, 1, 2] rfl
            have hD : va_D A [(A_t, .inr (8, [.ref A_t_state, .ref A_t_tape, .int t_taped, .int t_fault, .int t_broken, .int t_brokenAt, .int t_spot, .int t_here, .int t_token, .int t_value, .int t_isRealTold, .ref A_t_ends, .ref A_t_letters, .ref A_t_least, .ref A_t_conflicts, .int t_conflictMany, .ref A_t_behind, .ref A_t_placed, .ref A_t_isKept, .ref A_t_lanes, .ref A_t_lengths, .ref A_t_cells, .int t_torn])), (A_t_state, .inl (cy 1, 535, .inl t_state)), (A_t_least, .inl (cy 2, 100, .inr (.inl t_least_v3)))] := hD.sub [0, 1, 2] (by decide) rfl
            subst hQ
            subst hAe
            exact W.iret (v := r3) hx hb hr (fun t ht _ => ⟨⟨r3, t_least_v3, rfl, h, by rw [ht]; exact hP, hD⟩, hS.F ht⟩) hS.2.2 dX8_rule_76
          · replace h := h.2 hc4
            by_cases hc5 : x1 = (5 : Int32)
            · replace h := h.1 hc5
              refine lv_tableIn (tgt := 71) hx hb dX8_rule_1 (by rw [hc5]; decide) (by rw [hc5]; decide) (by rw [hc5]; rfl) (by decide) ?_
              refine lv_aload_n hx hb dX8_rule_71 rfl (lv_at hl 0 rfl) ?_
              refine lv_iload_n hx hb dX8_rule_72 rfl (lv_at hl 1 rfl) ?_
              have hPn : va_P D vwCl ([] ++ [(A_t, .inr (8, [.ref A_t_state, .ref A_t_tape, .int t_taped, .int t_fault, .int t_broken, .int t_brokenAt, .int t_spot, .int t_here, .int t_token, .int t_value, .int t_isRealTold, .ref A_t_ends, .ref A_t_letters, .ref A_t_least, .ref A_t_conflicts, .int t_conflictMany, .ref A_t_behind, .ref A_t_placed, .ref A_t_isKept, .ref A_t_lanes, .ref A_t_lengths, .ref A_t_cells, .int t_torn])), (A_t_state, .inl (cy 1, 535, .inl t_state)), (A_t_least, .inl (cy 2, 100, .inr (.inl t_least)))]) s.heap := hP.sub [0, 1, 2] rfl
              have hDn : va_D A ([] ++ [(A_t, .inr (8, [.ref A_t_state, .ref A_t_tape, .int t_taped, .int t_fault, .int t_broken, .int t_brokenAt, .int t_spot, .int t_here, .int t_token, .int t_value, .int t_isRealTold, .ref A_t_ends, .ref A_t_letters, .ref A_t_least, .ref A_t_conflicts, .int t_conflictMany, .ref A_t_behind, .ref A_t_placed, .ref A_t_isKept, .ref A_t_lanes, .ref A_t_lengths, .ref A_t_cells, .int t_torn])), (A_t_state, .inl (cy 1, 535, .inl t_state)), (A_t_least, .inl (cy 2, 100, .inr (.inl t_least)))]) := hD.sub [0, 1, 2] (by decide) rfl
              have hPc := gPR hPn
              have hDc := gDR hDn
              refine mw_i (va_runV (As := [.int x1]) (rest := []) CF (c_X8_ofBounds l D cy s.heap.size A_t A_t_state A_t_tape A_t_ends A_t_letters A_t_least A_t_conflicts A_t_behind A_t_placed A_t_isKept A_t_lanes A_t_lengths A_t_cells t_taped t_fault t_broken t_brokenAt t_spot t_here t_token t_value t_isRealTold t_conflictMany t_torn t_state t_least x1 _ h) (cwV 1 hts gX8_rule_X8_ofBounds rfl rfl rfl qX8_ofBounds ⟨Nat.le_of_ble_eq_true rfl, Nat.le_of_ble_eq_true rfl⟩) (mpVW hK hPc hDc (ci := 8) (q := (RX8, TX8, 23)) (q0 := 0) rfl rfl) rfl rfl hl.1 rfl (lv_room (Nat.le_of_ble_eq_true rfl)) dX8_rule_73 ⟨Nat.zero_le _, Nat.zero_le _⟩) hPn hDn hS hA (fun r4 t_least_v4 H locs h hP hD hS => ?_)
              have hP : va_P D vwCl [(A_t, .inr (8, [.ref A_t_state, .ref A_t_tape, .int t_taped, .int t_fault, .int t_broken, .int t_brokenAt, .int t_spot, .int t_here, .int t_token, .int t_value, .int t_isRealTold, .ref A_t_ends, .ref A_t_letters, .ref A_t_least, .ref A_t_conflicts, .int t_conflictMany, .ref A_t_behind, .ref A_t_placed, .ref A_t_isKept, .ref A_t_lanes, .ref A_t_lengths, .ref A_t_cells, .int t_torn])), (A_t_state, .inl (cy 1, 535, .inl t_state)), (A_t_least, .inl (cy 2, 100, .inr (.inl t_least_v4)))] H := hP.sub [0, 1, 2] rfl
              have hD : va_D A [(A_t, .inr (8, [.ref A_t_state, .ref A_t_tape, .int t_taped, .int t_fault, .int t_broken, .int t_brokenAt, .int t_spot, .int t_here, .int t_token, .int t_value, .int t_isRealTold, .ref A_t_ends, .ref A_t_letters, .ref A_t_least, .ref A_t_conflicts, .int t_conflictMany, .ref A_t_behind, .ref A_t_placed, .ref A_t_isKept, .ref A_t_lanes, .ref A_t_lengths, .ref A_t_cells, .int t_torn])), (A_t_state, .inl (cy 1, 535, .inl t_state)), (A_t_least, .inl (cy 2, 100, .inr (.inl t_least_v4)))] := hD.sub [0, 1, 2] (by decide) rfl
              subst hQ
              subst hAe
              exact W.iret (v := r4) hx hb hr (fun t ht _ => ⟨⟨r4, t_least_v4, rfl, h, by rw [ht]; exact hP, hD⟩, hS.F ht⟩) hS.2.2 dX8_rule_76
            · replace h := h.2 hc5
              by_cases hc6 : x1 = (6 : Int32)
              · replace h := h.1 hc6
                refine lv_tableIn (tgt := 77) hx hb dX8_rule_1 (by rw [hc6]; decide) (by rw [hc6]; decide) (by rw [hc6]; rfl) (by decide) ?_
                refine lv_aload_n hx hb dX8_rule_77 rfl (lv_at hl 0 rfl) ?_
                have hPn : va_P D vwCl ([] ++ [(A_t, .inr (8, [.ref A_t_state, .ref A_t_tape, .int t_taped, .int t_fault, .int t_broken, .int t_brokenAt, .int t_spot, .int t_here, .int t_token, .int t_value, .int t_isRealTold, .ref A_t_ends, .ref A_t_letters, .ref A_t_least, .ref A_t_conflicts, .int t_conflictMany, .ref A_t_behind, .ref A_t_placed, .ref A_t_isKept, .ref A_t_lanes, .ref A_t_lengths, .ref A_t_cells, .int t_torn])), (A_t_state, .inl (cy 1, 535, .inl t_state)), (A_t_least, .inl (cy 2, 100, .inr (.inl t_least)))]) s.heap := hP.sub [0, 1, 2] rfl
                have hDn : va_D A ([] ++ [(A_t, .inr (8, [.ref A_t_state, .ref A_t_tape, .int t_taped, .int t_fault, .int t_broken, .int t_brokenAt, .int t_spot, .int t_here, .int t_token, .int t_value, .int t_isRealTold, .ref A_t_ends, .ref A_t_letters, .ref A_t_least, .ref A_t_conflicts, .int t_conflictMany, .ref A_t_behind, .ref A_t_placed, .ref A_t_isKept, .ref A_t_lanes, .ref A_t_lengths, .ref A_t_cells, .int t_torn])), (A_t_state, .inl (cy 1, 535, .inl t_state)), (A_t_least, .inl (cy 2, 100, .inr (.inl t_least)))]) := hD.sub [0, 1, 2] (by decide) rfl
                have hPc := gPR hPn
                have hDc := gDR hDn
                refine mw_i (va_runV (As := []) (rest := []) CF (c_X8_groups l D cy s.heap.size A_t A_t_state A_t_tape A_t_ends A_t_letters A_t_least A_t_conflicts A_t_behind A_t_placed A_t_isKept A_t_lanes A_t_lengths A_t_cells t_taped t_fault t_broken t_brokenAt t_spot t_here t_token t_value t_isRealTold t_conflictMany t_torn t_state t_least _ h) (cwV 0 hts gX8_rule_X8_groups rfl rfl rfl qX8_groups ⟨Nat.le_of_ble_eq_true rfl, Nat.le_of_ble_eq_true rfl⟩) (mpVW hK hPc hDc (ci := 8) (q := (RX8, TX8, 23)) (q0 := 0) rfl rfl) rfl rfl hl.1 rfl (lv_room (Nat.le_of_ble_eq_true rfl)) dX8_rule_78 ⟨Nat.zero_le _, Nat.zero_le _⟩) hPn hDn hS hA (fun r5 t_least_v5 H locs h hP hD hS => ?_)
                have hP : va_P D vwCl [(A_t, .inr (8, [.ref A_t_state, .ref A_t_tape, .int t_taped, .int t_fault, .int t_broken, .int t_brokenAt, .int t_spot, .int t_here, .int t_token, .int t_value, .int t_isRealTold, .ref A_t_ends, .ref A_t_letters, .ref A_t_least, .ref A_t_conflicts, .int t_conflictMany, .ref A_t_behind, .ref A_t_placed, .ref A_t_isKept, .ref A_t_lanes, .ref A_t_lengths, .ref A_t_cells, .int t_torn])), (A_t_state, .inl (cy 1, 535, .inl t_state)), (A_t_least, .inl (cy 2, 100, .inr (.inl t_least_v5)))] H := hP.sub [0, 1, 2] rfl
                have hD : va_D A [(A_t, .inr (8, [.ref A_t_state, .ref A_t_tape, .int t_taped, .int t_fault, .int t_broken, .int t_brokenAt, .int t_spot, .int t_here, .int t_token, .int t_value, .int t_isRealTold, .ref A_t_ends, .ref A_t_letters, .ref A_t_least, .ref A_t_conflicts, .int t_conflictMany, .ref A_t_behind, .ref A_t_placed, .ref A_t_isKept, .ref A_t_lanes, .ref A_t_lengths, .ref A_t_cells, .int t_torn])), (A_t_state, .inl (cy 1, 535, .inl t_state)), (A_t_least, .inl (cy 2, 100, .inr (.inl t_least_v5)))] := hD.sub [0, 1, 2] (by decide) rfl
                subst hQ
                subst hAe
                exact W.iret (v := r5) hx hb hr (fun t ht _ => ⟨⟨r5, t_least_v5, rfl, h, by rw [ht]; exact hP, hD⟩, hS.F ht⟩) hS.2.2 dX8_rule_81
              · replace h := h.2 hc6
                by_cases hc7 : x1 = (7 : Int32)
                · replace h := h.1 hc7
                  refine lv_tableIn (tgt := 82) hx hb dX8_rule_1 (by rw [hc7]; decide) (by rw [hc7]; decide) (by rw [hc7]; rfl) (by decide) ?_
                  refine lv_aload_n hx hb dX8_rule_82 rfl (lv_at hl 0 rfl) ?_
                  refine va_get (D := D) (ci := 8) (v := .int t_conflictMany) (C := RX8) (T := TX8) (N := 23) hx hb hts iX8 hown hK.1 hP 0 rfl rfl 15 (by decide) f1 (fun _ h9 => h9) rfl dX8_rule_83 ?_
                  subst hQ
                  subst hAe
                  exact W.iret (v := t_conflictMany) hx hb hr (fun t ht _ => ⟨⟨t_conflictMany, t_least, rfl, h, by rw [ht]; exact hP, hD⟩, hS.F ht⟩) hS.2.2 dX8_rule_86
                · replace h := h.2 hc7
                  refine lv_tableOut (tgt := 87) hx hb dX8_rule_1 (tsw_out (n := 7) (by decide) (fun k hk => ?_)) (by decide) ?_
                  · rcases (show k = 0 ∨ k = 1 ∨ k = 2 ∨ k = 3 ∨ k = 4 ∨ k = 5 ∨ k = 6 ∨ k = 7 by omega) with rfl | rfl | rfl | rfl | rfl | rfl | rfl | rfl
                    · exact hc0
                    · exact hc1
                    · exact hc2
                    · exact hc3
                    · exact hc4
                    · exact hc5
                    · exact hc6
                    · exact hc7
                  · skip
                    refine lv_iconst (v := -1) hx hb dX8_rule_87 (by decide) ?_
                    subst hQ
                    subst hAe
                    exact W.iret (v := (-1 : Int32)) hx hb hr (fun t ht _ => ⟨⟨(-1 : Int32), t_least, rfl, h, by rw [ht]; exact hP, hD⟩, hS.F ht⟩) hS.2.2 dX8_rule_88
theorem qX8_ofPair : yX8_ofPair.cls = RX8 ∧ yX8_ofPair.cls ≠ "java/lang/invoke/MethodHandle" ∧ yX8_ofPair.cls ≠ "java/lang/invoke/VarHandle" ∧ (parseMethodDescriptor yX8_ofPair.desc).map (fun d => d.parameters.length) = some 1 := by decide +kernel
def B_X8_ofPair_31 (K_4 : Int32 → Int32 → Prop) (k0 : Int32) (k1 : Int32) (x3 : Int32) : Prop :=
  K_4 (k0 + k1) (x3 + (1 : Int32))
def LB_X8_ofPair_4 (post : Int32 → Prop) (t_state : Nat → Int32) (x1 : Int32) (K_4 : Int32 → Int32 → Prop) (x2 : Int32) (x3 : Int32) : Prop :=
  P_X8_many (fun (r1 : Int32) => ((r1 ≤ x3 → post x2) ∧ (¬ r1 ≤ x3 → P_X8_pairOf (fun (r2 : Int32) => P_X8_pairOf (fun (r3 : Int32) => ((¬ r2 = r3 → B_X8_ofPair_31 K_4 x2 (0 : Int32) x3) ∧ (r2 = r3 → B_X8_ofPair_31 K_4 x2 (1 : Int32) x3))) t_state x1) t_state x3))) t_state
noncomputable def L_X8_ofPair_4 (post : Int32 → Prop) (t_state : Nat → Int32) (x1 : Int32) (n : Nat) : Int32 → Int32 → Prop := Nat.rec (motive := fun _ => Int32 → Int32 → Prop) (fun _ _ => False) (fun _ K => LB_X8_ofPair_4 post t_state x1 K) n
def P_X8_ofPair (post : Int32 → Prop) (t_state : Nat → Int32) (x1 : Int32) : Prop :=
  ∃ n : Nat, L_X8_ofPair_4 post t_state x1 n (0 : Int32) (0 : Int32)
set_option maxHeartbeats 4000000 in
set_option maxRecDepth 100000 in
theorem c_X8_ofPair (l : Launch) (D : va_G) (cy : Nat → ClassId) (A_t A_t_state A_t_tape A_t_ends A_t_letters A_t_least A_t_conflicts A_t_behind A_t_placed A_t_isKept A_t_lanes A_t_lengths A_t_cells : Nat) (t_taped : Int32) (t_fault : Int32) (t_broken : Int32) (t_brokenAt : Int32) (t_spot : Int32) (t_here : Int32) (t_token : Int32) (t_value : Int32) (t_isRealTold : Int32) (t_conflictMany : Int32) (t_torn : Int32) (t_state : Nat → Int32) (x1 : Int32) (post : Int32 → Prop) (h : P_X8_ofPair post t_state x1) : Met l yX8_ofPair wsX8_ofPair { frames := 1, cells := 0, slots := 0, locals := 21 } (pcR D cy [(A_t, .inr (8, [.ref A_t_state, .ref A_t_tape, .int t_taped, .int t_fault, .int t_broken, .int t_brokenAt, .int t_spot, .int t_here, .int t_token, .int t_value, .int t_isRealTold, .ref A_t_ends, .ref A_t_letters, .ref A_t_least, .ref A_t_conflicts, .int t_conflictMany, .ref A_t_behind, .ref A_t_placed, .ref A_t_isKept, .ref A_t_lanes, .ref A_t_lengths, .ref A_t_cells, .int t_torn])), (A_t_state, .inl (cy 1, 535, .inl t_state))] [.ref A_t, .int x1]) (vp_Si post) 0 0 (fun _ => False) := by
  refine Met.ofW (cc := cX8_ofPair) (maxL := 4) (ret := (some .int)) (by decide) rfl ?_
  intro p e s m args below meth c s₁ B hml hv
  obtain ⟨rfl, hP, hK⟩ := hv
  have hx := B.exec
  have hb := B.bytes
  have hr := B.returns
  have hts := atoms_spec (ws := wsX8_ofPair) B.pre
  have hown : s.vm.findClass RX8 = some m.cls := findClass_of_methodNamed B.named
  have hlocks := B.notSynchronized
  have CF : CallFix p m c cX8_ofPair 4 s ([.ref A_t, .int x1] : List Value).toArray wsX8_ofPair RX8 := ⟨hx, hb, hml, hown, hts⟩
  have hl := lv_entry [.ref A_t, .int x1] (n := 4) (Nat.le_of_ble_eq_true rfl)
  rw [lg_entry_eq]
  generalize (lg_sl [.ref A_t, .int x1] ++ List.replicate (4 - (lg_sl [.ref A_t, .int x1]).length) Slot.unset).toArray = ls at hl ⊢
  have hl : lv_has ls 4 [(0, .ref A_t), (1, .int x1)] := hl
  refine W.gen (fun Q0 hQ => ?_)
  have L4 : ∀ (n4 : Nat) (x2 : Int32) (x3 : Int32) (ls : Array Slot), L_X8_ofPair_4 post t_state x1 n4 x2 x3 → lv_has ls 4 [(0, .ref A_t), (1, .int x1), (2, .int x2), (3, .int x3)] → W p l e (headSpec wsX8_ofPair { frames := 1, cells := 0, slots := 0, locals := 21 }).room s m ([.ref A_t, .int x1] : List Value).toArray below meth c s.heap [] 0 0 Q0 (F0 m 4 ls []) := by
    intro n4
    induction n4 with
    | zero => intro x2 x3 ls h; exact False.elim h
    | succ n4 ih4 =>
      intro x2 x3 ls h hl
      have h : LB_X8_ofPair_4 post t_state x1 (L_X8_ofPair_4 post t_state x1 n4) x2 x3 := h
      unfold LB_X8_ofPair_4 at h
      have J31 : ∀ (x3 : Int32) (k0 : Int32) (k1 : Int32) (ls : Array Slot), B_X8_ofPair_31 (L_X8_ofPair_4 post t_state x1 n4) k0 k1 x3 → lv_has ls 4 [(0, .ref A_t), (1, .int x1), (3, .int x3)] → W p l e (headSpec wsX8_ofPair { frames := 1, cells := 0, slots := 0, locals := 21 }).room s m ([.ref A_t, .int x1] : List Value).toArray below meth c s.heap [] 0 0 Q0 (F0 m 31 ls [.int k1, .int k0]) := by
        intro x3 k0 k1 ls h hl
        unfold B_X8_ofPair_31 at h
        refine lv_iadd hx hb dX8_ofPair_31 ?_
        refine lv_istore_n (lv' := [(2, .int (k0 + k1)), (0, .ref A_t), (1, .int x1), (3, .int x3)]) hx hb dX8_ofPair_32 rfl hl (by decide) rfl (fun ls hl => ?_)
        refine lv_iinc (v := x3 + (1 : Int32)) (lv' := [(3, .int (x3 + (1 : Int32))), (2, .int (k0 + k1)), (0, .ref A_t), (1, .int x1)]) hx hb dX8_ofPair_33 hl (k := 3) rfl rfl (by decide) rfl (fun ls hl => ?_)
        refine lv_goto (tgt := 4) hx hb dX8_ofPair_36 (by decide) ?_
        exact ih4 (k0 + k1) (x3 + (1 : Int32)) ls h (lv_sub hl [2, 3, 1, 0] rfl)
      refine lv_iload_n hx hb dX8_ofPair_4 rfl (lv_at hl 3 rfl) ?_
      refine lv_aload_n hx hb dX8_ofPair_5 rfl (lv_at hl 0 rfl) ?_
      have hPc := hP.sub (ws' := [(A_t, .inr (8, [.ref A_t_state, .ref A_t_tape, .int t_taped, .int t_fault, .int t_broken, .int t_brokenAt, .int t_spot, .int t_here, .int t_token, .int t_value, .int t_isRealTold, .ref A_t_ends, .ref A_t_letters, .ref A_t_least, .ref A_t_conflicts, .int t_conflictMany, .ref A_t_behind, .ref A_t_placed, .ref A_t_isKept, .ref A_t_lanes, .ref A_t_lengths, .ref A_t_cells, .int t_torn])), (A_t_state, .inl (cy 1, 535, .inl t_state))]) [0, 1] rfl
      refine vp_callSi (W.runV (As := []) (rest := [.int x3]) CF (c_X8_many l D cy A_t A_t_state A_t_tape A_t_ends A_t_letters A_t_least A_t_conflicts A_t_behind A_t_placed A_t_isKept A_t_lanes A_t_lengths A_t_cells t_taped t_fault t_broken t_brokenAt t_spot t_here t_token t_value t_isRealTold t_conflictMany t_torn t_state _ h) (cwV 0 hts gX8_ofPair_X8_many rfl rfl rfl qX8_many ⟨Nat.le_of_ble_eq_true rfl, Nat.le_of_ble_eq_true rfl⟩) (mpVR hK hPc (ci := 8) (q := (RX8, TX8, 23)) (q0 := 0) rfl rfl) rfl rfl hl.1 rfl (lv_room (Nat.le_of_ble_eq_true rfl)) dX8_ofPair_6 ⟨Nat.zero_le _, Nat.zero_le _⟩) (fun r1 h => ?_)
      refine lv_icmp_ge (tgt := 39) hx hb dX8_ofPair_9 (by decide) (fun hc => ?_) (fun hc => ?_)
      · replace h := h.1 hc
        refine lv_iload_n hx hb dX8_ofPair_39 rfl (lv_at hl 2 rfl) ?_
        subst hQ
        exact W.iret (v := x2) hx hb hr (fun t ht _ => ⟨x2, rfl, h, ht⟩) (fun _ hq => absurd hq List.not_mem_nil) dX8_ofPair_40
      · replace h := h.2 hc
        refine lv_iload_n hx hb dX8_ofPair_12 rfl (lv_at hl 2 rfl) ?_
        refine lv_aload_n hx hb dX8_ofPair_13 rfl (lv_at hl 0 rfl) ?_
        refine lv_iload_n hx hb dX8_ofPair_14 rfl (lv_at hl 3 rfl) ?_
        have hPc := hP.sub (ws' := [(A_t, .inr (8, [.ref A_t_state, .ref A_t_tape, .int t_taped, .int t_fault, .int t_broken, .int t_brokenAt, .int t_spot, .int t_here, .int t_token, .int t_value, .int t_isRealTold, .ref A_t_ends, .ref A_t_letters, .ref A_t_least, .ref A_t_conflicts, .int t_conflictMany, .ref A_t_behind, .ref A_t_placed, .ref A_t_isKept, .ref A_t_lanes, .ref A_t_lengths, .ref A_t_cells, .int t_torn])), (A_t_state, .inl (cy 1, 535, .inl t_state))]) [0, 1] rfl
        refine vp_callSi (W.runV (As := [.int x3]) (rest := [.int x2]) CF (c_X8_pairOf l D cy A_t A_t_state A_t_tape A_t_ends A_t_letters A_t_least A_t_conflicts A_t_behind A_t_placed A_t_isKept A_t_lanes A_t_lengths A_t_cells t_taped t_fault t_broken t_brokenAt t_spot t_here t_token t_value t_isRealTold t_conflictMany t_torn t_state x3 _ h) (cwV 1 hts gX8_ofPair_X8_pairOf rfl rfl rfl qX8_pairOf ⟨Nat.le_of_ble_eq_true rfl, Nat.le_of_ble_eq_true rfl⟩) (mpVR hK hPc (ci := 8) (q := (RX8, TX8, 23)) (q0 := 0) rfl rfl) rfl rfl hl.1 rfl (lv_room (Nat.le_of_ble_eq_true rfl)) dX8_ofPair_15 ⟨Nat.zero_le _, Nat.zero_le _⟩) (fun r2 h => ?_)
        refine lv_aload_n hx hb dX8_ofPair_18 rfl (lv_at hl 0 rfl) ?_
        refine lv_iload_n hx hb dX8_ofPair_19 rfl (lv_at hl 1 rfl) ?_
        have hPc := hP.sub (ws' := [(A_t, .inr (8, [.ref A_t_state, .ref A_t_tape, .int t_taped, .int t_fault, .int t_broken, .int t_brokenAt, .int t_spot, .int t_here, .int t_token, .int t_value, .int t_isRealTold, .ref A_t_ends, .ref A_t_letters, .ref A_t_least, .ref A_t_conflicts, .int t_conflictMany, .ref A_t_behind, .ref A_t_placed, .ref A_t_isKept, .ref A_t_lanes, .ref A_t_lengths, .ref A_t_cells, .int t_torn])), (A_t_state, .inl (cy 1, 535, .inl t_state))]) [0, 1] rfl
        refine vp_callSi (W.runV (As := [.int x1]) (rest := [.int r2, .int x2]) CF (c_X8_pairOf l D cy A_t A_t_state A_t_tape A_t_ends A_t_letters A_t_least A_t_conflicts A_t_behind A_t_placed A_t_isKept A_t_lanes A_t_lengths A_t_cells t_taped t_fault t_broken t_brokenAt t_spot t_here t_token t_value t_isRealTold t_conflictMany t_torn t_state x1 _ h) (cwV 1 hts gX8_ofPair_X8_pairOf rfl rfl rfl qX8_pairOf ⟨Nat.le_of_ble_eq_true rfl, Nat.le_of_ble_eq_true rfl⟩) (mpVR hK hPc (ci := 8) (q := (RX8, TX8, 23)) (q0 := 0) rfl rfl) rfl rfl hl.1 rfl (lv_room (Nat.le_of_ble_eq_true rfl)) dX8_ofPair_20 ⟨Nat.zero_le _, Nat.zero_le _⟩) (fun r3 h => ?_)
        refine lv_icmp_ne (tgt := 30) hx hb dX8_ofPair_23 (by decide) (fun hc => ?_) (fun hc => ?_)
        · replace h := h.1 hc
          refine lv_iconst (v := 0) hx hb dX8_ofPair_30 (by decide) ?_
          exact J31 x3 x2 (0 : Int32) ls h (lv_sub hl [0, 1, 3] rfl)
        · replace h := h.2 hc
          refine lv_iconst (v := 1) hx hb dX8_ofPair_26 (by decide) ?_
          refine lv_goto (tgt := 31) hx hb dX8_ofPair_27 (by decide) ?_
          exact J31 x3 x2 (1 : Int32) ls h (lv_sub hl [0, 1, 3] rfl)
  unfold P_X8_ofPair at h
  refine lv_iconst (v := 0) hx hb dX8_ofPair_0 (by decide) ?_
  refine lv_istore_n (lv' := [(2, .int (0 : Int32)), (0, .ref A_t), (1, .int x1)]) hx hb dX8_ofPair_1 rfl hl (by decide) rfl (fun ls hl => ?_)
  refine lv_iconst (v := 0) hx hb dX8_ofPair_2 (by decide) ?_
  refine lv_istore_n (lv' := [(3, .int (0 : Int32)), (2, .int (0 : Int32)), (0, .ref A_t), (1, .int x1)]) hx hb dX8_ofPair_3 rfl hl (by decide) rfl (fun ls hl => ?_)
  obtain ⟨nn, h⟩ := h
  exact L4 nn (0 : Int32) (0 : Int32) ls h (lv_sub hl [2, 3, 1, 0] rfl)
theorem qX8_bound : yX8_bound.cls = RX8 ∧ yX8_bound.cls ≠ "java/lang/invoke/MethodHandle" ∧ yX8_bound.cls ≠ "java/lang/invoke/VarHandle" ∧ (parseMethodDescriptor yX8_bound.desc).map (fun d => d.parameters.length) = some 2 := by decide +kernel
def P_X8_bound (post : Int32 → (Nat → Int64) → Prop) (t_state : Nat → Int32) (t_least : Nat → Int64) (x1 : Int32) (x2 : Int32) : Prop :=
  P_X8_isBound (fun (r1 : Int32) => ((¬ r1 = 0 → ((x2 = (0 : Int32) → (vp_in x1 535 ∧ post (t_state x1.toNatClampNeg) t_least)) ∧ (¬ x2 = (0 : Int32) → ((x2 = (1 : Int32) → (vp_in ((24 : Int32) + x1) 535 ∧ post (t_state ((24 : Int32) + x1).toNatClampNeg) t_least)) ∧ (¬ x2 = (1 : Int32) → ((x2 = (2 : Int32) → (vp_in ((72 : Int32) + x1) 535 ∧ post (t_state ((72 : Int32) + x1).toNatClampNeg) t_least)) ∧ (¬ x2 = (2 : Int32) → ((x2 = (3 : Int32) → P_X8_isNeedless (fun (r2 : Int32) (t_least_v2 : Nat → Int64) => ((r2 = 0 → post (0 : Int32) t_least_v2) ∧ (¬ r2 = 0 → post (1 : Int32) t_least_v2))) t_state t_least x1) ∧ (¬ x2 = (3 : Int32) → ((x2 = (4 : Int32) → P_X8_ofPair (fun (r3 : Int32) => post r3 t_least) t_state x1) ∧ (¬ x2 = (4 : Int32) → post (-1 : Int32) t_least))))))))))) ∧ (r1 = 0 → post (-1 : Int32) t_least))) t_state x1
set_option maxHeartbeats 4000000 in
set_option maxRecDepth 100000 in
theorem c_X8_bound (l : Launch) (D : va_G) (cy : Nat → ClassId) (sz : Nat) (A_t A_t_state A_t_tape A_t_ends A_t_letters A_t_least A_t_conflicts A_t_behind A_t_placed A_t_isKept A_t_lanes A_t_lengths A_t_cells : Nat) (t_taped : Int32) (t_fault : Int32) (t_broken : Int32) (t_brokenAt : Int32) (t_spot : Int32) (t_here : Int32) (t_token : Int32) (t_value : Int32) (t_isRealTold : Int32) (t_conflictMany : Int32) (t_torn : Int32) (t_state : Nat → Int32) (t_least : Nat → Int64) (x1 : Int32) (x2 : Int32) (post : Int32 → (Nat → Int64) → Prop) (h : P_X8_bound post t_state t_least x1 x2) : Met l yX8_bound wsX8_bound { frames := 4, cells := 0, slots := 0, locals := 93 } (pcW D cy [(A_t, .inr (8, [.ref A_t_state, .ref A_t_tape, .int t_taped, .int t_fault, .int t_broken, .int t_brokenAt, .int t_spot, .int t_here, .int t_token, .int t_value, .int t_isRealTold, .ref A_t_ends, .ref A_t_letters, .ref A_t_least, .ref A_t_conflicts, .int t_conflictMany, .ref A_t_behind, .ref A_t_placed, .ref A_t_isKept, .ref A_t_lanes, .ref A_t_lengths, .ref A_t_cells, .int t_torn])), (A_t_state, .inl (cy 1, 535, .inl t_state)), (A_t_least, .inl (cy 2, 100, .inr (.inl t_least)))] sz [.ref A_t, .int x1, .int x2]) (va_Qi (fun r (u : (Nat → Int64)) => post r u) (bW D [(A_t, .inr (8, [.ref A_t_state, .ref A_t_tape, .int t_taped, .int t_fault, .int t_broken, .int t_brokenAt, .int t_spot, .int t_here, .int t_token, .int t_value, .int t_isRealTold, .ref A_t_ends, .ref A_t_letters, .ref A_t_least, .ref A_t_conflicts, .int t_conflictMany, .ref A_t_behind, .ref A_t_placed, .ref A_t_isKept, .ref A_t_lanes, .ref A_t_lengths, .ref A_t_cells, .int t_torn])), (A_t_state, .inl (cy 1, 535, .inl t_state)), (A_t_least, .inl (cy 2, 100, .inr (.inl t_least)))] sz (fun u => [(A_t, .inr (8, [.ref A_t_state, .ref A_t_tape, .int t_taped, .int t_fault, .int t_broken, .int t_brokenAt, .int t_spot, .int t_here, .int t_token, .int t_value, .int t_isRealTold, .ref A_t_ends, .ref A_t_letters, .ref A_t_least, .ref A_t_conflicts, .int t_conflictMany, .ref A_t_behind, .ref A_t_placed, .ref A_t_isKept, .ref A_t_lanes, .ref A_t_lengths, .ref A_t_cells, .int t_torn])), (A_t_state, .inl (cy 1, 535, .inl t_state)), (A_t_least, .inl (cy 2, 100, .inr (.inl u)))])) (va_A [(A_t, .inr (8, [.ref A_t_state, .ref A_t_tape, .int t_taped, .int t_fault, .int t_broken, .int t_brokenAt, .int t_spot, .int t_here, .int t_token, .int t_value, .int t_isRealTold, .ref A_t_ends, .ref A_t_letters, .ref A_t_least, .ref A_t_conflicts, .int t_conflictMany, .ref A_t_behind, .ref A_t_placed, .ref A_t_isKept, .ref A_t_lanes, .ref A_t_lengths, .ref A_t_cells, .int t_torn])), (A_t_state, .inl (cy 1, 535, .inl t_state)), (A_t_least, .inl (cy 2, 100, .inr (.inl t_least)))] sz)) 0 0 (va_A [(A_t, .inr (8, [.ref A_t_state, .ref A_t_tape, .int t_taped, .int t_fault, .int t_broken, .int t_brokenAt, .int t_spot, .int t_here, .int t_token, .int t_value, .int t_isRealTold, .ref A_t_ends, .ref A_t_letters, .ref A_t_least, .ref A_t_conflicts, .int t_conflictMany, .ref A_t_behind, .ref A_t_placed, .ref A_t_isKept, .ref A_t_lanes, .ref A_t_lengths, .ref A_t_cells, .int t_torn])), (A_t_state, .inl (cy 1, 535, .inl t_state)), (A_t_least, .inl (cy 2, 100, .inr (.inl t_least)))] sz) := by
  refine Met.ofW (cc := cX8_bound) (maxL := 3) (ret := (some .int)) (by decide) rfl ?_
  intro p e s m args below meth c s₁ B hml hv
  obtain ⟨rfl, hsz, hP, hK, hD0⟩ := hv
  have hx := B.exec
  have hb := B.bytes
  have hr := B.returns
  have hts := atoms_spec (ws := wsX8_bound) B.pre
  have hown : s.vm.findClass RX8 = some m.cls := findClass_of_methodNamed B.named
  have hlocks := B.notSynchronized
  have CF : CallFix p m c cX8_bound 3 s ([.ref A_t, .int x1, .int x2] : List Value).toArray wsX8_bound RX8 := ⟨hx, hb, hml, hown, hts⟩
  have f0 := hts (.fieldLink RX8 7 "GapBoundsModel" "state" "[I") (by decide +kernel)
  have iX8 : ∀ w ∈ u_ws RX8 TX8 23, w ∈ wsX8_bound := by decide +kernel
  subst hsz
  obtain ⟨A, hAe⟩ : ∃ A, A = va_A [(A_t, .inr (8, [.ref A_t_state, .ref A_t_tape, .int t_taped, .int t_fault, .int t_broken, .int t_brokenAt, .int t_spot, .int t_here, .int t_token, .int t_value, .int t_isRealTold, .ref A_t_ends, .ref A_t_letters, .ref A_t_least, .ref A_t_conflicts, .int t_conflictMany, .ref A_t_behind, .ref A_t_placed, .ref A_t_isKept, .ref A_t_lanes, .ref A_t_lengths, .ref A_t_cells, .int t_torn])), (A_t_state, .inl (cy 1, 535, .inl t_state)), (A_t_least, .inl (cy 2, 100, .inr (.inl t_least)))] s.heap.size := ⟨_, rfl⟩
  have hD : va_D A [(A_t, .inr (8, [.ref A_t_state, .ref A_t_tape, .int t_taped, .int t_fault, .int t_broken, .int t_brokenAt, .int t_spot, .int t_here, .int t_token, .int t_value, .int t_isRealTold, .ref A_t_ends, .ref A_t_letters, .ref A_t_least, .ref A_t_conflicts, .int t_conflictMany, .ref A_t_behind, .ref A_t_placed, .ref A_t_isKept, .ref A_t_lanes, .ref A_t_lengths, .ref A_t_cells, .int t_torn])), (A_t_state, .inl (cy 1, 535, .inl t_state)), (A_t_least, .inl (cy 2, 100, .inr (.inl t_least)))] := by rw [hAe]; exact hD0.self
  have hA : ∀ q : Nat, s.heap.size ≤ q → A q := fun q hq => by rw [hAe]; exact Or.inr hq
  have hS : va_S A s.heap s.heap [] := va_S.rf
  have hl := lv_entry [.ref A_t, .int x1, .int x2] (n := 3) (Nat.le_of_ble_eq_true rfl)
  rw [lg_entry_eq]
  generalize (lg_sl [.ref A_t, .int x1, .int x2] ++ List.replicate (3 - (lg_sl [.ref A_t, .int x1, .int x2]).length) Slot.unset).toArray = ls at hl ⊢
  have hl : lv_has ls 3 [(0, .ref A_t), (1, .int x1), (2, .int x2)] := hl
  refine W.gen (fun Q0 hQ => ?_)
  unfold P_X8_bound at h
  refine lv_aload_n hx hb dX8_bound_0 rfl (lv_at hl 0 rfl) ?_
  refine lv_iload_n hx hb dX8_bound_1 rfl (lv_at hl 1 rfl) ?_
  have hPc := hP.sub (ws' := [(A_t, .inr (8, [.ref A_t_state, .ref A_t_tape, .int t_taped, .int t_fault, .int t_broken, .int t_brokenAt, .int t_spot, .int t_here, .int t_token, .int t_value, .int t_isRealTold, .ref A_t_ends, .ref A_t_letters, .ref A_t_least, .ref A_t_conflicts, .int t_conflictMany, .ref A_t_behind, .ref A_t_placed, .ref A_t_isKept, .ref A_t_lanes, .ref A_t_lengths, .ref A_t_cells, .int t_torn])), (A_t_state, .inl (cy 1, 535, .inl t_state))]) [0, 1] rfl
  refine vp_callSi (W.runV (As := [.int x1]) (rest := []) CF (c_X8_isBound l D cy A_t A_t_state A_t_tape A_t_ends A_t_letters A_t_least A_t_conflicts A_t_behind A_t_placed A_t_isKept A_t_lanes A_t_lengths A_t_cells t_taped t_fault t_broken t_brokenAt t_spot t_here t_token t_value t_isRealTold t_conflictMany t_torn t_state x1 _ h) (cwV 1 hts gX8_bound_X8_isBound rfl rfl rfl qX8_isBound ⟨Nat.le_of_ble_eq_true rfl, Nat.le_of_ble_eq_true rfl⟩) (mpVR hK hPc (ci := 8) (q := (RX8, TX8, 23)) (q0 := 0) rfl rfl) rfl rfl hl.1 rfl (lv_room (Nat.le_of_ble_eq_true rfl)) dX8_bound_2 ⟨Nat.zero_le _, Nat.zero_le _⟩) (fun r1 h => ?_)
  refine lv_if_ne (tgt := 10) hx hb dX8_bound_5 (by decide) (fun hc => ?_) (fun hc => ?_)
  · replace h := h.1 hc
    refine lv_iload_n hx hb dX8_bound_10 rfl (lv_at hl 2 rfl) ?_
    by_cases hc0 : x2 = (0 : Int32)
    · replace h := h.1 hc0
      refine lv_tableIn (tgt := 44) hx hb dX8_bound_11 (by rw [hc0]; decide) (by rw [hc0]; decide) (by rw [hc0]; rfl) (by decide) ?_
      refine lv_aload_n hx hb dX8_bound_44 rfl (lv_at hl 0 rfl) ?_
      refine va_get (D := D) (ci := 8) (v := .ref A_t_state) (C := RX8) (T := TX8) (N := 23) hx hb hts iX8 hown hK.1 hP 0 rfl rfl 0 (by decide) f0 (fun _ h9 => h9) rfl dX8_bound_45 ?_
      refine lv_iload_n hx hb dX8_bound_48 rfl (lv_at hl 1 rfl) ?_
      refine va_iald hx hb hK.1 hP 1 1 rfl rfl h.1 dX8_bound_49 ?_
      replace h := h.2
      subst hQ
      subst hAe
      exact W.iret (v := t_state x1.toNatClampNeg) hx hb hr (fun t ht _ => ⟨⟨t_state x1.toNatClampNeg, t_least, rfl, h, by rw [ht]; exact hP, hD⟩, hS.F ht⟩) hS.2.2 dX8_bound_50
    · replace h := h.2 hc0
      by_cases hc1 : x2 = (1 : Int32)
      · replace h := h.1 hc1
        refine lv_tableIn (tgt := 51) hx hb dX8_bound_11 (by rw [hc1]; decide) (by rw [hc1]; decide) (by rw [hc1]; rfl) (by decide) ?_
        refine lv_aload_n hx hb dX8_bound_51 rfl (lv_at hl 0 rfl) ?_
        refine va_get (D := D) (ci := 8) (v := .ref A_t_state) (C := RX8) (T := TX8) (N := 23) hx hb hts iX8 hown hK.1 hP 0 rfl rfl 0 (by decide) f0 (fun _ h9 => h9) rfl dX8_bound_52 ?_
        refine lv_bipush (v := 24) hx hb dX8_bound_55 (by decide) ?_
        refine lv_iload_n hx hb dX8_bound_57 rfl (lv_at hl 1 rfl) ?_
        refine lv_iadd hx hb dX8_bound_58 ?_
        refine va_iald hx hb hK.1 hP 1 1 rfl rfl h.1 dX8_bound_59 ?_
        replace h := h.2
        subst hQ
        subst hAe
        exact W.iret (v := t_state ((24 : Int32) + x1).toNatClampNeg) hx hb hr (fun t ht _ => ⟨⟨t_state ((24 : Int32) + x1).toNatClampNeg, t_least, rfl, h, by rw [ht]; exact hP, hD⟩, hS.F ht⟩) hS.2.2 dX8_bound_60
      · replace h := h.2 hc1
        by_cases hc2 : x2 = (2 : Int32)
        · replace h := h.1 hc2
          refine lv_tableIn (tgt := 61) hx hb dX8_bound_11 (by rw [hc2]; decide) (by rw [hc2]; decide) (by rw [hc2]; rfl) (by decide) ?_
          refine lv_aload_n hx hb dX8_bound_61 rfl (lv_at hl 0 rfl) ?_
          refine va_get (D := D) (ci := 8) (v := .ref A_t_state) (C := RX8) (T := TX8) (N := 23) hx hb hts iX8 hown hK.1 hP 0 rfl rfl 0 (by decide) f0 (fun _ h9 => h9) rfl dX8_bound_62 ?_
          refine lv_bipush (v := 72) hx hb dX8_bound_65 (by decide) ?_
          refine lv_iload_n hx hb dX8_bound_67 rfl (lv_at hl 1 rfl) ?_
          refine lv_iadd hx hb dX8_bound_68 ?_
          refine va_iald hx hb hK.1 hP 1 1 rfl rfl h.1 dX8_bound_69 ?_
          replace h := h.2
          subst hQ
          subst hAe
          exact W.iret (v := t_state ((72 : Int32) + x1).toNatClampNeg) hx hb hr (fun t ht _ => ⟨⟨t_state ((72 : Int32) + x1).toNatClampNeg, t_least, rfl, h, by rw [ht]; exact hP, hD⟩, hS.F ht⟩) hS.2.2 dX8_bound_70
        · replace h := h.2 hc2
          by_cases hc3 : x2 = (3 : Int32)
          · replace h := h.1 hc3
            refine lv_tableIn (tgt := 71) hx hb dX8_bound_11 (by rw [hc3]; decide) (by rw [hc3]; decide) (by rw [hc3]; rfl) (by decide) ?_
            refine lv_aload_n hx hb dX8_bound_71 rfl (lv_at hl 0 rfl) ?_
            refine lv_iload_n hx hb dX8_bound_72 rfl (lv_at hl 1 rfl) ?_
            have hPn : va_P D vwCl ([] ++ [(A_t, .inr (8, [.ref A_t_state, .ref A_t_tape, .int t_taped, .int t_fault, .int t_broken, .int t_brokenAt, .int t_spot, .int t_here, .int t_token, .int t_value, .int t_isRealTold, .ref A_t_ends, .ref A_t_letters, .ref A_t_least, .ref A_t_conflicts, .int t_conflictMany, .ref A_t_behind, .ref A_t_placed, .ref A_t_isKept, .ref A_t_lanes, .ref A_t_lengths, .ref A_t_cells, .int t_torn])), (A_t_state, .inl (cy 1, 535, .inl t_state)), (A_t_least, .inl (cy 2, 100, .inr (.inl t_least)))]) s.heap := hP.sub [0, 1, 2] rfl
            have hDn : va_D A ([] ++ [(A_t, .inr (8, [.ref A_t_state, .ref A_t_tape, .int t_taped, .int t_fault, .int t_broken, .int t_brokenAt, .int t_spot, .int t_here, .int t_token, .int t_value, .int t_isRealTold, .ref A_t_ends, .ref A_t_letters, .ref A_t_least, .ref A_t_conflicts, .int t_conflictMany, .ref A_t_behind, .ref A_t_placed, .ref A_t_isKept, .ref A_t_lanes, .ref A_t_lengths, .ref A_t_cells, .int t_torn])), (A_t_state, .inl (cy 1, 535, .inl t_state)), (A_t_least, .inl (cy 2, 100, .inr (.inl t_least)))]) := hD.sub [0, 1, 2] (by decide) rfl
            have hPc := gPR hPn
            have hDc := gDR hDn
            refine mw_i (va_runV (As := [.int x1]) (rest := []) CF (c_X8_isNeedless l D cy s.heap.size A_t A_t_state A_t_tape A_t_ends A_t_letters A_t_least A_t_conflicts A_t_behind A_t_placed A_t_isKept A_t_lanes A_t_lengths A_t_cells t_taped t_fault t_broken t_brokenAt t_spot t_here t_token t_value t_isRealTold t_conflictMany t_torn t_state t_least x1 _ h) (cwV 1 hts gX8_bound_X8_isNeedless rfl rfl rfl qX8_isNeedless ⟨Nat.le_of_ble_eq_true rfl, Nat.le_of_ble_eq_true rfl⟩) (mpVW hK hPc hDc (ci := 8) (q := (RX8, TX8, 23)) (q0 := 0) rfl rfl) rfl rfl hl.1 rfl (lv_room (Nat.le_of_ble_eq_true rfl)) dX8_bound_73 ⟨Nat.zero_le _, Nat.zero_le _⟩) hPn hDn hS hA (fun r2 t_least_v2 H locs h hP hD hS => ?_)
            have hP : va_P D vwCl [(A_t, .inr (8, [.ref A_t_state, .ref A_t_tape, .int t_taped, .int t_fault, .int t_broken, .int t_brokenAt, .int t_spot, .int t_here, .int t_token, .int t_value, .int t_isRealTold, .ref A_t_ends, .ref A_t_letters, .ref A_t_least, .ref A_t_conflicts, .int t_conflictMany, .ref A_t_behind, .ref A_t_placed, .ref A_t_isKept, .ref A_t_lanes, .ref A_t_lengths, .ref A_t_cells, .int t_torn])), (A_t_state, .inl (cy 1, 535, .inl t_state)), (A_t_least, .inl (cy 2, 100, .inr (.inl t_least_v2)))] H := hP.sub [0, 1, 2] rfl
            have hD : va_D A [(A_t, .inr (8, [.ref A_t_state, .ref A_t_tape, .int t_taped, .int t_fault, .int t_broken, .int t_brokenAt, .int t_spot, .int t_here, .int t_token, .int t_value, .int t_isRealTold, .ref A_t_ends, .ref A_t_letters, .ref A_t_least, .ref A_t_conflicts, .int t_conflictMany, .ref A_t_behind, .ref A_t_placed, .ref A_t_isKept, .ref A_t_lanes, .ref A_t_lengths, .ref A_t_cells, .int t_torn])), (A_t_state, .inl (cy 1, 535, .inl t_state)), (A_t_least, .inl (cy 2, 100, .inr (.inl t_least_v2)))] := hD.sub [0, 1, 2] (by decide) rfl
            refine lv_if_eq (tgt := 83) hx hb dX8_bound_76 (by decide) (fun hc => ?_) (fun hc => ?_)
            · replace h := h.1 hc
              refine lv_iconst (v := 0) hx hb dX8_bound_83 (by decide) ?_
              subst hQ
              subst hAe
              exact W.iret (v := (0 : Int32)) hx hb hr (fun t ht _ => ⟨⟨(0 : Int32), t_least_v2, rfl, h, by rw [ht]; exact hP, hD⟩, hS.F ht⟩) hS.2.2 dX8_bound_84
            · replace h := h.2 hc
              refine lv_iconst (v := 1) hx hb dX8_bound_79 (by decide) ?_
              refine lv_goto (tgt := 84) hx hb dX8_bound_80 (by decide) ?_
              subst hQ
              subst hAe
              exact W.iret (v := (1 : Int32)) hx hb hr (fun t ht _ => ⟨⟨(1 : Int32), t_least_v2, rfl, h, by rw [ht]; exact hP, hD⟩, hS.F ht⟩) hS.2.2 dX8_bound_84
          · replace h := h.2 hc3
            by_cases hc4 : x2 = (4 : Int32)
            · replace h := h.1 hc4
              refine lv_tableIn (tgt := 85) hx hb dX8_bound_11 (by rw [hc4]; decide) (by rw [hc4]; decide) (by rw [hc4]; rfl) (by decide) ?_
              refine lv_aload_n hx hb dX8_bound_85 rfl (lv_at hl 0 rfl) ?_
              refine lv_iload_n hx hb dX8_bound_86 rfl (lv_at hl 1 rfl) ?_
              have hPc := hP.sub (ws' := [(A_t, .inr (8, [.ref A_t_state, .ref A_t_tape, .int t_taped, .int t_fault, .int t_broken, .int t_brokenAt, .int t_spot, .int t_here, .int t_token, .int t_value, .int t_isRealTold, .ref A_t_ends, .ref A_t_letters, .ref A_t_least, .ref A_t_conflicts, .int t_conflictMany, .ref A_t_behind, .ref A_t_placed, .ref A_t_isKept, .ref A_t_lanes, .ref A_t_lengths, .ref A_t_cells, .int t_torn])), (A_t_state, .inl (cy 1, 535, .inl t_state))]) [0, 1] rfl
              refine vp_callSi (W.runV (As := [.int x1]) (rest := []) CF (c_X8_ofPair l D cy A_t A_t_state A_t_tape A_t_ends A_t_letters A_t_least A_t_conflicts A_t_behind A_t_placed A_t_isKept A_t_lanes A_t_lengths A_t_cells t_taped t_fault t_broken t_brokenAt t_spot t_here t_token t_value t_isRealTold t_conflictMany t_torn t_state x1 _ h) (cwV 1 hts gX8_bound_X8_ofPair rfl rfl rfl qX8_ofPair ⟨Nat.le_of_ble_eq_true rfl, Nat.le_of_ble_eq_true rfl⟩) (mpVR hK hPc (ci := 8) (q := (RX8, TX8, 23)) (q0 := 0) rfl rfl) rfl rfl hl.1 rfl (lv_room (Nat.le_of_ble_eq_true rfl)) dX8_bound_87 ⟨Nat.zero_le _, Nat.zero_le _⟩) (fun r3 h => ?_)
              subst hQ
              subst hAe
              exact W.iret (v := r3) hx hb hr (fun t ht _ => ⟨⟨r3, t_least, rfl, h, by rw [ht]; exact hP, hD⟩, hS.F ht⟩) hS.2.2 dX8_bound_90
            · replace h := h.2 hc4
              refine lv_tableOut (tgt := 91) hx hb dX8_bound_11 (tsw_out (n := 4) (by decide) (fun k hk => ?_)) (by decide) ?_
              · rcases (show k = 0 ∨ k = 1 ∨ k = 2 ∨ k = 3 ∨ k = 4 by omega) with rfl | rfl | rfl | rfl | rfl
                · exact hc0
                · exact hc1
                · exact hc2
                · exact hc3
                · exact hc4
              · skip
                refine lv_iconst (v := -1) hx hb dX8_bound_91 (by decide) ?_
                subst hQ
                subst hAe
                exact W.iret (v := (-1 : Int32)) hx hb hr (fun t ht _ => ⟨⟨(-1 : Int32), t_least, rfl, h, by rw [ht]; exact hP, hD⟩, hS.F ht⟩) hS.2.2 dX8_bound_92
  · replace h := h.2 hc
    refine lv_iconst (v := -1) hx hb dX8_bound_8 (by decide) ?_
    subst hQ
    subst hAe
    exact W.iret (v := (-1 : Int32)) hx hb hr (fun t ht _ => ⟨⟨(-1 : Int32), t_least, rfl, h, by rw [ht]; exact hP, hD⟩, hS.F ht⟩) hS.2.2 dX8_bound_9
