theorem qX1_fail : yX1_fail.cls = RX1 ∧ yX1_fail.cls ≠ "java/lang/invoke/MethodHandle" ∧ yX1_fail.cls ≠ "java/lang/invoke/VarHandle" ∧ (parseMethodDescriptor yX1_fail.desc).map (fun d => d.parameters.length) = some 2 := by decide +kernel
def P_X1_fail (post : Int32 → Int32 → Prop) (t_wrong : Int32) (t_wrongAt : Int32) (x1 : Int32) (x2 : Int32) : Prop :=
  ((¬ t_wrong = 0 → post t_wrong t_wrongAt) ∧ (t_wrong = 0 → post x1 x2))
set_option maxHeartbeats 4000000 in
set_option maxRecDepth 100000 in
theorem c_X1_fail (l : Launch) (D : va_G) (cy : Nat → ClassId) (sz : Nat) (A_t A_t_tape A_t_draft : Nat) (t_wrong : Int32) (t_wrongAt : Int32) (t_lines : Int32) (t_kind : Int32) (t_at : Int32) (t_behind : Int32) (x1 : Int32) (x2 : Int32) (post : Int32 → Int32 → Prop) (h : P_X1_fail post t_wrong t_wrongAt x1 x2) : Met l yX1_fail wsX1_fail { frames := 0, cells := 0, slots := 0, locals := 0 } (pcW D cy [(A_t, .inr (1, [.ref A_t_tape, .ref A_t_draft, .int t_wrong, .int t_wrongAt, .int t_lines, .int t_kind, .int t_at, .int t_behind]))] sz [.ref A_t, .int x1, .int x2]) (va_Qv (fun (u : Int32 × Int32) => post u.1 u.2) (bW D [(A_t, .inr (1, [.ref A_t_tape, .ref A_t_draft, .int t_wrong, .int t_wrongAt, .int t_lines, .int t_kind, .int t_at, .int t_behind]))] sz (fun u => [(A_t, .inr (1, [.ref A_t_tape, .ref A_t_draft, .int (u.1), .int (u.2), .int t_lines, .int t_kind, .int t_at, .int t_behind]))])) (va_A [(A_t, .inr (1, [.ref A_t_tape, .ref A_t_draft, .int t_wrong, .int t_wrongAt, .int t_lines, .int t_kind, .int t_at, .int t_behind]))] sz)) 0 0 (va_A [(A_t, .inr (1, [.ref A_t_tape, .ref A_t_draft, .int t_wrong, .int t_wrongAt, .int t_lines, .int t_kind, .int t_at, .int t_behind]))] sz) := by
  refine Met.ofW (cc := cX1_fail) (maxL := 3) (ret := none) (by decide) rfl ?_
  intro p e s m args below meth c s₁ B hml hv
  obtain ⟨rfl, hsz, hP, hK, hD0⟩ := hv
  have hx := B.exec
  have hb := B.bytes
  have hr := B.returns
  have hts := atoms_spec (ws := wsX1_fail) B.pre
  have hown : s.vm.findClass RX1 = some m.cls := findClass_of_methodNamed B.named
  have hlocks := B.notSynchronized
  have CF : CallFix p m c cX1_fail 3 s ([.ref A_t, .int x1, .int x2] : List Value).toArray wsX1_fail RX1 := ⟨hx, hb, hml, hown, hts⟩
  have f0 := hts (.fieldLink RX1 28 "GapBounds$Reader" "wrong" "I") (by decide +kernel)
  have f1 := hts (.fieldLink RX1 32 "GapBounds$Reader" "wrongAt" "I") (by decide +kernel)
  have iX1 : ∀ w ∈ u_ws RX1 TX1 8, w ∈ wsX1_fail := by decide +kernel
  subst hsz
  obtain ⟨A, hAe⟩ : ∃ A, A = va_A [(A_t, .inr (1, [.ref A_t_tape, .ref A_t_draft, .int t_wrong, .int t_wrongAt, .int t_lines, .int t_kind, .int t_at, .int t_behind]))] s.heap.size := ⟨_, rfl⟩
  have hD : va_D A [(A_t, .inr (1, [.ref A_t_tape, .ref A_t_draft, .int t_wrong, .int t_wrongAt, .int t_lines, .int t_kind, .int t_at, .int t_behind]))] := by rw [hAe]; exact hD0.self
  have hA : ∀ q : Nat, s.heap.size ≤ q → A q := fun q hq => by rw [hAe]; exact Or.inr hq
  have hS : va_S A s.heap s.heap [] := va_S.rf
  have hl := lv_entry [.ref A_t, .int x1, .int x2] (n := 3) (Nat.le_of_ble_eq_true rfl)
  rw [lg_entry_eq]
  generalize (lg_sl [.ref A_t, .int x1, .int x2] ++ List.replicate (3 - (lg_sl [.ref A_t, .int x1, .int x2]).length) Slot.unset).toArray = ls at hl ⊢
  have hl : lv_has ls 3 [(0, .ref A_t), (1, .int x1), (2, .int x2)] := hl
  refine W.gen (fun Q0 hQ => ?_)
  unfold P_X1_fail at h
  refine lv_aload_n hx hb dX1_fail_0 rfl (lv_at hl 0 rfl) ?_
  refine va_get (D := D) (ci := 1) (v := .int t_wrong) (C := RX1) (T := TX1) (N := 8) hx hb hts iX1 hown hK.1 hP 0 rfl rfl 2 (by decide) f0 (fun _ h9 => h9) rfl dX1_fail_1 ?_
  refine lv_if_ne (tgt := 17) hx hb dX1_fail_4 (by decide) (fun hc => ?_) (fun hc => ?_)
  · replace h := h.1 hc
    subst hQ
    subst hAe
    exact W.vret hx hb hr (fun t ht _ => ⟨⟨(t_wrong, t_wrongAt), rfl, h, by rw [ht]; exact hP, hD⟩, hS.F ht⟩) hS.2.2 dX1_fail_17
  · replace h := h.2 hc
    refine lv_aload_n hx hb dX1_fail_7 rfl (lv_at hl 0 rfl) ?_
    refine lv_iload_n hx hb dX1_fail_8 rfl (lv_at hl 1 rfl) ?_
    refine va_put (D := D) (ci := 1) (v := .int x1) (ty := .int) (C := RX1) (T := TX1) (N := 8) hx hb hts iX1 tyX1 tyX1_ok nmX1 hown hK.1 hP hD hS 0 rfl rfl 2 (by decide) f0 (fun _ h9 => h9) rfl (tyX1_ok 2 (by decide)) rfl rfl (Nat.le_of_ble_eq_true rfl) dX1_fail_9 (fun H locs hP hD hS => ?_)
    have hP : va_P D vwCl [(A_t, .inr (1, [.ref A_t_tape, .ref A_t_draft, .int x1, .int t_wrongAt, .int t_lines, .int t_kind, .int t_at, .int t_behind]))] H := hP
    have hD : va_D A [(A_t, .inr (1, [.ref A_t_tape, .ref A_t_draft, .int x1, .int t_wrongAt, .int t_lines, .int t_kind, .int t_at, .int t_behind]))] := hD
    refine lv_aload_n hx hb dX1_fail_12 rfl (lv_at hl 0 rfl) ?_
    refine lv_iload_n hx hb dX1_fail_13 rfl (lv_at hl 2 rfl) ?_
    refine va_put (D := D) (ci := 1) (v := .int x2) (ty := .int) (C := RX1) (T := TX1) (N := 8) hx hb hts iX1 tyX1 tyX1_ok nmX1 hown hK.1 hP hD hS 0 rfl rfl 3 (by decide) f1 (fun _ h9 => h9) rfl (tyX1_ok 3 (by decide)) rfl rfl (Nat.le_of_ble_eq_true rfl) dX1_fail_14 (fun H locs hP hD hS => ?_)
    have hP : va_P D vwCl [(A_t, .inr (1, [.ref A_t_tape, .ref A_t_draft, .int x1, .int x2, .int t_lines, .int t_kind, .int t_at, .int t_behind]))] H := hP
    have hD : va_D A [(A_t, .inr (1, [.ref A_t_tape, .ref A_t_draft, .int x1, .int x2, .int t_lines, .int t_kind, .int t_at, .int t_behind]))] := hD
    subst hQ
    subst hAe
    exact W.vret hx hb hr (fun t ht _ => ⟨⟨(x1, x2), rfl, h, by rw [ht]; exact hP, hD⟩, hS.F ht⟩) hS.2.2 dX1_fail_17
theorem qX1_byteAt : yX1_byteAt.cls = RX1 ∧ yX1_byteAt.cls ≠ "java/lang/invoke/MethodHandle" ∧ yX1_byteAt.cls ≠ "java/lang/invoke/VarHandle" ∧ (parseMethodDescriptor yX1_byteAt.desc).map (fun d => d.parameters.length) = some 1 := by decide +kernel
def P_X1_byteAt (post : Int32 → Prop) (t_tape_size : Int32) (t_tape_bytes : Nat → Int32) (x1 : Int32) : Prop :=
  ((x1 < 0 → post (-4 : Int32)) ∧ (¬ x1 < 0 → ((t_tape_size ≤ x1 → post (-4 : Int32)) ∧ (¬ t_tape_size ≤ x1 → (vp_in x1 320 ∧ post (t_tape_bytes x1.toNatClampNeg))))))
set_option maxHeartbeats 4000000 in
set_option maxRecDepth 100000 in
theorem c_X1_byteAt (l : Launch) (D : va_G) (cy : Nat → ClassId) (A_t A_t_tape A_t_draft A_t_tape_bytes : Nat) (t_wrong : Int32) (t_wrongAt : Int32) (t_lines : Int32) (t_kind : Int32) (t_at : Int32) (t_behind : Int32) (t_tape_size : Int32) (t_tape_bytes : Nat → Int32) (x1 : Int32) (post : Int32 → Prop) (h : P_X1_byteAt post t_tape_size t_tape_bytes x1) : Met l yX1_byteAt wsX1_byteAt { frames := 0, cells := 0, slots := 0, locals := 0 } (pcR D cy [(A_t, .inr (1, [.ref A_t_tape, .ref A_t_draft, .int t_wrong, .int t_wrongAt, .int t_lines, .int t_kind, .int t_at, .int t_behind])), (A_t_tape, .inr (6, [.ref A_t_tape_bytes, .int t_tape_size])), (A_t_tape_bytes, .inl (cy 0, 320, .inl t_tape_bytes))] [.ref A_t, .int x1]) (vp_Si post) 0 0 (fun _ => False) := by
  refine Met.ofW (cc := cX1_byteAt) (maxL := 2) (ret := (some .int)) (by decide) rfl ?_
  intro p e s m args below meth c s₁ B hml hv
  obtain ⟨rfl, hP, hK⟩ := hv
  have hx := B.exec
  have hb := B.bytes
  have hr := B.returns
  have hts := atoms_spec (ws := wsX1_byteAt) B.pre
  have hown : s.vm.findClass RX1 = some m.cls := findClass_of_methodNamed B.named
  have hlocks := B.notSynchronized
  have CF : CallFix p m c cX1_byteAt 2 s ([.ref A_t, .int x1] : List Value).toArray wsX1_byteAt RX1 := ⟨hx, hb, hml, hown, hts⟩
  have f0 := hts (.fieldLink RX1 12 "GapBounds$Reader" "tape" "LGapBounds$Tape;") (by decide +kernel)
  have f1 := hts (.fieldLink RX1 94 "GapBounds$Tape" "size" "I") (by decide +kernel)
  have f2 := hts (.fieldLink RX1 95 "GapBounds$Tape" "bytes" "[B") (by decide +kernel)
  have iX1 : ∀ w ∈ u_ws RX1 TX1 8, w ∈ wsX1_byteAt := by decide +kernel
  have iX6 : ∀ w ∈ u_ws RX6 TX6 2, w ∈ wsX1_byteAt := by decide +kernel
  have hl := lv_entry [.ref A_t, .int x1] (n := 2) (Nat.le_of_ble_eq_true rfl)
  rw [lg_entry_eq]
  generalize (lg_sl [.ref A_t, .int x1] ++ List.replicate (2 - (lg_sl [.ref A_t, .int x1]).length) Slot.unset).toArray = ls at hl ⊢
  have hl : lv_has ls 2 [(0, .ref A_t), (1, .int x1)] := hl
  refine W.gen (fun Q0 hQ => ?_)
  unfold P_X1_byteAt at h
  refine lv_iload_n hx hb dX1_byteAt_0 rfl (lv_at hl 1 rfl) ?_
  refine lv_if_lt (tgt := 27) hx hb dX1_byteAt_1 (by decide) (fun hc => ?_) (fun hc => ?_)
  · replace h := h.1 hc
    refine lv_bipush (v := -4) hx hb dX1_byteAt_27 (by decide) ?_
    subst hQ
    exact W.iret (v := (-4 : Int32)) hx hb hr (fun t ht _ => ⟨(-4 : Int32), rfl, h, ht⟩) (fun _ hq => absurd hq List.not_mem_nil) dX1_byteAt_29
  · replace h := h.2 hc
    refine lv_iload_n hx hb dX1_byteAt_4 rfl (lv_at hl 1 rfl) ?_
    refine lv_aload_n hx hb dX1_byteAt_5 rfl (lv_at hl 0 rfl) ?_
    refine va_get (D := D) (ci := 1) (v := .ref A_t_tape) (C := RX1) (T := TX1) (N := 8) hx hb hts iX1 hown hK.1 hP 0 rfl rfl 0 (by decide) f0 (fun _ h9 => h9) rfl dX1_byteAt_6 ?_
    refine va_get (D := D) (ci := 6) (v := .int t_tape_size) (C := RX6) (T := TX6) (N := 2) hx hb hts iX6 hown hK.1 hP 1 rfl rfl 1 (by decide) f1 (fun _ h9 => h9) rfl dX1_byteAt_9 ?_
    refine lv_icmp_ge (tgt := 27) hx hb dX1_byteAt_12 (by decide) (fun hc => ?_) (fun hc => ?_)
    · replace h := h.1 hc
      refine lv_bipush (v := -4) hx hb dX1_byteAt_27 (by decide) ?_
      subst hQ
      exact W.iret (v := (-4 : Int32)) hx hb hr (fun t ht _ => ⟨(-4 : Int32), rfl, h, ht⟩) (fun _ hq => absurd hq List.not_mem_nil) dX1_byteAt_29
    · replace h := h.2 hc
      refine lv_aload_n hx hb dX1_byteAt_15 rfl (lv_at hl 0 rfl) ?_
      refine va_get (D := D) (ci := 1) (v := .ref A_t_tape) (C := RX1) (T := TX1) (N := 8) hx hb hts iX1 hown hK.1 hP 0 rfl rfl 0 (by decide) f0 (fun _ h9 => h9) rfl dX1_byteAt_16 ?_
      refine va_get (D := D) (ci := 6) (v := .ref A_t_tape_bytes) (C := RX6) (T := TX6) (N := 2) hx hb hts iX6 hown hK.1 hP 1 rfl rfl 0 (by decide) f2 (fun _ h9 => h9) rfl dX1_byteAt_19 ?_
      refine lv_iload_n hx hb dX1_byteAt_22 rfl (lv_at hl 1 rfl) ?_
      refine va_bald hx hb hK.1 hP 2 0 rfl rfl h.1 dX1_byteAt_23 ?_
      replace h := h.2
      refine lv_goto (tgt := 29) hx hb dX1_byteAt_24 (by decide) ?_
      subst hQ
      exact W.iret (v := t_tape_bytes x1.toNatClampNeg) hx hb hr (fun t ht _ => ⟨t_tape_bytes x1.toNatClampNeg, rfl, h, ht⟩) (fun _ hq => absurd hq List.not_mem_nil) dX1_byteAt_29
theorem qX1_isLetter : yX1_isLetter.cls = RX1 ∧ yX1_isLetter.cls ≠ "java/lang/invoke/MethodHandle" ∧ yX1_isLetter.cls ≠ "java/lang/invoke/VarHandle" ∧ (parseMethodDescriptor yX1_isLetter.desc).map (fun d => d.parameters.length) = some 1 := by decide +kernel
def P_X1_isLetter (post : Int32 → Prop) (x0 : Int32) : Prop :=
  ((x0 < (97 : Int32) → post (0 : Int32)) ∧ (¬ x0 < (97 : Int32) → (((122 : Int32) < x0 → post (0 : Int32)) ∧ (¬ (122 : Int32) < x0 → post (1 : Int32)))))
set_option maxHeartbeats 4000000 in
set_option maxRecDepth 100000 in
theorem c_X1_isLetter (l : Launch) (x0 : Int32) (post : Int32 → Prop) (h : P_X1_isLetter post x0) : Met l yX1_isLetter wsX1_isLetter { frames := 0, cells := 0, slots := 0, locals := 0 } (pcN [.int x0]) (vp_Si post) 0 0 (fun _ => False) := by
  refine Met.ofW (cc := cX1_isLetter) (maxL := 1) (ret := (some .boolean)) (by decide) rfl ?_
  intro p e s m args below meth c s₁ B hml hv
  obtain ⟨rfl, -⟩ := hv
  have hx := B.exec
  have hb := B.bytes
  have hr := B.returns
  have hts := atoms_spec (ws := wsX1_isLetter) B.pre
  have hown : s.vm.findClass RX1 = some m.cls := findClass_of_methodNamed B.named
  have hlocks := B.notSynchronized
  have CF : CallFix p m c cX1_isLetter 1 s ([.int x0] : List Value).toArray wsX1_isLetter RX1 := ⟨hx, hb, hml, hown, hts⟩
  have hl := lv_entry [.int x0] (n := 1) (Nat.le_of_ble_eq_true rfl)
  rw [lg_entry_eq]
  generalize (lg_sl [.int x0] ++ List.replicate (1 - (lg_sl [.int x0]).length) Slot.unset).toArray = ls at hl ⊢
  have hl : lv_has ls 1 [(0, .int x0)] := hl
  refine W.gen (fun Q0 hQ => ?_)
  unfold P_X1_isLetter at h
  refine lv_iload_n hx hb dX1_isLetter_0 rfl (lv_at hl 0 rfl) ?_
  refine lv_bipush (v := 97) hx hb dX1_isLetter_1 (by decide) ?_
  refine lv_icmp_lt (tgt := 16) hx hb dX1_isLetter_3 (by decide) (fun hc => ?_) (fun hc => ?_)
  · replace h := h.1 hc
    refine lv_iconst (v := 0) hx hb dX1_isLetter_16 (by decide) ?_
    subst hQ
    exact W.zret (v := (0 : Int32)) hx hb hr bz0 (fun t ht _ => ⟨(0 : Int32), rfl, h, ht⟩) (fun _ hq => absurd hq List.not_mem_nil) dX1_isLetter_17
  · replace h := h.2 hc
    refine lv_iload_n hx hb dX1_isLetter_6 rfl (lv_at hl 0 rfl) ?_
    refine lv_bipush (v := 122) hx hb dX1_isLetter_7 (by decide) ?_
    refine lv_icmp_gt (tgt := 16) hx hb dX1_isLetter_9 (by decide) (fun hc => ?_) (fun hc => ?_)
    · replace h := h.1 hc
      refine lv_iconst (v := 0) hx hb dX1_isLetter_16 (by decide) ?_
      subst hQ
      exact W.zret (v := (0 : Int32)) hx hb hr bz0 (fun t ht _ => ⟨(0 : Int32), rfl, h, ht⟩) (fun _ hq => absurd hq List.not_mem_nil) dX1_isLetter_17
    · replace h := h.2 hc
      refine lv_iconst (v := 1) hx hb dX1_isLetter_12 (by decide) ?_
      refine lv_goto (tgt := 17) hx hb dX1_isLetter_13 (by decide) ?_
      subst hQ
      exact W.zret (v := (1 : Int32)) hx hb hr bz1 (fun t ht _ => ⟨(1 : Int32), rfl, h, ht⟩) (fun _ hq => absurd hq List.not_mem_nil) dX1_isLetter_17
theorem qX1_isFigure : yX1_isFigure.cls = RX1 ∧ yX1_isFigure.cls ≠ "java/lang/invoke/MethodHandle" ∧ yX1_isFigure.cls ≠ "java/lang/invoke/VarHandle" ∧ (parseMethodDescriptor yX1_isFigure.desc).map (fun d => d.parameters.length) = some 1 := by decide +kernel
def P_X1_isFigure (post : Int32 → Prop) (x0 : Int32) : Prop :=
  ((x0 < (48 : Int32) → post (0 : Int32)) ∧ (¬ x0 < (48 : Int32) → (((57 : Int32) < x0 → post (0 : Int32)) ∧ (¬ (57 : Int32) < x0 → post (1 : Int32)))))
set_option maxHeartbeats 4000000 in
set_option maxRecDepth 100000 in
theorem c_X1_isFigure (l : Launch) (x0 : Int32) (post : Int32 → Prop) (h : P_X1_isFigure post x0) : Met l yX1_isFigure wsX1_isFigure { frames := 0, cells := 0, slots := 0, locals := 0 } (pcN [.int x0]) (vp_Si post) 0 0 (fun _ => False) := by
  refine Met.ofW (cc := cX1_isFigure) (maxL := 1) (ret := (some .boolean)) (by decide) rfl ?_
  intro p e s m args below meth c s₁ B hml hv
  obtain ⟨rfl, -⟩ := hv
  have hx := B.exec
  have hb := B.bytes
  have hr := B.returns
  have hts := atoms_spec (ws := wsX1_isFigure) B.pre
  have hown : s.vm.findClass RX1 = some m.cls := findClass_of_methodNamed B.named
  have hlocks := B.notSynchronized
  have CF : CallFix p m c cX1_isFigure 1 s ([.int x0] : List Value).toArray wsX1_isFigure RX1 := ⟨hx, hb, hml, hown, hts⟩
  have hl := lv_entry [.int x0] (n := 1) (Nat.le_of_ble_eq_true rfl)
  rw [lg_entry_eq]
  generalize (lg_sl [.int x0] ++ List.replicate (1 - (lg_sl [.int x0]).length) Slot.unset).toArray = ls at hl ⊢
  have hl : lv_has ls 1 [(0, .int x0)] := hl
  refine W.gen (fun Q0 hQ => ?_)
  unfold P_X1_isFigure at h
  refine lv_iload_n hx hb dX1_isFigure_0 rfl (lv_at hl 0 rfl) ?_
  refine lv_bipush (v := 48) hx hb dX1_isFigure_1 (by decide) ?_
  refine lv_icmp_lt (tgt := 16) hx hb dX1_isFigure_3 (by decide) (fun hc => ?_) (fun hc => ?_)
  · replace h := h.1 hc
    refine lv_iconst (v := 0) hx hb dX1_isFigure_16 (by decide) ?_
    subst hQ
    exact W.zret (v := (0 : Int32)) hx hb hr bz0 (fun t ht _ => ⟨(0 : Int32), rfl, h, ht⟩) (fun _ hq => absurd hq List.not_mem_nil) dX1_isFigure_17
  · replace h := h.2 hc
    refine lv_iload_n hx hb dX1_isFigure_6 rfl (lv_at hl 0 rfl) ?_
    refine lv_bipush (v := 57) hx hb dX1_isFigure_7 (by decide) ?_
    refine lv_icmp_gt (tgt := 16) hx hb dX1_isFigure_9 (by decide) (fun hc => ?_) (fun hc => ?_)
    · replace h := h.1 hc
      refine lv_iconst (v := 0) hx hb dX1_isFigure_16 (by decide) ?_
      subst hQ
      exact W.zret (v := (0 : Int32)) hx hb hr bz0 (fun t ht _ => ⟨(0 : Int32), rfl, h, ht⟩) (fun _ hq => absurd hq List.not_mem_nil) dX1_isFigure_17
    · replace h := h.2 hc
      refine lv_iconst (v := 1) hx hb dX1_isFigure_12 (by decide) ?_
      refine lv_goto (tgt := 17) hx hb dX1_isFigure_13 (by decide) ?_
      subst hQ
      exact W.zret (v := (1 : Int32)) hx hb hr bz1 (fun t ht _ => ⟨(1 : Int32), rfl, h, ht⟩) (fun _ hq => absurd hq List.not_mem_nil) dX1_isFigure_17
theorem qX1_passFigures : yX1_passFigures.cls = RX1 ∧ yX1_passFigures.cls ≠ "java/lang/invoke/MethodHandle" ∧ yX1_passFigures.cls ≠ "java/lang/invoke/VarHandle" ∧ (parseMethodDescriptor yX1_passFigures.desc).map (fun d => d.parameters.length) = some 0 := by decide +kernel
def LB_X1_passFigures_0 (post : Int32 → Prop) (t_tape_size : Int32) (t_tape_bytes : Nat → Int32) (K_0 : Int32 → Prop) (t_behind : Int32) : Prop :=
  ((t_tape_size ≤ t_behind → post t_behind) ∧ (¬ t_tape_size ≤ t_behind → P_X1_byteAt (fun (r1 : Int32) => P_X1_isFigure (fun (r2 : Int32) => ((r2 = 0 → post t_behind) ∧ (¬ r2 = 0 → K_0 (t_behind + (1 : Int32))))) r1) t_tape_size t_tape_bytes t_behind))
noncomputable def L_X1_passFigures_0 (post : Int32 → Prop) (t_tape_size : Int32) (t_tape_bytes : Nat → Int32) (n : Nat) : Int32 → Prop := Nat.rec (motive := fun _ => Int32 → Prop) (fun _ => False) (fun _ K => LB_X1_passFigures_0 post t_tape_size t_tape_bytes K) n
def P_X1_passFigures (post : Int32 → Prop) (t_behind : Int32) (t_tape_size : Int32) (t_tape_bytes : Nat → Int32) : Prop :=
  ∃ n : Nat, L_X1_passFigures_0 post t_tape_size t_tape_bytes n t_behind
set_option maxHeartbeats 4000000 in
set_option maxRecDepth 100000 in
theorem c_X1_passFigures (l : Launch) (D : va_G) (cy : Nat → ClassId) (sz : Nat) (A_t A_t_tape A_t_draft A_t_tape_bytes : Nat) (t_wrong : Int32) (t_wrongAt : Int32) (t_lines : Int32) (t_kind : Int32) (t_at : Int32) (t_behind : Int32) (t_tape_size : Int32) (t_tape_bytes : Nat → Int32) (post : Int32 → Prop) (h : P_X1_passFigures post t_behind t_tape_size t_tape_bytes) : Met l yX1_passFigures wsX1_passFigures { frames := 1, cells := 0, slots := 0, locals := 21 } (pcW D cy [(A_t, .inr (1, [.ref A_t_tape, .ref A_t_draft, .int t_wrong, .int t_wrongAt, .int t_lines, .int t_kind, .int t_at, .int t_behind])), (A_t_tape, .inr (6, [.ref A_t_tape_bytes, .int t_tape_size])), (A_t_tape_bytes, .inl (cy 0, 320, .inl t_tape_bytes))] sz [.ref A_t]) (va_Qv (fun (u : Int32) => post u) (bW D [(A_t, .inr (1, [.ref A_t_tape, .ref A_t_draft, .int t_wrong, .int t_wrongAt, .int t_lines, .int t_kind, .int t_at, .int t_behind])), (A_t_tape, .inr (6, [.ref A_t_tape_bytes, .int t_tape_size])), (A_t_tape_bytes, .inl (cy 0, 320, .inl t_tape_bytes))] sz (fun u => [(A_t, .inr (1, [.ref A_t_tape, .ref A_t_draft, .int t_wrong, .int t_wrongAt, .int t_lines, .int t_kind, .int t_at, .int u])), (A_t_tape, .inr (6, [.ref A_t_tape_bytes, .int t_tape_size])), (A_t_tape_bytes, .inl (cy 0, 320, .inl t_tape_bytes))])) (va_A [(A_t, .inr (1, [.ref A_t_tape, .ref A_t_draft, .int t_wrong, .int t_wrongAt, .int t_lines, .int t_kind, .int t_at, .int t_behind])), (A_t_tape, .inr (6, [.ref A_t_tape_bytes, .int t_tape_size])), (A_t_tape_bytes, .inl (cy 0, 320, .inl t_tape_bytes))] sz)) 0 0 (va_A [(A_t, .inr (1, [.ref A_t_tape, .ref A_t_draft, .int t_wrong, .int t_wrongAt, .int t_lines, .int t_kind, .int t_at, .int t_behind])), (A_t_tape, .inr (6, [.ref A_t_tape_bytes, .int t_tape_size])), (A_t_tape_bytes, .inl (cy 0, 320, .inl t_tape_bytes))] sz) := by
  refine Met.ofW (cc := cX1_passFigures) (maxL := 1) (ret := none) (by decide) rfl ?_
  intro p e s m args below meth c s₁ B hml hv
  obtain ⟨rfl, hsz, hP, hK, hD0⟩ := hv
  have hx := B.exec
  have hb := B.bytes
  have hr := B.returns
  have hts := atoms_spec (ws := wsX1_passFigures) B.pre
  have hown : s.vm.findClass RX1 = some m.cls := findClass_of_methodNamed B.named
  have hlocks := B.notSynchronized
  have CF : CallFix p m c cX1_passFigures 1 s ([.ref A_t] : List Value).toArray wsX1_passFigures RX1 := ⟨hx, hb, hml, hown, hts⟩
  have f0 := hts (.fieldLink RX1 38 "GapBounds$Reader" "behind" "I") (by decide +kernel)
  have f1 := hts (.fieldLink RX1 12 "GapBounds$Reader" "tape" "LGapBounds$Tape;") (by decide +kernel)
  have f2 := hts (.fieldLink RX1 94 "GapBounds$Tape" "size" "I") (by decide +kernel)
  have iX1 : ∀ w ∈ u_ws RX1 TX1 8, w ∈ wsX1_passFigures := by decide +kernel
  have iX6 : ∀ w ∈ u_ws RX6 TX6 2, w ∈ wsX1_passFigures := by decide +kernel
  subst hsz
  obtain ⟨A, hAe⟩ : ∃ A, A = va_A [(A_t, .inr (1, [.ref A_t_tape, .ref A_t_draft, .int t_wrong, .int t_wrongAt, .int t_lines, .int t_kind, .int t_at, .int t_behind])), (A_t_tape, .inr (6, [.ref A_t_tape_bytes, .int t_tape_size])), (A_t_tape_bytes, .inl (cy 0, 320, .inl t_tape_bytes))] s.heap.size := ⟨_, rfl⟩
  have hD : va_D A [(A_t, .inr (1, [.ref A_t_tape, .ref A_t_draft, .int t_wrong, .int t_wrongAt, .int t_lines, .int t_kind, .int t_at, .int t_behind])), (A_t_tape, .inr (6, [.ref A_t_tape_bytes, .int t_tape_size])), (A_t_tape_bytes, .inl (cy 0, 320, .inl t_tape_bytes))] := by rw [hAe]; exact hD0.self
  have hA : ∀ q : Nat, s.heap.size ≤ q → A q := fun q hq => by rw [hAe]; exact Or.inr hq
  have hS : va_S A s.heap s.heap [] := va_S.rf
  have hl := lv_entry [.ref A_t] (n := 1) (Nat.le_of_ble_eq_true rfl)
  rw [lg_entry_eq]
  generalize (lg_sl [.ref A_t] ++ List.replicate (1 - (lg_sl [.ref A_t]).length) Slot.unset).toArray = ls at hl ⊢
  have hl : lv_has ls 1 [(0, .ref A_t)] := hl
  refine W.gen (fun Q0 hQ => ?_)
  have L0 : ∀ (n0 : Nat) (t_behind : Int32) (H : Heap) (locs : List Loc) (ls : Array Slot), L_X1_passFigures_0 post t_tape_size t_tape_bytes n0 t_behind → va_P D vwCl [(A_t, .inr (1, [.ref A_t_tape, .ref A_t_draft, .int t_wrong, .int t_wrongAt, .int t_lines, .int t_kind, .int t_at, .int t_behind])), (A_t_tape, .inr (6, [.ref A_t_tape_bytes, .int t_tape_size])), (A_t_tape_bytes, .inl (cy 0, 320, .inl t_tape_bytes))] H → va_D A [(A_t, .inr (1, [.ref A_t_tape, .ref A_t_draft, .int t_wrong, .int t_wrongAt, .int t_lines, .int t_kind, .int t_at, .int t_behind])), (A_t_tape, .inr (6, [.ref A_t_tape_bytes, .int t_tape_size])), (A_t_tape_bytes, .inl (cy 0, 320, .inl t_tape_bytes))] → va_S A s.heap H locs → lv_has ls 1 [(0, .ref A_t)] → W p l e (headSpec wsX1_passFigures { frames := 1, cells := 0, slots := 0, locals := 21 }).room s m ([.ref A_t] : List Value).toArray below meth c H locs 0 0 Q0 (F0 m 0 ls []) := by
    intro n0
    induction n0 with
    | zero => intro t_behind H locs ls h; exact False.elim h
    | succ n0 ih0 =>
      intro t_behind H locs ls h hP hD hS hl
      have h : LB_X1_passFigures_0 post t_tape_size t_tape_bytes (L_X1_passFigures_0 post t_tape_size t_tape_bytes n0) t_behind := h
      unfold LB_X1_passFigures_0 at h
      refine lv_aload_n hx hb dX1_passFigures_0 rfl (lv_at hl 0 rfl) ?_
      refine va_get (D := D) (ci := 1) (v := .int t_behind) (C := RX1) (T := TX1) (N := 8) hx hb hts iX1 hown hK.1 hP 0 rfl rfl 7 (by decide) f0 (fun _ h9 => h9) rfl dX1_passFigures_1 ?_
      refine lv_aload_n hx hb dX1_passFigures_4 rfl (lv_at hl 0 rfl) ?_
      refine va_get (D := D) (ci := 1) (v := .ref A_t_tape) (C := RX1) (T := TX1) (N := 8) hx hb hts iX1 hown hK.1 hP 0 rfl rfl 0 (by decide) f1 (fun _ h9 => h9) rfl dX1_passFigures_5 ?_
      refine va_get (D := D) (ci := 6) (v := .int t_tape_size) (C := RX6) (T := TX6) (N := 2) hx hb hts iX6 hown hK.1 hP 1 rfl rfl 1 (by decide) f2 (fun _ h9 => h9) rfl dX1_passFigures_8 ?_
      refine lv_icmp_ge (tgt := 41) hx hb dX1_passFigures_11 (by decide) (fun hc => ?_) (fun hc => ?_)
      · replace h := h.1 hc
        subst hQ
        subst hAe
        exact W.vret hx hb hr (fun t ht _ => ⟨⟨t_behind, rfl, h, by rw [ht]; exact hP, hD⟩, hS.F ht⟩) hS.2.2 dX1_passFigures_41
      · replace h := h.2 hc
        refine lv_aload_n hx hb dX1_passFigures_14 rfl (lv_at hl 0 rfl) ?_
        refine lv_aload_n hx hb dX1_passFigures_15 rfl (lv_at hl 0 rfl) ?_
        refine va_get (D := D) (ci := 1) (v := .int t_behind) (C := RX1) (T := TX1) (N := 8) hx hb hts iX1 hown hK.1 hP 0 rfl rfl 7 (by decide) f0 (fun _ h9 => h9) rfl dX1_passFigures_16 ?_
        have hPc := hP.sub (ws' := [(A_t, .inr (1, [.ref A_t_tape, .ref A_t_draft, .int t_wrong, .int t_wrongAt, .int t_lines, .int t_kind, .int t_at, .int t_behind])), (A_t_tape, .inr (6, [.ref A_t_tape_bytes, .int t_tape_size])), (A_t_tape_bytes, .inl (cy 0, 320, .inl t_tape_bytes))]) [0, 1, 2] rfl
        refine vp_callSi (W.runV (As := [.int t_behind]) (rest := []) CF (c_X1_byteAt l D cy A_t A_t_tape A_t_draft A_t_tape_bytes t_wrong t_wrongAt t_lines t_kind t_at t_behind t_tape_size t_tape_bytes t_behind _ h) (cwV 1 hts gX1_passFigures_X1_byteAt rfl rfl rfl qX1_byteAt ⟨Nat.le_of_ble_eq_true rfl, Nat.le_of_ble_eq_true rfl⟩) (mpVR hK hPc (ci := 1) (q := (RX1, TX1, 8)) (q0 := 0) rfl rfl) rfl rfl hl.1 rfl (lv_room (Nat.le_of_ble_eq_true rfl)) dX1_passFigures_19 ⟨Nat.zero_le _, Nat.zero_le _⟩) (fun r1 h => ?_)
        refine vp_callSi (W.runS (As := [.int r1]) (rest := []) CF (c_X1_isFigure l r1 _ h) (va_cwS 1 hts gX1_passFigures_X1_isFigure rfl rfl rfl qX1_isFigure.2 ⟨Nat.le_of_ble_eq_true rfl, Nat.le_of_ble_eq_true rfl⟩) mpSN rfl rfl hl.1 rfl (lv_room (Nat.le_of_ble_eq_true rfl)) dX1_passFigures_22 ⟨Nat.zero_le _, Nat.zero_le _⟩) (fun r2 h => ?_)
        refine lv_if_eq (tgt := 41) hx hb dX1_passFigures_25 (by decide) (fun hc => ?_) (fun hc => ?_)
        · replace h := h.1 hc
          subst hQ
          subst hAe
          exact W.vret hx hb hr (fun t ht _ => ⟨⟨t_behind, rfl, h, by rw [ht]; exact hP, hD⟩, hS.F ht⟩) hS.2.2 dX1_passFigures_41
        · replace h := h.2 hc
          refine lv_aload_n hx hb dX1_passFigures_28 rfl (lv_at hl 0 rfl) ?_
          refine lv_dup hx hb dX1_passFigures_29 rfl ?_
          refine va_get (D := D) (ci := 1) (v := .int t_behind) (C := RX1) (T := TX1) (N := 8) hx hb hts iX1 hown hK.1 hP 0 rfl rfl 7 (by decide) f0 (fun _ h9 => h9) rfl dX1_passFigures_30 ?_
          refine lv_iconst (v := 1) hx hb dX1_passFigures_33 (by decide) ?_
          refine lv_iadd hx hb dX1_passFigures_34 ?_
          refine va_put (D := D) (ci := 1) (v := .int (t_behind + (1 : Int32))) (ty := .int) (C := RX1) (T := TX1) (N := 8) hx hb hts iX1 tyX1 tyX1_ok nmX1 hown hK.1 hP hD hS 0 rfl rfl 7 (by decide) f0 (fun _ h9 => h9) rfl (tyX1_ok 7 (by decide)) rfl rfl (Nat.le_of_ble_eq_true rfl) dX1_passFigures_35 (fun H locs hP hD hS => ?_)
          have hP : va_P D vwCl [(A_t, .inr (1, [.ref A_t_tape, .ref A_t_draft, .int t_wrong, .int t_wrongAt, .int t_lines, .int t_kind, .int t_at, .int (t_behind + (1 : Int32))])), (A_t_tape, .inr (6, [.ref A_t_tape_bytes, .int t_tape_size])), (A_t_tape_bytes, .inl (cy 0, 320, .inl t_tape_bytes))] H := hP
          have hD : va_D A [(A_t, .inr (1, [.ref A_t_tape, .ref A_t_draft, .int t_wrong, .int t_wrongAt, .int t_lines, .int t_kind, .int t_at, .int (t_behind + (1 : Int32))])), (A_t_tape, .inr (6, [.ref A_t_tape_bytes, .int t_tape_size])), (A_t_tape_bytes, .inl (cy 0, 320, .inl t_tape_bytes))] := hD
          refine lv_goto (tgt := 0) hx hb dX1_passFigures_38 (by decide) ?_
          exact ih0 (t_behind + (1 : Int32)) H locs ls h hP hD hS (lv_sub hl [0] rfl)
  unfold P_X1_passFigures at h
  obtain ⟨nn, h⟩ := h
  exact L0 nn t_behind s.heap [] ls h hP hD hS (lv_sub hl [0] rfl)
theorem qX1_passLetters : yX1_passLetters.cls = RX1 ∧ yX1_passLetters.cls ≠ "java/lang/invoke/MethodHandle" ∧ yX1_passLetters.cls ≠ "java/lang/invoke/VarHandle" ∧ (parseMethodDescriptor yX1_passLetters.desc).map (fun d => d.parameters.length) = some 0 := by decide +kernel
def LB_X1_passLetters_0 (post : Int32 → Prop) (t_tape_size : Int32) (t_tape_bytes : Nat → Int32) (K_0 : Int32 → Prop) (t_behind : Int32) : Prop :=
  ((t_tape_size ≤ t_behind → post t_behind) ∧ (¬ t_tape_size ≤ t_behind → P_X1_byteAt (fun (r1 : Int32) => P_X1_isLetter (fun (r2 : Int32) => ((r2 = 0 → post t_behind) ∧ (¬ r2 = 0 → K_0 (t_behind + (1 : Int32))))) r1) t_tape_size t_tape_bytes t_behind))
noncomputable def L_X1_passLetters_0 (post : Int32 → Prop) (t_tape_size : Int32) (t_tape_bytes : Nat → Int32) (n : Nat) : Int32 → Prop := Nat.rec (motive := fun _ => Int32 → Prop) (fun _ => False) (fun _ K => LB_X1_passLetters_0 post t_tape_size t_tape_bytes K) n
def P_X1_passLetters (post : Int32 → Prop) (t_behind : Int32) (t_tape_size : Int32) (t_tape_bytes : Nat → Int32) : Prop :=
  ∃ n : Nat, L_X1_passLetters_0 post t_tape_size t_tape_bytes n t_behind
set_option maxHeartbeats 4000000 in
set_option maxRecDepth 100000 in
theorem c_X1_passLetters (l : Launch) (D : va_G) (cy : Nat → ClassId) (sz : Nat) (A_t A_t_tape A_t_draft A_t_tape_bytes : Nat) (t_wrong : Int32) (t_wrongAt : Int32) (t_lines : Int32) (t_kind : Int32) (t_at : Int32) (t_behind : Int32) (t_tape_size : Int32) (t_tape_bytes : Nat → Int32) (post : Int32 → Prop) (h : P_X1_passLetters post t_behind t_tape_size t_tape_bytes) : Met l yX1_passLetters wsX1_passLetters { frames := 1, cells := 0, slots := 0, locals := 21 } (pcW D cy [(A_t, .inr (1, [.ref A_t_tape, .ref A_t_draft, .int t_wrong, .int t_wrongAt, .int t_lines, .int t_kind, .int t_at, .int t_behind])), (A_t_tape, .inr (6, [.ref A_t_tape_bytes, .int t_tape_size])), (A_t_tape_bytes, .inl (cy 0, 320, .inl t_tape_bytes))] sz [.ref A_t]) (va_Qv (fun (u : Int32) => post u) (bW D [(A_t, .inr (1, [.ref A_t_tape, .ref A_t_draft, .int t_wrong, .int t_wrongAt, .int t_lines, .int t_kind, .int t_at, .int t_behind])), (A_t_tape, .inr (6, [.ref A_t_tape_bytes, .int t_tape_size])), (A_t_tape_bytes, .inl (cy 0, 320, .inl t_tape_bytes))] sz (fun u => [(A_t, .inr (1, [.ref A_t_tape, .ref A_t_draft, .int t_wrong, .int t_wrongAt, .int t_lines, .int t_kind, .int t_at, .int u])), (A_t_tape, .inr (6, [.ref A_t_tape_bytes, .int t_tape_size])), (A_t_tape_bytes, .inl (cy 0, 320, .inl t_tape_bytes))])) (va_A [(A_t, .inr (1, [.ref A_t_tape, .ref A_t_draft, .int t_wrong, .int t_wrongAt, .int t_lines, .int t_kind, .int t_at, .int t_behind])), (A_t_tape, .inr (6, [.ref A_t_tape_bytes, .int t_tape_size])), (A_t_tape_bytes, .inl (cy 0, 320, .inl t_tape_bytes))] sz)) 0 0 (va_A [(A_t, .inr (1, [.ref A_t_tape, .ref A_t_draft, .int t_wrong, .int t_wrongAt, .int t_lines, .int t_kind, .int t_at, .int t_behind])), (A_t_tape, .inr (6, [.ref A_t_tape_bytes, .int t_tape_size])), (A_t_tape_bytes, .inl (cy 0, 320, .inl t_tape_bytes))] sz) := by
  refine Met.ofW (cc := cX1_passLetters) (maxL := 1) (ret := none) (by decide) rfl ?_
  intro p e s m args below meth c s₁ B hml hv
  obtain ⟨rfl, hsz, hP, hK, hD0⟩ := hv
  have hx := B.exec
  have hb := B.bytes
  have hr := B.returns
  have hts := atoms_spec (ws := wsX1_passLetters) B.pre
  have hown : s.vm.findClass RX1 = some m.cls := findClass_of_methodNamed B.named
  have hlocks := B.notSynchronized
  have CF : CallFix p m c cX1_passLetters 1 s ([.ref A_t] : List Value).toArray wsX1_passLetters RX1 := ⟨hx, hb, hml, hown, hts⟩
  have f0 := hts (.fieldLink RX1 38 "GapBounds$Reader" "behind" "I") (by decide +kernel)
  have f1 := hts (.fieldLink RX1 12 "GapBounds$Reader" "tape" "LGapBounds$Tape;") (by decide +kernel)
  have f2 := hts (.fieldLink RX1 94 "GapBounds$Tape" "size" "I") (by decide +kernel)
  have iX1 : ∀ w ∈ u_ws RX1 TX1 8, w ∈ wsX1_passLetters := by decide +kernel
  have iX6 : ∀ w ∈ u_ws RX6 TX6 2, w ∈ wsX1_passLetters := by decide +kernel
  subst hsz
  obtain ⟨A, hAe⟩ : ∃ A, A = va_A [(A_t, .inr (1, [.ref A_t_tape, .ref A_t_draft, .int t_wrong, .int t_wrongAt, .int t_lines, .int t_kind, .int t_at, .int t_behind])), (A_t_tape, .inr (6, [.ref A_t_tape_bytes, .int t_tape_size])), (A_t_tape_bytes, .inl (cy 0, 320, .inl t_tape_bytes))] s.heap.size := ⟨_, rfl⟩
  have hD : va_D A [(A_t, .inr (1, [.ref A_t_tape, .ref A_t_draft, .int t_wrong, .int t_wrongAt, .int t_lines, .int t_kind, .int t_at, .int t_behind])), (A_t_tape, .inr (6, [.ref A_t_tape_bytes, .int t_tape_size])), (A_t_tape_bytes, .inl (cy 0, 320, .inl t_tape_bytes))] := by rw [hAe]; exact hD0.self
  have hA : ∀ q : Nat, s.heap.size ≤ q → A q := fun q hq => by rw [hAe]; exact Or.inr hq
  have hS : va_S A s.heap s.heap [] := va_S.rf
  have hl := lv_entry [.ref A_t] (n := 1) (Nat.le_of_ble_eq_true rfl)
  rw [lg_entry_eq]
  generalize (lg_sl [.ref A_t] ++ List.replicate (1 - (lg_sl [.ref A_t]).length) Slot.unset).toArray = ls at hl ⊢
  have hl : lv_has ls 1 [(0, .ref A_t)] := hl
  refine W.gen (fun Q0 hQ => ?_)
  have L0 : ∀ (n0 : Nat) (t_behind : Int32) (H : Heap) (locs : List Loc) (ls : Array Slot), L_X1_passLetters_0 post t_tape_size t_tape_bytes n0 t_behind → va_P D vwCl [(A_t, .inr (1, [.ref A_t_tape, .ref A_t_draft, .int t_wrong, .int t_wrongAt, .int t_lines, .int t_kind, .int t_at, .int t_behind])), (A_t_tape, .inr (6, [.ref A_t_tape_bytes, .int t_tape_size])), (A_t_tape_bytes, .inl (cy 0, 320, .inl t_tape_bytes))] H → va_D A [(A_t, .inr (1, [.ref A_t_tape, .ref A_t_draft, .int t_wrong, .int t_wrongAt, .int t_lines, .int t_kind, .int t_at, .int t_behind])), (A_t_tape, .inr (6, [.ref A_t_tape_bytes, .int t_tape_size])), (A_t_tape_bytes, .inl (cy 0, 320, .inl t_tape_bytes))] → va_S A s.heap H locs → lv_has ls 1 [(0, .ref A_t)] → W p l e (headSpec wsX1_passLetters { frames := 1, cells := 0, slots := 0, locals := 21 }).room s m ([.ref A_t] : List Value).toArray below meth c H locs 0 0 Q0 (F0 m 0 ls []) := by
    intro n0
    induction n0 with
    | zero => intro t_behind H locs ls h; exact False.elim h
    | succ n0 ih0 =>
      intro t_behind H locs ls h hP hD hS hl
      have h : LB_X1_passLetters_0 post t_tape_size t_tape_bytes (L_X1_passLetters_0 post t_tape_size t_tape_bytes n0) t_behind := h
      unfold LB_X1_passLetters_0 at h
      refine lv_aload_n hx hb dX1_passLetters_0 rfl (lv_at hl 0 rfl) ?_
      refine va_get (D := D) (ci := 1) (v := .int t_behind) (C := RX1) (T := TX1) (N := 8) hx hb hts iX1 hown hK.1 hP 0 rfl rfl 7 (by decide) f0 (fun _ h9 => h9) rfl dX1_passLetters_1 ?_
      refine lv_aload_n hx hb dX1_passLetters_4 rfl (lv_at hl 0 rfl) ?_
      refine va_get (D := D) (ci := 1) (v := .ref A_t_tape) (C := RX1) (T := TX1) (N := 8) hx hb hts iX1 hown hK.1 hP 0 rfl rfl 0 (by decide) f1 (fun _ h9 => h9) rfl dX1_passLetters_5 ?_
      refine va_get (D := D) (ci := 6) (v := .int t_tape_size) (C := RX6) (T := TX6) (N := 2) hx hb hts iX6 hown hK.1 hP 1 rfl rfl 1 (by decide) f2 (fun _ h9 => h9) rfl dX1_passLetters_8 ?_
      refine lv_icmp_ge (tgt := 41) hx hb dX1_passLetters_11 (by decide) (fun hc => ?_) (fun hc => ?_)
      · replace h := h.1 hc
        subst hQ
        subst hAe
        exact W.vret hx hb hr (fun t ht _ => ⟨⟨t_behind, rfl, h, by rw [ht]; exact hP, hD⟩, hS.F ht⟩) hS.2.2 dX1_passLetters_41
      · replace h := h.2 hc
        refine lv_aload_n hx hb dX1_passLetters_14 rfl (lv_at hl 0 rfl) ?_
        refine lv_aload_n hx hb dX1_passLetters_15 rfl (lv_at hl 0 rfl) ?_
        refine va_get (D := D) (ci := 1) (v := .int t_behind) (C := RX1) (T := TX1) (N := 8) hx hb hts iX1 hown hK.1 hP 0 rfl rfl 7 (by decide) f0 (fun _ h9 => h9) rfl dX1_passLetters_16 ?_
        have hPc := hP.sub (ws' := [(A_t, .inr (1, [.ref A_t_tape, .ref A_t_draft, .int t_wrong, .int t_wrongAt, .int t_lines, .int t_kind, .int t_at, .int t_behind])), (A_t_tape, .inr (6, [.ref A_t_tape_bytes, .int t_tape_size])), (A_t_tape_bytes, .inl (cy 0, 320, .inl t_tape_bytes))]) [0, 1, 2] rfl
        refine vp_callSi (W.runV (As := [.int t_behind]) (rest := []) CF (c_X1_byteAt l D cy A_t A_t_tape A_t_draft A_t_tape_bytes t_wrong t_wrongAt t_lines t_kind t_at t_behind t_tape_size t_tape_bytes t_behind _ h) (cwV 1 hts gX1_passLetters_X1_byteAt rfl rfl rfl qX1_byteAt ⟨Nat.le_of_ble_eq_true rfl, Nat.le_of_ble_eq_true rfl⟩) (mpVR hK hPc (ci := 1) (q := (RX1, TX1, 8)) (q0 := 0) rfl rfl) rfl rfl hl.1 rfl (lv_room (Nat.le_of_ble_eq_true rfl)) dX1_passLetters_19 ⟨Nat.zero_le _, Nat.zero_le _⟩) (fun r1 h => ?_)
        refine vp_callSi (W.runS (As := [.int r1]) (rest := []) CF (c_X1_isLetter l r1 _ h) (va_cwS 1 hts gX1_passLetters_X1_isLetter rfl rfl rfl qX1_isLetter.2 ⟨Nat.le_of_ble_eq_true rfl, Nat.le_of_ble_eq_true rfl⟩) mpSN rfl rfl hl.1 rfl (lv_room (Nat.le_of_ble_eq_true rfl)) dX1_passLetters_22 ⟨Nat.zero_le _, Nat.zero_le _⟩) (fun r2 h => ?_)
        refine lv_if_eq (tgt := 41) hx hb dX1_passLetters_25 (by decide) (fun hc => ?_) (fun hc => ?_)
        · replace h := h.1 hc
          subst hQ
          subst hAe
          exact W.vret hx hb hr (fun t ht _ => ⟨⟨t_behind, rfl, h, by rw [ht]; exact hP, hD⟩, hS.F ht⟩) hS.2.2 dX1_passLetters_41
        · replace h := h.2 hc
          refine lv_aload_n hx hb dX1_passLetters_28 rfl (lv_at hl 0 rfl) ?_
          refine lv_dup hx hb dX1_passLetters_29 rfl ?_
          refine va_get (D := D) (ci := 1) (v := .int t_behind) (C := RX1) (T := TX1) (N := 8) hx hb hts iX1 hown hK.1 hP 0 rfl rfl 7 (by decide) f0 (fun _ h9 => h9) rfl dX1_passLetters_30 ?_
          refine lv_iconst (v := 1) hx hb dX1_passLetters_33 (by decide) ?_
          refine lv_iadd hx hb dX1_passLetters_34 ?_
          refine va_put (D := D) (ci := 1) (v := .int (t_behind + (1 : Int32))) (ty := .int) (C := RX1) (T := TX1) (N := 8) hx hb hts iX1 tyX1 tyX1_ok nmX1 hown hK.1 hP hD hS 0 rfl rfl 7 (by decide) f0 (fun _ h9 => h9) rfl (tyX1_ok 7 (by decide)) rfl rfl (Nat.le_of_ble_eq_true rfl) dX1_passLetters_35 (fun H locs hP hD hS => ?_)
          have hP : va_P D vwCl [(A_t, .inr (1, [.ref A_t_tape, .ref A_t_draft, .int t_wrong, .int t_wrongAt, .int t_lines, .int t_kind, .int t_at, .int (t_behind + (1 : Int32))])), (A_t_tape, .inr (6, [.ref A_t_tape_bytes, .int t_tape_size])), (A_t_tape_bytes, .inl (cy 0, 320, .inl t_tape_bytes))] H := hP
          have hD : va_D A [(A_t, .inr (1, [.ref A_t_tape, .ref A_t_draft, .int t_wrong, .int t_wrongAt, .int t_lines, .int t_kind, .int t_at, .int (t_behind + (1 : Int32))])), (A_t_tape, .inr (6, [.ref A_t_tape_bytes, .int t_tape_size])), (A_t_tape_bytes, .inl (cy 0, 320, .inl t_tape_bytes))] := hD
          refine lv_goto (tgt := 0) hx hb dX1_passLetters_38 (by decide) ?_
          exact ih0 (t_behind + (1 : Int32)) H locs ls h hP hD hS (lv_sub hl [0] rfl)
  unfold P_X1_passLetters at h
  obtain ⟨nn, h⟩ := h
  exact L0 nn t_behind s.heap [] ls h hP hD hS (lv_sub hl [0] rfl)
theorem qX1_next : yX1_next.cls = RX1 ∧ yX1_next.cls ≠ "java/lang/invoke/MethodHandle" ∧ yX1_next.cls ≠ "java/lang/invoke/VarHandle" ∧ (parseMethodDescriptor yX1_next.desc).map (fun d => d.parameters.length) = some 0 := by decide +kernel
def B_X1_next_177 (post : Int32 → Int32 → Int32 → Int32 → Int32 → Prop) (t_wrong : Int32) (t_wrongAt : Int32) (t_kind : Int32) (t_at : Int32) (t_behind : Int32) : Prop :=
  ((¬ t_kind = (5 : Int32) → post t_wrong t_wrongAt t_kind t_at t_behind) ∧ (t_kind = (5 : Int32) → P_X1_fail (fun (t_wrong_v4 : Int32) (t_wrongAt_v4 : Int32) => post t_wrong_v4 t_wrongAt_v4 t_kind t_at t_behind) t_wrong t_wrongAt (1 : Int32) t_at))
def B_X1_next_174 (post : Int32 → Int32 → Int32 → Int32 → Int32 → Prop) (t_wrong : Int32) (t_wrongAt : Int32) (t_at : Int32) (t_behind : Int32) (k1 : Int32) : Prop :=
  B_X1_next_177 post t_wrong t_wrongAt k1 t_at t_behind
def B_X1_next_136 (post : Int32 → Int32 → Int32 → Int32 → Int32 → Prop) (t_wrong : Int32) (t_wrongAt : Int32) (t_at : Int32) (t_behind : Int32) (k1 : Int32) : Prop :=
  B_X1_next_177 post t_wrong t_wrongAt k1 t_at t_behind
def B_X1_next_48 (post : Int32 → Int32 → Int32 → Int32 → Int32 → Prop) (t_wrong : Int32) (t_wrongAt : Int32) (t_at : Int32) (t_tape_size : Int32) (t_tape_bytes : Nat → Int32) : Prop :=
  P_X1_byteAt (fun (r1 : Int32) => ((t_at < t_tape_size → P_X1_isLetter (fun (r2 : Int32) => ((r2 = 0 → P_X1_isFigure (fun (r3 : Int32) => ((r3 = 0 → ((¬ r1 = (45 : Int32) → ((¬ r1 = (59 : Int32) → B_X1_next_174 post t_wrong t_wrongAt t_at (t_at + (1 : Int32)) (5 : Int32)) ∧ (r1 = (59 : Int32) → B_X1_next_174 post t_wrong t_wrongAt t_at (t_at + (1 : Int32)) (4 : Int32)))) ∧ (r1 = (45 : Int32) → B_X1_next_174 post t_wrong t_wrongAt t_at (t_at + (1 : Int32)) (3 : Int32)))) ∧ (¬ r3 = 0 → P_X1_passFigures (fun (t_behind_v5 : Int32) => ((t_behind_v5 - t_at ≤ (4 : Int32) → B_X1_next_136 post t_wrong t_wrongAt t_at t_behind_v5 (2 : Int32)) ∧ (¬ t_behind_v5 - t_at ≤ (4 : Int32) → B_X1_next_136 post t_wrong t_wrongAt t_at t_behind_v5 (5 : Int32)))) t_at t_tape_size t_tape_bytes))) r1) ∧ (¬ r2 = 0 → P_X1_passLetters (fun (t_behind_v6 : Int32) => B_X1_next_177 post t_wrong t_wrongAt (1 : Int32) t_at t_behind_v6) t_at t_tape_size t_tape_bytes))) r1) ∧ (¬ t_at < t_tape_size → B_X1_next_177 post t_wrong t_wrongAt (0 : Int32) t_at t_at))) t_tape_size t_tape_bytes t_at
def LB_X1_next_8 (post : Int32 → Int32 → Int32 → Int32 → Int32 → Prop) (t_wrong : Int32) (t_wrongAt : Int32) (t_tape_size : Int32) (t_tape_bytes : Nat → Int32) (K_8 : Int32 → Prop) (t_at : Int32) : Prop :=
  ((t_tape_size ≤ t_at → B_X1_next_48 post t_wrong t_wrongAt t_at t_tape_size t_tape_bytes) ∧ (¬ t_tape_size ≤ t_at → P_X1_byteAt (fun (r7 : Int32) => ((¬ r7 = (32 : Int32) → B_X1_next_48 post t_wrong t_wrongAt t_at t_tape_size t_tape_bytes) ∧ (r7 = (32 : Int32) → K_8 (t_at + (1 : Int32))))) t_tape_size t_tape_bytes t_at))
noncomputable def L_X1_next_8 (post : Int32 → Int32 → Int32 → Int32 → Int32 → Prop) (t_wrong : Int32) (t_wrongAt : Int32) (t_tape_size : Int32) (t_tape_bytes : Nat → Int32) (n : Nat) : Int32 → Prop := Nat.rec (motive := fun _ => Int32 → Prop) (fun _ => False) (fun _ K => LB_X1_next_8 post t_wrong t_wrongAt t_tape_size t_tape_bytes K) n
def P_X1_next (post : Int32 → Int32 → Int32 → Int32 → Int32 → Prop) (t_wrong : Int32) (t_wrongAt : Int32) (t_behind : Int32) (t_tape_size : Int32) (t_tape_bytes : Nat → Int32) : Prop :=
  ∃ n : Nat, L_X1_next_8 post t_wrong t_wrongAt t_tape_size t_tape_bytes n t_behind
set_option maxHeartbeats 4000000 in
set_option maxRecDepth 100000 in
theorem c_X1_next (l : Launch) (D : va_G) (cy : Nat → ClassId) (sz : Nat) (A_t A_t_tape A_t_draft A_t_tape_bytes : Nat) (t_wrong : Int32) (t_wrongAt : Int32) (t_lines : Int32) (t_kind : Int32) (t_at : Int32) (t_behind : Int32) (t_tape_size : Int32) (t_tape_bytes : Nat → Int32) (post : Int32 → Int32 → Int32 → Int32 → Int32 → Prop) (h : P_X1_next post t_wrong t_wrongAt t_behind t_tape_size t_tape_bytes) : Met l yX1_next wsX1_next { frames := 2, cells := 0, slots := 0, locals := 41 } (pcW D cy [(A_t, .inr (1, [.ref A_t_tape, .ref A_t_draft, .int t_wrong, .int t_wrongAt, .int t_lines, .int t_kind, .int t_at, .int t_behind])), (A_t_tape, .inr (6, [.ref A_t_tape_bytes, .int t_tape_size])), (A_t_tape_bytes, .inl (cy 0, 320, .inl t_tape_bytes))] sz [.ref A_t]) (va_Qv (fun (u : Int32 × Int32 × Int32 × Int32 × Int32) => post u.1 u.2.1 u.2.2.1 u.2.2.2.1 u.2.2.2.2) (bW D [(A_t, .inr (1, [.ref A_t_tape, .ref A_t_draft, .int t_wrong, .int t_wrongAt, .int t_lines, .int t_kind, .int t_at, .int t_behind])), (A_t_tape, .inr (6, [.ref A_t_tape_bytes, .int t_tape_size])), (A_t_tape_bytes, .inl (cy 0, 320, .inl t_tape_bytes))] sz (fun u => [(A_t, .inr (1, [.ref A_t_tape, .ref A_t_draft, .int (u.1), .int (u.2.1), .int t_lines, .int (u.2.2.1), .int (u.2.2.2.1), .int (u.2.2.2.2)])), (A_t_tape, .inr (6, [.ref A_t_tape_bytes, .int t_tape_size])), (A_t_tape_bytes, .inl (cy 0, 320, .inl t_tape_bytes))])) (va_A [(A_t, .inr (1, [.ref A_t_tape, .ref A_t_draft, .int t_wrong, .int t_wrongAt, .int t_lines, .int t_kind, .int t_at, .int t_behind])), (A_t_tape, .inr (6, [.ref A_t_tape_bytes, .int t_tape_size])), (A_t_tape_bytes, .inl (cy 0, 320, .inl t_tape_bytes))] sz)) 0 0 (va_A [(A_t, .inr (1, [.ref A_t_tape, .ref A_t_draft, .int t_wrong, .int t_wrongAt, .int t_lines, .int t_kind, .int t_at, .int t_behind])), (A_t_tape, .inr (6, [.ref A_t_tape_bytes, .int t_tape_size])), (A_t_tape_bytes, .inl (cy 0, 320, .inl t_tape_bytes))] sz) := by
  refine Met.ofW (cc := cX1_next) (maxL := 2) (ret := none) (by decide) rfl ?_
  intro p e s m args below meth c s₁ B hml hv
  obtain ⟨rfl, hsz, hP, hK, hD0⟩ := hv
  have hx := B.exec
  have hb := B.bytes
  have hr := B.returns
  have hts := atoms_spec (ws := wsX1_next) B.pre
  have hown : s.vm.findClass RX1 = some m.cls := findClass_of_methodNamed B.named
  have hlocks := B.notSynchronized
  have CF : CallFix p m c cX1_next 2 s ([.ref A_t] : List Value).toArray wsX1_next RX1 := ⟨hx, hb, hml, hown, hts⟩
  have f0 := hts (.fieldLink RX1 38 "GapBounds$Reader" "behind" "I") (by decide +kernel)
  have f1 := hts (.fieldLink RX1 51 "GapBounds$Reader" "at" "I") (by decide +kernel)
  have f2 := hts (.fieldLink RX1 12 "GapBounds$Reader" "tape" "LGapBounds$Tape;") (by decide +kernel)
  have f3 := hts (.fieldLink RX1 94 "GapBounds$Tape" "size" "I") (by decide +kernel)
  have f4 := hts (.fieldLink RX1 44 "GapBounds$Reader" "kind" "I") (by decide +kernel)
  have iX1 : ∀ w ∈ u_ws RX1 TX1 8, w ∈ wsX1_next := by decide +kernel
  have iX6 : ∀ w ∈ u_ws RX6 TX6 2, w ∈ wsX1_next := by decide +kernel
  subst hsz
  obtain ⟨A, hAe⟩ : ∃ A, A = va_A [(A_t, .inr (1, [.ref A_t_tape, .ref A_t_draft, .int t_wrong, .int t_wrongAt, .int t_lines, .int t_kind, .int t_at, .int t_behind])), (A_t_tape, .inr (6, [.ref A_t_tape_bytes, .int t_tape_size])), (A_t_tape_bytes, .inl (cy 0, 320, .inl t_tape_bytes))] s.heap.size := ⟨_, rfl⟩
  have hD : va_D A [(A_t, .inr (1, [.ref A_t_tape, .ref A_t_draft, .int t_wrong, .int t_wrongAt, .int t_lines, .int t_kind, .int t_at, .int t_behind])), (A_t_tape, .inr (6, [.ref A_t_tape_bytes, .int t_tape_size])), (A_t_tape_bytes, .inl (cy 0, 320, .inl t_tape_bytes))] := by rw [hAe]; exact hD0.self
  have hA : ∀ q : Nat, s.heap.size ≤ q → A q := fun q hq => by rw [hAe]; exact Or.inr hq
  have hS : va_S A s.heap s.heap [] := va_S.rf
  have hl := lv_entry [.ref A_t] (n := 2) (Nat.le_of_ble_eq_true rfl)
  rw [lg_entry_eq]
  generalize (lg_sl [.ref A_t] ++ List.replicate (2 - (lg_sl [.ref A_t]).length) Slot.unset).toArray = ls at hl ⊢
  have hl : lv_has ls 2 [(0, .ref A_t)] := hl
  refine W.gen (fun Q0 hQ => ?_)
  have J177 : ∀ (t_wrong : Int32) (t_wrongAt : Int32) (t_kind : Int32) (t_at : Int32) (t_behind : Int32) (H : Heap) (locs : List Loc) (ls : Array Slot), B_X1_next_177 post t_wrong t_wrongAt t_kind t_at t_behind → va_P D vwCl [(A_t, .inr (1, [.ref A_t_tape, .ref A_t_draft, .int t_wrong, .int t_wrongAt, .int t_lines, .int t_kind, .int t_at, .int t_behind])), (A_t_tape, .inr (6, [.ref A_t_tape_bytes, .int t_tape_size])), (A_t_tape_bytes, .inl (cy 0, 320, .inl t_tape_bytes))] H → va_D A [(A_t, .inr (1, [.ref A_t_tape, .ref A_t_draft, .int t_wrong, .int t_wrongAt, .int t_lines, .int t_kind, .int t_at, .int t_behind])), (A_t_tape, .inr (6, [.ref A_t_tape_bytes, .int t_tape_size])), (A_t_tape_bytes, .inl (cy 0, 320, .inl t_tape_bytes))] → va_S A s.heap H locs → lv_has ls 2 [(0, .ref A_t)] → W p l e (headSpec wsX1_next { frames := 2, cells := 0, slots := 0, locals := 41 }).room s m ([.ref A_t] : List Value).toArray below meth c H locs 0 0 Q0 (F0 m 177 ls []) := by
    intro t_wrong t_wrongAt t_kind t_at t_behind H locs ls h hP hD hS hl
    unfold B_X1_next_177 at h
    refine lv_aload_n hx hb dX1_next_177 rfl (lv_at hl 0 rfl) ?_
    refine va_get (D := D) (ci := 1) (v := .int t_kind) (C := RX1) (T := TX1) (N := 8) hx hb hts iX1 hown hK.1 hP 0 rfl rfl 5 (by decide) f4 (fun _ h9 => h9) rfl dX1_next_178 ?_
    refine lv_iconst (v := 5) hx hb dX1_next_181 (by decide) ?_
    refine lv_icmp_ne (tgt := 194) hx hb dX1_next_182 (by decide) (fun hc => ?_) (fun hc => ?_)
    · replace h := h.1 hc
      subst hQ
      subst hAe
      exact W.vret hx hb hr (fun t ht _ => ⟨⟨(t_wrong, t_wrongAt, t_kind, t_at, t_behind), rfl, h, by rw [ht]; exact hP, hD⟩, hS.F ht⟩) hS.2.2 dX1_next_194
    · replace h := h.2 hc
      refine lv_aload_n hx hb dX1_next_185 rfl (lv_at hl 0 rfl) ?_
      refine lv_iconst (v := 1) hx hb dX1_next_186 (by decide) ?_
      refine lv_aload_n hx hb dX1_next_187 rfl (lv_at hl 0 rfl) ?_
      refine va_get (D := D) (ci := 1) (v := .int t_at) (C := RX1) (T := TX1) (N := 8) hx hb hts iX1 hown hK.1 hP 0 rfl rfl 6 (by decide) f1 (fun _ h9 => h9) rfl dX1_next_188 ?_
      have hPn : va_P D vwCl ([(A_t_tape, .inr (6, [.ref A_t_tape_bytes, .int t_tape_size])), (A_t_tape_bytes, .inl (cy 0, 320, .inl t_tape_bytes))] ++ [(A_t, .inr (1, [.ref A_t_tape, .ref A_t_draft, .int t_wrong, .int t_wrongAt, .int t_lines, .int t_kind, .int t_at, .int t_behind]))]) H := hP.sub [1, 2, 0] rfl
      have hDn : va_D A ([(A_t_tape, .inr (6, [.ref A_t_tape_bytes, .int t_tape_size])), (A_t_tape_bytes, .inl (cy 0, 320, .inl t_tape_bytes))] ++ [(A_t, .inr (1, [.ref A_t_tape, .ref A_t_draft, .int t_wrong, .int t_wrongAt, .int t_lines, .int t_kind, .int t_at, .int t_behind]))]) := hD.sub [1, 2, 0] (by decide) rfl
      have hPc := gPR hPn
      have hDc := gDR hDn
      refine mw_v (va_runV (As := [.int (1 : Int32), .int t_at]) (rest := []) CF (c_X1_fail l D cy H.size A_t A_t_tape A_t_draft t_wrong t_wrongAt t_lines t_kind t_at t_behind (1 : Int32) t_at _ h) (cwV 2 hts gX1_next_X1_fail rfl rfl rfl qX1_fail ⟨Nat.le_of_ble_eq_true rfl, Nat.le_of_ble_eq_true rfl⟩) (mpVW hK hPc hDc (ci := 1) (q := (RX1, TX1, 8)) (q0 := 0) rfl rfl) rfl rfl hl.1 rfl (lv_room (Nat.le_of_ble_eq_true rfl)) dX1_next_191 ⟨Nat.zero_le _, Nat.zero_le _⟩) hPn hDn hS hA (fun u H locs h hP hD hS => ?_)
      obtain ⟨t_wrong_v4, t_wrongAt_v4⟩ := u
      have hP : va_P D vwCl [(A_t, .inr (1, [.ref A_t_tape, .ref A_t_draft, .int t_wrong_v4, .int t_wrongAt_v4, .int t_lines, .int t_kind, .int t_at, .int t_behind])), (A_t_tape, .inr (6, [.ref A_t_tape_bytes, .int t_tape_size])), (A_t_tape_bytes, .inl (cy 0, 320, .inl t_tape_bytes))] H := hP.sub [2, 0, 1] rfl
      have hD : va_D A [(A_t, .inr (1, [.ref A_t_tape, .ref A_t_draft, .int t_wrong_v4, .int t_wrongAt_v4, .int t_lines, .int t_kind, .int t_at, .int t_behind])), (A_t_tape, .inr (6, [.ref A_t_tape_bytes, .int t_tape_size])), (A_t_tape_bytes, .inl (cy 0, 320, .inl t_tape_bytes))] := hD.sub [2, 0, 1] (by decide) rfl
      try dsimp only at h
      subst hQ
      subst hAe
      exact W.vret hx hb hr (fun t ht _ => ⟨⟨(t_wrong_v4, t_wrongAt_v4, t_kind, t_at, t_behind), rfl, h, by rw [ht]; exact hP, hD⟩, hS.F ht⟩) hS.2.2 dX1_next_194
  have J174 : ∀ (t_wrong : Int32) (t_wrongAt : Int32) (t_kind : Int32) (t_at : Int32) (t_behind : Int32) (k1 : Int32) (H : Heap) (locs : List Loc) (ls : Array Slot), B_X1_next_174 post t_wrong t_wrongAt t_at t_behind k1 → va_P D vwCl [(A_t, .inr (1, [.ref A_t_tape, .ref A_t_draft, .int t_wrong, .int t_wrongAt, .int t_lines, .int t_kind, .int t_at, .int t_behind])), (A_t_tape, .inr (6, [.ref A_t_tape_bytes, .int t_tape_size])), (A_t_tape_bytes, .inl (cy 0, 320, .inl t_tape_bytes))] H → va_D A [(A_t, .inr (1, [.ref A_t_tape, .ref A_t_draft, .int t_wrong, .int t_wrongAt, .int t_lines, .int t_kind, .int t_at, .int t_behind])), (A_t_tape, .inr (6, [.ref A_t_tape_bytes, .int t_tape_size])), (A_t_tape_bytes, .inl (cy 0, 320, .inl t_tape_bytes))] → va_S A s.heap H locs → lv_has ls 2 [(0, .ref A_t)] → W p l e (headSpec wsX1_next { frames := 2, cells := 0, slots := 0, locals := 41 }).room s m ([.ref A_t] : List Value).toArray below meth c H locs 0 0 Q0 (F0 m 174 ls [.int k1, .ref A_t]) := by
    intro t_wrong t_wrongAt t_kind t_at t_behind k1 H locs ls h hP hD hS hl
    unfold B_X1_next_174 at h
    refine va_put (D := D) (ci := 1) (v := .int k1) (ty := .int) (C := RX1) (T := TX1) (N := 8) hx hb hts iX1 tyX1 tyX1_ok nmX1 hown hK.1 hP hD hS 0 rfl rfl 5 (by decide) f4 (fun _ h9 => h9) rfl (tyX1_ok 5 (by decide)) rfl rfl (Nat.le_of_ble_eq_true rfl) dX1_next_174 (fun H locs hP hD hS => ?_)
    have hP : va_P D vwCl [(A_t, .inr (1, [.ref A_t_tape, .ref A_t_draft, .int t_wrong, .int t_wrongAt, .int t_lines, .int k1, .int t_at, .int t_behind])), (A_t_tape, .inr (6, [.ref A_t_tape_bytes, .int t_tape_size])), (A_t_tape_bytes, .inl (cy 0, 320, .inl t_tape_bytes))] H := hP
    have hD : va_D A [(A_t, .inr (1, [.ref A_t_tape, .ref A_t_draft, .int t_wrong, .int t_wrongAt, .int t_lines, .int k1, .int t_at, .int t_behind])), (A_t_tape, .inr (6, [.ref A_t_tape_bytes, .int t_tape_size])), (A_t_tape_bytes, .inl (cy 0, 320, .inl t_tape_bytes))] := hD
    exact J177 t_wrong t_wrongAt k1 t_at t_behind H locs ls h hP hD hS (lv_sub hl [0] rfl)
  have J136 : ∀ (t_wrong : Int32) (t_wrongAt : Int32) (t_kind : Int32) (t_at : Int32) (t_behind : Int32) (k1 : Int32) (H : Heap) (locs : List Loc) (ls : Array Slot), B_X1_next_136 post t_wrong t_wrongAt t_at t_behind k1 → va_P D vwCl [(A_t, .inr (1, [.ref A_t_tape, .ref A_t_draft, .int t_wrong, .int t_wrongAt, .int t_lines, .int t_kind, .int t_at, .int t_behind])), (A_t_tape, .inr (6, [.ref A_t_tape_bytes, .int t_tape_size])), (A_t_tape_bytes, .inl (cy 0, 320, .inl t_tape_bytes))] H → va_D A [(A_t, .inr (1, [.ref A_t_tape, .ref A_t_draft, .int t_wrong, .int t_wrongAt, .int t_lines, .int t_kind, .int t_at, .int t_behind])), (A_t_tape, .inr (6, [.ref A_t_tape_bytes, .int t_tape_size])), (A_t_tape_bytes, .inl (cy 0, 320, .inl t_tape_bytes))] → va_S A s.heap H locs → lv_has ls 2 [(0, .ref A_t)] → W p l e (headSpec wsX1_next { frames := 2, cells := 0, slots := 0, locals := 41 }).room s m ([.ref A_t] : List Value).toArray below meth c H locs 0 0 Q0 (F0 m 136 ls [.int k1, .ref A_t]) := by
    intro t_wrong t_wrongAt t_kind t_at t_behind k1 H locs ls h hP hD hS hl
    unfold B_X1_next_136 at h
    refine va_put (D := D) (ci := 1) (v := .int k1) (ty := .int) (C := RX1) (T := TX1) (N := 8) hx hb hts iX1 tyX1 tyX1_ok nmX1 hown hK.1 hP hD hS 0 rfl rfl 5 (by decide) f4 (fun _ h9 => h9) rfl (tyX1_ok 5 (by decide)) rfl rfl (Nat.le_of_ble_eq_true rfl) dX1_next_136 (fun H locs hP hD hS => ?_)
    have hP : va_P D vwCl [(A_t, .inr (1, [.ref A_t_tape, .ref A_t_draft, .int t_wrong, .int t_wrongAt, .int t_lines, .int k1, .int t_at, .int t_behind])), (A_t_tape, .inr (6, [.ref A_t_tape_bytes, .int t_tape_size])), (A_t_tape_bytes, .inl (cy 0, 320, .inl t_tape_bytes))] H := hP
    have hD : va_D A [(A_t, .inr (1, [.ref A_t_tape, .ref A_t_draft, .int t_wrong, .int t_wrongAt, .int t_lines, .int k1, .int t_at, .int t_behind])), (A_t_tape, .inr (6, [.ref A_t_tape_bytes, .int t_tape_size])), (A_t_tape_bytes, .inl (cy 0, 320, .inl t_tape_bytes))] := hD
    refine lv_goto (tgt := 177) hx hb dX1_next_139 (by decide) ?_
    exact J177 t_wrong t_wrongAt k1 t_at t_behind H locs ls h hP hD hS (lv_sub hl [0] rfl)
  have J48 : ∀ (t_wrong : Int32) (t_wrongAt : Int32) (t_kind : Int32) (t_at : Int32) (t_behind : Int32) (H : Heap) (locs : List Loc) (ls : Array Slot), B_X1_next_48 post t_wrong t_wrongAt t_at t_tape_size t_tape_bytes → va_P D vwCl [(A_t, .inr (1, [.ref A_t_tape, .ref A_t_draft, .int t_wrong, .int t_wrongAt, .int t_lines, .int t_kind, .int t_at, .int t_behind])), (A_t_tape, .inr (6, [.ref A_t_tape_bytes, .int t_tape_size])), (A_t_tape_bytes, .inl (cy 0, 320, .inl t_tape_bytes))] H → va_D A [(A_t, .inr (1, [.ref A_t_tape, .ref A_t_draft, .int t_wrong, .int t_wrongAt, .int t_lines, .int t_kind, .int t_at, .int t_behind])), (A_t_tape, .inr (6, [.ref A_t_tape_bytes, .int t_tape_size])), (A_t_tape_bytes, .inl (cy 0, 320, .inl t_tape_bytes))] → va_S A s.heap H locs → lv_has ls 2 [(0, .ref A_t)] → W p l e (headSpec wsX1_next { frames := 2, cells := 0, slots := 0, locals := 41 }).room s m ([.ref A_t] : List Value).toArray below meth c H locs 0 0 Q0 (F0 m 48 ls []) := by
    intro t_wrong t_wrongAt t_kind t_at t_behind H locs ls h hP hD hS hl
    unfold B_X1_next_48 at h
    refine lv_aload_n hx hb dX1_next_48 rfl (lv_at hl 0 rfl) ?_
    refine lv_aload_n hx hb dX1_next_49 rfl (lv_at hl 0 rfl) ?_
    refine va_get (D := D) (ci := 1) (v := .int t_at) (C := RX1) (T := TX1) (N := 8) hx hb hts iX1 hown hK.1 hP 0 rfl rfl 6 (by decide) f1 (fun _ h9 => h9) rfl dX1_next_50 ?_
    refine va_put (D := D) (ci := 1) (v := .int t_at) (ty := .int) (C := RX1) (T := TX1) (N := 8) hx hb hts iX1 tyX1 tyX1_ok nmX1 hown hK.1 hP hD hS 0 rfl rfl 7 (by decide) f0 (fun _ h9 => h9) rfl (tyX1_ok 7 (by decide)) rfl rfl (Nat.le_of_ble_eq_true rfl) dX1_next_53 (fun H locs hP hD hS => ?_)
    have hP : va_P D vwCl [(A_t, .inr (1, [.ref A_t_tape, .ref A_t_draft, .int t_wrong, .int t_wrongAt, .int t_lines, .int t_kind, .int t_at, .int t_at])), (A_t_tape, .inr (6, [.ref A_t_tape_bytes, .int t_tape_size])), (A_t_tape_bytes, .inl (cy 0, 320, .inl t_tape_bytes))] H := hP
    have hD : va_D A [(A_t, .inr (1, [.ref A_t_tape, .ref A_t_draft, .int t_wrong, .int t_wrongAt, .int t_lines, .int t_kind, .int t_at, .int t_at])), (A_t_tape, .inr (6, [.ref A_t_tape_bytes, .int t_tape_size])), (A_t_tape_bytes, .inl (cy 0, 320, .inl t_tape_bytes))] := hD
    refine lv_aload_n hx hb dX1_next_56 rfl (lv_at hl 0 rfl) ?_
    refine lv_aload_n hx hb dX1_next_57 rfl (lv_at hl 0 rfl) ?_
    refine va_get (D := D) (ci := 1) (v := .int t_at) (C := RX1) (T := TX1) (N := 8) hx hb hts iX1 hown hK.1 hP 0 rfl rfl 6 (by decide) f1 (fun _ h9 => h9) rfl dX1_next_58 ?_
    have hPc := hP.sub (ws' := [(A_t, .inr (1, [.ref A_t_tape, .ref A_t_draft, .int t_wrong, .int t_wrongAt, .int t_lines, .int t_kind, .int t_at, .int t_at])), (A_t_tape, .inr (6, [.ref A_t_tape_bytes, .int t_tape_size])), (A_t_tape_bytes, .inl (cy 0, 320, .inl t_tape_bytes))]) [0, 1, 2] rfl
    refine vp_callSi (W.runV (As := [.int t_at]) (rest := []) CF (c_X1_byteAt l D cy A_t A_t_tape A_t_draft A_t_tape_bytes t_wrong t_wrongAt t_lines t_kind t_at t_at t_tape_size t_tape_bytes t_at _ h) (cwV 1 hts gX1_next_X1_byteAt rfl rfl rfl qX1_byteAt ⟨Nat.le_of_ble_eq_true rfl, Nat.le_of_ble_eq_true rfl⟩) (mpVR hK hPc (ci := 1) (q := (RX1, TX1, 8)) (q0 := 0) rfl rfl) rfl rfl hl.1 rfl (lv_room (Nat.le_of_ble_eq_true rfl)) dX1_next_61 ⟨Nat.zero_le _, Nat.zero_le _⟩) (fun r1 h => ?_)
    refine lv_istore_n (lv' := [(1, .int r1), (0, .ref A_t)]) hx hb dX1_next_64 rfl hl (by decide) rfl (fun ls hl => ?_)
    refine lv_aload_n hx hb dX1_next_65 rfl (lv_at hl 1 rfl) ?_
    refine va_get (D := D) (ci := 1) (v := .int t_at) (C := RX1) (T := TX1) (N := 8) hx hb hts iX1 hown hK.1 hP 0 rfl rfl 6 (by decide) f1 (fun _ h9 => h9) rfl dX1_next_66 ?_
    refine lv_aload_n hx hb dX1_next_69 rfl (lv_at hl 1 rfl) ?_
    refine va_get (D := D) (ci := 1) (v := .ref A_t_tape) (C := RX1) (T := TX1) (N := 8) hx hb hts iX1 hown hK.1 hP 0 rfl rfl 0 (by decide) f2 (fun _ h9 => h9) rfl dX1_next_70 ?_
    refine va_get (D := D) (ci := 6) (v := .int t_tape_size) (C := RX6) (T := TX6) (N := 2) hx hb hts iX6 hown hK.1 hP 1 rfl rfl 1 (by decide) f3 (fun _ h9 => h9) rfl dX1_next_73 ?_
    refine lv_icmp_lt (tgt := 87) hx hb dX1_next_76 (by decide) (fun hc => ?_) (fun hc => ?_)
    · replace h := h.1 hc
      refine lv_iload_n hx hb dX1_next_87 rfl (lv_at hl 0 rfl) ?_
      refine vp_callSi (W.runS (As := [.int r1]) (rest := []) CF (c_X1_isLetter l r1 _ h) (va_cwS 1 hts gX1_next_X1_isLetter rfl rfl rfl qX1_isLetter.2 ⟨Nat.le_of_ble_eq_true rfl, Nat.le_of_ble_eq_true rfl⟩) mpSN rfl rfl hl.1 rfl (lv_room (Nat.le_of_ble_eq_true rfl)) dX1_next_88 ⟨Nat.zero_le _, Nat.zero_le _⟩) (fun r2 h => ?_)
      refine lv_if_eq (tgt := 106) hx hb dX1_next_91 (by decide) (fun hc => ?_) (fun hc => ?_)
      · replace h := h.1 hc
        refine lv_iload_n hx hb dX1_next_106 rfl (lv_at hl 0 rfl) ?_
        refine vp_callSi (W.runS (As := [.int r1]) (rest := []) CF (c_X1_isFigure l r1 _ h) (va_cwS 1 hts gX1_next_X1_isFigure rfl rfl rfl qX1_isFigure.2 ⟨Nat.le_of_ble_eq_true rfl, Nat.le_of_ble_eq_true rfl⟩) mpSN rfl rfl hl.1 rfl (lv_room (Nat.le_of_ble_eq_true rfl)) dX1_next_107 ⟨Nat.zero_le _, Nat.zero_le _⟩) (fun r3 h => ?_)
        refine lv_if_eq (tgt := 142) hx hb dX1_next_110 (by decide) (fun hc => ?_) (fun hc => ?_)
        · replace h := h.1 hc
          refine lv_aload_n hx hb dX1_next_142 rfl (lv_at hl 1 rfl) ?_
          refine lv_aload_n hx hb dX1_next_143 rfl (lv_at hl 1 rfl) ?_
          refine va_get (D := D) (ci := 1) (v := .int t_at) (C := RX1) (T := TX1) (N := 8) hx hb hts iX1 hown hK.1 hP 0 rfl rfl 6 (by decide) f1 (fun _ h9 => h9) rfl dX1_next_144 ?_
          refine lv_iconst (v := 1) hx hb dX1_next_147 (by decide) ?_
          refine lv_iadd hx hb dX1_next_148 ?_
          refine va_put (D := D) (ci := 1) (v := .int (t_at + (1 : Int32))) (ty := .int) (C := RX1) (T := TX1) (N := 8) hx hb hts iX1 tyX1 tyX1_ok nmX1 hown hK.1 hP hD hS 0 rfl rfl 7 (by decide) f0 (fun _ h9 => h9) rfl (tyX1_ok 7 (by decide)) rfl rfl (Nat.le_of_ble_eq_true rfl) dX1_next_149 (fun H locs hP hD hS => ?_)
          have hP : va_P D vwCl [(A_t, .inr (1, [.ref A_t_tape, .ref A_t_draft, .int t_wrong, .int t_wrongAt, .int t_lines, .int t_kind, .int t_at, .int (t_at + (1 : Int32))])), (A_t_tape, .inr (6, [.ref A_t_tape_bytes, .int t_tape_size])), (A_t_tape_bytes, .inl (cy 0, 320, .inl t_tape_bytes))] H := hP
          have hD : va_D A [(A_t, .inr (1, [.ref A_t_tape, .ref A_t_draft, .int t_wrong, .int t_wrongAt, .int t_lines, .int t_kind, .int t_at, .int (t_at + (1 : Int32))])), (A_t_tape, .inr (6, [.ref A_t_tape_bytes, .int t_tape_size])), (A_t_tape_bytes, .inl (cy 0, 320, .inl t_tape_bytes))] := hD
          refine lv_aload_n hx hb dX1_next_152 rfl (lv_at hl 1 rfl) ?_
          refine lv_iload_n hx hb dX1_next_153 rfl (lv_at hl 0 rfl) ?_
          refine lv_bipush (v := 45) hx hb dX1_next_154 (by decide) ?_
          refine lv_icmp_ne (tgt := 163) hx hb dX1_next_156 (by decide) (fun hc => ?_) (fun hc => ?_)
          · replace h := h.1 hc
            refine lv_iload_n hx hb dX1_next_163 rfl (lv_at hl 0 rfl) ?_
            refine lv_bipush (v := 59) hx hb dX1_next_164 (by decide) ?_
            refine lv_icmp_ne (tgt := 173) hx hb dX1_next_166 (by decide) (fun hc => ?_) (fun hc => ?_)
            · replace h := h.1 hc
              refine lv_iconst (v := 5) hx hb dX1_next_173 (by decide) ?_
              exact J174 t_wrong t_wrongAt t_kind t_at (t_at + (1 : Int32)) (5 : Int32) H locs ls h hP hD hS (lv_sub hl [1] rfl)
            · replace h := h.2 hc
              refine lv_iconst (v := 4) hx hb dX1_next_169 (by decide) ?_
              refine lv_goto (tgt := 174) hx hb dX1_next_170 (by decide) ?_
              exact J174 t_wrong t_wrongAt t_kind t_at (t_at + (1 : Int32)) (4 : Int32) H locs ls h hP hD hS (lv_sub hl [1] rfl)
          · replace h := h.2 hc
            refine lv_iconst (v := 3) hx hb dX1_next_159 (by decide) ?_
            refine lv_goto (tgt := 174) hx hb dX1_next_160 (by decide) ?_
            exact J174 t_wrong t_wrongAt t_kind t_at (t_at + (1 : Int32)) (3 : Int32) H locs ls h hP hD hS (lv_sub hl [1] rfl)
        · replace h := h.2 hc
          refine lv_aload_n hx hb dX1_next_113 rfl (lv_at hl 1 rfl) ?_
          have hPn : va_P D vwCl ([] ++ [(A_t, .inr (1, [.ref A_t_tape, .ref A_t_draft, .int t_wrong, .int t_wrongAt, .int t_lines, .int t_kind, .int t_at, .int t_at])), (A_t_tape, .inr (6, [.ref A_t_tape_bytes, .int t_tape_size])), (A_t_tape_bytes, .inl (cy 0, 320, .inl t_tape_bytes))]) H := hP.sub [0, 1, 2] rfl
          have hDn : va_D A ([] ++ [(A_t, .inr (1, [.ref A_t_tape, .ref A_t_draft, .int t_wrong, .int t_wrongAt, .int t_lines, .int t_kind, .int t_at, .int t_at])), (A_t_tape, .inr (6, [.ref A_t_tape_bytes, .int t_tape_size])), (A_t_tape_bytes, .inl (cy 0, 320, .inl t_tape_bytes))]) := hD.sub [0, 1, 2] (by decide) rfl
          have hPc := gPR hPn
          have hDc := gDR hDn
          refine mw_v (va_runV (As := []) (rest := []) CF (c_X1_passFigures l D cy H.size A_t A_t_tape A_t_draft A_t_tape_bytes t_wrong t_wrongAt t_lines t_kind t_at t_at t_tape_size t_tape_bytes _ h) (cwV 0 hts gX1_next_X1_passFigures rfl rfl rfl qX1_passFigures ⟨Nat.le_of_ble_eq_true rfl, Nat.le_of_ble_eq_true rfl⟩) (mpVW hK hPc hDc (ci := 1) (q := (RX1, TX1, 8)) (q0 := 0) rfl rfl) rfl rfl hl.1 rfl (lv_room (Nat.le_of_ble_eq_true rfl)) dX1_next_114 ⟨Nat.zero_le _, Nat.zero_le _⟩) hPn hDn hS hA (fun t_behind_v5 H locs h hP hD hS => ?_)
          have hP : va_P D vwCl [(A_t, .inr (1, [.ref A_t_tape, .ref A_t_draft, .int t_wrong, .int t_wrongAt, .int t_lines, .int t_kind, .int t_at, .int t_behind_v5])), (A_t_tape, .inr (6, [.ref A_t_tape_bytes, .int t_tape_size])), (A_t_tape_bytes, .inl (cy 0, 320, .inl t_tape_bytes))] H := hP.sub [0, 1, 2] rfl
          have hD : va_D A [(A_t, .inr (1, [.ref A_t_tape, .ref A_t_draft, .int t_wrong, .int t_wrongAt, .int t_lines, .int t_kind, .int t_at, .int t_behind_v5])), (A_t_tape, .inr (6, [.ref A_t_tape_bytes, .int t_tape_size])), (A_t_tape_bytes, .inl (cy 0, 320, .inl t_tape_bytes))] := hD.sub [0, 1, 2] (by decide) rfl
          refine lv_aload_n hx hb dX1_next_117 rfl (lv_at hl 1 rfl) ?_
          refine lv_aload_n hx hb dX1_next_118 rfl (lv_at hl 1 rfl) ?_
          refine va_get (D := D) (ci := 1) (v := .int t_behind_v5) (C := RX1) (T := TX1) (N := 8) hx hb hts iX1 hown hK.1 hP 0 rfl rfl 7 (by decide) f0 (fun _ h9 => h9) rfl dX1_next_119 ?_
          refine lv_aload_n hx hb dX1_next_122 rfl (lv_at hl 1 rfl) ?_
          refine va_get (D := D) (ci := 1) (v := .int t_at) (C := RX1) (T := TX1) (N := 8) hx hb hts iX1 hown hK.1 hP 0 rfl rfl 6 (by decide) f1 (fun _ h9 => h9) rfl dX1_next_123 ?_
          refine lv_isub hx hb dX1_next_126 ?_
          refine lv_iconst (v := 4) hx hb dX1_next_127 (by decide) ?_
          refine lv_icmp_le (tgt := 135) hx hb dX1_next_128 (by decide) (fun hc => ?_) (fun hc => ?_)
          · replace h := h.1 hc
            refine lv_iconst (v := 2) hx hb dX1_next_135 (by decide) ?_
            exact J136 t_wrong t_wrongAt t_kind t_at t_behind_v5 (2 : Int32) H locs ls h hP hD hS (lv_sub hl [1] rfl)
          · replace h := h.2 hc
            refine lv_iconst (v := 5) hx hb dX1_next_131 (by decide) ?_
            refine lv_goto (tgt := 136) hx hb dX1_next_132 (by decide) ?_
            exact J136 t_wrong t_wrongAt t_kind t_at t_behind_v5 (5 : Int32) H locs ls h hP hD hS (lv_sub hl [1] rfl)
      · replace h := h.2 hc
        refine lv_aload_n hx hb dX1_next_94 rfl (lv_at hl 1 rfl) ?_
        refine lv_iconst (v := 1) hx hb dX1_next_95 (by decide) ?_
        refine va_put (D := D) (ci := 1) (v := .int (1 : Int32)) (ty := .int) (C := RX1) (T := TX1) (N := 8) hx hb hts iX1 tyX1 tyX1_ok nmX1 hown hK.1 hP hD hS 0 rfl rfl 5 (by decide) f4 (fun _ h9 => h9) rfl (tyX1_ok 5 (by decide)) rfl rfl (Nat.le_of_ble_eq_true rfl) dX1_next_96 (fun H locs hP hD hS => ?_)
        have hP : va_P D vwCl [(A_t, .inr (1, [.ref A_t_tape, .ref A_t_draft, .int t_wrong, .int t_wrongAt, .int t_lines, .int ((1 : Int32)), .int t_at, .int t_at])), (A_t_tape, .inr (6, [.ref A_t_tape_bytes, .int t_tape_size])), (A_t_tape_bytes, .inl (cy 0, 320, .inl t_tape_bytes))] H := hP
        have hD : va_D A [(A_t, .inr (1, [.ref A_t_tape, .ref A_t_draft, .int t_wrong, .int t_wrongAt, .int t_lines, .int ((1 : Int32)), .int t_at, .int t_at])), (A_t_tape, .inr (6, [.ref A_t_tape_bytes, .int t_tape_size])), (A_t_tape_bytes, .inl (cy 0, 320, .inl t_tape_bytes))] := hD
        refine lv_aload_n hx hb dX1_next_99 rfl (lv_at hl 1 rfl) ?_
        have hPn : va_P D vwCl ([] ++ [(A_t, .inr (1, [.ref A_t_tape, .ref A_t_draft, .int t_wrong, .int t_wrongAt, .int t_lines, .int ((1 : Int32)), .int t_at, .int t_at])), (A_t_tape, .inr (6, [.ref A_t_tape_bytes, .int t_tape_size])), (A_t_tape_bytes, .inl (cy 0, 320, .inl t_tape_bytes))]) H := hP.sub [0, 1, 2] rfl
        have hDn : va_D A ([] ++ [(A_t, .inr (1, [.ref A_t_tape, .ref A_t_draft, .int t_wrong, .int t_wrongAt, .int t_lines, .int ((1 : Int32)), .int t_at, .int t_at])), (A_t_tape, .inr (6, [.ref A_t_tape_bytes, .int t_tape_size])), (A_t_tape_bytes, .inl (cy 0, 320, .inl t_tape_bytes))]) := hD.sub [0, 1, 2] (by decide) rfl
        have hPc := gPR hPn
        have hDc := gDR hDn
        refine mw_v (va_runV (As := []) (rest := []) CF (c_X1_passLetters l D cy H.size A_t A_t_tape A_t_draft A_t_tape_bytes t_wrong t_wrongAt t_lines (1 : Int32) t_at t_at t_tape_size t_tape_bytes _ h) (cwV 0 hts gX1_next_X1_passLetters rfl rfl rfl qX1_passLetters ⟨Nat.le_of_ble_eq_true rfl, Nat.le_of_ble_eq_true rfl⟩) (mpVW hK hPc hDc (ci := 1) (q := (RX1, TX1, 8)) (q0 := 0) rfl rfl) rfl rfl hl.1 rfl (lv_room (Nat.le_of_ble_eq_true rfl)) dX1_next_100 ⟨Nat.zero_le _, Nat.zero_le _⟩) hPn hDn hS hA (fun t_behind_v6 H locs h hP hD hS => ?_)
        have hP : va_P D vwCl [(A_t, .inr (1, [.ref A_t_tape, .ref A_t_draft, .int t_wrong, .int t_wrongAt, .int t_lines, .int ((1 : Int32)), .int t_at, .int t_behind_v6])), (A_t_tape, .inr (6, [.ref A_t_tape_bytes, .int t_tape_size])), (A_t_tape_bytes, .inl (cy 0, 320, .inl t_tape_bytes))] H := hP.sub [0, 1, 2] rfl
        have hD : va_D A [(A_t, .inr (1, [.ref A_t_tape, .ref A_t_draft, .int t_wrong, .int t_wrongAt, .int t_lines, .int ((1 : Int32)), .int t_at, .int t_behind_v6])), (A_t_tape, .inr (6, [.ref A_t_tape_bytes, .int t_tape_size])), (A_t_tape_bytes, .inl (cy 0, 320, .inl t_tape_bytes))] := hD.sub [0, 1, 2] (by decide) rfl
        refine lv_goto (tgt := 177) hx hb dX1_next_103 (by decide) ?_
        exact J177 t_wrong t_wrongAt (1 : Int32) t_at t_behind_v6 H locs ls h hP hD hS (lv_sub hl [1] rfl)
    · replace h := h.2 hc
      refine lv_aload_n hx hb dX1_next_79 rfl (lv_at hl 1 rfl) ?_
      refine lv_iconst (v := 0) hx hb dX1_next_80 (by decide) ?_
      refine va_put (D := D) (ci := 1) (v := .int (0 : Int32)) (ty := .int) (C := RX1) (T := TX1) (N := 8) hx hb hts iX1 tyX1 tyX1_ok nmX1 hown hK.1 hP hD hS 0 rfl rfl 5 (by decide) f4 (fun _ h9 => h9) rfl (tyX1_ok 5 (by decide)) rfl rfl (Nat.le_of_ble_eq_true rfl) dX1_next_81 (fun H locs hP hD hS => ?_)
      have hP : va_P D vwCl [(A_t, .inr (1, [.ref A_t_tape, .ref A_t_draft, .int t_wrong, .int t_wrongAt, .int t_lines, .int ((0 : Int32)), .int t_at, .int t_at])), (A_t_tape, .inr (6, [.ref A_t_tape_bytes, .int t_tape_size])), (A_t_tape_bytes, .inl (cy 0, 320, .inl t_tape_bytes))] H := hP
      have hD : va_D A [(A_t, .inr (1, [.ref A_t_tape, .ref A_t_draft, .int t_wrong, .int t_wrongAt, .int t_lines, .int ((0 : Int32)), .int t_at, .int t_at])), (A_t_tape, .inr (6, [.ref A_t_tape_bytes, .int t_tape_size])), (A_t_tape_bytes, .inl (cy 0, 320, .inl t_tape_bytes))] := hD
      refine lv_goto (tgt := 177) hx hb dX1_next_84 (by decide) ?_
      exact J177 t_wrong t_wrongAt (0 : Int32) t_at t_at H locs ls h hP hD hS (lv_sub hl [1] rfl)
  have L8 : ∀ (n8 : Nat) (t_wrong : Int32) (t_wrongAt : Int32) (t_kind : Int32) (t_at : Int32) (t_behind : Int32) (H : Heap) (locs : List Loc) (ls : Array Slot), L_X1_next_8 post t_wrong t_wrongAt t_tape_size t_tape_bytes n8 t_at → va_P D vwCl [(A_t, .inr (1, [.ref A_t_tape, .ref A_t_draft, .int t_wrong, .int t_wrongAt, .int t_lines, .int t_kind, .int t_at, .int t_behind])), (A_t_tape, .inr (6, [.ref A_t_tape_bytes, .int t_tape_size])), (A_t_tape_bytes, .inl (cy 0, 320, .inl t_tape_bytes))] H → va_D A [(A_t, .inr (1, [.ref A_t_tape, .ref A_t_draft, .int t_wrong, .int t_wrongAt, .int t_lines, .int t_kind, .int t_at, .int t_behind])), (A_t_tape, .inr (6, [.ref A_t_tape_bytes, .int t_tape_size])), (A_t_tape_bytes, .inl (cy 0, 320, .inl t_tape_bytes))] → va_S A s.heap H locs → lv_has ls 2 [(0, .ref A_t)] → W p l e (headSpec wsX1_next { frames := 2, cells := 0, slots := 0, locals := 41 }).room s m ([.ref A_t] : List Value).toArray below meth c H locs 0 0 Q0 (F0 m 8 ls []) := by
    intro n8
    induction n8 with
    | zero => intro t_wrong t_wrongAt t_kind t_at t_behind H locs ls h; exact False.elim h
    | succ n8 ih8 =>
      intro t_wrong t_wrongAt t_kind t_at t_behind H locs ls h hP hD hS hl
      have h : LB_X1_next_8 post t_wrong t_wrongAt t_tape_size t_tape_bytes (L_X1_next_8 post t_wrong t_wrongAt t_tape_size t_tape_bytes n8) t_at := h
      unfold LB_X1_next_8 at h
      refine lv_aload_n hx hb dX1_next_8 rfl (lv_at hl 0 rfl) ?_
      refine va_get (D := D) (ci := 1) (v := .int t_at) (C := RX1) (T := TX1) (N := 8) hx hb hts iX1 hown hK.1 hP 0 rfl rfl 6 (by decide) f1 (fun _ h9 => h9) rfl dX1_next_9 ?_
      refine lv_aload_n hx hb dX1_next_12 rfl (lv_at hl 0 rfl) ?_
      refine va_get (D := D) (ci := 1) (v := .ref A_t_tape) (C := RX1) (T := TX1) (N := 8) hx hb hts iX1 hown hK.1 hP 0 rfl rfl 0 (by decide) f2 (fun _ h9 => h9) rfl dX1_next_13 ?_
      refine va_get (D := D) (ci := 6) (v := .int t_tape_size) (C := RX6) (T := TX6) (N := 2) hx hb hts iX6 hown hK.1 hP 1 rfl rfl 1 (by decide) f3 (fun _ h9 => h9) rfl dX1_next_16 ?_
      refine lv_icmp_ge (tgt := 48) hx hb dX1_next_19 (by decide) (fun hc => ?_) (fun hc => ?_)
      · replace h := h.1 hc
        exact J48 t_wrong t_wrongAt t_kind t_at t_behind H locs ls h hP hD hS (lv_sub hl [0] rfl)
      · replace h := h.2 hc
        refine lv_aload_n hx hb dX1_next_22 rfl (lv_at hl 0 rfl) ?_
        refine lv_aload_n hx hb dX1_next_23 rfl (lv_at hl 0 rfl) ?_
        refine va_get (D := D) (ci := 1) (v := .int t_at) (C := RX1) (T := TX1) (N := 8) hx hb hts iX1 hown hK.1 hP 0 rfl rfl 6 (by decide) f1 (fun _ h9 => h9) rfl dX1_next_24 ?_
        have hPc := hP.sub (ws' := [(A_t, .inr (1, [.ref A_t_tape, .ref A_t_draft, .int t_wrong, .int t_wrongAt, .int t_lines, .int t_kind, .int t_at, .int t_behind])), (A_t_tape, .inr (6, [.ref A_t_tape_bytes, .int t_tape_size])), (A_t_tape_bytes, .inl (cy 0, 320, .inl t_tape_bytes))]) [0, 1, 2] rfl
        refine vp_callSi (W.runV (As := [.int t_at]) (rest := []) CF (c_X1_byteAt l D cy A_t A_t_tape A_t_draft A_t_tape_bytes t_wrong t_wrongAt t_lines t_kind t_at t_behind t_tape_size t_tape_bytes t_at _ h) (cwV 1 hts gX1_next_X1_byteAt rfl rfl rfl qX1_byteAt ⟨Nat.le_of_ble_eq_true rfl, Nat.le_of_ble_eq_true rfl⟩) (mpVR hK hPc (ci := 1) (q := (RX1, TX1, 8)) (q0 := 0) rfl rfl) rfl rfl hl.1 rfl (lv_room (Nat.le_of_ble_eq_true rfl)) dX1_next_27 ⟨Nat.zero_le _, Nat.zero_le _⟩) (fun r7 h => ?_)
        refine lv_bipush (v := 32) hx hb dX1_next_30 (by decide) ?_
        refine lv_icmp_ne (tgt := 48) hx hb dX1_next_32 (by decide) (fun hc => ?_) (fun hc => ?_)
        · replace h := h.1 hc
          exact J48 t_wrong t_wrongAt t_kind t_at t_behind H locs ls h hP hD hS (lv_sub hl [0] rfl)
        · replace h := h.2 hc
          refine lv_aload_n hx hb dX1_next_35 rfl (lv_at hl 0 rfl) ?_
          refine lv_dup hx hb dX1_next_36 rfl ?_
          refine va_get (D := D) (ci := 1) (v := .int t_at) (C := RX1) (T := TX1) (N := 8) hx hb hts iX1 hown hK.1 hP 0 rfl rfl 6 (by decide) f1 (fun _ h9 => h9) rfl dX1_next_37 ?_
          refine lv_iconst (v := 1) hx hb dX1_next_40 (by decide) ?_
          refine lv_iadd hx hb dX1_next_41 ?_
          refine va_put (D := D) (ci := 1) (v := .int (t_at + (1 : Int32))) (ty := .int) (C := RX1) (T := TX1) (N := 8) hx hb hts iX1 tyX1 tyX1_ok nmX1 hown hK.1 hP hD hS 0 rfl rfl 6 (by decide) f1 (fun _ h9 => h9) rfl (tyX1_ok 6 (by decide)) rfl rfl (Nat.le_of_ble_eq_true rfl) dX1_next_42 (fun H locs hP hD hS => ?_)
          have hP : va_P D vwCl [(A_t, .inr (1, [.ref A_t_tape, .ref A_t_draft, .int t_wrong, .int t_wrongAt, .int t_lines, .int t_kind, .int (t_at + (1 : Int32)), .int t_behind])), (A_t_tape, .inr (6, [.ref A_t_tape_bytes, .int t_tape_size])), (A_t_tape_bytes, .inl (cy 0, 320, .inl t_tape_bytes))] H := hP
          have hD : va_D A [(A_t, .inr (1, [.ref A_t_tape, .ref A_t_draft, .int t_wrong, .int t_wrongAt, .int t_lines, .int t_kind, .int (t_at + (1 : Int32)), .int t_behind])), (A_t_tape, .inr (6, [.ref A_t_tape_bytes, .int t_tape_size])), (A_t_tape_bytes, .inl (cy 0, 320, .inl t_tape_bytes))] := hD
          refine lv_goto (tgt := 8) hx hb dX1_next_45 (by decide) ?_
          exact ih8 t_wrong t_wrongAt t_kind (t_at + (1 : Int32)) t_behind H locs ls h hP hD hS (lv_sub hl [0] rfl)
  unfold P_X1_next at h
  refine lv_aload_n hx hb dX1_next_0 rfl (lv_at hl 0 rfl) ?_
  refine lv_aload_n hx hb dX1_next_1 rfl (lv_at hl 0 rfl) ?_
  refine va_get (D := D) (ci := 1) (v := .int t_behind) (C := RX1) (T := TX1) (N := 8) hx hb hts iX1 hown hK.1 hP 0 rfl rfl 7 (by decide) f0 (fun _ h9 => h9) rfl dX1_next_2 ?_
  refine va_put (D := D) (ci := 1) (v := .int t_behind) (ty := .int) (C := RX1) (T := TX1) (N := 8) hx hb hts iX1 tyX1 tyX1_ok nmX1 hown hK.1 hP hD hS 0 rfl rfl 6 (by decide) f1 (fun _ h9 => h9) rfl (tyX1_ok 6 (by decide)) rfl rfl (Nat.le_of_ble_eq_true rfl) dX1_next_5 (fun H locs hP hD hS => ?_)
  have hP : va_P D vwCl [(A_t, .inr (1, [.ref A_t_tape, .ref A_t_draft, .int t_wrong, .int t_wrongAt, .int t_lines, .int t_kind, .int t_behind, .int t_behind])), (A_t_tape, .inr (6, [.ref A_t_tape_bytes, .int t_tape_size])), (A_t_tape_bytes, .inl (cy 0, 320, .inl t_tape_bytes))] H := hP
  have hD : va_D A [(A_t, .inr (1, [.ref A_t_tape, .ref A_t_draft, .int t_wrong, .int t_wrongAt, .int t_lines, .int t_kind, .int t_behind, .int t_behind])), (A_t_tape, .inr (6, [.ref A_t_tape_bytes, .int t_tape_size])), (A_t_tape_bytes, .inl (cy 0, 320, .inl t_tape_bytes))] := hD
  obtain ⟨nn, h⟩ := h
  exact L8 nn t_wrong t_wrongAt t_kind t_behind t_behind H locs ls h hP hD hS (lv_sub hl [0] rfl)
theorem qX1_readReal : yX1_readReal.cls = RX1 ∧ yX1_readReal.cls ≠ "java/lang/invoke/MethodHandle" ∧ yX1_readReal.cls ≠ "java/lang/invoke/VarHandle" ∧ (parseMethodDescriptor yX1_readReal.desc).map (fun d => d.parameters.length) = some 0 := by decide +kernel
def P_X1_readReal (post : Int32 → Int32 → Int32 → Int32 → Int32 → Int32 → Prop) (t_wrong : Int32) (t_wrongAt : Int32) (t_kind : Int32) (t_at : Int32) (t_behind : Int32) (t_draft_wholeness : Int32) (t_tape_size : Int32) (t_tape_bytes : Nat → Int32) : Prop :=
  ((¬ t_draft_wholeness = 0 → P_X1_next (fun (t_wrong_v1 : Int32) (t_wrongAt_v1 : Int32) (t_kind_v1 : Int32) (t_at_v1 : Int32) (t_behind_v1 : Int32) => post t_wrong_v1 t_wrongAt_v1 t_kind_v1 t_at_v1 t_behind_v1 (0 : Int32)) t_wrong t_wrongAt t_behind t_tape_size t_tape_bytes) ∧ (t_draft_wholeness = 0 → P_X1_fail (fun (t_wrong_v2 : Int32) (t_wrongAt_v2 : Int32) => post t_wrong_v2 t_wrongAt_v2 t_kind t_at t_behind t_draft_wholeness) t_wrong t_wrongAt (4 : Int32) t_at))
set_option maxHeartbeats 4000000 in
set_option maxRecDepth 100000 in
theorem c_X1_readReal (l : Launch) (D : va_G) (cy : Nat → ClassId) (sz : Nat) (A_t A_t_tape A_t_draft A_t_draft_upper A_t_draft_lower A_t_draft_limits A_t_draft_stricts A_t_draft_marks A_t_tape_bytes : Nat) (t_wrong : Int32) (t_wrongAt : Int32) (t_lines : Int32) (t_kind : Int32) (t_at : Int32) (t_behind : Int32) (t_draft_size : Int32) (t_draft_marked : Int32) (t_draft_wholeness : Int32) (t_tape_size : Int32) (t_tape_bytes : Nat → Int32) (post : Int32 → Int32 → Int32 → Int32 → Int32 → Int32 → Prop) (h : P_X1_readReal post t_wrong t_wrongAt t_kind t_at t_behind t_draft_wholeness t_tape_size t_tape_bytes) : Met l yX1_readReal wsX1_readReal { frames := 3, cells := 0, slots := 0, locals := 62 } (pcW D cy [(A_t, .inr (1, [.ref A_t_tape, .ref A_t_draft, .int t_wrong, .int t_wrongAt, .int t_lines, .int t_kind, .int t_at, .int t_behind])), (A_t_draft, .inr (5, [.ref A_t_draft_upper, .ref A_t_draft_lower, .ref A_t_draft_limits, .ref A_t_draft_stricts, .ref A_t_draft_marks, .int t_draft_size, .int t_draft_marked, .int t_draft_wholeness])), (A_t_tape, .inr (6, [.ref A_t_tape_bytes, .int t_tape_size])), (A_t_tape_bytes, .inl (cy 0, 320, .inl t_tape_bytes))] sz [.ref A_t]) (va_Qv (fun (u : Int32 × Int32 × Int32 × Int32 × Int32 × Int32) => post u.1 u.2.1 u.2.2.1 u.2.2.2.1 u.2.2.2.2.1 u.2.2.2.2.2) (bW D [(A_t, .inr (1, [.ref A_t_tape, .ref A_t_draft, .int t_wrong, .int t_wrongAt, .int t_lines, .int t_kind, .int t_at, .int t_behind])), (A_t_draft, .inr (5, [.ref A_t_draft_upper, .ref A_t_draft_lower, .ref A_t_draft_limits, .ref A_t_draft_stricts, .ref A_t_draft_marks, .int t_draft_size, .int t_draft_marked, .int t_draft_wholeness])), (A_t_tape, .inr (6, [.ref A_t_tape_bytes, .int t_tape_size])), (A_t_tape_bytes, .inl (cy 0, 320, .inl t_tape_bytes))] sz (fun u => [(A_t, .inr (1, [.ref A_t_tape, .ref A_t_draft, .int (u.1), .int (u.2.1), .int t_lines, .int (u.2.2.1), .int (u.2.2.2.1), .int (u.2.2.2.2.1)])), (A_t_draft, .inr (5, [.ref A_t_draft_upper, .ref A_t_draft_lower, .ref A_t_draft_limits, .ref A_t_draft_stricts, .ref A_t_draft_marks, .int t_draft_size, .int t_draft_marked, .int (u.2.2.2.2.2)])), (A_t_tape, .inr (6, [.ref A_t_tape_bytes, .int t_tape_size])), (A_t_tape_bytes, .inl (cy 0, 320, .inl t_tape_bytes))])) (va_A [(A_t, .inr (1, [.ref A_t_tape, .ref A_t_draft, .int t_wrong, .int t_wrongAt, .int t_lines, .int t_kind, .int t_at, .int t_behind])), (A_t_draft, .inr (5, [.ref A_t_draft_upper, .ref A_t_draft_lower, .ref A_t_draft_limits, .ref A_t_draft_stricts, .ref A_t_draft_marks, .int t_draft_size, .int t_draft_marked, .int t_draft_wholeness])), (A_t_tape, .inr (6, [.ref A_t_tape_bytes, .int t_tape_size])), (A_t_tape_bytes, .inl (cy 0, 320, .inl t_tape_bytes))] sz)) 0 0 (va_A [(A_t, .inr (1, [.ref A_t_tape, .ref A_t_draft, .int t_wrong, .int t_wrongAt, .int t_lines, .int t_kind, .int t_at, .int t_behind])), (A_t_draft, .inr (5, [.ref A_t_draft_upper, .ref A_t_draft_lower, .ref A_t_draft_limits, .ref A_t_draft_stricts, .ref A_t_draft_marks, .int t_draft_size, .int t_draft_marked, .int t_draft_wholeness])), (A_t_tape, .inr (6, [.ref A_t_tape_bytes, .int t_tape_size])), (A_t_tape_bytes, .inl (cy 0, 320, .inl t_tape_bytes))] sz) := by
  refine Met.ofW (cc := cX1_readReal) (maxL := 1) (ret := none) (by decide) rfl ?_
  intro p e s m args below meth c s₁ B hml hv
  obtain ⟨rfl, hsz, hP, hK, hD0⟩ := hv
  have hx := B.exec
  have hb := B.bytes
  have hr := B.returns
  have hts := atoms_spec (ws := wsX1_readReal) B.pre
  have hown : s.vm.findClass RX1 = some m.cls := findClass_of_methodNamed B.named
  have hlocks := B.notSynchronized
  have CF : CallFix p m c cX1_readReal 1 s ([.ref A_t] : List Value).toArray wsX1_readReal RX1 := ⟨hx, hb, hml, hown, hts⟩
  have f0 := hts (.fieldLink RX1 21 "GapBounds$Reader" "draft" "LGapBounds$Store;") (by decide +kernel)
  have f1 := hts (.fieldLink RX1 68 "GapBounds$Store" "wholeness" "I") (by decide +kernel)
  have f2 := hts (.fieldLink RX1 51 "GapBounds$Reader" "at" "I") (by decide +kernel)
  have iX1 : ∀ w ∈ u_ws RX1 TX1 8, w ∈ wsX1_readReal := by decide +kernel
  have iX5 : ∀ w ∈ u_ws RX5 TX5 8, w ∈ wsX1_readReal := by decide +kernel
  subst hsz
  obtain ⟨A, hAe⟩ : ∃ A, A = va_A [(A_t, .inr (1, [.ref A_t_tape, .ref A_t_draft, .int t_wrong, .int t_wrongAt, .int t_lines, .int t_kind, .int t_at, .int t_behind])), (A_t_draft, .inr (5, [.ref A_t_draft_upper, .ref A_t_draft_lower, .ref A_t_draft_limits, .ref A_t_draft_stricts, .ref A_t_draft_marks, .int t_draft_size, .int t_draft_marked, .int t_draft_wholeness])), (A_t_tape, .inr (6, [.ref A_t_tape_bytes, .int t_tape_size])), (A_t_tape_bytes, .inl (cy 0, 320, .inl t_tape_bytes))] s.heap.size := ⟨_, rfl⟩
  have hD : va_D A [(A_t, .inr (1, [.ref A_t_tape, .ref A_t_draft, .int t_wrong, .int t_wrongAt, .int t_lines, .int t_kind, .int t_at, .int t_behind])), (A_t_draft, .inr (5, [.ref A_t_draft_upper, .ref A_t_draft_lower, .ref A_t_draft_limits, .ref A_t_draft_stricts, .ref A_t_draft_marks, .int t_draft_size, .int t_draft_marked, .int t_draft_wholeness])), (A_t_tape, .inr (6, [.ref A_t_tape_bytes, .int t_tape_size])), (A_t_tape_bytes, .inl (cy 0, 320, .inl t_tape_bytes))] := by rw [hAe]; exact hD0.self
  have hA : ∀ q : Nat, s.heap.size ≤ q → A q := fun q hq => by rw [hAe]; exact Or.inr hq
  have hS : va_S A s.heap s.heap [] := va_S.rf
  have hl := lv_entry [.ref A_t] (n := 1) (Nat.le_of_ble_eq_true rfl)
  rw [lg_entry_eq]
  generalize (lg_sl [.ref A_t] ++ List.replicate (1 - (lg_sl [.ref A_t]).length) Slot.unset).toArray = ls at hl ⊢
  have hl : lv_has ls 1 [(0, .ref A_t)] := hl
  refine W.gen (fun Q0 hQ => ?_)
  unfold P_X1_readReal at h
  refine lv_aload_n hx hb dX1_readReal_0 rfl (lv_at hl 0 rfl) ?_
  refine va_get (D := D) (ci := 1) (v := .ref A_t_draft) (C := RX1) (T := TX1) (N := 8) hx hb hts iX1 hown hK.1 hP 0 rfl rfl 1 (by decide) f0 (fun _ h9 => h9) rfl dX1_readReal_1 ?_
  refine va_get (D := D) (ci := 5) (v := .int t_draft_wholeness) (C := RX5) (T := TX5) (N := 8) hx hb hts iX5 hown hK.1 hP 1 rfl rfl 7 (by decide) f1 (fun _ h9 => h9) rfl dX1_readReal_4 ?_
  refine lv_if_ne (tgt := 20) hx hb dX1_readReal_7 (by decide) (fun hc => ?_) (fun hc => ?_)
  · replace h := h.1 hc
    refine lv_aload_n hx hb dX1_readReal_20 rfl (lv_at hl 0 rfl) ?_
    refine va_get (D := D) (ci := 1) (v := .ref A_t_draft) (C := RX1) (T := TX1) (N := 8) hx hb hts iX1 hown hK.1 hP 0 rfl rfl 1 (by decide) f0 (fun _ h9 => h9) rfl dX1_readReal_21 ?_
    refine lv_iconst (v := 0) hx hb dX1_readReal_24 (by decide) ?_
    refine va_put (D := D) (ci := 5) (v := .int (0 : Int32)) (ty := .int) (C := RX5) (T := TX5) (N := 8) hx hb hts iX5 tyX5 tyX5_ok nmX5 hown hK.1 hP hD hS 1 rfl rfl 7 (by decide) f1 (fun _ h9 => h9) rfl (tyX5_ok 7 (by decide)) rfl rfl (Nat.le_of_ble_eq_true rfl) dX1_readReal_25 (fun H locs hP hD hS => ?_)
    have hP : va_P D vwCl [(A_t, .inr (1, [.ref A_t_tape, .ref A_t_draft, .int t_wrong, .int t_wrongAt, .int t_lines, .int t_kind, .int t_at, .int t_behind])), (A_t_draft, .inr (5, [.ref A_t_draft_upper, .ref A_t_draft_lower, .ref A_t_draft_limits, .ref A_t_draft_stricts, .ref A_t_draft_marks, .int t_draft_size, .int t_draft_marked, .int ((0 : Int32))])), (A_t_tape, .inr (6, [.ref A_t_tape_bytes, .int t_tape_size])), (A_t_tape_bytes, .inl (cy 0, 320, .inl t_tape_bytes))] H := hP
    have hD : va_D A [(A_t, .inr (1, [.ref A_t_tape, .ref A_t_draft, .int t_wrong, .int t_wrongAt, .int t_lines, .int t_kind, .int t_at, .int t_behind])), (A_t_draft, .inr (5, [.ref A_t_draft_upper, .ref A_t_draft_lower, .ref A_t_draft_limits, .ref A_t_draft_stricts, .ref A_t_draft_marks, .int t_draft_size, .int t_draft_marked, .int ((0 : Int32))])), (A_t_tape, .inr (6, [.ref A_t_tape_bytes, .int t_tape_size])), (A_t_tape_bytes, .inl (cy 0, 320, .inl t_tape_bytes))] := hD
    refine lv_aload_n hx hb dX1_readReal_28 rfl (lv_at hl 0 rfl) ?_
    have hPn : va_P D vwCl ([(A_t_draft, .inr (5, [.ref A_t_draft_upper, .ref A_t_draft_lower, .ref A_t_draft_limits, .ref A_t_draft_stricts, .ref A_t_draft_marks, .int t_draft_size, .int t_draft_marked, .int ((0 : Int32))]))] ++ [(A_t, .inr (1, [.ref A_t_tape, .ref A_t_draft, .int t_wrong, .int t_wrongAt, .int t_lines, .int t_kind, .int t_at, .int t_behind])), (A_t_tape, .inr (6, [.ref A_t_tape_bytes, .int t_tape_size])), (A_t_tape_bytes, .inl (cy 0, 320, .inl t_tape_bytes))]) H := hP.sub [1, 0, 2, 3] rfl
    have hDn : va_D A ([(A_t_draft, .inr (5, [.ref A_t_draft_upper, .ref A_t_draft_lower, .ref A_t_draft_limits, .ref A_t_draft_stricts, .ref A_t_draft_marks, .int t_draft_size, .int t_draft_marked, .int ((0 : Int32))]))] ++ [(A_t, .inr (1, [.ref A_t_tape, .ref A_t_draft, .int t_wrong, .int t_wrongAt, .int t_lines, .int t_kind, .int t_at, .int t_behind])), (A_t_tape, .inr (6, [.ref A_t_tape_bytes, .int t_tape_size])), (A_t_tape_bytes, .inl (cy 0, 320, .inl t_tape_bytes))]) := hD.sub [1, 0, 2, 3] (by decide) rfl
    have hPc := gPR hPn
    have hDc := gDR hDn
    refine mw_v (va_runV (As := []) (rest := []) CF (c_X1_next l D cy H.size A_t A_t_tape A_t_draft A_t_tape_bytes t_wrong t_wrongAt t_lines t_kind t_at t_behind t_tape_size t_tape_bytes _ h) (cwV 0 hts gX1_readReal_X1_next rfl rfl rfl qX1_next ⟨Nat.le_of_ble_eq_true rfl, Nat.le_of_ble_eq_true rfl⟩) (mpVW hK hPc hDc (ci := 1) (q := (RX1, TX1, 8)) (q0 := 0) rfl rfl) rfl rfl hl.1 rfl (lv_room (Nat.le_of_ble_eq_true rfl)) dX1_readReal_29 ⟨Nat.zero_le _, Nat.zero_le _⟩) hPn hDn hS hA (fun u H locs h hP hD hS => ?_)
    obtain ⟨t_wrong_v1, t_wrongAt_v1, t_kind_v1, t_at_v1, t_behind_v1⟩ := u
    have hP : va_P D vwCl [(A_t, .inr (1, [.ref A_t_tape, .ref A_t_draft, .int t_wrong_v1, .int t_wrongAt_v1, .int t_lines, .int t_kind_v1, .int t_at_v1, .int t_behind_v1])), (A_t_draft, .inr (5, [.ref A_t_draft_upper, .ref A_t_draft_lower, .ref A_t_draft_limits, .ref A_t_draft_stricts, .ref A_t_draft_marks, .int t_draft_size, .int t_draft_marked, .int ((0 : Int32))])), (A_t_tape, .inr (6, [.ref A_t_tape_bytes, .int t_tape_size])), (A_t_tape_bytes, .inl (cy 0, 320, .inl t_tape_bytes))] H := hP.sub [1, 0, 2, 3] rfl
    have hD : va_D A [(A_t, .inr (1, [.ref A_t_tape, .ref A_t_draft, .int t_wrong_v1, .int t_wrongAt_v1, .int t_lines, .int t_kind_v1, .int t_at_v1, .int t_behind_v1])), (A_t_draft, .inr (5, [.ref A_t_draft_upper, .ref A_t_draft_lower, .ref A_t_draft_limits, .ref A_t_draft_stricts, .ref A_t_draft_marks, .int t_draft_size, .int t_draft_marked, .int ((0 : Int32))])), (A_t_tape, .inr (6, [.ref A_t_tape_bytes, .int t_tape_size])), (A_t_tape_bytes, .inl (cy 0, 320, .inl t_tape_bytes))] := hD.sub [1, 0, 2, 3] (by decide) rfl
    try dsimp only at h
    subst hQ
    subst hAe
    exact W.vret hx hb hr (fun t ht _ => ⟨⟨(t_wrong_v1, t_wrongAt_v1, t_kind_v1, t_at_v1, t_behind_v1, (0 : Int32)), rfl, h, by rw [ht]; exact hP, hD⟩, hS.F ht⟩) hS.2.2 dX1_readReal_32
  · replace h := h.2 hc
    refine lv_aload_n hx hb dX1_readReal_10 rfl (lv_at hl 0 rfl) ?_
    refine lv_iconst (v := 4) hx hb dX1_readReal_11 (by decide) ?_
    refine lv_aload_n hx hb dX1_readReal_12 rfl (lv_at hl 0 rfl) ?_
    refine va_get (D := D) (ci := 1) (v := .int t_at) (C := RX1) (T := TX1) (N := 8) hx hb hts iX1 hown hK.1 hP 0 rfl rfl 6 (by decide) f2 (fun _ h9 => h9) rfl dX1_readReal_13 ?_
    have hPn : va_P D vwCl ([(A_t_draft, .inr (5, [.ref A_t_draft_upper, .ref A_t_draft_lower, .ref A_t_draft_limits, .ref A_t_draft_stricts, .ref A_t_draft_marks, .int t_draft_size, .int t_draft_marked, .int t_draft_wholeness])), (A_t_tape, .inr (6, [.ref A_t_tape_bytes, .int t_tape_size])), (A_t_tape_bytes, .inl (cy 0, 320, .inl t_tape_bytes))] ++ [(A_t, .inr (1, [.ref A_t_tape, .ref A_t_draft, .int t_wrong, .int t_wrongAt, .int t_lines, .int t_kind, .int t_at, .int t_behind]))]) s.heap := hP.sub [1, 2, 3, 0] rfl
    have hDn : va_D A ([(A_t_draft, .inr (5, [.ref A_t_draft_upper, .ref A_t_draft_lower, .ref A_t_draft_limits, .ref A_t_draft_stricts, .ref A_t_draft_marks, .int t_draft_size, .int t_draft_marked, .int t_draft_wholeness])), (A_t_tape, .inr (6, [.ref A_t_tape_bytes, .int t_tape_size])), (A_t_tape_bytes, .inl (cy 0, 320, .inl t_tape_bytes))] ++ [(A_t, .inr (1, [.ref A_t_tape, .ref A_t_draft, .int t_wrong, .int t_wrongAt, .int t_lines, .int t_kind, .int t_at, .int t_behind]))]) := hD.sub [1, 2, 3, 0] (by decide) rfl
    have hPc := gPR hPn
    have hDc := gDR hDn
    refine mw_v (va_runV (As := [.int (4 : Int32), .int t_at]) (rest := []) CF (c_X1_fail l D cy s.heap.size A_t A_t_tape A_t_draft t_wrong t_wrongAt t_lines t_kind t_at t_behind (4 : Int32) t_at _ h) (cwV 2 hts gX1_readReal_X1_fail rfl rfl rfl qX1_fail ⟨Nat.le_of_ble_eq_true rfl, Nat.le_of_ble_eq_true rfl⟩) (mpVW hK hPc hDc (ci := 1) (q := (RX1, TX1, 8)) (q0 := 0) rfl rfl) rfl rfl hl.1 rfl (lv_room (Nat.le_of_ble_eq_true rfl)) dX1_readReal_16 ⟨Nat.zero_le _, Nat.zero_le _⟩) hPn hDn hS hA (fun u H locs h hP hD hS => ?_)
    obtain ⟨t_wrong_v2, t_wrongAt_v2⟩ := u
    have hP : va_P D vwCl [(A_t, .inr (1, [.ref A_t_tape, .ref A_t_draft, .int t_wrong_v2, .int t_wrongAt_v2, .int t_lines, .int t_kind, .int t_at, .int t_behind])), (A_t_draft, .inr (5, [.ref A_t_draft_upper, .ref A_t_draft_lower, .ref A_t_draft_limits, .ref A_t_draft_stricts, .ref A_t_draft_marks, .int t_draft_size, .int t_draft_marked, .int t_draft_wholeness])), (A_t_tape, .inr (6, [.ref A_t_tape_bytes, .int t_tape_size])), (A_t_tape_bytes, .inl (cy 0, 320, .inl t_tape_bytes))] H := hP.sub [3, 0, 1, 2] rfl
    have hD : va_D A [(A_t, .inr (1, [.ref A_t_tape, .ref A_t_draft, .int t_wrong_v2, .int t_wrongAt_v2, .int t_lines, .int t_kind, .int t_at, .int t_behind])), (A_t_draft, .inr (5, [.ref A_t_draft_upper, .ref A_t_draft_lower, .ref A_t_draft_limits, .ref A_t_draft_stricts, .ref A_t_draft_marks, .int t_draft_size, .int t_draft_marked, .int t_draft_wholeness])), (A_t_tape, .inr (6, [.ref A_t_tape_bytes, .int t_tape_size])), (A_t_tape_bytes, .inl (cy 0, 320, .inl t_tape_bytes))] := hD.sub [3, 0, 1, 2] (by decide) rfl
    try dsimp only at h
    subst hQ
    subst hAe
    exact W.vret hx hb hr (fun t ht _ => ⟨⟨(t_wrong_v2, t_wrongAt_v2, t_kind, t_at, t_behind, t_draft_wholeness), rfl, h, by rw [ht]; exact hP, hD⟩, hS.F ht⟩) hS.2.2 dX1_readReal_19
theorem qX1_thingOfToken : yX1_thingOfToken.cls = RX1 ∧ yX1_thingOfToken.cls ≠ "java/lang/invoke/MethodHandle" ∧ yX1_thingOfToken.cls ≠ "java/lang/invoke/VarHandle" ∧ (parseMethodDescriptor yX1_thingOfToken.desc).map (fun d => d.parameters.length) = some 0 := by decide +kernel
def B_X1_thingOfToken_26 (post : Int32 → Prop) (t_at : Int32) (t_tape_size : Int32) (t_tape_bytes : Nat → Int32) (k0 : Int32) : Prop :=
  P_X1_byteAt (fun (r1 : Int32) => ((k0 = 0 → post (-4 : Int32)) ∧ (¬ k0 = 0 → P_X7_isThing (fun (r2 : Int32) => ((r2 = 0 → post (-4 : Int32)) ∧ (¬ r2 = 0 → post (r1 - (97 : Int32))))) (r1 - (97 : Int32))))) t_tape_size t_tape_bytes t_at
def B_X1_thingOfToken_25 (post : Int32 → Prop) (t_at : Int32) (t_tape_size : Int32) (t_tape_bytes : Nat → Int32) : Prop :=
  B_X1_thingOfToken_26 post t_at t_tape_size t_tape_bytes (0 : Int32)
def P_X1_thingOfToken (post : Int32 → Prop) (t_kind : Int32) (t_at : Int32) (t_behind : Int32) (t_tape_size : Int32) (t_tape_bytes : Nat → Int32) : Prop :=
  ((¬ t_kind = (1 : Int32) → B_X1_thingOfToken_25 post t_at t_tape_size t_tape_bytes) ∧ (t_kind = (1 : Int32) → ((¬ t_behind - t_at = (1 : Int32) → B_X1_thingOfToken_25 post t_at t_tape_size t_tape_bytes) ∧ (t_behind - t_at = (1 : Int32) → B_X1_thingOfToken_26 post t_at t_tape_size t_tape_bytes (1 : Int32)))))
set_option maxHeartbeats 4000000 in
set_option maxRecDepth 100000 in
theorem c_X1_thingOfToken (l : Launch) (D : va_G) (cy : Nat → ClassId) (A_t A_t_tape A_t_draft A_t_tape_bytes : Nat) (t_wrong : Int32) (t_wrongAt : Int32) (t_lines : Int32) (t_kind : Int32) (t_at : Int32) (t_behind : Int32) (t_tape_size : Int32) (t_tape_bytes : Nat → Int32) (post : Int32 → Prop) (h : P_X1_thingOfToken post t_kind t_at t_behind t_tape_size t_tape_bytes) : Met l yX1_thingOfToken wsX1_thingOfToken { frames := 1, cells := 0, slots := 0, locals := 21 } (pcR D cy [(A_t, .inr (1, [.ref A_t_tape, .ref A_t_draft, .int t_wrong, .int t_wrongAt, .int t_lines, .int t_kind, .int t_at, .int t_behind])), (A_t_tape, .inr (6, [.ref A_t_tape_bytes, .int t_tape_size])), (A_t_tape_bytes, .inl (cy 0, 320, .inl t_tape_bytes))] [.ref A_t]) (vp_Si post) 0 0 (fun _ => False) := by
  refine Met.ofW (cc := cX1_thingOfToken) (maxL := 3) (ret := (some .int)) (by decide) rfl ?_
  intro p e s m args below meth c s₁ B hml hv
  obtain ⟨rfl, hP, hK⟩ := hv
  have hx := B.exec
  have hb := B.bytes
  have hr := B.returns
  have hts := atoms_spec (ws := wsX1_thingOfToken) B.pre
  have hown : s.vm.findClass RX1 = some m.cls := findClass_of_methodNamed B.named
  have hlocks := B.notSynchronized
  have CF : CallFix p m c cX1_thingOfToken 3 s ([.ref A_t] : List Value).toArray wsX1_thingOfToken RX1 := ⟨hx, hb, hml, hown, hts⟩
  have f0 := hts (.fieldLink RX1 44 "GapBounds$Reader" "kind" "I") (by decide +kernel)
  have f1 := hts (.fieldLink RX1 51 "GapBounds$Reader" "at" "I") (by decide +kernel)
  have f2 := hts (.initialized RX7) (by decide +kernel)
  have f3 := hts (.static yX7_isThing) (by decide +kernel)
  have f4 := hts (.fieldLink RX1 38 "GapBounds$Reader" "behind" "I") (by decide +kernel)
  have iX1 : ∀ w ∈ u_ws RX1 TX1 8, w ∈ wsX1_thingOfToken := by decide +kernel
  have hl := lv_entry [.ref A_t] (n := 3) (Nat.le_of_ble_eq_true rfl)
  rw [lg_entry_eq]
  generalize (lg_sl [.ref A_t] ++ List.replicate (3 - (lg_sl [.ref A_t]).length) Slot.unset).toArray = ls at hl ⊢
  have hl : lv_has ls 3 [(0, .ref A_t)] := hl
  refine W.gen (fun Q0 hQ => ?_)
  have J26 : ∀ (k0 : Int32) (ls : Array Slot), B_X1_thingOfToken_26 post t_at t_tape_size t_tape_bytes k0 → lv_has ls 3 [(0, .ref A_t)] → W p l e (headSpec wsX1_thingOfToken { frames := 1, cells := 0, slots := 0, locals := 21 }).room s m ([.ref A_t] : List Value).toArray below meth c s.heap [] 0 0 Q0 (F0 m 26 ls [.int k0]) := by
    intro k0 ls h hl
    unfold B_X1_thingOfToken_26 at h
    refine lv_istore_n (lv' := [(1, .int k0), (0, .ref A_t)]) hx hb dX1_thingOfToken_26 rfl hl (by decide) rfl (fun ls hl => ?_)
    refine lv_aload_n hx hb dX1_thingOfToken_27 rfl (lv_at hl 1 rfl) ?_
    refine lv_aload_n hx hb dX1_thingOfToken_28 rfl (lv_at hl 1 rfl) ?_
    refine va_get (D := D) (ci := 1) (v := .int t_at) (C := RX1) (T := TX1) (N := 8) hx hb hts iX1 hown hK.1 hP 0 rfl rfl 6 (by decide) f1 (fun _ h9 => h9) rfl dX1_thingOfToken_29 ?_
    have hPc := hP.sub (ws' := [(A_t, .inr (1, [.ref A_t_tape, .ref A_t_draft, .int t_wrong, .int t_wrongAt, .int t_lines, .int t_kind, .int t_at, .int t_behind])), (A_t_tape, .inr (6, [.ref A_t_tape_bytes, .int t_tape_size])), (A_t_tape_bytes, .inl (cy 0, 320, .inl t_tape_bytes))]) [0, 1, 2] rfl
    refine vp_callSi (W.runV (As := [.int t_at]) (rest := []) CF (c_X1_byteAt l D cy A_t A_t_tape A_t_draft A_t_tape_bytes t_wrong t_wrongAt t_lines t_kind t_at t_behind t_tape_size t_tape_bytes t_at _ h) (cwV 1 hts gX1_thingOfToken_X1_byteAt rfl rfl rfl qX1_byteAt ⟨Nat.le_of_ble_eq_true rfl, Nat.le_of_ble_eq_true rfl⟩) (mpVR hK hPc (ci := 1) (q := (RX1, TX1, 8)) (q0 := 0) rfl rfl) rfl rfl hl.1 rfl (lv_room (Nat.le_of_ble_eq_true rfl)) dX1_thingOfToken_32 ⟨Nat.zero_le _, Nat.zero_le _⟩) (fun r1 h => ?_)
    refine lv_bipush (v := 97) hx hb dX1_thingOfToken_35 (by decide) ?_
    refine lv_isub hx hb dX1_thingOfToken_37 ?_
    refine lv_istore_n (lv' := [(2, .int (r1 - (97 : Int32))), (1, .int k0), (0, .ref A_t)]) hx hb dX1_thingOfToken_38 rfl hl (by decide) rfl (fun ls hl => ?_)
    refine lv_iload_n hx hb dX1_thingOfToken_39 rfl (lv_at hl 1 rfl) ?_
    refine lv_if_eq (tgt := 54) hx hb dX1_thingOfToken_40 (by decide) (fun hc => ?_) (fun hc => ?_)
    · replace h := h.1 hc
      refine lv_bipush (v := -4) hx hb dX1_thingOfToken_54 (by decide) ?_
      subst hQ
      exact W.iret (v := (-4 : Int32)) hx hb hr (fun t ht _ => ⟨(-4 : Int32), rfl, h, ht⟩) (fun _ hq => absurd hq List.not_mem_nil) dX1_thingOfToken_56
    · replace h := h.2 hc
      refine lv_iload_n hx hb dX1_thingOfToken_43 rfl (lv_at hl 0 rfl) ?_
      refine vp_callSi (va_Run.run (va_runSN (As := [.int (r1 - (97 : Int32))]) (rest := []) CF (c_X7_isThing l (r1 - (97 : Int32)) _ h) ⟨va_cnB 1 hts gX1_thingOfToken_X7_isThing_n115 rfl rfl rfl (hK.nest (w := .methodLinkNest RX1 115 yX7_isThing RX7) (List.mem_of_getElem? (i := 8) rfl)) f2 qX7_isThing.2 ⟨Nat.le_of_ble_eq_true rfl, Nat.le_of_ble_eq_true rfl⟩, f3, trivial⟩ mpSN rfl rfl hl.1 rfl (lv_room (Nat.le_of_ble_eq_true rfl)) dX1_thingOfToken_44 ⟨Nat.zero_le _, Nat.zero_le _⟩)) (fun r2 h => ?_)
      refine lv_if_eq (tgt := 54) hx hb dX1_thingOfToken_47 (by decide) (fun hc => ?_) (fun hc => ?_)
      · replace h := h.1 hc
        refine lv_bipush (v := -4) hx hb dX1_thingOfToken_54 (by decide) ?_
        subst hQ
        exact W.iret (v := (-4 : Int32)) hx hb hr (fun t ht _ => ⟨(-4 : Int32), rfl, h, ht⟩) (fun _ hq => absurd hq List.not_mem_nil) dX1_thingOfToken_56
      · replace h := h.2 hc
        refine lv_iload_n hx hb dX1_thingOfToken_50 rfl (lv_at hl 0 rfl) ?_
        refine lv_goto (tgt := 56) hx hb dX1_thingOfToken_51 (by decide) ?_
        subst hQ
        exact W.iret (v := r1 - (97 : Int32)) hx hb hr (fun t ht _ => ⟨r1 - (97 : Int32), rfl, h, ht⟩) (fun _ hq => absurd hq List.not_mem_nil) dX1_thingOfToken_56
  have J25 : ∀ (ls : Array Slot), B_X1_thingOfToken_25 post t_at t_tape_size t_tape_bytes → lv_has ls 3 [(0, .ref A_t)] → W p l e (headSpec wsX1_thingOfToken { frames := 1, cells := 0, slots := 0, locals := 21 }).room s m ([.ref A_t] : List Value).toArray below meth c s.heap [] 0 0 Q0 (F0 m 25 ls []) := by
    intro ls h hl
    unfold B_X1_thingOfToken_25 at h
    refine lv_iconst (v := 0) hx hb dX1_thingOfToken_25 (by decide) ?_
    exact J26 (0 : Int32) ls h (lv_sub hl [0] rfl)
  unfold P_X1_thingOfToken at h
  refine lv_aload_n hx hb dX1_thingOfToken_0 rfl (lv_at hl 0 rfl) ?_
  refine va_get (D := D) (ci := 1) (v := .int t_kind) (C := RX1) (T := TX1) (N := 8) hx hb hts iX1 hown hK.1 hP 0 rfl rfl 5 (by decide) f0 (fun _ h9 => h9) rfl dX1_thingOfToken_1 ?_
  refine lv_iconst (v := 1) hx hb dX1_thingOfToken_4 (by decide) ?_
  refine lv_icmp_ne (tgt := 25) hx hb dX1_thingOfToken_5 (by decide) (fun hc => ?_) (fun hc => ?_)
  · replace h := h.1 hc
    exact J25  ls h (lv_sub hl [0] rfl)
  · replace h := h.2 hc
    refine lv_aload_n hx hb dX1_thingOfToken_8 rfl (lv_at hl 0 rfl) ?_
    refine va_get (D := D) (ci := 1) (v := .int t_behind) (C := RX1) (T := TX1) (N := 8) hx hb hts iX1 hown hK.1 hP 0 rfl rfl 7 (by decide) f4 (fun _ h9 => h9) rfl dX1_thingOfToken_9 ?_
    refine lv_aload_n hx hb dX1_thingOfToken_12 rfl (lv_at hl 0 rfl) ?_
    refine va_get (D := D) (ci := 1) (v := .int t_at) (C := RX1) (T := TX1) (N := 8) hx hb hts iX1 hown hK.1 hP 0 rfl rfl 6 (by decide) f1 (fun _ h9 => h9) rfl dX1_thingOfToken_13 ?_
    refine lv_isub hx hb dX1_thingOfToken_16 ?_
    refine lv_iconst (v := 1) hx hb dX1_thingOfToken_17 (by decide) ?_
    refine lv_icmp_ne (tgt := 25) hx hb dX1_thingOfToken_18 (by decide) (fun hc => ?_) (fun hc => ?_)
    · replace h := h.1 hc
      exact J25  ls h (lv_sub hl [0] rfl)
    · replace h := h.2 hc
      refine lv_iconst (v := 1) hx hb dX1_thingOfToken_21 (by decide) ?_
      refine lv_goto (tgt := 26) hx hb dX1_thingOfToken_22 (by decide) ?_
      exact J26 (1 : Int32) ls h (lv_sub hl [0] rfl)
theorem qX1_takeThing : yX1_takeThing.cls = RX1 ∧ yX1_takeThing.cls ≠ "java/lang/invoke/MethodHandle" ∧ yX1_takeThing.cls ≠ "java/lang/invoke/VarHandle" ∧ (parseMethodDescriptor yX1_takeThing.desc).map (fun d => d.parameters.length) = some 1 := by decide +kernel
def P_X1_takeThing (post : Int32 → Int32 → Int32 → Int32 → Int32 → Int32 → Prop) (t_wrong : Int32) (t_wrongAt : Int32) (t_kind : Int32) (t_at : Int32) (t_behind : Int32) (t_tape_size : Int32) (t_tape_bytes : Nat → Int32) (x1 : Int32) : Prop :=
  ((t_wrong = 0 → P_X1_thingOfToken (fun (r1 : Int32) => ((¬ r1 = (-4 : Int32) → ((¬ r1 = x1 → P_X1_next (fun (t_wrong_v2 : Int32) (t_wrongAt_v2 : Int32) (t_kind_v2 : Int32) (t_at_v2 : Int32) (t_behind_v2 : Int32) => post r1 t_wrong_v2 t_wrongAt_v2 t_kind_v2 t_at_v2 t_behind_v2) t_wrong t_wrongAt t_behind t_tape_size t_tape_bytes) ∧ (r1 = x1 → P_X1_fail (fun (t_wrong_v3 : Int32) (t_wrongAt_v3 : Int32) => post (-4 : Int32) t_wrong_v3 t_wrongAt_v3 t_kind t_at t_behind) t_wrong t_wrongAt (4 : Int32) t_at))) ∧ (r1 = (-4 : Int32) → P_X1_fail (fun (t_wrong_v4 : Int32) (t_wrongAt_v4 : Int32) => post (-4 : Int32) t_wrong_v4 t_wrongAt_v4 t_kind t_at t_behind) t_wrong t_wrongAt (2 : Int32) t_at))) t_kind t_at t_behind t_tape_size t_tape_bytes) ∧ (¬ t_wrong = 0 → post (-4 : Int32) t_wrong t_wrongAt t_kind t_at t_behind))
set_option maxHeartbeats 4000000 in
set_option maxRecDepth 100000 in
theorem c_X1_takeThing (l : Launch) (D : va_G) (cy : Nat → ClassId) (sz : Nat) (A_t A_t_tape A_t_draft A_t_tape_bytes : Nat) (t_wrong : Int32) (t_wrongAt : Int32) (t_lines : Int32) (t_kind : Int32) (t_at : Int32) (t_behind : Int32) (t_tape_size : Int32) (t_tape_bytes : Nat → Int32) (x1 : Int32) (post : Int32 → Int32 → Int32 → Int32 → Int32 → Int32 → Prop) (h : P_X1_takeThing post t_wrong t_wrongAt t_kind t_at t_behind t_tape_size t_tape_bytes x1) : Met l yX1_takeThing wsX1_takeThing { frames := 3, cells := 0, slots := 0, locals := 62 } (pcW D cy [(A_t, .inr (1, [.ref A_t_tape, .ref A_t_draft, .int t_wrong, .int t_wrongAt, .int t_lines, .int t_kind, .int t_at, .int t_behind])), (A_t_tape, .inr (6, [.ref A_t_tape_bytes, .int t_tape_size])), (A_t_tape_bytes, .inl (cy 0, 320, .inl t_tape_bytes))] sz [.ref A_t, .int x1]) (va_Qi (fun r (u : Int32 × Int32 × Int32 × Int32 × Int32) => post r u.1 u.2.1 u.2.2.1 u.2.2.2.1 u.2.2.2.2) (bW D [(A_t, .inr (1, [.ref A_t_tape, .ref A_t_draft, .int t_wrong, .int t_wrongAt, .int t_lines, .int t_kind, .int t_at, .int t_behind])), (A_t_tape, .inr (6, [.ref A_t_tape_bytes, .int t_tape_size])), (A_t_tape_bytes, .inl (cy 0, 320, .inl t_tape_bytes))] sz (fun u => [(A_t, .inr (1, [.ref A_t_tape, .ref A_t_draft, .int (u.1), .int (u.2.1), .int t_lines, .int (u.2.2.1), .int (u.2.2.2.1), .int (u.2.2.2.2)])), (A_t_tape, .inr (6, [.ref A_t_tape_bytes, .int t_tape_size])), (A_t_tape_bytes, .inl (cy 0, 320, .inl t_tape_bytes))])) (va_A [(A_t, .inr (1, [.ref A_t_tape, .ref A_t_draft, .int t_wrong, .int t_wrongAt, .int t_lines, .int t_kind, .int t_at, .int t_behind])), (A_t_tape, .inr (6, [.ref A_t_tape_bytes, .int t_tape_size])), (A_t_tape_bytes, .inl (cy 0, 320, .inl t_tape_bytes))] sz)) 0 0 (va_A [(A_t, .inr (1, [.ref A_t_tape, .ref A_t_draft, .int t_wrong, .int t_wrongAt, .int t_lines, .int t_kind, .int t_at, .int t_behind])), (A_t_tape, .inr (6, [.ref A_t_tape_bytes, .int t_tape_size])), (A_t_tape_bytes, .inl (cy 0, 320, .inl t_tape_bytes))] sz) := by
  refine Met.ofW (cc := cX1_takeThing) (maxL := 3) (ret := (some .int)) (by decide) rfl ?_
  intro p e s m args below meth c s₁ B hml hv
  obtain ⟨rfl, hsz, hP, hK, hD0⟩ := hv
  have hx := B.exec
  have hb := B.bytes
  have hr := B.returns
  have hts := atoms_spec (ws := wsX1_takeThing) B.pre
  have hown : s.vm.findClass RX1 = some m.cls := findClass_of_methodNamed B.named
  have hlocks := B.notSynchronized
  have CF : CallFix p m c cX1_takeThing 3 s ([.ref A_t, .int x1] : List Value).toArray wsX1_takeThing RX1 := ⟨hx, hb, hml, hown, hts⟩
  have f0 := hts (.fieldLink RX1 28 "GapBounds$Reader" "wrong" "I") (by decide +kernel)
  have f1 := hts (.fieldLink RX1 51 "GapBounds$Reader" "at" "I") (by decide +kernel)
  have iX1 : ∀ w ∈ u_ws RX1 TX1 8, w ∈ wsX1_takeThing := by decide +kernel
  subst hsz
  obtain ⟨A, hAe⟩ : ∃ A, A = va_A [(A_t, .inr (1, [.ref A_t_tape, .ref A_t_draft, .int t_wrong, .int t_wrongAt, .int t_lines, .int t_kind, .int t_at, .int t_behind])), (A_t_tape, .inr (6, [.ref A_t_tape_bytes, .int t_tape_size])), (A_t_tape_bytes, .inl (cy 0, 320, .inl t_tape_bytes))] s.heap.size := ⟨_, rfl⟩
  have hD : va_D A [(A_t, .inr (1, [.ref A_t_tape, .ref A_t_draft, .int t_wrong, .int t_wrongAt, .int t_lines, .int t_kind, .int t_at, .int t_behind])), (A_t_tape, .inr (6, [.ref A_t_tape_bytes, .int t_tape_size])), (A_t_tape_bytes, .inl (cy 0, 320, .inl t_tape_bytes))] := by rw [hAe]; exact hD0.self
  have hA : ∀ q : Nat, s.heap.size ≤ q → A q := fun q hq => by rw [hAe]; exact Or.inr hq
  have hS : va_S A s.heap s.heap [] := va_S.rf
  have hl := lv_entry [.ref A_t, .int x1] (n := 3) (Nat.le_of_ble_eq_true rfl)
  rw [lg_entry_eq]
  generalize (lg_sl [.ref A_t, .int x1] ++ List.replicate (3 - (lg_sl [.ref A_t, .int x1]).length) Slot.unset).toArray = ls at hl ⊢
  have hl : lv_has ls 3 [(0, .ref A_t), (1, .int x1)] := hl
  refine W.gen (fun Q0 hQ => ?_)
  unfold P_X1_takeThing at h
  refine lv_aload_n hx hb dX1_takeThing_0 rfl (lv_at hl 0 rfl) ?_
  refine va_get (D := D) (ci := 1) (v := .int t_wrong) (C := RX1) (T := TX1) (N := 8) hx hb hts iX1 hown hK.1 hP 0 rfl rfl 2 (by decide) f0 (fun _ h9 => h9) rfl dX1_takeThing_1 ?_
  refine lv_if_eq (tgt := 10) hx hb dX1_takeThing_4 (by decide) (fun hc => ?_) (fun hc => ?_)
  · replace h := h.1 hc
    refine lv_aload_n hx hb dX1_takeThing_10 rfl (lv_at hl 0 rfl) ?_
    have hPc := hP.sub (ws' := [(A_t, .inr (1, [.ref A_t_tape, .ref A_t_draft, .int t_wrong, .int t_wrongAt, .int t_lines, .int t_kind, .int t_at, .int t_behind])), (A_t_tape, .inr (6, [.ref A_t_tape_bytes, .int t_tape_size])), (A_t_tape_bytes, .inl (cy 0, 320, .inl t_tape_bytes))]) [0, 1, 2] rfl
    refine vp_callSi (W.runV (As := []) (rest := []) CF (c_X1_thingOfToken l D cy A_t A_t_tape A_t_draft A_t_tape_bytes t_wrong t_wrongAt t_lines t_kind t_at t_behind t_tape_size t_tape_bytes _ h) (cwV 0 hts gX1_takeThing_X1_thingOfToken rfl rfl rfl qX1_thingOfToken ⟨Nat.le_of_ble_eq_true rfl, Nat.le_of_ble_eq_true rfl⟩) (mpVR hK hPc (ci := 1) (q := (RX1, TX1, 8)) (q0 := 0) rfl rfl) rfl rfl hl.1 rfl (lv_room (Nat.le_of_ble_eq_true rfl)) dX1_takeThing_11 ⟨Nat.zero_le _, Nat.zero_le _⟩) (fun r1 h => ?_)
    refine lv_istore_n (lv' := [(2, .int r1), (0, .ref A_t), (1, .int x1)]) hx hb dX1_takeThing_14 rfl hl (by decide) rfl (fun ls hl => ?_)
    refine lv_iload_n hx hb dX1_takeThing_15 rfl (lv_at hl 0 rfl) ?_
    refine lv_bipush (v := -4) hx hb dX1_takeThing_16 (by decide) ?_
    refine lv_icmp_ne (tgt := 33) hx hb dX1_takeThing_18 (by decide) (fun hc => ?_) (fun hc => ?_)
    · replace h := h.1 hc
      refine lv_iload_n hx hb dX1_takeThing_33 rfl (lv_at hl 0 rfl) ?_
      refine lv_iload_n hx hb dX1_takeThing_34 rfl (lv_at hl 2 rfl) ?_
      refine lv_icmp_ne (tgt := 50) hx hb dX1_takeThing_35 (by decide) (fun hc => ?_) (fun hc => ?_)
      · replace h := h.1 hc
        refine lv_aload_n hx hb dX1_takeThing_50 rfl (lv_at hl 1 rfl) ?_
        have hPn : va_P D vwCl ([] ++ [(A_t, .inr (1, [.ref A_t_tape, .ref A_t_draft, .int t_wrong, .int t_wrongAt, .int t_lines, .int t_kind, .int t_at, .int t_behind])), (A_t_tape, .inr (6, [.ref A_t_tape_bytes, .int t_tape_size])), (A_t_tape_bytes, .inl (cy 0, 320, .inl t_tape_bytes))]) s.heap := hP.sub [0, 1, 2] rfl
        have hDn : va_D A ([] ++ [(A_t, .inr (1, [.ref A_t_tape, .ref A_t_draft, .int t_wrong, .int t_wrongAt, .int t_lines, .int t_kind, .int t_at, .int t_behind])), (A_t_tape, .inr (6, [.ref A_t_tape_bytes, .int t_tape_size])), (A_t_tape_bytes, .inl (cy 0, 320, .inl t_tape_bytes))]) := hD.sub [0, 1, 2] (by decide) rfl
        have hPc := gPR hPn
        have hDc := gDR hDn
        refine mw_v (va_runV (As := []) (rest := []) CF (c_X1_next l D cy s.heap.size A_t A_t_tape A_t_draft A_t_tape_bytes t_wrong t_wrongAt t_lines t_kind t_at t_behind t_tape_size t_tape_bytes _ h) (cwV 0 hts gX1_takeThing_X1_next rfl rfl rfl qX1_next ⟨Nat.le_of_ble_eq_true rfl, Nat.le_of_ble_eq_true rfl⟩) (mpVW hK hPc hDc (ci := 1) (q := (RX1, TX1, 8)) (q0 := 0) rfl rfl) rfl rfl hl.1 rfl (lv_room (Nat.le_of_ble_eq_true rfl)) dX1_takeThing_51 ⟨Nat.zero_le _, Nat.zero_le _⟩) hPn hDn hS hA (fun u H locs h hP hD hS => ?_)
        obtain ⟨t_wrong_v2, t_wrongAt_v2, t_kind_v2, t_at_v2, t_behind_v2⟩ := u
        have hP : va_P D vwCl [(A_t, .inr (1, [.ref A_t_tape, .ref A_t_draft, .int t_wrong_v2, .int t_wrongAt_v2, .int t_lines, .int t_kind_v2, .int t_at_v2, .int t_behind_v2])), (A_t_tape, .inr (6, [.ref A_t_tape_bytes, .int t_tape_size])), (A_t_tape_bytes, .inl (cy 0, 320, .inl t_tape_bytes))] H := hP.sub [0, 1, 2] rfl
        have hD : va_D A [(A_t, .inr (1, [.ref A_t_tape, .ref A_t_draft, .int t_wrong_v2, .int t_wrongAt_v2, .int t_lines, .int t_kind_v2, .int t_at_v2, .int t_behind_v2])), (A_t_tape, .inr (6, [.ref A_t_tape_bytes, .int t_tape_size])), (A_t_tape_bytes, .inl (cy 0, 320, .inl t_tape_bytes))] := hD.sub [0, 1, 2] (by decide) rfl
        try dsimp only at h
        refine lv_iload_n hx hb dX1_takeThing_54 rfl (lv_at hl 0 rfl) ?_
        subst hQ
        subst hAe
        exact W.iret (v := r1) hx hb hr (fun t ht _ => ⟨⟨r1, (t_wrong_v2, t_wrongAt_v2, t_kind_v2, t_at_v2, t_behind_v2), rfl, h, by rw [ht]; exact hP, hD⟩, hS.F ht⟩) hS.2.2 dX1_takeThing_55
      · replace h := h.2 hc
        refine lv_aload_n hx hb dX1_takeThing_38 rfl (lv_at hl 1 rfl) ?_
        refine lv_iconst (v := 4) hx hb dX1_takeThing_39 (by decide) ?_
        refine lv_aload_n hx hb dX1_takeThing_40 rfl (lv_at hl 1 rfl) ?_
        refine va_get (D := D) (ci := 1) (v := .int t_at) (C := RX1) (T := TX1) (N := 8) hx hb hts iX1 hown hK.1 hP 0 rfl rfl 6 (by decide) f1 (fun _ h9 => h9) rfl dX1_takeThing_41 ?_
        have hPn : va_P D vwCl ([(A_t_tape, .inr (6, [.ref A_t_tape_bytes, .int t_tape_size])), (A_t_tape_bytes, .inl (cy 0, 320, .inl t_tape_bytes))] ++ [(A_t, .inr (1, [.ref A_t_tape, .ref A_t_draft, .int t_wrong, .int t_wrongAt, .int t_lines, .int t_kind, .int t_at, .int t_behind]))]) s.heap := hP.sub [1, 2, 0] rfl
        have hDn : va_D A ([(A_t_tape, .inr (6, [.ref A_t_tape_bytes, .int t_tape_size])), (A_t_tape_bytes, .inl (cy 0, 320, .inl t_tape_bytes))] ++ [(A_t, .inr (1, [.ref A_t_tape, .ref A_t_draft, .int t_wrong, .int t_wrongAt, .int t_lines, .int t_kind, .int t_at, .int t_behind]))]) := hD.sub [1, 2, 0] (by decide) rfl
        have hPc := gPR hPn
        have hDc := gDR hDn
        refine mw_v (va_runV (As := [.int (4 : Int32), .int t_at]) (rest := []) CF (c_X1_fail l D cy s.heap.size A_t A_t_tape A_t_draft t_wrong t_wrongAt t_lines t_kind t_at t_behind (4 : Int32) t_at _ h) (cwV 2 hts gX1_takeThing_X1_fail rfl rfl rfl qX1_fail ⟨Nat.le_of_ble_eq_true rfl, Nat.le_of_ble_eq_true rfl⟩) (mpVW hK hPc hDc (ci := 1) (q := (RX1, TX1, 8)) (q0 := 0) rfl rfl) rfl rfl hl.1 rfl (lv_room (Nat.le_of_ble_eq_true rfl)) dX1_takeThing_44 ⟨Nat.zero_le _, Nat.zero_le _⟩) hPn hDn hS hA (fun u H locs h hP hD hS => ?_)
        obtain ⟨t_wrong_v3, t_wrongAt_v3⟩ := u
        have hP : va_P D vwCl [(A_t, .inr (1, [.ref A_t_tape, .ref A_t_draft, .int t_wrong_v3, .int t_wrongAt_v3, .int t_lines, .int t_kind, .int t_at, .int t_behind])), (A_t_tape, .inr (6, [.ref A_t_tape_bytes, .int t_tape_size])), (A_t_tape_bytes, .inl (cy 0, 320, .inl t_tape_bytes))] H := hP.sub [2, 0, 1] rfl
        have hD : va_D A [(A_t, .inr (1, [.ref A_t_tape, .ref A_t_draft, .int t_wrong_v3, .int t_wrongAt_v3, .int t_lines, .int t_kind, .int t_at, .int t_behind])), (A_t_tape, .inr (6, [.ref A_t_tape_bytes, .int t_tape_size])), (A_t_tape_bytes, .inl (cy 0, 320, .inl t_tape_bytes))] := hD.sub [2, 0, 1] (by decide) rfl
        try dsimp only at h
        refine lv_bipush (v := -4) hx hb dX1_takeThing_47 (by decide) ?_
        subst hQ
        subst hAe
        exact W.iret (v := (-4 : Int32)) hx hb hr (fun t ht _ => ⟨⟨(-4 : Int32), (t_wrong_v3, t_wrongAt_v3, t_kind, t_at, t_behind), rfl, h, by rw [ht]; exact hP, hD⟩, hS.F ht⟩) hS.2.2 dX1_takeThing_49
    · replace h := h.2 hc
      refine lv_aload_n hx hb dX1_takeThing_21 rfl (lv_at hl 1 rfl) ?_
      refine lv_iconst (v := 2) hx hb dX1_takeThing_22 (by decide) ?_
      refine lv_aload_n hx hb dX1_takeThing_23 rfl (lv_at hl 1 rfl) ?_
      refine va_get (D := D) (ci := 1) (v := .int t_at) (C := RX1) (T := TX1) (N := 8) hx hb hts iX1 hown hK.1 hP 0 rfl rfl 6 (by decide) f1 (fun _ h9 => h9) rfl dX1_takeThing_24 ?_
      have hPn : va_P D vwCl ([(A_t_tape, .inr (6, [.ref A_t_tape_bytes, .int t_tape_size])), (A_t_tape_bytes, .inl (cy 0, 320, .inl t_tape_bytes))] ++ [(A_t, .inr (1, [.ref A_t_tape, .ref A_t_draft, .int t_wrong, .int t_wrongAt, .int t_lines, .int t_kind, .int t_at, .int t_behind]))]) s.heap := hP.sub [1, 2, 0] rfl
      have hDn : va_D A ([(A_t_tape, .inr (6, [.ref A_t_tape_bytes, .int t_tape_size])), (A_t_tape_bytes, .inl (cy 0, 320, .inl t_tape_bytes))] ++ [(A_t, .inr (1, [.ref A_t_tape, .ref A_t_draft, .int t_wrong, .int t_wrongAt, .int t_lines, .int t_kind, .int t_at, .int t_behind]))]) := hD.sub [1, 2, 0] (by decide) rfl
      have hPc := gPR hPn
      have hDc := gDR hDn
      refine mw_v (va_runV (As := [.int (2 : Int32), .int t_at]) (rest := []) CF (c_X1_fail l D cy s.heap.size A_t A_t_tape A_t_draft t_wrong t_wrongAt t_lines t_kind t_at t_behind (2 : Int32) t_at _ h) (cwV 2 hts gX1_takeThing_X1_fail rfl rfl rfl qX1_fail ⟨Nat.le_of_ble_eq_true rfl, Nat.le_of_ble_eq_true rfl⟩) (mpVW hK hPc hDc (ci := 1) (q := (RX1, TX1, 8)) (q0 := 0) rfl rfl) rfl rfl hl.1 rfl (lv_room (Nat.le_of_ble_eq_true rfl)) dX1_takeThing_27 ⟨Nat.zero_le _, Nat.zero_le _⟩) hPn hDn hS hA (fun u H locs h hP hD hS => ?_)
      obtain ⟨t_wrong_v4, t_wrongAt_v4⟩ := u
      have hP : va_P D vwCl [(A_t, .inr (1, [.ref A_t_tape, .ref A_t_draft, .int t_wrong_v4, .int t_wrongAt_v4, .int t_lines, .int t_kind, .int t_at, .int t_behind])), (A_t_tape, .inr (6, [.ref A_t_tape_bytes, .int t_tape_size])), (A_t_tape_bytes, .inl (cy 0, 320, .inl t_tape_bytes))] H := hP.sub [2, 0, 1] rfl
      have hD : va_D A [(A_t, .inr (1, [.ref A_t_tape, .ref A_t_draft, .int t_wrong_v4, .int t_wrongAt_v4, .int t_lines, .int t_kind, .int t_at, .int t_behind])), (A_t_tape, .inr (6, [.ref A_t_tape_bytes, .int t_tape_size])), (A_t_tape_bytes, .inl (cy 0, 320, .inl t_tape_bytes))] := hD.sub [2, 0, 1] (by decide) rfl
      try dsimp only at h
      refine lv_bipush (v := -4) hx hb dX1_takeThing_30 (by decide) ?_
      subst hQ
      subst hAe
      exact W.iret (v := (-4 : Int32)) hx hb hr (fun t ht _ => ⟨⟨(-4 : Int32), (t_wrong_v4, t_wrongAt_v4, t_kind, t_at, t_behind), rfl, h, by rw [ht]; exact hP, hD⟩, hS.F ht⟩) hS.2.2 dX1_takeThing_32
  · replace h := h.2 hc
    refine lv_bipush (v := -4) hx hb dX1_takeThing_7 (by decide) ?_
    subst hQ
    subst hAe
    exact W.iret (v := (-4 : Int32)) hx hb hr (fun t ht _ => ⟨⟨(-4 : Int32), (t_wrong, t_wrongAt, t_kind, t_at, t_behind), rfl, h, by rw [ht]; exact hP, hD⟩, hS.F ht⟩) hS.2.2 dX1_takeThing_9
theorem qX1_figuresOfToken : yX1_figuresOfToken.cls = RX1 ∧ yX1_figuresOfToken.cls ≠ "java/lang/invoke/MethodHandle" ∧ yX1_figuresOfToken.cls ≠ "java/lang/invoke/VarHandle" ∧ (parseMethodDescriptor yX1_figuresOfToken.desc).map (fun d => d.parameters.length) = some 0 := by decide +kernel
def LB_X1_figuresOfToken_7 (post : Int32 → Prop) (t_behind : Int32) (t_tape_size : Int32) (t_tape_bytes : Nat → Int32) (K_7 : Int32 → Int32 → Prop) (x1 : Int32) (x2 : Int32) : Prop :=
  ((t_behind ≤ x2 → post x1) ∧ (¬ t_behind ≤ x2 → P_X1_byteAt (fun (r1 : Int32) => K_7 (((10 : Int32) * x1) + (r1 - (48 : Int32))) (x2 + (1 : Int32))) t_tape_size t_tape_bytes x2))
noncomputable def L_X1_figuresOfToken_7 (post : Int32 → Prop) (t_behind : Int32) (t_tape_size : Int32) (t_tape_bytes : Nat → Int32) (n : Nat) : Int32 → Int32 → Prop := Nat.rec (motive := fun _ => Int32 → Int32 → Prop) (fun _ _ => False) (fun _ K => LB_X1_figuresOfToken_7 post t_behind t_tape_size t_tape_bytes K) n
def P_X1_figuresOfToken (post : Int32 → Prop) (t_at : Int32) (t_behind : Int32) (t_tape_size : Int32) (t_tape_bytes : Nat → Int32) : Prop :=
  ∃ n : Nat, L_X1_figuresOfToken_7 post t_behind t_tape_size t_tape_bytes n (0 : Int32) t_at
set_option maxHeartbeats 4000000 in
set_option maxRecDepth 100000 in
theorem c_X1_figuresOfToken (l : Launch) (D : va_G) (cy : Nat → ClassId) (A_t A_t_tape A_t_draft A_t_tape_bytes : Nat) (t_wrong : Int32) (t_wrongAt : Int32) (t_lines : Int32) (t_kind : Int32) (t_at : Int32) (t_behind : Int32) (t_tape_size : Int32) (t_tape_bytes : Nat → Int32) (post : Int32 → Prop) (h : P_X1_figuresOfToken post t_at t_behind t_tape_size t_tape_bytes) : Met l yX1_figuresOfToken wsX1_figuresOfToken { frames := 1, cells := 0, slots := 0, locals := 21 } (pcR D cy [(A_t, .inr (1, [.ref A_t_tape, .ref A_t_draft, .int t_wrong, .int t_wrongAt, .int t_lines, .int t_kind, .int t_at, .int t_behind])), (A_t_tape, .inr (6, [.ref A_t_tape_bytes, .int t_tape_size])), (A_t_tape_bytes, .inl (cy 0, 320, .inl t_tape_bytes))] [.ref A_t]) (vp_Si post) 0 0 (fun _ => False) := by
  refine Met.ofW (cc := cX1_figuresOfToken) (maxL := 3) (ret := (some .int)) (by decide) rfl ?_
  intro p e s m args below meth c s₁ B hml hv
  obtain ⟨rfl, hP, hK⟩ := hv
  have hx := B.exec
  have hb := B.bytes
  have hr := B.returns
  have hts := atoms_spec (ws := wsX1_figuresOfToken) B.pre
  have hown : s.vm.findClass RX1 = some m.cls := findClass_of_methodNamed B.named
  have hlocks := B.notSynchronized
  have CF : CallFix p m c cX1_figuresOfToken 3 s ([.ref A_t] : List Value).toArray wsX1_figuresOfToken RX1 := ⟨hx, hb, hml, hown, hts⟩
  have f0 := hts (.fieldLink RX1 51 "GapBounds$Reader" "at" "I") (by decide +kernel)
  have f1 := hts (.fieldLink RX1 38 "GapBounds$Reader" "behind" "I") (by decide +kernel)
  have iX1 : ∀ w ∈ u_ws RX1 TX1 8, w ∈ wsX1_figuresOfToken := by decide +kernel
  have hl := lv_entry [.ref A_t] (n := 3) (Nat.le_of_ble_eq_true rfl)
  rw [lg_entry_eq]
  generalize (lg_sl [.ref A_t] ++ List.replicate (3 - (lg_sl [.ref A_t]).length) Slot.unset).toArray = ls at hl ⊢
  have hl : lv_has ls 3 [(0, .ref A_t)] := hl
  refine W.gen (fun Q0 hQ => ?_)
  have L7 : ∀ (n7 : Nat) (x1 : Int32) (x2 : Int32) (ls : Array Slot), L_X1_figuresOfToken_7 post t_behind t_tape_size t_tape_bytes n7 x1 x2 → lv_has ls 3 [(0, .ref A_t), (1, .int x1), (2, .int x2)] → W p l e (headSpec wsX1_figuresOfToken { frames := 1, cells := 0, slots := 0, locals := 21 }).room s m ([.ref A_t] : List Value).toArray below meth c s.heap [] 0 0 Q0 (F0 m 7 ls []) := by
    intro n7
    induction n7 with
    | zero => intro x1 x2 ls h; exact False.elim h
    | succ n7 ih7 =>
      intro x1 x2 ls h hl
      have h : LB_X1_figuresOfToken_7 post t_behind t_tape_size t_tape_bytes (L_X1_figuresOfToken_7 post t_behind t_tape_size t_tape_bytes n7) x1 x2 := h
      unfold LB_X1_figuresOfToken_7 at h
      refine lv_iload_n hx hb dX1_figuresOfToken_7 rfl (lv_at hl 2 rfl) ?_
      refine lv_aload_n hx hb dX1_figuresOfToken_8 rfl (lv_at hl 0 rfl) ?_
      refine va_get (D := D) (ci := 1) (v := .int t_behind) (C := RX1) (T := TX1) (N := 8) hx hb hts iX1 hown hK.1 hP 0 rfl rfl 7 (by decide) f1 (fun _ h9 => h9) rfl dX1_figuresOfToken_9 ?_
      refine lv_icmp_ge (tgt := 35) hx hb dX1_figuresOfToken_12 (by decide) (fun hc => ?_) (fun hc => ?_)
      · replace h := h.1 hc
        refine lv_iload_n hx hb dX1_figuresOfToken_35 rfl (lv_at hl 1 rfl) ?_
        subst hQ
        exact W.iret (v := x1) hx hb hr (fun t ht _ => ⟨x1, rfl, h, ht⟩) (fun _ hq => absurd hq List.not_mem_nil) dX1_figuresOfToken_36
      · replace h := h.2 hc
        refine lv_bipush (v := 10) hx hb dX1_figuresOfToken_15 (by decide) ?_
        refine lv_iload_n hx hb dX1_figuresOfToken_17 rfl (lv_at hl 1 rfl) ?_
        refine lv_imul hx hb dX1_figuresOfToken_18 ?_
        refine lv_aload_n hx hb dX1_figuresOfToken_19 rfl (lv_at hl 0 rfl) ?_
        refine lv_iload_n hx hb dX1_figuresOfToken_20 rfl (lv_at hl 2 rfl) ?_
        have hPc := hP.sub (ws' := [(A_t, .inr (1, [.ref A_t_tape, .ref A_t_draft, .int t_wrong, .int t_wrongAt, .int t_lines, .int t_kind, .int t_at, .int t_behind])), (A_t_tape, .inr (6, [.ref A_t_tape_bytes, .int t_tape_size])), (A_t_tape_bytes, .inl (cy 0, 320, .inl t_tape_bytes))]) [0, 1, 2] rfl
        refine vp_callSi (W.runV (As := [.int x2]) (rest := [.int ((10 : Int32) * x1)]) CF (c_X1_byteAt l D cy A_t A_t_tape A_t_draft A_t_tape_bytes t_wrong t_wrongAt t_lines t_kind t_at t_behind t_tape_size t_tape_bytes x2 _ h) (cwV 1 hts gX1_figuresOfToken_X1_byteAt rfl rfl rfl qX1_byteAt ⟨Nat.le_of_ble_eq_true rfl, Nat.le_of_ble_eq_true rfl⟩) (mpVR hK hPc (ci := 1) (q := (RX1, TX1, 8)) (q0 := 0) rfl rfl) rfl rfl hl.1 rfl (lv_room (Nat.le_of_ble_eq_true rfl)) dX1_figuresOfToken_21 ⟨Nat.zero_le _, Nat.zero_le _⟩) (fun r1 h => ?_)
        refine lv_bipush (v := 48) hx hb dX1_figuresOfToken_24 (by decide) ?_
        refine lv_isub hx hb dX1_figuresOfToken_26 ?_
        refine lv_iadd hx hb dX1_figuresOfToken_27 ?_
        refine lv_istore_n (lv' := [(1, .int (((10 : Int32) * x1) + (r1 - (48 : Int32)))), (0, .ref A_t), (2, .int x2)]) hx hb dX1_figuresOfToken_28 rfl hl (by decide) rfl (fun ls hl => ?_)
        refine lv_iinc (v := x2 + (1 : Int32)) (lv' := [(2, .int (x2 + (1 : Int32))), (1, .int (((10 : Int32) * x1) + (r1 - (48 : Int32)))), (0, .ref A_t)]) hx hb dX1_figuresOfToken_29 hl (k := 2) rfl rfl (by decide) rfl (fun ls hl => ?_)
        refine lv_goto (tgt := 7) hx hb dX1_figuresOfToken_32 (by decide) ?_
        exact ih7 (((10 : Int32) * x1) + (r1 - (48 : Int32))) (x2 + (1 : Int32)) ls h (lv_sub hl [2, 1, 0] rfl)
  unfold P_X1_figuresOfToken at h
  refine lv_iconst (v := 0) hx hb dX1_figuresOfToken_0 (by decide) ?_
  refine lv_istore_n (lv' := [(1, .int (0 : Int32)), (0, .ref A_t)]) hx hb dX1_figuresOfToken_1 rfl hl (by decide) rfl (fun ls hl => ?_)
  refine lv_aload_n hx hb dX1_figuresOfToken_2 rfl (lv_at hl 1 rfl) ?_
  refine va_get (D := D) (ci := 1) (v := .int t_at) (C := RX1) (T := TX1) (N := 8) hx hb hts iX1 hown hK.1 hP 0 rfl rfl 6 (by decide) f0 (fun _ h9 => h9) rfl dX1_figuresOfToken_3 ?_
  refine lv_istore_n (lv' := [(2, .int t_at), (1, .int (0 : Int32)), (0, .ref A_t)]) hx hb dX1_figuresOfToken_6 rfl hl (by decide) rfl (fun ls hl => ?_)
  obtain ⟨nn, h⟩ := h
  exact L7 nn (0 : Int32) t_at ls h (lv_sub hl [2, 1, 0] rfl)
theorem qX1_takeAmount : yX1_takeAmount.cls = RX1 ∧ yX1_takeAmount.cls ≠ "java/lang/invoke/MethodHandle" ∧ yX1_takeAmount.cls ≠ "java/lang/invoke/VarHandle" ∧ (parseMethodDescriptor yX1_takeAmount.desc).map (fun d => d.parameters.length) = some 0 := by decide +kernel
def B_X1_takeAmount_44 (post : Int32 → Int32 → Int32 → Int32 → Int32 → Int32 → Prop) (t_wrong : Int32) (t_wrongAt : Int32) (t_kind : Int32) (t_at : Int32) (t_behind : Int32) : Prop :=
  P_X1_fail (fun (t_wrong_v1 : Int32) (t_wrongAt_v1 : Int32) => post (0 : Int32) t_wrong_v1 t_wrongAt_v1 t_kind t_at t_behind) t_wrong t_wrongAt (2 : Int32) t_at
def B_X1_takeAmount_29 (post : Int32 → Int32 → Int32 → Int32 → Int32 → Int32 → Prop) (t_wrong : Int32) (t_wrongAt : Int32) (t_kind : Int32) (t_at : Int32) (t_behind : Int32) (t_tape_size : Int32) (t_tape_bytes : Nat → Int32) (x1 : Int32) : Prop :=
  ((¬ t_wrong = 0 → B_X1_takeAmount_44 post t_wrong t_wrongAt t_kind t_at t_behind) ∧ (t_wrong = 0 → ((t_kind = (2 : Int32) → P_X1_figuresOfToken (fun (r2 : Int32) => P_X1_next (fun (t_wrong_v3 : Int32) (t_wrongAt_v3 : Int32) (t_kind_v3 : Int32) (t_at_v3 : Int32) (t_behind_v3 : Int32) => ((x1 = 0 → post r2 t_wrong_v3 t_wrongAt_v3 t_kind_v3 t_at_v3 t_behind_v3) ∧ (¬ x1 = 0 → post (-r2) t_wrong_v3 t_wrongAt_v3 t_kind_v3 t_at_v3 t_behind_v3))) t_wrong t_wrongAt t_behind t_tape_size t_tape_bytes) t_at t_behind t_tape_size t_tape_bytes) ∧ (¬ t_kind = (2 : Int32) → B_X1_takeAmount_44 post t_wrong t_wrongAt t_kind t_at t_behind))))
def B_X1_takeAmount_20 (post : Int32 → Int32 → Int32 → Int32 → Int32 → Int32 → Prop) (t_wrong : Int32) (t_wrongAt : Int32) (t_kind : Int32) (t_at : Int32) (t_behind : Int32) (t_tape_size : Int32) (t_tape_bytes : Nat → Int32) (k0 : Int32) : Prop :=
  ((k0 = 0 → B_X1_takeAmount_29 post t_wrong t_wrongAt t_kind t_at t_behind t_tape_size t_tape_bytes k0) ∧ (¬ k0 = 0 → P_X1_next (fun (t_wrong_v4 : Int32) (t_wrongAt_v4 : Int32) (t_kind_v4 : Int32) (t_at_v4 : Int32) (t_behind_v4 : Int32) => B_X1_takeAmount_29 post t_wrong_v4 t_wrongAt_v4 t_kind_v4 t_at_v4 t_behind_v4 t_tape_size t_tape_bytes k0) t_wrong t_wrongAt t_behind t_tape_size t_tape_bytes))
def B_X1_takeAmount_19 (post : Int32 → Int32 → Int32 → Int32 → Int32 → Int32 → Prop) (t_wrong : Int32) (t_wrongAt : Int32) (t_kind : Int32) (t_at : Int32) (t_behind : Int32) (t_tape_size : Int32) (t_tape_bytes : Nat → Int32) : Prop :=
  B_X1_takeAmount_20 post t_wrong t_wrongAt t_kind t_at t_behind t_tape_size t_tape_bytes (0 : Int32)
def P_X1_takeAmount (post : Int32 → Int32 → Int32 → Int32 → Int32 → Int32 → Prop) (t_wrong : Int32) (t_wrongAt : Int32) (t_kind : Int32) (t_at : Int32) (t_behind : Int32) (t_tape_size : Int32) (t_tape_bytes : Nat → Int32) : Prop :=
  ((¬ t_wrong = 0 → B_X1_takeAmount_19 post t_wrong t_wrongAt t_kind t_at t_behind t_tape_size t_tape_bytes) ∧ (t_wrong = 0 → ((¬ t_kind = (3 : Int32) → B_X1_takeAmount_19 post t_wrong t_wrongAt t_kind t_at t_behind t_tape_size t_tape_bytes) ∧ (t_kind = (3 : Int32) → B_X1_takeAmount_20 post t_wrong t_wrongAt t_kind t_at t_behind t_tape_size t_tape_bytes (1 : Int32)))))
set_option maxHeartbeats 4000000 in
set_option maxRecDepth 100000 in
theorem c_X1_takeAmount (l : Launch) (D : va_G) (cy : Nat → ClassId) (sz : Nat) (A_t A_t_tape A_t_draft A_t_tape_bytes : Nat) (t_wrong : Int32) (t_wrongAt : Int32) (t_lines : Int32) (t_kind : Int32) (t_at : Int32) (t_behind : Int32) (t_tape_size : Int32) (t_tape_bytes : Nat → Int32) (post : Int32 → Int32 → Int32 → Int32 → Int32 → Int32 → Prop) (h : P_X1_takeAmount post t_wrong t_wrongAt t_kind t_at t_behind t_tape_size t_tape_bytes) : Met l yX1_takeAmount wsX1_takeAmount { frames := 3, cells := 0, slots := 0, locals := 62 } (pcW D cy [(A_t, .inr (1, [.ref A_t_tape, .ref A_t_draft, .int t_wrong, .int t_wrongAt, .int t_lines, .int t_kind, .int t_at, .int t_behind])), (A_t_tape, .inr (6, [.ref A_t_tape_bytes, .int t_tape_size])), (A_t_tape_bytes, .inl (cy 0, 320, .inl t_tape_bytes))] sz [.ref A_t]) (va_Qi (fun r (u : Int32 × Int32 × Int32 × Int32 × Int32) => post r u.1 u.2.1 u.2.2.1 u.2.2.2.1 u.2.2.2.2) (bW D [(A_t, .inr (1, [.ref A_t_tape, .ref A_t_draft, .int t_wrong, .int t_wrongAt, .int t_lines, .int t_kind, .int t_at, .int t_behind])), (A_t_tape, .inr (6, [.ref A_t_tape_bytes, .int t_tape_size])), (A_t_tape_bytes, .inl (cy 0, 320, .inl t_tape_bytes))] sz (fun u => [(A_t, .inr (1, [.ref A_t_tape, .ref A_t_draft, .int (u.1), .int (u.2.1), .int t_lines, .int (u.2.2.1), .int (u.2.2.2.1), .int (u.2.2.2.2)])), (A_t_tape, .inr (6, [.ref A_t_tape_bytes, .int t_tape_size])), (A_t_tape_bytes, .inl (cy 0, 320, .inl t_tape_bytes))])) (va_A [(A_t, .inr (1, [.ref A_t_tape, .ref A_t_draft, .int t_wrong, .int t_wrongAt, .int t_lines, .int t_kind, .int t_at, .int t_behind])), (A_t_tape, .inr (6, [.ref A_t_tape_bytes, .int t_tape_size])), (A_t_tape_bytes, .inl (cy 0, 320, .inl t_tape_bytes))] sz)) 0 0 (va_A [(A_t, .inr (1, [.ref A_t_tape, .ref A_t_draft, .int t_wrong, .int t_wrongAt, .int t_lines, .int t_kind, .int t_at, .int t_behind])), (A_t_tape, .inr (6, [.ref A_t_tape_bytes, .int t_tape_size])), (A_t_tape_bytes, .inl (cy 0, 320, .inl t_tape_bytes))] sz) := by
  refine Met.ofW (cc := cX1_takeAmount) (maxL := 3) (ret := (some .int)) (by decide) rfl ?_
  intro p e s m args below meth c s₁ B hml hv
  obtain ⟨rfl, hsz, hP, hK, hD0⟩ := hv
  have hx := B.exec
  have hb := B.bytes
  have hr := B.returns
  have hts := atoms_spec (ws := wsX1_takeAmount) B.pre
  have hown : s.vm.findClass RX1 = some m.cls := findClass_of_methodNamed B.named
  have hlocks := B.notSynchronized
  have CF : CallFix p m c cX1_takeAmount 3 s ([.ref A_t] : List Value).toArray wsX1_takeAmount RX1 := ⟨hx, hb, hml, hown, hts⟩
  have f0 := hts (.fieldLink RX1 28 "GapBounds$Reader" "wrong" "I") (by decide +kernel)
  have f1 := hts (.fieldLink RX1 51 "GapBounds$Reader" "at" "I") (by decide +kernel)
  have f2 := hts (.fieldLink RX1 44 "GapBounds$Reader" "kind" "I") (by decide +kernel)
  have iX1 : ∀ w ∈ u_ws RX1 TX1 8, w ∈ wsX1_takeAmount := by decide +kernel
  subst hsz
  obtain ⟨A, hAe⟩ : ∃ A, A = va_A [(A_t, .inr (1, [.ref A_t_tape, .ref A_t_draft, .int t_wrong, .int t_wrongAt, .int t_lines, .int t_kind, .int t_at, .int t_behind])), (A_t_tape, .inr (6, [.ref A_t_tape_bytes, .int t_tape_size])), (A_t_tape_bytes, .inl (cy 0, 320, .inl t_tape_bytes))] s.heap.size := ⟨_, rfl⟩
  have hD : va_D A [(A_t, .inr (1, [.ref A_t_tape, .ref A_t_draft, .int t_wrong, .int t_wrongAt, .int t_lines, .int t_kind, .int t_at, .int t_behind])), (A_t_tape, .inr (6, [.ref A_t_tape_bytes, .int t_tape_size])), (A_t_tape_bytes, .inl (cy 0, 320, .inl t_tape_bytes))] := by rw [hAe]; exact hD0.self
  have hA : ∀ q : Nat, s.heap.size ≤ q → A q := fun q hq => by rw [hAe]; exact Or.inr hq
  have hS : va_S A s.heap s.heap [] := va_S.rf
  have hl := lv_entry [.ref A_t] (n := 3) (Nat.le_of_ble_eq_true rfl)
  rw [lg_entry_eq]
  generalize (lg_sl [.ref A_t] ++ List.replicate (3 - (lg_sl [.ref A_t]).length) Slot.unset).toArray = ls at hl ⊢
  have hl : lv_has ls 3 [(0, .ref A_t)] := hl
  refine W.gen (fun Q0 hQ => ?_)
  have J44 : ∀ (t_wrong : Int32) (t_wrongAt : Int32) (t_kind : Int32) (t_at : Int32) (t_behind : Int32) (H : Heap) (locs : List Loc) (ls : Array Slot), B_X1_takeAmount_44 post t_wrong t_wrongAt t_kind t_at t_behind → va_P D vwCl [(A_t, .inr (1, [.ref A_t_tape, .ref A_t_draft, .int t_wrong, .int t_wrongAt, .int t_lines, .int t_kind, .int t_at, .int t_behind])), (A_t_tape, .inr (6, [.ref A_t_tape_bytes, .int t_tape_size])), (A_t_tape_bytes, .inl (cy 0, 320, .inl t_tape_bytes))] H → va_D A [(A_t, .inr (1, [.ref A_t_tape, .ref A_t_draft, .int t_wrong, .int t_wrongAt, .int t_lines, .int t_kind, .int t_at, .int t_behind])), (A_t_tape, .inr (6, [.ref A_t_tape_bytes, .int t_tape_size])), (A_t_tape_bytes, .inl (cy 0, 320, .inl t_tape_bytes))] → va_S A s.heap H locs → lv_has ls 3 [(0, .ref A_t)] → W p l e (headSpec wsX1_takeAmount { frames := 3, cells := 0, slots := 0, locals := 62 }).room s m ([.ref A_t] : List Value).toArray below meth c H locs 0 0 Q0 (F0 m 44 ls []) := by
    intro t_wrong t_wrongAt t_kind t_at t_behind H locs ls h hP hD hS hl
    unfold B_X1_takeAmount_44 at h
    refine lv_aload_n hx hb dX1_takeAmount_44 rfl (lv_at hl 0 rfl) ?_
    refine lv_iconst (v := 2) hx hb dX1_takeAmount_45 (by decide) ?_
    refine lv_aload_n hx hb dX1_takeAmount_46 rfl (lv_at hl 0 rfl) ?_
    refine va_get (D := D) (ci := 1) (v := .int t_at) (C := RX1) (T := TX1) (N := 8) hx hb hts iX1 hown hK.1 hP 0 rfl rfl 6 (by decide) f1 (fun _ h9 => h9) rfl dX1_takeAmount_47 ?_
    have hPn : va_P D vwCl ([(A_t_tape, .inr (6, [.ref A_t_tape_bytes, .int t_tape_size])), (A_t_tape_bytes, .inl (cy 0, 320, .inl t_tape_bytes))] ++ [(A_t, .inr (1, [.ref A_t_tape, .ref A_t_draft, .int t_wrong, .int t_wrongAt, .int t_lines, .int t_kind, .int t_at, .int t_behind]))]) H := hP.sub [1, 2, 0] rfl
    have hDn : va_D A ([(A_t_tape, .inr (6, [.ref A_t_tape_bytes, .int t_tape_size])), (A_t_tape_bytes, .inl (cy 0, 320, .inl t_tape_bytes))] ++ [(A_t, .inr (1, [.ref A_t_tape, .ref A_t_draft, .int t_wrong, .int t_wrongAt, .int t_lines, .int t_kind, .int t_at, .int t_behind]))]) := hD.sub [1, 2, 0] (by decide) rfl
    have hPc := gPR hPn
    have hDc := gDR hDn
    refine mw_v (va_runV (As := [.int (2 : Int32), .int t_at]) (rest := []) CF (c_X1_fail l D cy H.size A_t A_t_tape A_t_draft t_wrong t_wrongAt t_lines t_kind t_at t_behind (2 : Int32) t_at _ h) (cwV 2 hts gX1_takeAmount_X1_fail rfl rfl rfl qX1_fail ⟨Nat.le_of_ble_eq_true rfl, Nat.le_of_ble_eq_true rfl⟩) (mpVW hK hPc hDc (ci := 1) (q := (RX1, TX1, 8)) (q0 := 0) rfl rfl) rfl rfl hl.1 rfl (lv_room (Nat.le_of_ble_eq_true rfl)) dX1_takeAmount_50 ⟨Nat.zero_le _, Nat.zero_le _⟩) hPn hDn hS hA (fun u H locs h hP hD hS => ?_)
    obtain ⟨t_wrong_v1, t_wrongAt_v1⟩ := u
    have hP : va_P D vwCl [(A_t, .inr (1, [.ref A_t_tape, .ref A_t_draft, .int t_wrong_v1, .int t_wrongAt_v1, .int t_lines, .int t_kind, .int t_at, .int t_behind])), (A_t_tape, .inr (6, [.ref A_t_tape_bytes, .int t_tape_size])), (A_t_tape_bytes, .inl (cy 0, 320, .inl t_tape_bytes))] H := hP.sub [2, 0, 1] rfl
    have hD : va_D A [(A_t, .inr (1, [.ref A_t_tape, .ref A_t_draft, .int t_wrong_v1, .int t_wrongAt_v1, .int t_lines, .int t_kind, .int t_at, .int t_behind])), (A_t_tape, .inr (6, [.ref A_t_tape_bytes, .int t_tape_size])), (A_t_tape_bytes, .inl (cy 0, 320, .inl t_tape_bytes))] := hD.sub [2, 0, 1] (by decide) rfl
    try dsimp only at h
    refine lv_iconst (v := 0) hx hb dX1_takeAmount_53 (by decide) ?_
    subst hQ
    subst hAe
    exact W.iret (v := (0 : Int32)) hx hb hr (fun t ht _ => ⟨⟨(0 : Int32), (t_wrong_v1, t_wrongAt_v1, t_kind, t_at, t_behind), rfl, h, by rw [ht]; exact hP, hD⟩, hS.F ht⟩) hS.2.2 dX1_takeAmount_54
  have J29 : ∀ (t_wrong : Int32) (t_wrongAt : Int32) (t_kind : Int32) (t_at : Int32) (t_behind : Int32) (x1 : Int32) (H : Heap) (locs : List Loc) (ls : Array Slot), B_X1_takeAmount_29 post t_wrong t_wrongAt t_kind t_at t_behind t_tape_size t_tape_bytes x1 → va_P D vwCl [(A_t, .inr (1, [.ref A_t_tape, .ref A_t_draft, .int t_wrong, .int t_wrongAt, .int t_lines, .int t_kind, .int t_at, .int t_behind])), (A_t_tape, .inr (6, [.ref A_t_tape_bytes, .int t_tape_size])), (A_t_tape_bytes, .inl (cy 0, 320, .inl t_tape_bytes))] H → va_D A [(A_t, .inr (1, [.ref A_t_tape, .ref A_t_draft, .int t_wrong, .int t_wrongAt, .int t_lines, .int t_kind, .int t_at, .int t_behind])), (A_t_tape, .inr (6, [.ref A_t_tape_bytes, .int t_tape_size])), (A_t_tape_bytes, .inl (cy 0, 320, .inl t_tape_bytes))] → va_S A s.heap H locs → lv_has ls 3 [(0, .ref A_t), (1, .int x1)] → W p l e (headSpec wsX1_takeAmount { frames := 3, cells := 0, slots := 0, locals := 62 }).room s m ([.ref A_t] : List Value).toArray below meth c H locs 0 0 Q0 (F0 m 29 ls []) := by
    intro t_wrong t_wrongAt t_kind t_at t_behind x1 H locs ls h hP hD hS hl
    unfold B_X1_takeAmount_29 at h
    refine lv_aload_n hx hb dX1_takeAmount_29 rfl (lv_at hl 0 rfl) ?_
    refine va_get (D := D) (ci := 1) (v := .int t_wrong) (C := RX1) (T := TX1) (N := 8) hx hb hts iX1 hown hK.1 hP 0 rfl rfl 2 (by decide) f0 (fun _ h9 => h9) rfl dX1_takeAmount_30 ?_
    refine lv_if_ne (tgt := 44) hx hb dX1_takeAmount_33 (by decide) (fun hc => ?_) (fun hc => ?_)
    · replace h := h.1 hc
      exact J44 t_wrong t_wrongAt t_kind t_at t_behind H locs ls h hP hD hS (lv_sub hl [0] rfl)
    · replace h := h.2 hc
      refine lv_aload_n hx hb dX1_takeAmount_36 rfl (lv_at hl 0 rfl) ?_
      refine va_get (D := D) (ci := 1) (v := .int t_kind) (C := RX1) (T := TX1) (N := 8) hx hb hts iX1 hown hK.1 hP 0 rfl rfl 5 (by decide) f2 (fun _ h9 => h9) rfl dX1_takeAmount_37 ?_
      refine lv_iconst (v := 2) hx hb dX1_takeAmount_40 (by decide) ?_
      refine lv_icmp_eq (tgt := 55) hx hb dX1_takeAmount_41 (by decide) (fun hc => ?_) (fun hc => ?_)
      · replace h := h.1 hc
        refine lv_aload_n hx hb dX1_takeAmount_55 rfl (lv_at hl 0 rfl) ?_
        have hPc := hP.sub (ws' := [(A_t, .inr (1, [.ref A_t_tape, .ref A_t_draft, .int t_wrong, .int t_wrongAt, .int t_lines, .int t_kind, .int t_at, .int t_behind])), (A_t_tape, .inr (6, [.ref A_t_tape_bytes, .int t_tape_size])), (A_t_tape_bytes, .inl (cy 0, 320, .inl t_tape_bytes))]) [0, 1, 2] rfl
        refine vp_callSi (W.runV (As := []) (rest := []) CF (c_X1_figuresOfToken l D cy A_t A_t_tape A_t_draft A_t_tape_bytes t_wrong t_wrongAt t_lines t_kind t_at t_behind t_tape_size t_tape_bytes _ h) (cwV 0 hts gX1_takeAmount_X1_figuresOfToken rfl rfl rfl qX1_figuresOfToken ⟨Nat.le_of_ble_eq_true rfl, Nat.le_of_ble_eq_true rfl⟩) (mpVR hK hPc (ci := 1) (q := (RX1, TX1, 8)) (q0 := 0) rfl rfl) rfl rfl hl.1 rfl (lv_room (Nat.le_of_ble_eq_true rfl)) dX1_takeAmount_56 ⟨Nat.zero_le _, Nat.zero_le _⟩) (fun r2 h => ?_)
        refine lv_istore_n (lv' := [(2, .int r2), (0, .ref A_t), (1, .int x1)]) hx hb dX1_takeAmount_59 rfl hl (by decide) rfl (fun ls hl => ?_)
        refine lv_aload_n hx hb dX1_takeAmount_60 rfl (lv_at hl 1 rfl) ?_
        have hPn : va_P D vwCl ([] ++ [(A_t, .inr (1, [.ref A_t_tape, .ref A_t_draft, .int t_wrong, .int t_wrongAt, .int t_lines, .int t_kind, .int t_at, .int t_behind])), (A_t_tape, .inr (6, [.ref A_t_tape_bytes, .int t_tape_size])), (A_t_tape_bytes, .inl (cy 0, 320, .inl t_tape_bytes))]) H := hP.sub [0, 1, 2] rfl
        have hDn : va_D A ([] ++ [(A_t, .inr (1, [.ref A_t_tape, .ref A_t_draft, .int t_wrong, .int t_wrongAt, .int t_lines, .int t_kind, .int t_at, .int t_behind])), (A_t_tape, .inr (6, [.ref A_t_tape_bytes, .int t_tape_size])), (A_t_tape_bytes, .inl (cy 0, 320, .inl t_tape_bytes))]) := hD.sub [0, 1, 2] (by decide) rfl
        have hPc := gPR hPn
        have hDc := gDR hDn
        refine mw_v (va_runV (As := []) (rest := []) CF (c_X1_next l D cy H.size A_t A_t_tape A_t_draft A_t_tape_bytes t_wrong t_wrongAt t_lines t_kind t_at t_behind t_tape_size t_tape_bytes _ h) (cwV 0 hts gX1_takeAmount_X1_next rfl rfl rfl qX1_next ⟨Nat.le_of_ble_eq_true rfl, Nat.le_of_ble_eq_true rfl⟩) (mpVW hK hPc hDc (ci := 1) (q := (RX1, TX1, 8)) (q0 := 0) rfl rfl) rfl rfl hl.1 rfl (lv_room (Nat.le_of_ble_eq_true rfl)) dX1_takeAmount_61 ⟨Nat.zero_le _, Nat.zero_le _⟩) hPn hDn hS hA (fun u H locs h hP hD hS => ?_)
        obtain ⟨t_wrong_v3, t_wrongAt_v3, t_kind_v3, t_at_v3, t_behind_v3⟩ := u
        have hP : va_P D vwCl [(A_t, .inr (1, [.ref A_t_tape, .ref A_t_draft, .int t_wrong_v3, .int t_wrongAt_v3, .int t_lines, .int t_kind_v3, .int t_at_v3, .int t_behind_v3])), (A_t_tape, .inr (6, [.ref A_t_tape_bytes, .int t_tape_size])), (A_t_tape_bytes, .inl (cy 0, 320, .inl t_tape_bytes))] H := hP.sub [0, 1, 2] rfl
        have hD : va_D A [(A_t, .inr (1, [.ref A_t_tape, .ref A_t_draft, .int t_wrong_v3, .int t_wrongAt_v3, .int t_lines, .int t_kind_v3, .int t_at_v3, .int t_behind_v3])), (A_t_tape, .inr (6, [.ref A_t_tape_bytes, .int t_tape_size])), (A_t_tape_bytes, .inl (cy 0, 320, .inl t_tape_bytes))] := hD.sub [0, 1, 2] (by decide) rfl
        try dsimp only at h
        refine lv_iload_n hx hb dX1_takeAmount_64 rfl (lv_at hl 2 rfl) ?_
        refine lv_if_eq (tgt := 73) hx hb dX1_takeAmount_65 (by decide) (fun hc => ?_) (fun hc => ?_)
        · replace h := h.1 hc
          refine lv_iload_n hx hb dX1_takeAmount_73 rfl (lv_at hl 0 rfl) ?_
          subst hQ
          subst hAe
          exact W.iret (v := r2) hx hb hr (fun t ht _ => ⟨⟨r2, (t_wrong_v3, t_wrongAt_v3, t_kind_v3, t_at_v3, t_behind_v3), rfl, h, by rw [ht]; exact hP, hD⟩, hS.F ht⟩) hS.2.2 dX1_takeAmount_74
        · replace h := h.2 hc
          refine lv_iload_n hx hb dX1_takeAmount_68 rfl (lv_at hl 0 rfl) ?_
          refine lv_ineg hx hb dX1_takeAmount_69 ?_
          refine lv_goto (tgt := 74) hx hb dX1_takeAmount_70 (by decide) ?_
          subst hQ
          subst hAe
          exact W.iret (v := -r2) hx hb hr (fun t ht _ => ⟨⟨-r2, (t_wrong_v3, t_wrongAt_v3, t_kind_v3, t_at_v3, t_behind_v3), rfl, h, by rw [ht]; exact hP, hD⟩, hS.F ht⟩) hS.2.2 dX1_takeAmount_74
      · replace h := h.2 hc
        exact J44 t_wrong t_wrongAt t_kind t_at t_behind H locs ls h hP hD hS (lv_sub hl [0] rfl)
  have J20 : ∀ (t_wrong : Int32) (t_wrongAt : Int32) (t_kind : Int32) (t_at : Int32) (t_behind : Int32) (k0 : Int32) (H : Heap) (locs : List Loc) (ls : Array Slot), B_X1_takeAmount_20 post t_wrong t_wrongAt t_kind t_at t_behind t_tape_size t_tape_bytes k0 → va_P D vwCl [(A_t, .inr (1, [.ref A_t_tape, .ref A_t_draft, .int t_wrong, .int t_wrongAt, .int t_lines, .int t_kind, .int t_at, .int t_behind])), (A_t_tape, .inr (6, [.ref A_t_tape_bytes, .int t_tape_size])), (A_t_tape_bytes, .inl (cy 0, 320, .inl t_tape_bytes))] H → va_D A [(A_t, .inr (1, [.ref A_t_tape, .ref A_t_draft, .int t_wrong, .int t_wrongAt, .int t_lines, .int t_kind, .int t_at, .int t_behind])), (A_t_tape, .inr (6, [.ref A_t_tape_bytes, .int t_tape_size])), (A_t_tape_bytes, .inl (cy 0, 320, .inl t_tape_bytes))] → va_S A s.heap H locs → lv_has ls 3 [(0, .ref A_t)] → W p l e (headSpec wsX1_takeAmount { frames := 3, cells := 0, slots := 0, locals := 62 }).room s m ([.ref A_t] : List Value).toArray below meth c H locs 0 0 Q0 (F0 m 20 ls [.int k0]) := by
    intro t_wrong t_wrongAt t_kind t_at t_behind k0 H locs ls h hP hD hS hl
    unfold B_X1_takeAmount_20 at h
    refine lv_istore_n (lv' := [(1, .int k0), (0, .ref A_t)]) hx hb dX1_takeAmount_20 rfl hl (by decide) rfl (fun ls hl => ?_)
    refine lv_iload_n hx hb dX1_takeAmount_21 rfl (lv_at hl 0 rfl) ?_
    refine lv_if_eq (tgt := 29) hx hb dX1_takeAmount_22 (by decide) (fun hc => ?_) (fun hc => ?_)
    · replace h := h.1 hc
      exact J29 t_wrong t_wrongAt t_kind t_at t_behind k0 H locs ls h hP hD hS (lv_sub hl [1, 0] rfl)
    · replace h := h.2 hc
      refine lv_aload_n hx hb dX1_takeAmount_25 rfl (lv_at hl 1 rfl) ?_
      have hPn : va_P D vwCl ([] ++ [(A_t, .inr (1, [.ref A_t_tape, .ref A_t_draft, .int t_wrong, .int t_wrongAt, .int t_lines, .int t_kind, .int t_at, .int t_behind])), (A_t_tape, .inr (6, [.ref A_t_tape_bytes, .int t_tape_size])), (A_t_tape_bytes, .inl (cy 0, 320, .inl t_tape_bytes))]) H := hP.sub [0, 1, 2] rfl
      have hDn : va_D A ([] ++ [(A_t, .inr (1, [.ref A_t_tape, .ref A_t_draft, .int t_wrong, .int t_wrongAt, .int t_lines, .int t_kind, .int t_at, .int t_behind])), (A_t_tape, .inr (6, [.ref A_t_tape_bytes, .int t_tape_size])), (A_t_tape_bytes, .inl (cy 0, 320, .inl t_tape_bytes))]) := hD.sub [0, 1, 2] (by decide) rfl
      have hPc := gPR hPn
      have hDc := gDR hDn
      refine mw_v (va_runV (As := []) (rest := []) CF (c_X1_next l D cy H.size A_t A_t_tape A_t_draft A_t_tape_bytes t_wrong t_wrongAt t_lines t_kind t_at t_behind t_tape_size t_tape_bytes _ h) (cwV 0 hts gX1_takeAmount_X1_next rfl rfl rfl qX1_next ⟨Nat.le_of_ble_eq_true rfl, Nat.le_of_ble_eq_true rfl⟩) (mpVW hK hPc hDc (ci := 1) (q := (RX1, TX1, 8)) (q0 := 0) rfl rfl) rfl rfl hl.1 rfl (lv_room (Nat.le_of_ble_eq_true rfl)) dX1_takeAmount_26 ⟨Nat.zero_le _, Nat.zero_le _⟩) hPn hDn hS hA (fun u H locs h hP hD hS => ?_)
      obtain ⟨t_wrong_v4, t_wrongAt_v4, t_kind_v4, t_at_v4, t_behind_v4⟩ := u
      have hP : va_P D vwCl [(A_t, .inr (1, [.ref A_t_tape, .ref A_t_draft, .int t_wrong_v4, .int t_wrongAt_v4, .int t_lines, .int t_kind_v4, .int t_at_v4, .int t_behind_v4])), (A_t_tape, .inr (6, [.ref A_t_tape_bytes, .int t_tape_size])), (A_t_tape_bytes, .inl (cy 0, 320, .inl t_tape_bytes))] H := hP.sub [0, 1, 2] rfl
      have hD : va_D A [(A_t, .inr (1, [.ref A_t_tape, .ref A_t_draft, .int t_wrong_v4, .int t_wrongAt_v4, .int t_lines, .int t_kind_v4, .int t_at_v4, .int t_behind_v4])), (A_t_tape, .inr (6, [.ref A_t_tape_bytes, .int t_tape_size])), (A_t_tape_bytes, .inl (cy 0, 320, .inl t_tape_bytes))] := hD.sub [0, 1, 2] (by decide) rfl
      try dsimp only at h
      exact J29 t_wrong_v4 t_wrongAt_v4 t_kind_v4 t_at_v4 t_behind_v4 k0 H locs ls h hP hD hS (lv_sub hl [1, 0] rfl)
  have J19 : ∀ (t_wrong : Int32) (t_wrongAt : Int32) (t_kind : Int32) (t_at : Int32) (t_behind : Int32) (H : Heap) (locs : List Loc) (ls : Array Slot), B_X1_takeAmount_19 post t_wrong t_wrongAt t_kind t_at t_behind t_tape_size t_tape_bytes → va_P D vwCl [(A_t, .inr (1, [.ref A_t_tape, .ref A_t_draft, .int t_wrong, .int t_wrongAt, .int t_lines, .int t_kind, .int t_at, .int t_behind])), (A_t_tape, .inr (6, [.ref A_t_tape_bytes, .int t_tape_size])), (A_t_tape_bytes, .inl (cy 0, 320, .inl t_tape_bytes))] H → va_D A [(A_t, .inr (1, [.ref A_t_tape, .ref A_t_draft, .int t_wrong, .int t_wrongAt, .int t_lines, .int t_kind, .int t_at, .int t_behind])), (A_t_tape, .inr (6, [.ref A_t_tape_bytes, .int t_tape_size])), (A_t_tape_bytes, .inl (cy 0, 320, .inl t_tape_bytes))] → va_S A s.heap H locs → lv_has ls 3 [(0, .ref A_t)] → W p l e (headSpec wsX1_takeAmount { frames := 3, cells := 0, slots := 0, locals := 62 }).room s m ([.ref A_t] : List Value).toArray below meth c H locs 0 0 Q0 (F0 m 19 ls []) := by
    intro t_wrong t_wrongAt t_kind t_at t_behind H locs ls h hP hD hS hl
    unfold B_X1_takeAmount_19 at h
    refine lv_iconst (v := 0) hx hb dX1_takeAmount_19 (by decide) ?_
    exact J20 t_wrong t_wrongAt t_kind t_at t_behind (0 : Int32) H locs ls h hP hD hS (lv_sub hl [0] rfl)
  unfold P_X1_takeAmount at h
  refine lv_aload_n hx hb dX1_takeAmount_0 rfl (lv_at hl 0 rfl) ?_
  refine va_get (D := D) (ci := 1) (v := .int t_wrong) (C := RX1) (T := TX1) (N := 8) hx hb hts iX1 hown hK.1 hP 0 rfl rfl 2 (by decide) f0 (fun _ h9 => h9) rfl dX1_takeAmount_1 ?_
  refine lv_if_ne (tgt := 19) hx hb dX1_takeAmount_4 (by decide) (fun hc => ?_) (fun hc => ?_)
  · replace h := h.1 hc
    exact J19 t_wrong t_wrongAt t_kind t_at t_behind s.heap [] ls h hP hD hS (lv_sub hl [0] rfl)
  · replace h := h.2 hc
    refine lv_aload_n hx hb dX1_takeAmount_7 rfl (lv_at hl 0 rfl) ?_
    refine va_get (D := D) (ci := 1) (v := .int t_kind) (C := RX1) (T := TX1) (N := 8) hx hb hts iX1 hown hK.1 hP 0 rfl rfl 5 (by decide) f2 (fun _ h9 => h9) rfl dX1_takeAmount_8 ?_
    refine lv_iconst (v := 3) hx hb dX1_takeAmount_11 (by decide) ?_
    refine lv_icmp_ne (tgt := 19) hx hb dX1_takeAmount_12 (by decide) (fun hc => ?_) (fun hc => ?_)
    · replace h := h.1 hc
      exact J19 t_wrong t_wrongAt t_kind t_at t_behind s.heap [] ls h hP hD hS (lv_sub hl [0] rfl)
    · replace h := h.2 hc
      refine lv_iconst (v := 1) hx hb dX1_takeAmount_15 (by decide) ?_
      refine lv_goto (tgt := 20) hx hb dX1_takeAmount_16 (by decide) ?_
      exact J20 t_wrong t_wrongAt t_kind t_at t_behind (1 : Int32) s.heap [] ls h hP hD hS (lv_sub hl [0] rfl)
theorem qX1_putBounds : yX1_putBounds.cls = RX1 ∧ yX1_putBounds.cls ≠ "java/lang/invoke/MethodHandle" ∧ yX1_putBounds.cls ≠ "java/lang/invoke/VarHandle" ∧ (parseMethodDescriptor yX1_putBounds.desc).map (fun d => d.parameters.length) = some 4 := by decide +kernel
def B_X1_putBounds_51 (post : Int32 → (Nat → Int32) → (Nat → Int32) → (Nat → Int32) → (Nat → Int32) → Prop) (t_draft_size : Int32) (t_draft_upper : Nat → Int32) (t_draft_lower : Nat → Int32) (t_draft_limits : Nat → Int32) (t_draft_stricts : Nat → Int32) (x1 : Int32) (x2 : Int32) (x3 : Int32) (x4 : Int32) : Prop :=
  ((¬ x1 = (4 : Int32) → P_X5_append (fun (t_draft_size_v2 : Int32) (t_draft_upper_v2 : Nat → Int32) (t_draft_lower_v2 : Nat → Int32) (t_draft_limits_v2 : Nat → Int32) (t_draft_stricts_v2 : Nat → Int32) => post t_draft_size_v2 t_draft_upper_v2 t_draft_lower_v2 t_draft_limits_v2 t_draft_stricts_v2) t_draft_size t_draft_upper t_draft_lower t_draft_limits t_draft_stricts x3 x2 (-x4) (0 : Int32)) ∧ (x1 = (4 : Int32) → P_X5_append (fun (t_draft_size_v3 : Int32) (t_draft_upper_v3 : Nat → Int32) (t_draft_lower_v3 : Nat → Int32) (t_draft_limits_v3 : Nat → Int32) (t_draft_stricts_v3 : Nat → Int32) => post t_draft_size_v3 t_draft_upper_v3 t_draft_lower_v3 t_draft_limits_v3 t_draft_stricts_v3) t_draft_size t_draft_upper t_draft_lower t_draft_limits t_draft_stricts x3 x2 (-x4) (1 : Int32)))
def B_X1_putBounds_36 (post : Int32 → (Nat → Int32) → (Nat → Int32) → (Nat → Int32) → (Nat → Int32) → Prop) (t_draft_size : Int32) (t_draft_upper : Nat → Int32) (t_draft_lower : Nat → Int32) (t_draft_limits : Nat → Int32) (t_draft_stricts : Nat → Int32) (x1 : Int32) (x2 : Int32) (x3 : Int32) (x4 : Int32) : Prop :=
  ((x1 = (3 : Int32) → B_X1_putBounds_51 post t_draft_size t_draft_upper t_draft_lower t_draft_limits t_draft_stricts x1 x2 x3 x4) ∧ (¬ x1 = (3 : Int32) → ((x1 = (4 : Int32) → B_X1_putBounds_51 post t_draft_size t_draft_upper t_draft_lower t_draft_limits t_draft_stricts x1 x2 x3 x4) ∧ (¬ x1 = (4 : Int32) → ((¬ x1 = (5 : Int32) → post t_draft_size t_draft_upper t_draft_lower t_draft_limits t_draft_stricts) ∧ (x1 = (5 : Int32) → B_X1_putBounds_51 post t_draft_size t_draft_upper t_draft_lower t_draft_limits t_draft_stricts x1 x2 x3 x4))))))
def B_X1_putBounds_33 (post : Int32 → (Nat → Int32) → (Nat → Int32) → (Nat → Int32) → (Nat → Int32) → Prop) (t_draft_size : Int32) (t_draft_upper : Nat → Int32) (t_draft_lower : Nat → Int32) (t_draft_limits : Nat → Int32) (t_draft_stricts : Nat → Int32) (k1 : Int32) (k2 : Int32) (k3 : Int32) (k4 : Int32) (x1 : Int32) (x2 : Int32) (x3 : Int32) (x4 : Int32) : Prop :=
  P_X5_append (fun (t_draft_size_v1 : Int32) (t_draft_upper_v1 : Nat → Int32) (t_draft_lower_v1 : Nat → Int32) (t_draft_limits_v1 : Nat → Int32) (t_draft_stricts_v1 : Nat → Int32) => B_X1_putBounds_36 post t_draft_size_v1 t_draft_upper_v1 t_draft_lower_v1 t_draft_limits_v1 t_draft_stricts_v1 x1 x2 x3 x4) t_draft_size t_draft_upper t_draft_lower t_draft_limits t_draft_stricts k1 k2 k3 k4
def B_X1_putBounds_15 (post : Int32 → (Nat → Int32) → (Nat → Int32) → (Nat → Int32) → (Nat → Int32) → Prop) (t_draft_size : Int32) (t_draft_upper : Nat → Int32) (t_draft_lower : Nat → Int32) (t_draft_limits : Nat → Int32) (t_draft_stricts : Nat → Int32) (x1 : Int32) (x2 : Int32) (x3 : Int32) (x4 : Int32) : Prop :=
  ((¬ x1 = (2 : Int32) → B_X1_putBounds_33 post t_draft_size t_draft_upper t_draft_lower t_draft_limits t_draft_stricts x2 x3 x4 (0 : Int32) x1 x2 x3 x4) ∧ (x1 = (2 : Int32) → B_X1_putBounds_33 post t_draft_size t_draft_upper t_draft_lower t_draft_limits t_draft_stricts x2 x3 x4 (1 : Int32) x1 x2 x3 x4))
def P_X1_putBounds (post : Int32 → (Nat → Int32) → (Nat → Int32) → (Nat → Int32) → (Nat → Int32) → Prop) (t_draft_size : Int32) (t_draft_upper : Nat → Int32) (t_draft_lower : Nat → Int32) (t_draft_limits : Nat → Int32) (t_draft_stricts : Nat → Int32) (x1 : Int32) (x2 : Int32) (x3 : Int32) (x4 : Int32) : Prop :=
  ((x1 = (1 : Int32) → B_X1_putBounds_15 post t_draft_size t_draft_upper t_draft_lower t_draft_limits t_draft_stricts x1 x2 x3 x4) ∧ (¬ x1 = (1 : Int32) → ((x1 = (2 : Int32) → B_X1_putBounds_15 post t_draft_size t_draft_upper t_draft_lower t_draft_limits t_draft_stricts x1 x2 x3 x4) ∧ (¬ x1 = (2 : Int32) → ((¬ x1 = (5 : Int32) → B_X1_putBounds_36 post t_draft_size t_draft_upper t_draft_lower t_draft_limits t_draft_stricts x1 x2 x3 x4) ∧ (x1 = (5 : Int32) → B_X1_putBounds_15 post t_draft_size t_draft_upper t_draft_lower t_draft_limits t_draft_stricts x1 x2 x3 x4))))))
set_option maxHeartbeats 4000000 in
set_option maxRecDepth 100000 in
theorem c_X1_putBounds (l : Launch) (D : va_G) (cy : Nat → ClassId) (sz : Nat) (A_t A_t_tape A_t_draft A_t_draft_upper A_t_draft_lower A_t_draft_limits A_t_draft_stricts A_t_draft_marks : Nat) (t_wrong : Int32) (t_wrongAt : Int32) (t_lines : Int32) (t_kind : Int32) (t_at : Int32) (t_behind : Int32) (t_draft_size : Int32) (t_draft_marked : Int32) (t_draft_wholeness : Int32) (t_draft_upper : Nat → Int32) (t_draft_lower : Nat → Int32) (t_draft_limits : Nat → Int32) (t_draft_stricts : Nat → Int32) (x1 : Int32) (x2 : Int32) (x3 : Int32) (x4 : Int32) (post : Int32 → (Nat → Int32) → (Nat → Int32) → (Nat → Int32) → (Nat → Int32) → Prop) (h : P_X1_putBounds post t_draft_size t_draft_upper t_draft_lower t_draft_limits t_draft_stricts x1 x2 x3 x4) : Met l yX1_putBounds wsX1_putBounds { frames := 1, cells := 0, slots := 0, locals := 24 } (pcW D cy [(A_t, .inr (1, [.ref A_t_tape, .ref A_t_draft, .int t_wrong, .int t_wrongAt, .int t_lines, .int t_kind, .int t_at, .int t_behind])), (A_t_draft, .inr (5, [.ref A_t_draft_upper, .ref A_t_draft_lower, .ref A_t_draft_limits, .ref A_t_draft_stricts, .ref A_t_draft_marks, .int t_draft_size, .int t_draft_marked, .int t_draft_wholeness])), (A_t_draft_upper, .inl (cy 1, 24, .inl t_draft_upper)), (A_t_draft_lower, .inl (cy 1, 24, .inl t_draft_lower)), (A_t_draft_limits, .inl (cy 1, 24, .inl t_draft_limits)), (A_t_draft_stricts, .inl (cy 1, 24, .inl t_draft_stricts))] sz [.ref A_t, .int x1, .int x2, .int x3, .int x4]) (va_Qv (fun (u : Int32 × (Nat → Int32) × (Nat → Int32) × (Nat → Int32) × (Nat → Int32)) => post u.1 u.2.1 u.2.2.1 u.2.2.2.1 u.2.2.2.2) (bW D [(A_t, .inr (1, [.ref A_t_tape, .ref A_t_draft, .int t_wrong, .int t_wrongAt, .int t_lines, .int t_kind, .int t_at, .int t_behind])), (A_t_draft, .inr (5, [.ref A_t_draft_upper, .ref A_t_draft_lower, .ref A_t_draft_limits, .ref A_t_draft_stricts, .ref A_t_draft_marks, .int t_draft_size, .int t_draft_marked, .int t_draft_wholeness])), (A_t_draft_upper, .inl (cy 1, 24, .inl t_draft_upper)), (A_t_draft_lower, .inl (cy 1, 24, .inl t_draft_lower)), (A_t_draft_limits, .inl (cy 1, 24, .inl t_draft_limits)), (A_t_draft_stricts, .inl (cy 1, 24, .inl t_draft_stricts))] sz (fun u => [(A_t, .inr (1, [.ref A_t_tape, .ref A_t_draft, .int t_wrong, .int t_wrongAt, .int t_lines, .int t_kind, .int t_at, .int t_behind])), (A_t_draft, .inr (5, [.ref A_t_draft_upper, .ref A_t_draft_lower, .ref A_t_draft_limits, .ref A_t_draft_stricts, .ref A_t_draft_marks, .int (u.1), .int t_draft_marked, .int t_draft_wholeness])), (A_t_draft_upper, .inl (cy 1, 24, .inl u.2.1)), (A_t_draft_lower, .inl (cy 1, 24, .inl u.2.2.1)), (A_t_draft_limits, .inl (cy 1, 24, .inl u.2.2.2.1)), (A_t_draft_stricts, .inl (cy 1, 24, .inl u.2.2.2.2))])) (va_A [(A_t, .inr (1, [.ref A_t_tape, .ref A_t_draft, .int t_wrong, .int t_wrongAt, .int t_lines, .int t_kind, .int t_at, .int t_behind])), (A_t_draft, .inr (5, [.ref A_t_draft_upper, .ref A_t_draft_lower, .ref A_t_draft_limits, .ref A_t_draft_stricts, .ref A_t_draft_marks, .int t_draft_size, .int t_draft_marked, .int t_draft_wholeness])), (A_t_draft_upper, .inl (cy 1, 24, .inl t_draft_upper)), (A_t_draft_lower, .inl (cy 1, 24, .inl t_draft_lower)), (A_t_draft_limits, .inl (cy 1, 24, .inl t_draft_limits)), (A_t_draft_stricts, .inl (cy 1, 24, .inl t_draft_stricts))] sz)) 0 0 (va_A [(A_t, .inr (1, [.ref A_t_tape, .ref A_t_draft, .int t_wrong, .int t_wrongAt, .int t_lines, .int t_kind, .int t_at, .int t_behind])), (A_t_draft, .inr (5, [.ref A_t_draft_upper, .ref A_t_draft_lower, .ref A_t_draft_limits, .ref A_t_draft_stricts, .ref A_t_draft_marks, .int t_draft_size, .int t_draft_marked, .int t_draft_wholeness])), (A_t_draft_upper, .inl (cy 1, 24, .inl t_draft_upper)), (A_t_draft_lower, .inl (cy 1, 24, .inl t_draft_lower)), (A_t_draft_limits, .inl (cy 1, 24, .inl t_draft_limits)), (A_t_draft_stricts, .inl (cy 1, 24, .inl t_draft_stricts))] sz) := by
  refine Met.ofW (cc := cX1_putBounds) (maxL := 5) (ret := none) (by decide) rfl ?_
  intro p e s m args below meth c s₁ B hml hv
  obtain ⟨rfl, hsz, hP, hK, hD0⟩ := hv
  have hx := B.exec
  have hb := B.bytes
  have hr := B.returns
  have hts := atoms_spec (ws := wsX1_putBounds) B.pre
  have hown : s.vm.findClass RX1 = some m.cls := findClass_of_methodNamed B.named
  have hlocks := B.notSynchronized
  have CF : CallFix p m c cX1_putBounds 5 s ([.ref A_t, .int x1, .int x2, .int x3, .int x4] : List Value).toArray wsX1_putBounds RX1 := ⟨hx, hb, hml, hown, hts⟩
  have f0 := hts (.fieldLink RX1 21 "GapBounds$Reader" "draft" "LGapBounds$Store;") (by decide +kernel)
  have iX1 : ∀ w ∈ u_ws RX1 TX1 8, w ∈ wsX1_putBounds := by decide +kernel
  subst hsz
  obtain ⟨A, hAe⟩ : ∃ A, A = va_A [(A_t, .inr (1, [.ref A_t_tape, .ref A_t_draft, .int t_wrong, .int t_wrongAt, .int t_lines, .int t_kind, .int t_at, .int t_behind])), (A_t_draft, .inr (5, [.ref A_t_draft_upper, .ref A_t_draft_lower, .ref A_t_draft_limits, .ref A_t_draft_stricts, .ref A_t_draft_marks, .int t_draft_size, .int t_draft_marked, .int t_draft_wholeness])), (A_t_draft_upper, .inl (cy 1, 24, .inl t_draft_upper)), (A_t_draft_lower, .inl (cy 1, 24, .inl t_draft_lower)), (A_t_draft_limits, .inl (cy 1, 24, .inl t_draft_limits)), (A_t_draft_stricts, .inl (cy 1, 24, .inl t_draft_stricts))] s.heap.size := ⟨_, rfl⟩
  have hD : va_D A [(A_t, .inr (1, [.ref A_t_tape, .ref A_t_draft, .int t_wrong, .int t_wrongAt, .int t_lines, .int t_kind, .int t_at, .int t_behind])), (A_t_draft, .inr (5, [.ref A_t_draft_upper, .ref A_t_draft_lower, .ref A_t_draft_limits, .ref A_t_draft_stricts, .ref A_t_draft_marks, .int t_draft_size, .int t_draft_marked, .int t_draft_wholeness])), (A_t_draft_upper, .inl (cy 1, 24, .inl t_draft_upper)), (A_t_draft_lower, .inl (cy 1, 24, .inl t_draft_lower)), (A_t_draft_limits, .inl (cy 1, 24, .inl t_draft_limits)), (A_t_draft_stricts, .inl (cy 1, 24, .inl t_draft_stricts))] := by rw [hAe]; exact hD0.self
  have hA : ∀ q : Nat, s.heap.size ≤ q → A q := fun q hq => by rw [hAe]; exact Or.inr hq
  have hS : va_S A s.heap s.heap [] := va_S.rf
  have hl := lv_entry [.ref A_t, .int x1, .int x2, .int x3, .int x4] (n := 5) (Nat.le_of_ble_eq_true rfl)
  rw [lg_entry_eq]
  generalize (lg_sl [.ref A_t, .int x1, .int x2, .int x3, .int x4] ++ List.replicate (5 - (lg_sl [.ref A_t, .int x1, .int x2, .int x3, .int x4]).length) Slot.unset).toArray = ls at hl ⊢
  have hl : lv_has ls 5 [(0, .ref A_t), (1, .int x1), (2, .int x2), (3, .int x3), (4, .int x4)] := hl
  refine W.gen (fun Q0 hQ => ?_)
  have J51 : ∀ (t_draft_size : Int32) (t_draft_upper : Nat → Int32) (t_draft_lower : Nat → Int32) (t_draft_limits : Nat → Int32) (t_draft_stricts : Nat → Int32) (H : Heap) (locs : List Loc) (ls : Array Slot), B_X1_putBounds_51 post t_draft_size t_draft_upper t_draft_lower t_draft_limits t_draft_stricts x1 x2 x3 x4 → va_P D vwCl [(A_t, .inr (1, [.ref A_t_tape, .ref A_t_draft, .int t_wrong, .int t_wrongAt, .int t_lines, .int t_kind, .int t_at, .int t_behind])), (A_t_draft, .inr (5, [.ref A_t_draft_upper, .ref A_t_draft_lower, .ref A_t_draft_limits, .ref A_t_draft_stricts, .ref A_t_draft_marks, .int t_draft_size, .int t_draft_marked, .int t_draft_wholeness])), (A_t_draft_upper, .inl (cy 1, 24, .inl t_draft_upper)), (A_t_draft_lower, .inl (cy 1, 24, .inl t_draft_lower)), (A_t_draft_limits, .inl (cy 1, 24, .inl t_draft_limits)), (A_t_draft_stricts, .inl (cy 1, 24, .inl t_draft_stricts))] H → va_D A [(A_t, .inr (1, [.ref A_t_tape, .ref A_t_draft, .int t_wrong, .int t_wrongAt, .int t_lines, .int t_kind, .int t_at, .int t_behind])), (A_t_draft, .inr (5, [.ref A_t_draft_upper, .ref A_t_draft_lower, .ref A_t_draft_limits, .ref A_t_draft_stricts, .ref A_t_draft_marks, .int t_draft_size, .int t_draft_marked, .int t_draft_wholeness])), (A_t_draft_upper, .inl (cy 1, 24, .inl t_draft_upper)), (A_t_draft_lower, .inl (cy 1, 24, .inl t_draft_lower)), (A_t_draft_limits, .inl (cy 1, 24, .inl t_draft_limits)), (A_t_draft_stricts, .inl (cy 1, 24, .inl t_draft_stricts))] → va_S A s.heap H locs → lv_has ls 5 [(0, .ref A_t), (1, .int x1), (2, .int x2), (3, .int x3), (4, .int x4)] → W p l e (headSpec wsX1_putBounds { frames := 1, cells := 0, slots := 0, locals := 24 }).room s m ([.ref A_t, .int x1, .int x2, .int x3, .int x4] : List Value).toArray below meth c H locs 0 0 Q0 (F0 m 51 ls []) := by
    intro t_draft_size t_draft_upper t_draft_lower t_draft_limits t_draft_stricts H locs ls h hP hD hS hl
    unfold B_X1_putBounds_51 at h
    refine lv_aload_n hx hb dX1_putBounds_51 rfl (lv_at hl 0 rfl) ?_
    refine va_get (D := D) (ci := 1) (v := .ref A_t_draft) (C := RX1) (T := TX1) (N := 8) hx hb hts iX1 hown hK.1 hP 0 rfl rfl 1 (by decide) f0 (fun _ h9 => h9) rfl dX1_putBounds_52 ?_
    refine lv_iload_n hx hb dX1_putBounds_55 rfl (lv_at hl 3 rfl) ?_
    refine lv_iload_n hx hb dX1_putBounds_56 rfl (lv_at hl 2 rfl) ?_
    refine lv_iload hx hb dX1_putBounds_57 (lv_at hl 4 rfl) ?_
    refine lv_ineg hx hb dX1_putBounds_59 ?_
    refine lv_iload_n hx hb dX1_putBounds_60 rfl (lv_at hl 1 rfl) ?_
    refine lv_iconst (v := 4) hx hb dX1_putBounds_61 (by decide) ?_
    refine lv_icmp_ne (tgt := 69) hx hb dX1_putBounds_62 (by decide) (fun hc => ?_) (fun hc => ?_)
    · replace h := h.1 hc
      refine lv_iconst (v := 0) hx hb dX1_putBounds_69 (by decide) ?_
      have hPn : va_P D vwCl ([(A_t, .inr (1, [.ref A_t_tape, .ref A_t_draft, .int t_wrong, .int t_wrongAt, .int t_lines, .int t_kind, .int t_at, .int t_behind]))] ++ [(A_t_draft, .inr (5, [.ref A_t_draft_upper, .ref A_t_draft_lower, .ref A_t_draft_limits, .ref A_t_draft_stricts, .ref A_t_draft_marks, .int t_draft_size, .int t_draft_marked, .int t_draft_wholeness])), (A_t_draft_upper, .inl (cy 1, 24, .inl t_draft_upper)), (A_t_draft_lower, .inl (cy 1, 24, .inl t_draft_lower)), (A_t_draft_limits, .inl (cy 1, 24, .inl t_draft_limits)), (A_t_draft_stricts, .inl (cy 1, 24, .inl t_draft_stricts))]) H := hP.sub [0, 1, 2, 3, 4, 5] rfl
      have hDn : va_D A ([(A_t, .inr (1, [.ref A_t_tape, .ref A_t_draft, .int t_wrong, .int t_wrongAt, .int t_lines, .int t_kind, .int t_at, .int t_behind]))] ++ [(A_t_draft, .inr (5, [.ref A_t_draft_upper, .ref A_t_draft_lower, .ref A_t_draft_limits, .ref A_t_draft_stricts, .ref A_t_draft_marks, .int t_draft_size, .int t_draft_marked, .int t_draft_wholeness])), (A_t_draft_upper, .inl (cy 1, 24, .inl t_draft_upper)), (A_t_draft_lower, .inl (cy 1, 24, .inl t_draft_lower)), (A_t_draft_limits, .inl (cy 1, 24, .inl t_draft_limits)), (A_t_draft_stricts, .inl (cy 1, 24, .inl t_draft_stricts))]) := hD.sub [0, 1, 2, 3, 4, 5] (by decide) rfl
      have hPc := gPR hPn
      have hDc := gDR hDn
      refine mw_v (va_runV (As := [.int x3, .int x2, .int (-x4), .int (0 : Int32)]) (rest := []) CF (c_X5_append l D cy H.size A_t_draft A_t_draft_upper A_t_draft_lower A_t_draft_limits A_t_draft_stricts A_t_draft_marks t_draft_size t_draft_marked t_draft_wholeness t_draft_upper t_draft_lower t_draft_limits t_draft_stricts x3 x2 (-x4) (0 : Int32) _ h) (cwV 4 hts gX1_putBounds_X5_append rfl rfl rfl qX5_append ⟨Nat.le_of_ble_eq_true rfl, Nat.le_of_ble_eq_true rfl⟩) (mpVW hK hPc hDc (ci := 5) (q := (RX5, TX5, 8)) (q0 := 0) rfl rfl) rfl rfl hl.1 rfl (lv_room (Nat.le_of_ble_eq_true rfl)) dX1_putBounds_70 ⟨Nat.zero_le _, Nat.zero_le _⟩) hPn hDn hS hA (fun u H locs h hP hD hS => ?_)
      obtain ⟨t_draft_size_v2, t_draft_upper_v2, t_draft_lower_v2, t_draft_limits_v2, t_draft_stricts_v2⟩ := u
      have hP : va_P D vwCl [(A_t, .inr (1, [.ref A_t_tape, .ref A_t_draft, .int t_wrong, .int t_wrongAt, .int t_lines, .int t_kind, .int t_at, .int t_behind])), (A_t_draft, .inr (5, [.ref A_t_draft_upper, .ref A_t_draft_lower, .ref A_t_draft_limits, .ref A_t_draft_stricts, .ref A_t_draft_marks, .int t_draft_size_v2, .int t_draft_marked, .int t_draft_wholeness])), (A_t_draft_upper, .inl (cy 1, 24, .inl t_draft_upper_v2)), (A_t_draft_lower, .inl (cy 1, 24, .inl t_draft_lower_v2)), (A_t_draft_limits, .inl (cy 1, 24, .inl t_draft_limits_v2)), (A_t_draft_stricts, .inl (cy 1, 24, .inl t_draft_stricts_v2))] H := hP.sub [0, 1, 2, 3, 4, 5] rfl
      have hD : va_D A [(A_t, .inr (1, [.ref A_t_tape, .ref A_t_draft, .int t_wrong, .int t_wrongAt, .int t_lines, .int t_kind, .int t_at, .int t_behind])), (A_t_draft, .inr (5, [.ref A_t_draft_upper, .ref A_t_draft_lower, .ref A_t_draft_limits, .ref A_t_draft_stricts, .ref A_t_draft_marks, .int t_draft_size_v2, .int t_draft_marked, .int t_draft_wholeness])), (A_t_draft_upper, .inl (cy 1, 24, .inl t_draft_upper_v2)), (A_t_draft_lower, .inl (cy 1, 24, .inl t_draft_lower_v2)), (A_t_draft_limits, .inl (cy 1, 24, .inl t_draft_limits_v2)), (A_t_draft_stricts, .inl (cy 1, 24, .inl t_draft_stricts_v2))] := hD.sub [0, 1, 2, 3, 4, 5] (by decide) rfl
      try dsimp only at h
      subst hQ
      subst hAe
      exact W.vret hx hb hr (fun t ht _ => ⟨⟨(t_draft_size_v2, t_draft_upper_v2, t_draft_lower_v2, t_draft_limits_v2, t_draft_stricts_v2), rfl, h, by rw [ht]; exact hP, hD⟩, hS.F ht⟩) hS.2.2 dX1_putBounds_73
    · replace h := h.2 hc
      refine lv_iconst (v := 1) hx hb dX1_putBounds_65 (by decide) ?_
      refine lv_goto (tgt := 70) hx hb dX1_putBounds_66 (by decide) ?_
      have hPn : va_P D vwCl ([(A_t, .inr (1, [.ref A_t_tape, .ref A_t_draft, .int t_wrong, .int t_wrongAt, .int t_lines, .int t_kind, .int t_at, .int t_behind]))] ++ [(A_t_draft, .inr (5, [.ref A_t_draft_upper, .ref A_t_draft_lower, .ref A_t_draft_limits, .ref A_t_draft_stricts, .ref A_t_draft_marks, .int t_draft_size, .int t_draft_marked, .int t_draft_wholeness])), (A_t_draft_upper, .inl (cy 1, 24, .inl t_draft_upper)), (A_t_draft_lower, .inl (cy 1, 24, .inl t_draft_lower)), (A_t_draft_limits, .inl (cy 1, 24, .inl t_draft_limits)), (A_t_draft_stricts, .inl (cy 1, 24, .inl t_draft_stricts))]) H := hP.sub [0, 1, 2, 3, 4, 5] rfl
      have hDn : va_D A ([(A_t, .inr (1, [.ref A_t_tape, .ref A_t_draft, .int t_wrong, .int t_wrongAt, .int t_lines, .int t_kind, .int t_at, .int t_behind]))] ++ [(A_t_draft, .inr (5, [.ref A_t_draft_upper, .ref A_t_draft_lower, .ref A_t_draft_limits, .ref A_t_draft_stricts, .ref A_t_draft_marks, .int t_draft_size, .int t_draft_marked, .int t_draft_wholeness])), (A_t_draft_upper, .inl (cy 1, 24, .inl t_draft_upper)), (A_t_draft_lower, .inl (cy 1, 24, .inl t_draft_lower)), (A_t_draft_limits, .inl (cy 1, 24, .inl t_draft_limits)), (A_t_draft_stricts, .inl (cy 1, 24, .inl t_draft_stricts))]) := hD.sub [0, 1, 2, 3, 4, 5] (by decide) rfl
      have hPc := gPR hPn
      have hDc := gDR hDn
      refine mw_v (va_runV (As := [.int x3, .int x2, .int (-x4), .int (1 : Int32)]) (rest := []) CF (c_X5_append l D cy H.size A_t_draft A_t_draft_upper A_t_draft_lower A_t_draft_limits A_t_draft_stricts A_t_draft_marks t_draft_size t_draft_marked t_draft_wholeness t_draft_upper t_draft_lower t_draft_limits t_draft_stricts x3 x2 (-x4) (1 : Int32) _ h) (cwV 4 hts gX1_putBounds_X5_append rfl rfl rfl qX5_append ⟨Nat.le_of_ble_eq_true rfl, Nat.le_of_ble_eq_true rfl⟩) (mpVW hK hPc hDc (ci := 5) (q := (RX5, TX5, 8)) (q0 := 0) rfl rfl) rfl rfl hl.1 rfl (lv_room (Nat.le_of_ble_eq_true rfl)) dX1_putBounds_70 ⟨Nat.zero_le _, Nat.zero_le _⟩) hPn hDn hS hA (fun u H locs h hP hD hS => ?_)
      obtain ⟨t_draft_size_v3, t_draft_upper_v3, t_draft_lower_v3, t_draft_limits_v3, t_draft_stricts_v3⟩ := u
      have hP : va_P D vwCl [(A_t, .inr (1, [.ref A_t_tape, .ref A_t_draft, .int t_wrong, .int t_wrongAt, .int t_lines, .int t_kind, .int t_at, .int t_behind])), (A_t_draft, .inr (5, [.ref A_t_draft_upper, .ref A_t_draft_lower, .ref A_t_draft_limits, .ref A_t_draft_stricts, .ref A_t_draft_marks, .int t_draft_size_v3, .int t_draft_marked, .int t_draft_wholeness])), (A_t_draft_upper, .inl (cy 1, 24, .inl t_draft_upper_v3)), (A_t_draft_lower, .inl (cy 1, 24, .inl t_draft_lower_v3)), (A_t_draft_limits, .inl (cy 1, 24, .inl t_draft_limits_v3)), (A_t_draft_stricts, .inl (cy 1, 24, .inl t_draft_stricts_v3))] H := hP.sub [0, 1, 2, 3, 4, 5] rfl
      have hD : va_D A [(A_t, .inr (1, [.ref A_t_tape, .ref A_t_draft, .int t_wrong, .int t_wrongAt, .int t_lines, .int t_kind, .int t_at, .int t_behind])), (A_t_draft, .inr (5, [.ref A_t_draft_upper, .ref A_t_draft_lower, .ref A_t_draft_limits, .ref A_t_draft_stricts, .ref A_t_draft_marks, .int t_draft_size_v3, .int t_draft_marked, .int t_draft_wholeness])), (A_t_draft_upper, .inl (cy 1, 24, .inl t_draft_upper_v3)), (A_t_draft_lower, .inl (cy 1, 24, .inl t_draft_lower_v3)), (A_t_draft_limits, .inl (cy 1, 24, .inl t_draft_limits_v3)), (A_t_draft_stricts, .inl (cy 1, 24, .inl t_draft_stricts_v3))] := hD.sub [0, 1, 2, 3, 4, 5] (by decide) rfl
      try dsimp only at h
      subst hQ
      subst hAe
      exact W.vret hx hb hr (fun t ht _ => ⟨⟨(t_draft_size_v3, t_draft_upper_v3, t_draft_lower_v3, t_draft_limits_v3, t_draft_stricts_v3), rfl, h, by rw [ht]; exact hP, hD⟩, hS.F ht⟩) hS.2.2 dX1_putBounds_73
  have J36 : ∀ (t_draft_size : Int32) (t_draft_upper : Nat → Int32) (t_draft_lower : Nat → Int32) (t_draft_limits : Nat → Int32) (t_draft_stricts : Nat → Int32) (H : Heap) (locs : List Loc) (ls : Array Slot), B_X1_putBounds_36 post t_draft_size t_draft_upper t_draft_lower t_draft_limits t_draft_stricts x1 x2 x3 x4 → va_P D vwCl [(A_t, .inr (1, [.ref A_t_tape, .ref A_t_draft, .int t_wrong, .int t_wrongAt, .int t_lines, .int t_kind, .int t_at, .int t_behind])), (A_t_draft, .inr (5, [.ref A_t_draft_upper, .ref A_t_draft_lower, .ref A_t_draft_limits, .ref A_t_draft_stricts, .ref A_t_draft_marks, .int t_draft_size, .int t_draft_marked, .int t_draft_wholeness])), (A_t_draft_upper, .inl (cy 1, 24, .inl t_draft_upper)), (A_t_draft_lower, .inl (cy 1, 24, .inl t_draft_lower)), (A_t_draft_limits, .inl (cy 1, 24, .inl t_draft_limits)), (A_t_draft_stricts, .inl (cy 1, 24, .inl t_draft_stricts))] H → va_D A [(A_t, .inr (1, [.ref A_t_tape, .ref A_t_draft, .int t_wrong, .int t_wrongAt, .int t_lines, .int t_kind, .int t_at, .int t_behind])), (A_t_draft, .inr (5, [.ref A_t_draft_upper, .ref A_t_draft_lower, .ref A_t_draft_limits, .ref A_t_draft_stricts, .ref A_t_draft_marks, .int t_draft_size, .int t_draft_marked, .int t_draft_wholeness])), (A_t_draft_upper, .inl (cy 1, 24, .inl t_draft_upper)), (A_t_draft_lower, .inl (cy 1, 24, .inl t_draft_lower)), (A_t_draft_limits, .inl (cy 1, 24, .inl t_draft_limits)), (A_t_draft_stricts, .inl (cy 1, 24, .inl t_draft_stricts))] → va_S A s.heap H locs → lv_has ls 5 [(0, .ref A_t), (1, .int x1), (2, .int x2), (3, .int x3), (4, .int x4)] → W p l e (headSpec wsX1_putBounds { frames := 1, cells := 0, slots := 0, locals := 24 }).room s m ([.ref A_t, .int x1, .int x2, .int x3, .int x4] : List Value).toArray below meth c H locs 0 0 Q0 (F0 m 36 ls []) := by
    intro t_draft_size t_draft_upper t_draft_lower t_draft_limits t_draft_stricts H locs ls h hP hD hS hl
    unfold B_X1_putBounds_36 at h
    refine lv_iload_n hx hb dX1_putBounds_36 rfl (lv_at hl 1 rfl) ?_
    refine lv_iconst (v := 3) hx hb dX1_putBounds_37 (by decide) ?_
    refine lv_icmp_eq (tgt := 51) hx hb dX1_putBounds_38 (by decide) (fun hc => ?_) (fun hc => ?_)
    · replace h := h.1 hc
      exact J51 t_draft_size t_draft_upper t_draft_lower t_draft_limits t_draft_stricts H locs ls h hP hD hS (lv_sub hl [0, 1, 2, 3, 4] rfl)
    · replace h := h.2 hc
      refine lv_iload_n hx hb dX1_putBounds_41 rfl (lv_at hl 1 rfl) ?_
      refine lv_iconst (v := 4) hx hb dX1_putBounds_42 (by decide) ?_
      refine lv_icmp_eq (tgt := 51) hx hb dX1_putBounds_43 (by decide) (fun hc => ?_) (fun hc => ?_)
      · replace h := h.1 hc
        exact J51 t_draft_size t_draft_upper t_draft_lower t_draft_limits t_draft_stricts H locs ls h hP hD hS (lv_sub hl [0, 1, 2, 3, 4] rfl)
      · replace h := h.2 hc
        refine lv_iload_n hx hb dX1_putBounds_46 rfl (lv_at hl 1 rfl) ?_
        refine lv_iconst (v := 5) hx hb dX1_putBounds_47 (by decide) ?_
        refine lv_icmp_ne (tgt := 73) hx hb dX1_putBounds_48 (by decide) (fun hc => ?_) (fun hc => ?_)
        · replace h := h.1 hc
          subst hQ
          subst hAe
          exact W.vret hx hb hr (fun t ht _ => ⟨⟨(t_draft_size, t_draft_upper, t_draft_lower, t_draft_limits, t_draft_stricts), rfl, h, by rw [ht]; exact hP, hD⟩, hS.F ht⟩) hS.2.2 dX1_putBounds_73
        · replace h := h.2 hc
          exact J51 t_draft_size t_draft_upper t_draft_lower t_draft_limits t_draft_stricts H locs ls h hP hD hS (lv_sub hl [0, 1, 2, 3, 4] rfl)
  have J33 : ∀ (t_draft_size : Int32) (t_draft_upper : Nat → Int32) (t_draft_lower : Nat → Int32) (t_draft_limits : Nat → Int32) (t_draft_stricts : Nat → Int32) (k1 : Int32) (k2 : Int32) (k3 : Int32) (k4 : Int32) (H : Heap) (locs : List Loc) (ls : Array Slot), B_X1_putBounds_33 post t_draft_size t_draft_upper t_draft_lower t_draft_limits t_draft_stricts k1 k2 k3 k4 x1 x2 x3 x4 → va_P D vwCl [(A_t, .inr (1, [.ref A_t_tape, .ref A_t_draft, .int t_wrong, .int t_wrongAt, .int t_lines, .int t_kind, .int t_at, .int t_behind])), (A_t_draft, .inr (5, [.ref A_t_draft_upper, .ref A_t_draft_lower, .ref A_t_draft_limits, .ref A_t_draft_stricts, .ref A_t_draft_marks, .int t_draft_size, .int t_draft_marked, .int t_draft_wholeness])), (A_t_draft_upper, .inl (cy 1, 24, .inl t_draft_upper)), (A_t_draft_lower, .inl (cy 1, 24, .inl t_draft_lower)), (A_t_draft_limits, .inl (cy 1, 24, .inl t_draft_limits)), (A_t_draft_stricts, .inl (cy 1, 24, .inl t_draft_stricts))] H → va_D A [(A_t, .inr (1, [.ref A_t_tape, .ref A_t_draft, .int t_wrong, .int t_wrongAt, .int t_lines, .int t_kind, .int t_at, .int t_behind])), (A_t_draft, .inr (5, [.ref A_t_draft_upper, .ref A_t_draft_lower, .ref A_t_draft_limits, .ref A_t_draft_stricts, .ref A_t_draft_marks, .int t_draft_size, .int t_draft_marked, .int t_draft_wholeness])), (A_t_draft_upper, .inl (cy 1, 24, .inl t_draft_upper)), (A_t_draft_lower, .inl (cy 1, 24, .inl t_draft_lower)), (A_t_draft_limits, .inl (cy 1, 24, .inl t_draft_limits)), (A_t_draft_stricts, .inl (cy 1, 24, .inl t_draft_stricts))] → va_S A s.heap H locs → lv_has ls 5 [(0, .ref A_t), (1, .int x1), (2, .int x2), (3, .int x3), (4, .int x4)] → W p l e (headSpec wsX1_putBounds { frames := 1, cells := 0, slots := 0, locals := 24 }).room s m ([.ref A_t, .int x1, .int x2, .int x3, .int x4] : List Value).toArray below meth c H locs 0 0 Q0 (F0 m 33 ls [.int k4, .int k3, .int k2, .int k1, .ref A_t_draft]) := by
    intro t_draft_size t_draft_upper t_draft_lower t_draft_limits t_draft_stricts k1 k2 k3 k4 H locs ls h hP hD hS hl
    unfold B_X1_putBounds_33 at h
    have hPn : va_P D vwCl ([(A_t, .inr (1, [.ref A_t_tape, .ref A_t_draft, .int t_wrong, .int t_wrongAt, .int t_lines, .int t_kind, .int t_at, .int t_behind]))] ++ [(A_t_draft, .inr (5, [.ref A_t_draft_upper, .ref A_t_draft_lower, .ref A_t_draft_limits, .ref A_t_draft_stricts, .ref A_t_draft_marks, .int t_draft_size, .int t_draft_marked, .int t_draft_wholeness])), (A_t_draft_upper, .inl (cy 1, 24, .inl t_draft_upper)), (A_t_draft_lower, .inl (cy 1, 24, .inl t_draft_lower)), (A_t_draft_limits, .inl (cy 1, 24, .inl t_draft_limits)), (A_t_draft_stricts, .inl (cy 1, 24, .inl t_draft_stricts))]) H := hP.sub [0, 1, 2, 3, 4, 5] rfl
    have hDn : va_D A ([(A_t, .inr (1, [.ref A_t_tape, .ref A_t_draft, .int t_wrong, .int t_wrongAt, .int t_lines, .int t_kind, .int t_at, .int t_behind]))] ++ [(A_t_draft, .inr (5, [.ref A_t_draft_upper, .ref A_t_draft_lower, .ref A_t_draft_limits, .ref A_t_draft_stricts, .ref A_t_draft_marks, .int t_draft_size, .int t_draft_marked, .int t_draft_wholeness])), (A_t_draft_upper, .inl (cy 1, 24, .inl t_draft_upper)), (A_t_draft_lower, .inl (cy 1, 24, .inl t_draft_lower)), (A_t_draft_limits, .inl (cy 1, 24, .inl t_draft_limits)), (A_t_draft_stricts, .inl (cy 1, 24, .inl t_draft_stricts))]) := hD.sub [0, 1, 2, 3, 4, 5] (by decide) rfl
    have hPc := gPR hPn
    have hDc := gDR hDn
    refine mw_v (va_runV (As := [.int k1, .int k2, .int k3, .int k4]) (rest := []) CF (c_X5_append l D cy H.size A_t_draft A_t_draft_upper A_t_draft_lower A_t_draft_limits A_t_draft_stricts A_t_draft_marks t_draft_size t_draft_marked t_draft_wholeness t_draft_upper t_draft_lower t_draft_limits t_draft_stricts k1 k2 k3 k4 _ h) (cwV 4 hts gX1_putBounds_X5_append rfl rfl rfl qX5_append ⟨Nat.le_of_ble_eq_true rfl, Nat.le_of_ble_eq_true rfl⟩) (mpVW hK hPc hDc (ci := 5) (q := (RX5, TX5, 8)) (q0 := 0) rfl rfl) rfl rfl hl.1 rfl (lv_room (Nat.le_of_ble_eq_true rfl)) dX1_putBounds_33 ⟨Nat.zero_le _, Nat.zero_le _⟩) hPn hDn hS hA (fun u H locs h hP hD hS => ?_)
    obtain ⟨t_draft_size_v1, t_draft_upper_v1, t_draft_lower_v1, t_draft_limits_v1, t_draft_stricts_v1⟩ := u
    have hP : va_P D vwCl [(A_t, .inr (1, [.ref A_t_tape, .ref A_t_draft, .int t_wrong, .int t_wrongAt, .int t_lines, .int t_kind, .int t_at, .int t_behind])), (A_t_draft, .inr (5, [.ref A_t_draft_upper, .ref A_t_draft_lower, .ref A_t_draft_limits, .ref A_t_draft_stricts, .ref A_t_draft_marks, .int t_draft_size_v1, .int t_draft_marked, .int t_draft_wholeness])), (A_t_draft_upper, .inl (cy 1, 24, .inl t_draft_upper_v1)), (A_t_draft_lower, .inl (cy 1, 24, .inl t_draft_lower_v1)), (A_t_draft_limits, .inl (cy 1, 24, .inl t_draft_limits_v1)), (A_t_draft_stricts, .inl (cy 1, 24, .inl t_draft_stricts_v1))] H := hP.sub [0, 1, 2, 3, 4, 5] rfl
    have hD : va_D A [(A_t, .inr (1, [.ref A_t_tape, .ref A_t_draft, .int t_wrong, .int t_wrongAt, .int t_lines, .int t_kind, .int t_at, .int t_behind])), (A_t_draft, .inr (5, [.ref A_t_draft_upper, .ref A_t_draft_lower, .ref A_t_draft_limits, .ref A_t_draft_stricts, .ref A_t_draft_marks, .int t_draft_size_v1, .int t_draft_marked, .int t_draft_wholeness])), (A_t_draft_upper, .inl (cy 1, 24, .inl t_draft_upper_v1)), (A_t_draft_lower, .inl (cy 1, 24, .inl t_draft_lower_v1)), (A_t_draft_limits, .inl (cy 1, 24, .inl t_draft_limits_v1)), (A_t_draft_stricts, .inl (cy 1, 24, .inl t_draft_stricts_v1))] := hD.sub [0, 1, 2, 3, 4, 5] (by decide) rfl
    try dsimp only at h
    exact J36 t_draft_size_v1 t_draft_upper_v1 t_draft_lower_v1 t_draft_limits_v1 t_draft_stricts_v1 H locs ls h hP hD hS (lv_sub hl [0, 1, 2, 3, 4] rfl)
  have J15 : ∀ (t_draft_size : Int32) (t_draft_upper : Nat → Int32) (t_draft_lower : Nat → Int32) (t_draft_limits : Nat → Int32) (t_draft_stricts : Nat → Int32) (H : Heap) (locs : List Loc) (ls : Array Slot), B_X1_putBounds_15 post t_draft_size t_draft_upper t_draft_lower t_draft_limits t_draft_stricts x1 x2 x3 x4 → va_P D vwCl [(A_t, .inr (1, [.ref A_t_tape, .ref A_t_draft, .int t_wrong, .int t_wrongAt, .int t_lines, .int t_kind, .int t_at, .int t_behind])), (A_t_draft, .inr (5, [.ref A_t_draft_upper, .ref A_t_draft_lower, .ref A_t_draft_limits, .ref A_t_draft_stricts, .ref A_t_draft_marks, .int t_draft_size, .int t_draft_marked, .int t_draft_wholeness])), (A_t_draft_upper, .inl (cy 1, 24, .inl t_draft_upper)), (A_t_draft_lower, .inl (cy 1, 24, .inl t_draft_lower)), (A_t_draft_limits, .inl (cy 1, 24, .inl t_draft_limits)), (A_t_draft_stricts, .inl (cy 1, 24, .inl t_draft_stricts))] H → va_D A [(A_t, .inr (1, [.ref A_t_tape, .ref A_t_draft, .int t_wrong, .int t_wrongAt, .int t_lines, .int t_kind, .int t_at, .int t_behind])), (A_t_draft, .inr (5, [.ref A_t_draft_upper, .ref A_t_draft_lower, .ref A_t_draft_limits, .ref A_t_draft_stricts, .ref A_t_draft_marks, .int t_draft_size, .int t_draft_marked, .int t_draft_wholeness])), (A_t_draft_upper, .inl (cy 1, 24, .inl t_draft_upper)), (A_t_draft_lower, .inl (cy 1, 24, .inl t_draft_lower)), (A_t_draft_limits, .inl (cy 1, 24, .inl t_draft_limits)), (A_t_draft_stricts, .inl (cy 1, 24, .inl t_draft_stricts))] → va_S A s.heap H locs → lv_has ls 5 [(0, .ref A_t), (1, .int x1), (2, .int x2), (3, .int x3), (4, .int x4)] → W p l e (headSpec wsX1_putBounds { frames := 1, cells := 0, slots := 0, locals := 24 }).room s m ([.ref A_t, .int x1, .int x2, .int x3, .int x4] : List Value).toArray below meth c H locs 0 0 Q0 (F0 m 15 ls []) := by
    intro t_draft_size t_draft_upper t_draft_lower t_draft_limits t_draft_stricts H locs ls h hP hD hS hl
    unfold B_X1_putBounds_15 at h
    refine lv_aload_n hx hb dX1_putBounds_15 rfl (lv_at hl 0 rfl) ?_
    refine va_get (D := D) (ci := 1) (v := .ref A_t_draft) (C := RX1) (T := TX1) (N := 8) hx hb hts iX1 hown hK.1 hP 0 rfl rfl 1 (by decide) f0 (fun _ h9 => h9) rfl dX1_putBounds_16 ?_
    refine lv_iload_n hx hb dX1_putBounds_19 rfl (lv_at hl 2 rfl) ?_
    refine lv_iload_n hx hb dX1_putBounds_20 rfl (lv_at hl 3 rfl) ?_
    refine lv_iload hx hb dX1_putBounds_21 (lv_at hl 4 rfl) ?_
    refine lv_iload_n hx hb dX1_putBounds_23 rfl (lv_at hl 1 rfl) ?_
    refine lv_iconst (v := 2) hx hb dX1_putBounds_24 (by decide) ?_
    refine lv_icmp_ne (tgt := 32) hx hb dX1_putBounds_25 (by decide) (fun hc => ?_) (fun hc => ?_)
    · replace h := h.1 hc
      refine lv_iconst (v := 0) hx hb dX1_putBounds_32 (by decide) ?_
      exact J33 t_draft_size t_draft_upper t_draft_lower t_draft_limits t_draft_stricts x2 x3 x4 (0 : Int32) H locs ls h hP hD hS (lv_sub hl [0, 1, 2, 3, 4] rfl)
    · replace h := h.2 hc
      refine lv_iconst (v := 1) hx hb dX1_putBounds_28 (by decide) ?_
      refine lv_goto (tgt := 33) hx hb dX1_putBounds_29 (by decide) ?_
      exact J33 t_draft_size t_draft_upper t_draft_lower t_draft_limits t_draft_stricts x2 x3 x4 (1 : Int32) H locs ls h hP hD hS (lv_sub hl [0, 1, 2, 3, 4] rfl)
  unfold P_X1_putBounds at h
  refine lv_iload_n hx hb dX1_putBounds_0 rfl (lv_at hl 1 rfl) ?_
  refine lv_iconst (v := 1) hx hb dX1_putBounds_1 (by decide) ?_
  refine lv_icmp_eq (tgt := 15) hx hb dX1_putBounds_2 (by decide) (fun hc => ?_) (fun hc => ?_)
  · replace h := h.1 hc
    exact J15 t_draft_size t_draft_upper t_draft_lower t_draft_limits t_draft_stricts s.heap [] ls h hP hD hS (lv_sub hl [0, 1, 2, 3, 4] rfl)
  · replace h := h.2 hc
    refine lv_iload_n hx hb dX1_putBounds_5 rfl (lv_at hl 1 rfl) ?_
    refine lv_iconst (v := 2) hx hb dX1_putBounds_6 (by decide) ?_
    refine lv_icmp_eq (tgt := 15) hx hb dX1_putBounds_7 (by decide) (fun hc => ?_) (fun hc => ?_)
    · replace h := h.1 hc
      exact J15 t_draft_size t_draft_upper t_draft_lower t_draft_limits t_draft_stricts s.heap [] ls h hP hD hS (lv_sub hl [0, 1, 2, 3, 4] rfl)
    · replace h := h.2 hc
      refine lv_iload_n hx hb dX1_putBounds_10 rfl (lv_at hl 1 rfl) ?_
      refine lv_iconst (v := 5) hx hb dX1_putBounds_11 (by decide) ?_
      refine lv_icmp_ne (tgt := 36) hx hb dX1_putBounds_12 (by decide) (fun hc => ?_) (fun hc => ?_)
      · replace h := h.1 hc
        exact J36 t_draft_size t_draft_upper t_draft_lower t_draft_limits t_draft_stricts s.heap [] ls h hP hD hS (lv_sub hl [0, 1, 2, 3, 4] rfl)
      · replace h := h.2 hc
        exact J15 t_draft_size t_draft_upper t_draft_lower t_draft_limits t_draft_stricts s.heap [] ls h hP hD hS (lv_sub hl [0, 1, 2, 3, 4] rfl)
theorem qX1_readBound : yX1_readBound.cls = RX1 ∧ yX1_readBound.cls ≠ "java/lang/invoke/MethodHandle" ∧ yX1_readBound.cls ≠ "java/lang/invoke/VarHandle" ∧ (parseMethodDescriptor yX1_readBound.desc).map (fun d => d.parameters.length) = some 1 := by decide +kernel
def B_X1_readBound_10 (post : Int32 → Int32 → Int32 → Int32 → Int32 → Int32 → (Nat → Int32) → (Nat → Int32) → (Nat → Int32) → (Nat → Int32) → Prop) (t_wrong : Int32) (t_wrongAt : Int32) (t_kind : Int32) (t_at : Int32) (t_behind : Int32) (t_draft_size : Int32) (t_tape_size : Int32) (t_tape_bytes : Nat → Int32) (t_draft_upper : Nat → Int32) (t_draft_lower : Nat → Int32) (t_draft_limits : Nat → Int32) (t_draft_stricts : Nat → Int32) (k0 : Int32) (x1 : Int32) : Prop :=
  ((t_draft_size + k0 ≤ (24 : Int32) → P_X1_next (fun (t_wrong_v1 : Int32) (t_wrongAt_v1 : Int32) (t_kind_v1 : Int32) (t_at_v1 : Int32) (t_behind_v1 : Int32) => P_X1_takeThing (fun (r2 : Int32) (t_wrong_v2 : Int32) (t_wrongAt_v2 : Int32) (t_kind_v2 : Int32) (t_at_v2 : Int32) (t_behind_v2 : Int32) => P_X1_takeThing (fun (r3 : Int32) (t_wrong_v3 : Int32) (t_wrongAt_v3 : Int32) (t_kind_v3 : Int32) (t_at_v3 : Int32) (t_behind_v3 : Int32) => P_X1_takeAmount (fun (r4 : Int32) (t_wrong_v4 : Int32) (t_wrongAt_v4 : Int32) (t_kind_v4 : Int32) (t_at_v4 : Int32) (t_behind_v4 : Int32) => ((¬ t_wrong_v4 = 0 → post t_wrong_v4 t_wrongAt_v4 t_kind_v4 t_at_v4 t_behind_v4 t_draft_size t_draft_upper t_draft_lower t_draft_limits t_draft_stricts) ∧ (t_wrong_v4 = 0 → P_X1_putBounds (fun (t_draft_size_v5 : Int32) (t_draft_upper_v5 : Nat → Int32) (t_draft_lower_v5 : Nat → Int32) (t_draft_limits_v5 : Nat → Int32) (t_draft_stricts_v5 : Nat → Int32) => post t_wrong_v4 t_wrongAt_v4 t_kind_v4 t_at_v4 t_behind_v4 t_draft_size_v5 t_draft_upper_v5 t_draft_lower_v5 t_draft_limits_v5 t_draft_stricts_v5) t_draft_size t_draft_upper t_draft_lower t_draft_limits t_draft_stricts x1 r2 r3 r4))) t_wrong_v3 t_wrongAt_v3 t_kind_v3 t_at_v3 t_behind_v3 t_tape_size t_tape_bytes) t_wrong_v2 t_wrongAt_v2 t_kind_v2 t_at_v2 t_behind_v2 t_tape_size t_tape_bytes r2) t_wrong_v1 t_wrongAt_v1 t_kind_v1 t_at_v1 t_behind_v1 t_tape_size t_tape_bytes (-4 : Int32)) t_wrong t_wrongAt t_behind t_tape_size t_tape_bytes) ∧ (¬ t_draft_size + k0 ≤ (24 : Int32) → P_X1_fail (fun (t_wrong_v6 : Int32) (t_wrongAt_v6 : Int32) => post t_wrong_v6 t_wrongAt_v6 t_kind t_at t_behind t_draft_size t_draft_upper t_draft_lower t_draft_limits t_draft_stricts) t_wrong t_wrongAt (5 : Int32) t_at))
def P_X1_readBound (post : Int32 → Int32 → Int32 → Int32 → Int32 → Int32 → (Nat → Int32) → (Nat → Int32) → (Nat → Int32) → (Nat → Int32) → Prop) (t_wrong : Int32) (t_wrongAt : Int32) (t_kind : Int32) (t_at : Int32) (t_behind : Int32) (t_draft_size : Int32) (t_tape_size : Int32) (t_tape_bytes : Nat → Int32) (t_draft_upper : Nat → Int32) (t_draft_lower : Nat → Int32) (t_draft_limits : Nat → Int32) (t_draft_stricts : Nat → Int32) (x1 : Int32) : Prop :=
  ((¬ x1 = (5 : Int32) → B_X1_readBound_10 post t_wrong t_wrongAt t_kind t_at t_behind t_draft_size t_tape_size t_tape_bytes t_draft_upper t_draft_lower t_draft_limits t_draft_stricts (1 : Int32) x1) ∧ (x1 = (5 : Int32) → B_X1_readBound_10 post t_wrong t_wrongAt t_kind t_at t_behind t_draft_size t_tape_size t_tape_bytes t_draft_upper t_draft_lower t_draft_limits t_draft_stricts (2 : Int32) x1))
set_option maxHeartbeats 4000000 in
set_option maxRecDepth 100000 in
theorem c_X1_readBound (l : Launch) (D : va_G) (cy : Nat → ClassId) (sz : Nat) (A_t A_t_tape A_t_draft A_t_draft_upper A_t_draft_lower A_t_draft_limits A_t_draft_stricts A_t_draft_marks A_t_tape_bytes : Nat) (t_wrong : Int32) (t_wrongAt : Int32) (t_lines : Int32) (t_kind : Int32) (t_at : Int32) (t_behind : Int32) (t_draft_size : Int32) (t_draft_marked : Int32) (t_draft_wholeness : Int32) (t_tape_size : Int32) (t_tape_bytes : Nat → Int32) (t_draft_upper : Nat → Int32) (t_draft_lower : Nat → Int32) (t_draft_limits : Nat → Int32) (t_draft_stricts : Nat → Int32) (x1 : Int32) (post : Int32 → Int32 → Int32 → Int32 → Int32 → Int32 → (Nat → Int32) → (Nat → Int32) → (Nat → Int32) → (Nat → Int32) → Prop) (h : P_X1_readBound post t_wrong t_wrongAt t_kind t_at t_behind t_draft_size t_tape_size t_tape_bytes t_draft_upper t_draft_lower t_draft_limits t_draft_stricts x1) : Met l yX1_readBound wsX1_readBound { frames := 4, cells := 0, slots := 0, locals := 84 } (pcW D cy [(A_t, .inr (1, [.ref A_t_tape, .ref A_t_draft, .int t_wrong, .int t_wrongAt, .int t_lines, .int t_kind, .int t_at, .int t_behind])), (A_t_draft, .inr (5, [.ref A_t_draft_upper, .ref A_t_draft_lower, .ref A_t_draft_limits, .ref A_t_draft_stricts, .ref A_t_draft_marks, .int t_draft_size, .int t_draft_marked, .int t_draft_wholeness])), (A_t_tape, .inr (6, [.ref A_t_tape_bytes, .int t_tape_size])), (A_t_tape_bytes, .inl (cy 0, 320, .inl t_tape_bytes)), (A_t_draft_upper, .inl (cy 1, 24, .inl t_draft_upper)), (A_t_draft_lower, .inl (cy 1, 24, .inl t_draft_lower)), (A_t_draft_limits, .inl (cy 1, 24, .inl t_draft_limits)), (A_t_draft_stricts, .inl (cy 1, 24, .inl t_draft_stricts))] sz [.ref A_t, .int x1]) (va_Qv (fun (u : Int32 × Int32 × Int32 × Int32 × Int32 × Int32 × (Nat → Int32) × (Nat → Int32) × (Nat → Int32) × (Nat → Int32)) => post u.1 u.2.1 u.2.2.1 u.2.2.2.1 u.2.2.2.2.1 u.2.2.2.2.2.1 u.2.2.2.2.2.2.1 u.2.2.2.2.2.2.2.1 u.2.2.2.2.2.2.2.2.1 u.2.2.2.2.2.2.2.2.2) (bW D [(A_t, .inr (1, [.ref A_t_tape, .ref A_t_draft, .int t_wrong, .int t_wrongAt, .int t_lines, .int t_kind, .int t_at, .int t_behind])), (A_t_draft, .inr (5, [.ref A_t_draft_upper, .ref A_t_draft_lower, .ref A_t_draft_limits, .ref A_t_draft_stricts, .ref A_t_draft_marks, .int t_draft_size, .int t_draft_marked, .int t_draft_wholeness])), (A_t_tape, .inr (6, [.ref A_t_tape_bytes, .int t_tape_size])), (A_t_tape_bytes, .inl (cy 0, 320, .inl t_tape_bytes)), (A_t_draft_upper, .inl (cy 1, 24, .inl t_draft_upper)), (A_t_draft_lower, .inl (cy 1, 24, .inl t_draft_lower)), (A_t_draft_limits, .inl (cy 1, 24, .inl t_draft_limits)), (A_t_draft_stricts, .inl (cy 1, 24, .inl t_draft_stricts))] sz (fun u => [(A_t, .inr (1, [.ref A_t_tape, .ref A_t_draft, .int (u.1), .int (u.2.1), .int t_lines, .int (u.2.2.1), .int (u.2.2.2.1), .int (u.2.2.2.2.1)])), (A_t_draft, .inr (5, [.ref A_t_draft_upper, .ref A_t_draft_lower, .ref A_t_draft_limits, .ref A_t_draft_stricts, .ref A_t_draft_marks, .int (u.2.2.2.2.2.1), .int t_draft_marked, .int t_draft_wholeness])), (A_t_tape, .inr (6, [.ref A_t_tape_bytes, .int t_tape_size])), (A_t_tape_bytes, .inl (cy 0, 320, .inl t_tape_bytes)), (A_t_draft_upper, .inl (cy 1, 24, .inl u.2.2.2.2.2.2.1)), (A_t_draft_lower, .inl (cy 1, 24, .inl u.2.2.2.2.2.2.2.1)), (A_t_draft_limits, .inl (cy 1, 24, .inl u.2.2.2.2.2.2.2.2.1)), (A_t_draft_stricts, .inl (cy 1, 24, .inl u.2.2.2.2.2.2.2.2.2))])) (va_A [(A_t, .inr (1, [.ref A_t_tape, .ref A_t_draft, .int t_wrong, .int t_wrongAt, .int t_lines, .int t_kind, .int t_at, .int t_behind])), (A_t_draft, .inr (5, [.ref A_t_draft_upper, .ref A_t_draft_lower, .ref A_t_draft_limits, .ref A_t_draft_stricts, .ref A_t_draft_marks, .int t_draft_size, .int t_draft_marked, .int t_draft_wholeness])), (A_t_tape, .inr (6, [.ref A_t_tape_bytes, .int t_tape_size])), (A_t_tape_bytes, .inl (cy 0, 320, .inl t_tape_bytes)), (A_t_draft_upper, .inl (cy 1, 24, .inl t_draft_upper)), (A_t_draft_lower, .inl (cy 1, 24, .inl t_draft_lower)), (A_t_draft_limits, .inl (cy 1, 24, .inl t_draft_limits)), (A_t_draft_stricts, .inl (cy 1, 24, .inl t_draft_stricts))] sz)) 0 0 (va_A [(A_t, .inr (1, [.ref A_t_tape, .ref A_t_draft, .int t_wrong, .int t_wrongAt, .int t_lines, .int t_kind, .int t_at, .int t_behind])), (A_t_draft, .inr (5, [.ref A_t_draft_upper, .ref A_t_draft_lower, .ref A_t_draft_limits, .ref A_t_draft_stricts, .ref A_t_draft_marks, .int t_draft_size, .int t_draft_marked, .int t_draft_wholeness])), (A_t_tape, .inr (6, [.ref A_t_tape_bytes, .int t_tape_size])), (A_t_tape_bytes, .inl (cy 0, 320, .inl t_tape_bytes)), (A_t_draft_upper, .inl (cy 1, 24, .inl t_draft_upper)), (A_t_draft_lower, .inl (cy 1, 24, .inl t_draft_lower)), (A_t_draft_limits, .inl (cy 1, 24, .inl t_draft_limits)), (A_t_draft_stricts, .inl (cy 1, 24, .inl t_draft_stricts))] sz) := by
  refine Met.ofW (cc := cX1_readBound) (maxL := 6) (ret := none) (by decide) rfl ?_
  intro p e s m args below meth c s₁ B hml hv
  obtain ⟨rfl, hsz, hP, hK, hD0⟩ := hv
  have hx := B.exec
  have hb := B.bytes
  have hr := B.returns
  have hts := atoms_spec (ws := wsX1_readBound) B.pre
  have hown : s.vm.findClass RX1 = some m.cls := findClass_of_methodNamed B.named
  have hlocks := B.notSynchronized
  have CF : CallFix p m c cX1_readBound 6 s ([.ref A_t, .int x1] : List Value).toArray wsX1_readBound RX1 := ⟨hx, hb, hml, hown, hts⟩
  have f0 := hts (.fieldLink RX1 21 "GapBounds$Reader" "draft" "LGapBounds$Store;") (by decide +kernel)
  have f1 := hts (.fieldLink RX1 71 "GapBounds$Store" "size" "I") (by decide +kernel)
  have f2 := hts (.fieldLink RX1 28 "GapBounds$Reader" "wrong" "I") (by decide +kernel)
  have f3 := hts (.fieldLink RX1 51 "GapBounds$Reader" "at" "I") (by decide +kernel)
  have iX1 : ∀ w ∈ u_ws RX1 TX1 8, w ∈ wsX1_readBound := by decide +kernel
  have iX5 : ∀ w ∈ u_ws RX5 TX5 8, w ∈ wsX1_readBound := by decide +kernel
  subst hsz
  obtain ⟨A, hAe⟩ : ∃ A, A = va_A [(A_t, .inr (1, [.ref A_t_tape, .ref A_t_draft, .int t_wrong, .int t_wrongAt, .int t_lines, .int t_kind, .int t_at, .int t_behind])), (A_t_draft, .inr (5, [.ref A_t_draft_upper, .ref A_t_draft_lower, .ref A_t_draft_limits, .ref A_t_draft_stricts, .ref A_t_draft_marks, .int t_draft_size, .int t_draft_marked, .int t_draft_wholeness])), (A_t_tape, .inr (6, [.ref A_t_tape_bytes, .int t_tape_size])), (A_t_tape_bytes, .inl (cy 0, 320, .inl t_tape_bytes)), (A_t_draft_upper, .inl (cy 1, 24, .inl t_draft_upper)), (A_t_draft_lower, .inl (cy 1, 24, .inl t_draft_lower)), (A_t_draft_limits, .inl (cy 1, 24, .inl t_draft_limits)), (A_t_draft_stricts, .inl (cy 1, 24, .inl t_draft_stricts))] s.heap.size := ⟨_, rfl⟩
  have hD : va_D A [(A_t, .inr (1, [.ref A_t_tape, .ref A_t_draft, .int t_wrong, .int t_wrongAt, .int t_lines, .int t_kind, .int t_at, .int t_behind])), (A_t_draft, .inr (5, [.ref A_t_draft_upper, .ref A_t_draft_lower, .ref A_t_draft_limits, .ref A_t_draft_stricts, .ref A_t_draft_marks, .int t_draft_size, .int t_draft_marked, .int t_draft_wholeness])), (A_t_tape, .inr (6, [.ref A_t_tape_bytes, .int t_tape_size])), (A_t_tape_bytes, .inl (cy 0, 320, .inl t_tape_bytes)), (A_t_draft_upper, .inl (cy 1, 24, .inl t_draft_upper)), (A_t_draft_lower, .inl (cy 1, 24, .inl t_draft_lower)), (A_t_draft_limits, .inl (cy 1, 24, .inl t_draft_limits)), (A_t_draft_stricts, .inl (cy 1, 24, .inl t_draft_stricts))] := by rw [hAe]; exact hD0.self
  have hA : ∀ q : Nat, s.heap.size ≤ q → A q := fun q hq => by rw [hAe]; exact Or.inr hq
  have hS : va_S A s.heap s.heap [] := va_S.rf
  have hl := lv_entry [.ref A_t, .int x1] (n := 6) (Nat.le_of_ble_eq_true rfl)
  rw [lg_entry_eq]
  generalize (lg_sl [.ref A_t, .int x1] ++ List.replicate (6 - (lg_sl [.ref A_t, .int x1]).length) Slot.unset).toArray = ls at hl ⊢
  have hl : lv_has ls 6 [(0, .ref A_t), (1, .int x1)] := hl
  refine W.gen (fun Q0 hQ => ?_)
  have J10 : ∀ (t_wrong : Int32) (t_wrongAt : Int32) (t_kind : Int32) (t_at : Int32) (t_behind : Int32) (t_draft_size : Int32) (t_draft_upper : Nat → Int32) (t_draft_lower : Nat → Int32) (t_draft_limits : Nat → Int32) (t_draft_stricts : Nat → Int32) (k0 : Int32) (H : Heap) (locs : List Loc) (ls : Array Slot), B_X1_readBound_10 post t_wrong t_wrongAt t_kind t_at t_behind t_draft_size t_tape_size t_tape_bytes t_draft_upper t_draft_lower t_draft_limits t_draft_stricts k0 x1 → va_P D vwCl [(A_t, .inr (1, [.ref A_t_tape, .ref A_t_draft, .int t_wrong, .int t_wrongAt, .int t_lines, .int t_kind, .int t_at, .int t_behind])), (A_t_draft, .inr (5, [.ref A_t_draft_upper, .ref A_t_draft_lower, .ref A_t_draft_limits, .ref A_t_draft_stricts, .ref A_t_draft_marks, .int t_draft_size, .int t_draft_marked, .int t_draft_wholeness])), (A_t_tape, .inr (6, [.ref A_t_tape_bytes, .int t_tape_size])), (A_t_tape_bytes, .inl (cy 0, 320, .inl t_tape_bytes)), (A_t_draft_upper, .inl (cy 1, 24, .inl t_draft_upper)), (A_t_draft_lower, .inl (cy 1, 24, .inl t_draft_lower)), (A_t_draft_limits, .inl (cy 1, 24, .inl t_draft_limits)), (A_t_draft_stricts, .inl (cy 1, 24, .inl t_draft_stricts))] H → va_D A [(A_t, .inr (1, [.ref A_t_tape, .ref A_t_draft, .int t_wrong, .int t_wrongAt, .int t_lines, .int t_kind, .int t_at, .int t_behind])), (A_t_draft, .inr (5, [.ref A_t_draft_upper, .ref A_t_draft_lower, .ref A_t_draft_limits, .ref A_t_draft_stricts, .ref A_t_draft_marks, .int t_draft_size, .int t_draft_marked, .int t_draft_wholeness])), (A_t_tape, .inr (6, [.ref A_t_tape_bytes, .int t_tape_size])), (A_t_tape_bytes, .inl (cy 0, 320, .inl t_tape_bytes)), (A_t_draft_upper, .inl (cy 1, 24, .inl t_draft_upper)), (A_t_draft_lower, .inl (cy 1, 24, .inl t_draft_lower)), (A_t_draft_limits, .inl (cy 1, 24, .inl t_draft_limits)), (A_t_draft_stricts, .inl (cy 1, 24, .inl t_draft_stricts))] → va_S A s.heap H locs → lv_has ls 6 [(0, .ref A_t), (1, .int x1)] → W p l e (headSpec wsX1_readBound { frames := 4, cells := 0, slots := 0, locals := 84 }).room s m ([.ref A_t, .int x1] : List Value).toArray below meth c H locs 0 0 Q0 (F0 m 10 ls [.int k0]) := by
    intro t_wrong t_wrongAt t_kind t_at t_behind t_draft_size t_draft_upper t_draft_lower t_draft_limits t_draft_stricts k0 H locs ls h hP hD hS hl
    unfold B_X1_readBound_10 at h
    refine lv_istore_n (lv' := [(2, .int k0), (0, .ref A_t), (1, .int x1)]) hx hb dX1_readBound_10 rfl hl (by decide) rfl (fun ls hl => ?_)
    refine lv_aload_n hx hb dX1_readBound_11 rfl (lv_at hl 1 rfl) ?_
    refine va_get (D := D) (ci := 1) (v := .ref A_t_draft) (C := RX1) (T := TX1) (N := 8) hx hb hts iX1 hown hK.1 hP 0 rfl rfl 1 (by decide) f0 (fun _ h9 => h9) rfl dX1_readBound_12 ?_
    refine va_get (D := D) (ci := 5) (v := .int t_draft_size) (C := RX5) (T := TX5) (N := 8) hx hb hts iX5 hown hK.1 hP 1 rfl rfl 5 (by decide) f1 (fun _ h9 => h9) rfl dX1_readBound_15 ?_
    refine lv_iload_n hx hb dX1_readBound_18 rfl (lv_at hl 0 rfl) ?_
    refine lv_iadd hx hb dX1_readBound_19 ?_
    refine lv_bipush (v := 24) hx hb dX1_readBound_20 (by decide) ?_
    refine lv_icmp_le (tgt := 35) hx hb dX1_readBound_22 (by decide) (fun hc => ?_) (fun hc => ?_)
    · replace h := h.1 hc
      refine lv_aload_n hx hb dX1_readBound_35 rfl (lv_at hl 1 rfl) ?_
      have hPn : va_P D vwCl ([(A_t_draft, .inr (5, [.ref A_t_draft_upper, .ref A_t_draft_lower, .ref A_t_draft_limits, .ref A_t_draft_stricts, .ref A_t_draft_marks, .int t_draft_size, .int t_draft_marked, .int t_draft_wholeness])), (A_t_draft_upper, .inl (cy 1, 24, .inl t_draft_upper)), (A_t_draft_lower, .inl (cy 1, 24, .inl t_draft_lower)), (A_t_draft_limits, .inl (cy 1, 24, .inl t_draft_limits)), (A_t_draft_stricts, .inl (cy 1, 24, .inl t_draft_stricts))] ++ [(A_t, .inr (1, [.ref A_t_tape, .ref A_t_draft, .int t_wrong, .int t_wrongAt, .int t_lines, .int t_kind, .int t_at, .int t_behind])), (A_t_tape, .inr (6, [.ref A_t_tape_bytes, .int t_tape_size])), (A_t_tape_bytes, .inl (cy 0, 320, .inl t_tape_bytes))]) H := hP.sub [1, 4, 5, 6, 7, 0, 2, 3] rfl
      have hDn : va_D A ([(A_t_draft, .inr (5, [.ref A_t_draft_upper, .ref A_t_draft_lower, .ref A_t_draft_limits, .ref A_t_draft_stricts, .ref A_t_draft_marks, .int t_draft_size, .int t_draft_marked, .int t_draft_wholeness])), (A_t_draft_upper, .inl (cy 1, 24, .inl t_draft_upper)), (A_t_draft_lower, .inl (cy 1, 24, .inl t_draft_lower)), (A_t_draft_limits, .inl (cy 1, 24, .inl t_draft_limits)), (A_t_draft_stricts, .inl (cy 1, 24, .inl t_draft_stricts))] ++ [(A_t, .inr (1, [.ref A_t_tape, .ref A_t_draft, .int t_wrong, .int t_wrongAt, .int t_lines, .int t_kind, .int t_at, .int t_behind])), (A_t_tape, .inr (6, [.ref A_t_tape_bytes, .int t_tape_size])), (A_t_tape_bytes, .inl (cy 0, 320, .inl t_tape_bytes))]) := hD.sub [1, 4, 5, 6, 7, 0, 2, 3] (by decide) rfl
      have hPc := gPR hPn
      have hDc := gDR hDn
      refine mw_v (va_runV (As := []) (rest := []) CF (c_X1_next l D cy H.size A_t A_t_tape A_t_draft A_t_tape_bytes t_wrong t_wrongAt t_lines t_kind t_at t_behind t_tape_size t_tape_bytes _ h) (cwV 0 hts gX1_readBound_X1_next rfl rfl rfl qX1_next ⟨Nat.le_of_ble_eq_true rfl, Nat.le_of_ble_eq_true rfl⟩) (mpVW hK hPc hDc (ci := 1) (q := (RX1, TX1, 8)) (q0 := 0) rfl rfl) rfl rfl hl.1 rfl (lv_room (Nat.le_of_ble_eq_true rfl)) dX1_readBound_36 ⟨Nat.zero_le _, Nat.zero_le _⟩) hPn hDn hS hA (fun u H locs h hP hD hS => ?_)
      obtain ⟨t_wrong_v1, t_wrongAt_v1, t_kind_v1, t_at_v1, t_behind_v1⟩ := u
      have hP : va_P D vwCl [(A_t, .inr (1, [.ref A_t_tape, .ref A_t_draft, .int t_wrong_v1, .int t_wrongAt_v1, .int t_lines, .int t_kind_v1, .int t_at_v1, .int t_behind_v1])), (A_t_draft, .inr (5, [.ref A_t_draft_upper, .ref A_t_draft_lower, .ref A_t_draft_limits, .ref A_t_draft_stricts, .ref A_t_draft_marks, .int t_draft_size, .int t_draft_marked, .int t_draft_wholeness])), (A_t_tape, .inr (6, [.ref A_t_tape_bytes, .int t_tape_size])), (A_t_tape_bytes, .inl (cy 0, 320, .inl t_tape_bytes)), (A_t_draft_upper, .inl (cy 1, 24, .inl t_draft_upper)), (A_t_draft_lower, .inl (cy 1, 24, .inl t_draft_lower)), (A_t_draft_limits, .inl (cy 1, 24, .inl t_draft_limits)), (A_t_draft_stricts, .inl (cy 1, 24, .inl t_draft_stricts))] H := hP.sub [5, 0, 6, 7, 1, 2, 3, 4] rfl
      have hD : va_D A [(A_t, .inr (1, [.ref A_t_tape, .ref A_t_draft, .int t_wrong_v1, .int t_wrongAt_v1, .int t_lines, .int t_kind_v1, .int t_at_v1, .int t_behind_v1])), (A_t_draft, .inr (5, [.ref A_t_draft_upper, .ref A_t_draft_lower, .ref A_t_draft_limits, .ref A_t_draft_stricts, .ref A_t_draft_marks, .int t_draft_size, .int t_draft_marked, .int t_draft_wholeness])), (A_t_tape, .inr (6, [.ref A_t_tape_bytes, .int t_tape_size])), (A_t_tape_bytes, .inl (cy 0, 320, .inl t_tape_bytes)), (A_t_draft_upper, .inl (cy 1, 24, .inl t_draft_upper)), (A_t_draft_lower, .inl (cy 1, 24, .inl t_draft_lower)), (A_t_draft_limits, .inl (cy 1, 24, .inl t_draft_limits)), (A_t_draft_stricts, .inl (cy 1, 24, .inl t_draft_stricts))] := hD.sub [5, 0, 6, 7, 1, 2, 3, 4] (by decide) rfl
      try dsimp only at h
      refine lv_aload_n hx hb dX1_readBound_39 rfl (lv_at hl 1 rfl) ?_
      refine lv_bipush (v := -4) hx hb dX1_readBound_40 (by decide) ?_
      have hPn : va_P D vwCl ([(A_t_draft, .inr (5, [.ref A_t_draft_upper, .ref A_t_draft_lower, .ref A_t_draft_limits, .ref A_t_draft_stricts, .ref A_t_draft_marks, .int t_draft_size, .int t_draft_marked, .int t_draft_wholeness])), (A_t_draft_upper, .inl (cy 1, 24, .inl t_draft_upper)), (A_t_draft_lower, .inl (cy 1, 24, .inl t_draft_lower)), (A_t_draft_limits, .inl (cy 1, 24, .inl t_draft_limits)), (A_t_draft_stricts, .inl (cy 1, 24, .inl t_draft_stricts))] ++ [(A_t, .inr (1, [.ref A_t_tape, .ref A_t_draft, .int t_wrong_v1, .int t_wrongAt_v1, .int t_lines, .int t_kind_v1, .int t_at_v1, .int t_behind_v1])), (A_t_tape, .inr (6, [.ref A_t_tape_bytes, .int t_tape_size])), (A_t_tape_bytes, .inl (cy 0, 320, .inl t_tape_bytes))]) H := hP.sub [1, 4, 5, 6, 7, 0, 2, 3] rfl
      have hDn : va_D A ([(A_t_draft, .inr (5, [.ref A_t_draft_upper, .ref A_t_draft_lower, .ref A_t_draft_limits, .ref A_t_draft_stricts, .ref A_t_draft_marks, .int t_draft_size, .int t_draft_marked, .int t_draft_wholeness])), (A_t_draft_upper, .inl (cy 1, 24, .inl t_draft_upper)), (A_t_draft_lower, .inl (cy 1, 24, .inl t_draft_lower)), (A_t_draft_limits, .inl (cy 1, 24, .inl t_draft_limits)), (A_t_draft_stricts, .inl (cy 1, 24, .inl t_draft_stricts))] ++ [(A_t, .inr (1, [.ref A_t_tape, .ref A_t_draft, .int t_wrong_v1, .int t_wrongAt_v1, .int t_lines, .int t_kind_v1, .int t_at_v1, .int t_behind_v1])), (A_t_tape, .inr (6, [.ref A_t_tape_bytes, .int t_tape_size])), (A_t_tape_bytes, .inl (cy 0, 320, .inl t_tape_bytes))]) := hD.sub [1, 4, 5, 6, 7, 0, 2, 3] (by decide) rfl
      have hPc := gPR hPn
      have hDc := gDR hDn
      refine mw_i (va_runV (As := [.int (-4 : Int32)]) (rest := []) CF (c_X1_takeThing l D cy H.size A_t A_t_tape A_t_draft A_t_tape_bytes t_wrong_v1 t_wrongAt_v1 t_lines t_kind_v1 t_at_v1 t_behind_v1 t_tape_size t_tape_bytes (-4 : Int32) _ h) (cwV 1 hts gX1_readBound_X1_takeThing rfl rfl rfl qX1_takeThing ⟨Nat.le_of_ble_eq_true rfl, Nat.le_of_ble_eq_true rfl⟩) (mpVW hK hPc hDc (ci := 1) (q := (RX1, TX1, 8)) (q0 := 0) rfl rfl) rfl rfl hl.1 rfl (lv_room (Nat.le_of_ble_eq_true rfl)) dX1_readBound_42 ⟨Nat.zero_le _, Nat.zero_le _⟩) hPn hDn hS hA (fun r2 u H locs h hP hD hS => ?_)
      obtain ⟨t_wrong_v2, t_wrongAt_v2, t_kind_v2, t_at_v2, t_behind_v2⟩ := u
      have hP : va_P D vwCl [(A_t, .inr (1, [.ref A_t_tape, .ref A_t_draft, .int t_wrong_v2, .int t_wrongAt_v2, .int t_lines, .int t_kind_v2, .int t_at_v2, .int t_behind_v2])), (A_t_draft, .inr (5, [.ref A_t_draft_upper, .ref A_t_draft_lower, .ref A_t_draft_limits, .ref A_t_draft_stricts, .ref A_t_draft_marks, .int t_draft_size, .int t_draft_marked, .int t_draft_wholeness])), (A_t_tape, .inr (6, [.ref A_t_tape_bytes, .int t_tape_size])), (A_t_tape_bytes, .inl (cy 0, 320, .inl t_tape_bytes)), (A_t_draft_upper, .inl (cy 1, 24, .inl t_draft_upper)), (A_t_draft_lower, .inl (cy 1, 24, .inl t_draft_lower)), (A_t_draft_limits, .inl (cy 1, 24, .inl t_draft_limits)), (A_t_draft_stricts, .inl (cy 1, 24, .inl t_draft_stricts))] H := hP.sub [5, 0, 6, 7, 1, 2, 3, 4] rfl
      have hD : va_D A [(A_t, .inr (1, [.ref A_t_tape, .ref A_t_draft, .int t_wrong_v2, .int t_wrongAt_v2, .int t_lines, .int t_kind_v2, .int t_at_v2, .int t_behind_v2])), (A_t_draft, .inr (5, [.ref A_t_draft_upper, .ref A_t_draft_lower, .ref A_t_draft_limits, .ref A_t_draft_stricts, .ref A_t_draft_marks, .int t_draft_size, .int t_draft_marked, .int t_draft_wholeness])), (A_t_tape, .inr (6, [.ref A_t_tape_bytes, .int t_tape_size])), (A_t_tape_bytes, .inl (cy 0, 320, .inl t_tape_bytes)), (A_t_draft_upper, .inl (cy 1, 24, .inl t_draft_upper)), (A_t_draft_lower, .inl (cy 1, 24, .inl t_draft_lower)), (A_t_draft_limits, .inl (cy 1, 24, .inl t_draft_limits)), (A_t_draft_stricts, .inl (cy 1, 24, .inl t_draft_stricts))] := hD.sub [5, 0, 6, 7, 1, 2, 3, 4] (by decide) rfl
      try dsimp only at h
      refine lv_istore_n (lv' := [(3, .int r2), (2, .int k0), (0, .ref A_t), (1, .int x1)]) hx hb dX1_readBound_45 rfl hl (by decide) rfl (fun ls hl => ?_)
      refine lv_aload_n hx hb dX1_readBound_46 rfl (lv_at hl 2 rfl) ?_
      refine lv_iload_n hx hb dX1_readBound_47 rfl (lv_at hl 0 rfl) ?_
      have hPn : va_P D vwCl ([(A_t_draft, .inr (5, [.ref A_t_draft_upper, .ref A_t_draft_lower, .ref A_t_draft_limits, .ref A_t_draft_stricts, .ref A_t_draft_marks, .int t_draft_size, .int t_draft_marked, .int t_draft_wholeness])), (A_t_draft_upper, .inl (cy 1, 24, .inl t_draft_upper)), (A_t_draft_lower, .inl (cy 1, 24, .inl t_draft_lower)), (A_t_draft_limits, .inl (cy 1, 24, .inl t_draft_limits)), (A_t_draft_stricts, .inl (cy 1, 24, .inl t_draft_stricts))] ++ [(A_t, .inr (1, [.ref A_t_tape, .ref A_t_draft, .int t_wrong_v2, .int t_wrongAt_v2, .int t_lines, .int t_kind_v2, .int t_at_v2, .int t_behind_v2])), (A_t_tape, .inr (6, [.ref A_t_tape_bytes, .int t_tape_size])), (A_t_tape_bytes, .inl (cy 0, 320, .inl t_tape_bytes))]) H := hP.sub [1, 4, 5, 6, 7, 0, 2, 3] rfl
      have hDn : va_D A ([(A_t_draft, .inr (5, [.ref A_t_draft_upper, .ref A_t_draft_lower, .ref A_t_draft_limits, .ref A_t_draft_stricts, .ref A_t_draft_marks, .int t_draft_size, .int t_draft_marked, .int t_draft_wholeness])), (A_t_draft_upper, .inl (cy 1, 24, .inl t_draft_upper)), (A_t_draft_lower, .inl (cy 1, 24, .inl t_draft_lower)), (A_t_draft_limits, .inl (cy 1, 24, .inl t_draft_limits)), (A_t_draft_stricts, .inl (cy 1, 24, .inl t_draft_stricts))] ++ [(A_t, .inr (1, [.ref A_t_tape, .ref A_t_draft, .int t_wrong_v2, .int t_wrongAt_v2, .int t_lines, .int t_kind_v2, .int t_at_v2, .int t_behind_v2])), (A_t_tape, .inr (6, [.ref A_t_tape_bytes, .int t_tape_size])), (A_t_tape_bytes, .inl (cy 0, 320, .inl t_tape_bytes))]) := hD.sub [1, 4, 5, 6, 7, 0, 2, 3] (by decide) rfl
      have hPc := gPR hPn
      have hDc := gDR hDn
      refine mw_i (va_runV (As := [.int r2]) (rest := []) CF (c_X1_takeThing l D cy H.size A_t A_t_tape A_t_draft A_t_tape_bytes t_wrong_v2 t_wrongAt_v2 t_lines t_kind_v2 t_at_v2 t_behind_v2 t_tape_size t_tape_bytes r2 _ h) (cwV 1 hts gX1_readBound_X1_takeThing rfl rfl rfl qX1_takeThing ⟨Nat.le_of_ble_eq_true rfl, Nat.le_of_ble_eq_true rfl⟩) (mpVW hK hPc hDc (ci := 1) (q := (RX1, TX1, 8)) (q0 := 0) rfl rfl) rfl rfl hl.1 rfl (lv_room (Nat.le_of_ble_eq_true rfl)) dX1_readBound_48 ⟨Nat.zero_le _, Nat.zero_le _⟩) hPn hDn hS hA (fun r3 u H locs h hP hD hS => ?_)
      obtain ⟨t_wrong_v3, t_wrongAt_v3, t_kind_v3, t_at_v3, t_behind_v3⟩ := u
      have hP : va_P D vwCl [(A_t, .inr (1, [.ref A_t_tape, .ref A_t_draft, .int t_wrong_v3, .int t_wrongAt_v3, .int t_lines, .int t_kind_v3, .int t_at_v3, .int t_behind_v3])), (A_t_draft, .inr (5, [.ref A_t_draft_upper, .ref A_t_draft_lower, .ref A_t_draft_limits, .ref A_t_draft_stricts, .ref A_t_draft_marks, .int t_draft_size, .int t_draft_marked, .int t_draft_wholeness])), (A_t_tape, .inr (6, [.ref A_t_tape_bytes, .int t_tape_size])), (A_t_tape_bytes, .inl (cy 0, 320, .inl t_tape_bytes)), (A_t_draft_upper, .inl (cy 1, 24, .inl t_draft_upper)), (A_t_draft_lower, .inl (cy 1, 24, .inl t_draft_lower)), (A_t_draft_limits, .inl (cy 1, 24, .inl t_draft_limits)), (A_t_draft_stricts, .inl (cy 1, 24, .inl t_draft_stricts))] H := hP.sub [5, 0, 6, 7, 1, 2, 3, 4] rfl
      have hD : va_D A [(A_t, .inr (1, [.ref A_t_tape, .ref A_t_draft, .int t_wrong_v3, .int t_wrongAt_v3, .int t_lines, .int t_kind_v3, .int t_at_v3, .int t_behind_v3])), (A_t_draft, .inr (5, [.ref A_t_draft_upper, .ref A_t_draft_lower, .ref A_t_draft_limits, .ref A_t_draft_stricts, .ref A_t_draft_marks, .int t_draft_size, .int t_draft_marked, .int t_draft_wholeness])), (A_t_tape, .inr (6, [.ref A_t_tape_bytes, .int t_tape_size])), (A_t_tape_bytes, .inl (cy 0, 320, .inl t_tape_bytes)), (A_t_draft_upper, .inl (cy 1, 24, .inl t_draft_upper)), (A_t_draft_lower, .inl (cy 1, 24, .inl t_draft_lower)), (A_t_draft_limits, .inl (cy 1, 24, .inl t_draft_limits)), (A_t_draft_stricts, .inl (cy 1, 24, .inl t_draft_stricts))] := hD.sub [5, 0, 6, 7, 1, 2, 3, 4] (by decide) rfl
      try dsimp only at h
      refine lv_istore (lv' := [(4, .int r3), (3, .int r2), (2, .int k0), (0, .ref A_t), (1, .int x1)]) hx hb dX1_readBound_51 hl (by decide) rfl (fun ls hl => ?_)
      refine lv_aload_n hx hb dX1_readBound_53 rfl (lv_at hl 3 rfl) ?_
      have hPn : va_P D vwCl ([(A_t_draft, .inr (5, [.ref A_t_draft_upper, .ref A_t_draft_lower, .ref A_t_draft_limits, .ref A_t_draft_stricts, .ref A_t_draft_marks, .int t_draft_size, .int t_draft_marked, .int t_draft_wholeness])), (A_t_draft_upper, .inl (cy 1, 24, .inl t_draft_upper)), (A_t_draft_lower, .inl (cy 1, 24, .inl t_draft_lower)), (A_t_draft_limits, .inl (cy 1, 24, .inl t_draft_limits)), (A_t_draft_stricts, .inl (cy 1, 24, .inl t_draft_stricts))] ++ [(A_t, .inr (1, [.ref A_t_tape, .ref A_t_draft, .int t_wrong_v3, .int t_wrongAt_v3, .int t_lines, .int t_kind_v3, .int t_at_v3, .int t_behind_v3])), (A_t_tape, .inr (6, [.ref A_t_tape_bytes, .int t_tape_size])), (A_t_tape_bytes, .inl (cy 0, 320, .inl t_tape_bytes))]) H := hP.sub [1, 4, 5, 6, 7, 0, 2, 3] rfl
      have hDn : va_D A ([(A_t_draft, .inr (5, [.ref A_t_draft_upper, .ref A_t_draft_lower, .ref A_t_draft_limits, .ref A_t_draft_stricts, .ref A_t_draft_marks, .int t_draft_size, .int t_draft_marked, .int t_draft_wholeness])), (A_t_draft_upper, .inl (cy 1, 24, .inl t_draft_upper)), (A_t_draft_lower, .inl (cy 1, 24, .inl t_draft_lower)), (A_t_draft_limits, .inl (cy 1, 24, .inl t_draft_limits)), (A_t_draft_stricts, .inl (cy 1, 24, .inl t_draft_stricts))] ++ [(A_t, .inr (1, [.ref A_t_tape, .ref A_t_draft, .int t_wrong_v3, .int t_wrongAt_v3, .int t_lines, .int t_kind_v3, .int t_at_v3, .int t_behind_v3])), (A_t_tape, .inr (6, [.ref A_t_tape_bytes, .int t_tape_size])), (A_t_tape_bytes, .inl (cy 0, 320, .inl t_tape_bytes))]) := hD.sub [1, 4, 5, 6, 7, 0, 2, 3] (by decide) rfl
      have hPc := gPR hPn
      have hDc := gDR hDn
      refine mw_i (va_runV (As := []) (rest := []) CF (c_X1_takeAmount l D cy H.size A_t A_t_tape A_t_draft A_t_tape_bytes t_wrong_v3 t_wrongAt_v3 t_lines t_kind_v3 t_at_v3 t_behind_v3 t_tape_size t_tape_bytes _ h) (cwV 0 hts gX1_readBound_X1_takeAmount rfl rfl rfl qX1_takeAmount ⟨Nat.le_of_ble_eq_true rfl, Nat.le_of_ble_eq_true rfl⟩) (mpVW hK hPc hDc (ci := 1) (q := (RX1, TX1, 8)) (q0 := 0) rfl rfl) rfl rfl hl.1 rfl (lv_room (Nat.le_of_ble_eq_true rfl)) dX1_readBound_54 ⟨Nat.zero_le _, Nat.zero_le _⟩) hPn hDn hS hA (fun r4 u H locs h hP hD hS => ?_)
      obtain ⟨t_wrong_v4, t_wrongAt_v4, t_kind_v4, t_at_v4, t_behind_v4⟩ := u
      have hP : va_P D vwCl [(A_t, .inr (1, [.ref A_t_tape, .ref A_t_draft, .int t_wrong_v4, .int t_wrongAt_v4, .int t_lines, .int t_kind_v4, .int t_at_v4, .int t_behind_v4])), (A_t_draft, .inr (5, [.ref A_t_draft_upper, .ref A_t_draft_lower, .ref A_t_draft_limits, .ref A_t_draft_stricts, .ref A_t_draft_marks, .int t_draft_size, .int t_draft_marked, .int t_draft_wholeness])), (A_t_tape, .inr (6, [.ref A_t_tape_bytes, .int t_tape_size])), (A_t_tape_bytes, .inl (cy 0, 320, .inl t_tape_bytes)), (A_t_draft_upper, .inl (cy 1, 24, .inl t_draft_upper)), (A_t_draft_lower, .inl (cy 1, 24, .inl t_draft_lower)), (A_t_draft_limits, .inl (cy 1, 24, .inl t_draft_limits)), (A_t_draft_stricts, .inl (cy 1, 24, .inl t_draft_stricts))] H := hP.sub [5, 0, 6, 7, 1, 2, 3, 4] rfl
      have hD : va_D A [(A_t, .inr (1, [.ref A_t_tape, .ref A_t_draft, .int t_wrong_v4, .int t_wrongAt_v4, .int t_lines, .int t_kind_v4, .int t_at_v4, .int t_behind_v4])), (A_t_draft, .inr (5, [.ref A_t_draft_upper, .ref A_t_draft_lower, .ref A_t_draft_limits, .ref A_t_draft_stricts, .ref A_t_draft_marks, .int t_draft_size, .int t_draft_marked, .int t_draft_wholeness])), (A_t_tape, .inr (6, [.ref A_t_tape_bytes, .int t_tape_size])), (A_t_tape_bytes, .inl (cy 0, 320, .inl t_tape_bytes)), (A_t_draft_upper, .inl (cy 1, 24, .inl t_draft_upper)), (A_t_draft_lower, .inl (cy 1, 24, .inl t_draft_lower)), (A_t_draft_limits, .inl (cy 1, 24, .inl t_draft_limits)), (A_t_draft_stricts, .inl (cy 1, 24, .inl t_draft_stricts))] := hD.sub [5, 0, 6, 7, 1, 2, 3, 4] (by decide) rfl
      try dsimp only at h
      refine lv_istore (lv' := [(5, .int r4), (4, .int r3), (3, .int r2), (2, .int k0), (0, .ref A_t), (1, .int x1)]) hx hb dX1_readBound_57 hl (by decide) rfl (fun ls hl => ?_)
      refine lv_aload_n hx hb dX1_readBound_59 rfl (lv_at hl 4 rfl) ?_
      refine va_get (D := D) (ci := 1) (v := .int t_wrong_v4) (C := RX1) (T := TX1) (N := 8) hx hb hts iX1 hown hK.1 hP 0 rfl rfl 2 (by decide) f2 (fun _ h9 => h9) rfl dX1_readBound_60 ?_
      refine lv_if_ne (tgt := 76) hx hb dX1_readBound_63 (by decide) (fun hc => ?_) (fun hc => ?_)
      · replace h := h.1 hc
        subst hQ
        subst hAe
        exact W.vret hx hb hr (fun t ht _ => ⟨⟨(t_wrong_v4, t_wrongAt_v4, t_kind_v4, t_at_v4, t_behind_v4, t_draft_size, t_draft_upper, t_draft_lower, t_draft_limits, t_draft_stricts), rfl, h, by rw [ht]; exact hP, hD⟩, hS.F ht⟩) hS.2.2 dX1_readBound_76
      · replace h := h.2 hc
        refine lv_aload_n hx hb dX1_readBound_66 rfl (lv_at hl 4 rfl) ?_
        refine lv_iload_n hx hb dX1_readBound_67 rfl (lv_at hl 5 rfl) ?_
        refine lv_iload_n hx hb dX1_readBound_68 rfl (lv_at hl 2 rfl) ?_
        refine lv_iload hx hb dX1_readBound_69 (lv_at hl 1 rfl) ?_
        refine lv_iload hx hb dX1_readBound_71 (lv_at hl 0 rfl) ?_
        have hPn : va_P D vwCl ([(A_t_tape, .inr (6, [.ref A_t_tape_bytes, .int t_tape_size])), (A_t_tape_bytes, .inl (cy 0, 320, .inl t_tape_bytes))] ++ [(A_t, .inr (1, [.ref A_t_tape, .ref A_t_draft, .int t_wrong_v4, .int t_wrongAt_v4, .int t_lines, .int t_kind_v4, .int t_at_v4, .int t_behind_v4])), (A_t_draft, .inr (5, [.ref A_t_draft_upper, .ref A_t_draft_lower, .ref A_t_draft_limits, .ref A_t_draft_stricts, .ref A_t_draft_marks, .int t_draft_size, .int t_draft_marked, .int t_draft_wholeness])), (A_t_draft_upper, .inl (cy 1, 24, .inl t_draft_upper)), (A_t_draft_lower, .inl (cy 1, 24, .inl t_draft_lower)), (A_t_draft_limits, .inl (cy 1, 24, .inl t_draft_limits)), (A_t_draft_stricts, .inl (cy 1, 24, .inl t_draft_stricts))]) H := hP.sub [2, 3, 0, 1, 4, 5, 6, 7] rfl
        have hDn : va_D A ([(A_t_tape, .inr (6, [.ref A_t_tape_bytes, .int t_tape_size])), (A_t_tape_bytes, .inl (cy 0, 320, .inl t_tape_bytes))] ++ [(A_t, .inr (1, [.ref A_t_tape, .ref A_t_draft, .int t_wrong_v4, .int t_wrongAt_v4, .int t_lines, .int t_kind_v4, .int t_at_v4, .int t_behind_v4])), (A_t_draft, .inr (5, [.ref A_t_draft_upper, .ref A_t_draft_lower, .ref A_t_draft_limits, .ref A_t_draft_stricts, .ref A_t_draft_marks, .int t_draft_size, .int t_draft_marked, .int t_draft_wholeness])), (A_t_draft_upper, .inl (cy 1, 24, .inl t_draft_upper)), (A_t_draft_lower, .inl (cy 1, 24, .inl t_draft_lower)), (A_t_draft_limits, .inl (cy 1, 24, .inl t_draft_limits)), (A_t_draft_stricts, .inl (cy 1, 24, .inl t_draft_stricts))]) := hD.sub [2, 3, 0, 1, 4, 5, 6, 7] (by decide) rfl
        have hPc := gPR hPn
        have hDc := gDR hDn
        refine mw_v (va_runV (As := [.int x1, .int r2, .int r3, .int r4]) (rest := []) CF (c_X1_putBounds l D cy H.size A_t A_t_tape A_t_draft A_t_draft_upper A_t_draft_lower A_t_draft_limits A_t_draft_stricts A_t_draft_marks t_wrong_v4 t_wrongAt_v4 t_lines t_kind_v4 t_at_v4 t_behind_v4 t_draft_size t_draft_marked t_draft_wholeness t_draft_upper t_draft_lower t_draft_limits t_draft_stricts x1 r2 r3 r4 _ h) (cwV 4 hts gX1_readBound_X1_putBounds rfl rfl rfl qX1_putBounds ⟨Nat.le_of_ble_eq_true rfl, Nat.le_of_ble_eq_true rfl⟩) (mpVW hK hPc hDc (ci := 1) (q := (RX1, TX1, 8)) (q0 := 0) rfl rfl) rfl rfl hl.1 rfl (lv_room (Nat.le_of_ble_eq_true rfl)) dX1_readBound_73 ⟨Nat.zero_le _, Nat.zero_le _⟩) hPn hDn hS hA (fun u H locs h hP hD hS => ?_)
        obtain ⟨t_draft_size_v5, t_draft_upper_v5, t_draft_lower_v5, t_draft_limits_v5, t_draft_stricts_v5⟩ := u
        have hP : va_P D vwCl [(A_t, .inr (1, [.ref A_t_tape, .ref A_t_draft, .int t_wrong_v4, .int t_wrongAt_v4, .int t_lines, .int t_kind_v4, .int t_at_v4, .int t_behind_v4])), (A_t_draft, .inr (5, [.ref A_t_draft_upper, .ref A_t_draft_lower, .ref A_t_draft_limits, .ref A_t_draft_stricts, .ref A_t_draft_marks, .int t_draft_size_v5, .int t_draft_marked, .int t_draft_wholeness])), (A_t_tape, .inr (6, [.ref A_t_tape_bytes, .int t_tape_size])), (A_t_tape_bytes, .inl (cy 0, 320, .inl t_tape_bytes)), (A_t_draft_upper, .inl (cy 1, 24, .inl t_draft_upper_v5)), (A_t_draft_lower, .inl (cy 1, 24, .inl t_draft_lower_v5)), (A_t_draft_limits, .inl (cy 1, 24, .inl t_draft_limits_v5)), (A_t_draft_stricts, .inl (cy 1, 24, .inl t_draft_stricts_v5))] H := hP.sub [2, 3, 0, 1, 4, 5, 6, 7] rfl
        have hD : va_D A [(A_t, .inr (1, [.ref A_t_tape, .ref A_t_draft, .int t_wrong_v4, .int t_wrongAt_v4, .int t_lines, .int t_kind_v4, .int t_at_v4, .int t_behind_v4])), (A_t_draft, .inr (5, [.ref A_t_draft_upper, .ref A_t_draft_lower, .ref A_t_draft_limits, .ref A_t_draft_stricts, .ref A_t_draft_marks, .int t_draft_size_v5, .int t_draft_marked, .int t_draft_wholeness])), (A_t_tape, .inr (6, [.ref A_t_tape_bytes, .int t_tape_size])), (A_t_tape_bytes, .inl (cy 0, 320, .inl t_tape_bytes)), (A_t_draft_upper, .inl (cy 1, 24, .inl t_draft_upper_v5)), (A_t_draft_lower, .inl (cy 1, 24, .inl t_draft_lower_v5)), (A_t_draft_limits, .inl (cy 1, 24, .inl t_draft_limits_v5)), (A_t_draft_stricts, .inl (cy 1, 24, .inl t_draft_stricts_v5))] := hD.sub [2, 3, 0, 1, 4, 5, 6, 7] (by decide) rfl
        try dsimp only at h
        subst hQ
        subst hAe
        exact W.vret hx hb hr (fun t ht _ => ⟨⟨(t_wrong_v4, t_wrongAt_v4, t_kind_v4, t_at_v4, t_behind_v4, t_draft_size_v5, t_draft_upper_v5, t_draft_lower_v5, t_draft_limits_v5, t_draft_stricts_v5), rfl, h, by rw [ht]; exact hP, hD⟩, hS.F ht⟩) hS.2.2 dX1_readBound_76
    · replace h := h.2 hc
      refine lv_aload_n hx hb dX1_readBound_25 rfl (lv_at hl 1 rfl) ?_
      refine lv_iconst (v := 5) hx hb dX1_readBound_26 (by decide) ?_
      refine lv_aload_n hx hb dX1_readBound_27 rfl (lv_at hl 1 rfl) ?_
      refine va_get (D := D) (ci := 1) (v := .int t_at) (C := RX1) (T := TX1) (N := 8) hx hb hts iX1 hown hK.1 hP 0 rfl rfl 6 (by decide) f3 (fun _ h9 => h9) rfl dX1_readBound_28 ?_
      have hPn : va_P D vwCl ([(A_t_draft, .inr (5, [.ref A_t_draft_upper, .ref A_t_draft_lower, .ref A_t_draft_limits, .ref A_t_draft_stricts, .ref A_t_draft_marks, .int t_draft_size, .int t_draft_marked, .int t_draft_wholeness])), (A_t_tape, .inr (6, [.ref A_t_tape_bytes, .int t_tape_size])), (A_t_tape_bytes, .inl (cy 0, 320, .inl t_tape_bytes)), (A_t_draft_upper, .inl (cy 1, 24, .inl t_draft_upper)), (A_t_draft_lower, .inl (cy 1, 24, .inl t_draft_lower)), (A_t_draft_limits, .inl (cy 1, 24, .inl t_draft_limits)), (A_t_draft_stricts, .inl (cy 1, 24, .inl t_draft_stricts))] ++ [(A_t, .inr (1, [.ref A_t_tape, .ref A_t_draft, .int t_wrong, .int t_wrongAt, .int t_lines, .int t_kind, .int t_at, .int t_behind]))]) H := hP.sub [1, 2, 3, 4, 5, 6, 7, 0] rfl
      have hDn : va_D A ([(A_t_draft, .inr (5, [.ref A_t_draft_upper, .ref A_t_draft_lower, .ref A_t_draft_limits, .ref A_t_draft_stricts, .ref A_t_draft_marks, .int t_draft_size, .int t_draft_marked, .int t_draft_wholeness])), (A_t_tape, .inr (6, [.ref A_t_tape_bytes, .int t_tape_size])), (A_t_tape_bytes, .inl (cy 0, 320, .inl t_tape_bytes)), (A_t_draft_upper, .inl (cy 1, 24, .inl t_draft_upper)), (A_t_draft_lower, .inl (cy 1, 24, .inl t_draft_lower)), (A_t_draft_limits, .inl (cy 1, 24, .inl t_draft_limits)), (A_t_draft_stricts, .inl (cy 1, 24, .inl t_draft_stricts))] ++ [(A_t, .inr (1, [.ref A_t_tape, .ref A_t_draft, .int t_wrong, .int t_wrongAt, .int t_lines, .int t_kind, .int t_at, .int t_behind]))]) := hD.sub [1, 2, 3, 4, 5, 6, 7, 0] (by decide) rfl
      have hPc := gPR hPn
      have hDc := gDR hDn
      refine mw_v (va_runV (As := [.int (5 : Int32), .int t_at]) (rest := []) CF (c_X1_fail l D cy H.size A_t A_t_tape A_t_draft t_wrong t_wrongAt t_lines t_kind t_at t_behind (5 : Int32) t_at _ h) (cwV 2 hts gX1_readBound_X1_fail rfl rfl rfl qX1_fail ⟨Nat.le_of_ble_eq_true rfl, Nat.le_of_ble_eq_true rfl⟩) (mpVW hK hPc hDc (ci := 1) (q := (RX1, TX1, 8)) (q0 := 0) rfl rfl) rfl rfl hl.1 rfl (lv_room (Nat.le_of_ble_eq_true rfl)) dX1_readBound_31 ⟨Nat.zero_le _, Nat.zero_le _⟩) hPn hDn hS hA (fun u H locs h hP hD hS => ?_)
      obtain ⟨t_wrong_v6, t_wrongAt_v6⟩ := u
      have hP : va_P D vwCl [(A_t, .inr (1, [.ref A_t_tape, .ref A_t_draft, .int t_wrong_v6, .int t_wrongAt_v6, .int t_lines, .int t_kind, .int t_at, .int t_behind])), (A_t_draft, .inr (5, [.ref A_t_draft_upper, .ref A_t_draft_lower, .ref A_t_draft_limits, .ref A_t_draft_stricts, .ref A_t_draft_marks, .int t_draft_size, .int t_draft_marked, .int t_draft_wholeness])), (A_t_tape, .inr (6, [.ref A_t_tape_bytes, .int t_tape_size])), (A_t_tape_bytes, .inl (cy 0, 320, .inl t_tape_bytes)), (A_t_draft_upper, .inl (cy 1, 24, .inl t_draft_upper)), (A_t_draft_lower, .inl (cy 1, 24, .inl t_draft_lower)), (A_t_draft_limits, .inl (cy 1, 24, .inl t_draft_limits)), (A_t_draft_stricts, .inl (cy 1, 24, .inl t_draft_stricts))] H := hP.sub [7, 0, 1, 2, 3, 4, 5, 6] rfl
      have hD : va_D A [(A_t, .inr (1, [.ref A_t_tape, .ref A_t_draft, .int t_wrong_v6, .int t_wrongAt_v6, .int t_lines, .int t_kind, .int t_at, .int t_behind])), (A_t_draft, .inr (5, [.ref A_t_draft_upper, .ref A_t_draft_lower, .ref A_t_draft_limits, .ref A_t_draft_stricts, .ref A_t_draft_marks, .int t_draft_size, .int t_draft_marked, .int t_draft_wholeness])), (A_t_tape, .inr (6, [.ref A_t_tape_bytes, .int t_tape_size])), (A_t_tape_bytes, .inl (cy 0, 320, .inl t_tape_bytes)), (A_t_draft_upper, .inl (cy 1, 24, .inl t_draft_upper)), (A_t_draft_lower, .inl (cy 1, 24, .inl t_draft_lower)), (A_t_draft_limits, .inl (cy 1, 24, .inl t_draft_limits)), (A_t_draft_stricts, .inl (cy 1, 24, .inl t_draft_stricts))] := hD.sub [7, 0, 1, 2, 3, 4, 5, 6] (by decide) rfl
      try dsimp only at h
      subst hQ
      subst hAe
      exact W.vret hx hb hr (fun t ht _ => ⟨⟨(t_wrong_v6, t_wrongAt_v6, t_kind, t_at, t_behind, t_draft_size, t_draft_upper, t_draft_lower, t_draft_limits, t_draft_stricts), rfl, h, by rw [ht]; exact hP, hD⟩, hS.F ht⟩) hS.2.2 dX1_readBound_34
  unfold P_X1_readBound at h
  refine lv_iload_n hx hb dX1_readBound_0 rfl (lv_at hl 1 rfl) ?_
  refine lv_iconst (v := 5) hx hb dX1_readBound_1 (by decide) ?_
  refine lv_icmp_ne (tgt := 9) hx hb dX1_readBound_2 (by decide) (fun hc => ?_) (fun hc => ?_)
  · replace h := h.1 hc
    refine lv_iconst (v := 1) hx hb dX1_readBound_9 (by decide) ?_
    exact J10 t_wrong t_wrongAt t_kind t_at t_behind t_draft_size t_draft_upper t_draft_lower t_draft_limits t_draft_stricts (1 : Int32) s.heap [] ls h hP hD hS (lv_sub hl [0, 1] rfl)
  · replace h := h.2 hc
    refine lv_iconst (v := 2) hx hb dX1_readBound_5 (by decide) ?_
    refine lv_goto (tgt := 10) hx hb dX1_readBound_6 (by decide) ?_
    exact J10 t_wrong t_wrongAt t_kind t_at t_behind t_draft_size t_draft_upper t_draft_lower t_draft_limits t_draft_stricts (2 : Int32) s.heap [] ls h hP hD hS (lv_sub hl [0, 1] rfl)
theorem qX1_takeStop : yX1_takeStop.cls = RX1 ∧ yX1_takeStop.cls ≠ "java/lang/invoke/MethodHandle" ∧ yX1_takeStop.cls ≠ "java/lang/invoke/VarHandle" ∧ (parseMethodDescriptor yX1_takeStop.desc).map (fun d => d.parameters.length) = some 0 := by decide +kernel
def B_X1_takeStop_15 (post : Int32 → Int32 → Int32 → Int32 → Int32 → Int32 → Prop) (t_wrong : Int32) (t_wrongAt : Int32) (t_lines : Int32) (t_kind : Int32) (t_at : Int32) (t_behind : Int32) : Prop :=
  P_X1_fail (fun (t_wrong_v1 : Int32) (t_wrongAt_v1 : Int32) => post t_wrong_v1 t_wrongAt_v1 t_lines t_kind t_at t_behind) t_wrong t_wrongAt (2 : Int32) t_at
def P_X1_takeStop (post : Int32 → Int32 → Int32 → Int32 → Int32 → Int32 → Prop) (t_wrong : Int32) (t_wrongAt : Int32) (t_lines : Int32) (t_kind : Int32) (t_at : Int32) (t_behind : Int32) (t_tape_size : Int32) (t_tape_bytes : Nat → Int32) : Prop :=
  ((¬ t_wrong = 0 → B_X1_takeStop_15 post t_wrong t_wrongAt t_lines t_kind t_at t_behind) ∧ (t_wrong = 0 → ((t_kind = (4 : Int32) → P_X1_next (fun (t_wrong_v2 : Int32) (t_wrongAt_v2 : Int32) (t_kind_v2 : Int32) (t_at_v2 : Int32) (t_behind_v2 : Int32) => post t_wrong_v2 t_wrongAt_v2 (t_lines + (1 : Int32)) t_kind_v2 t_at_v2 t_behind_v2) t_wrong t_wrongAt t_behind t_tape_size t_tape_bytes) ∧ (¬ t_kind = (4 : Int32) → B_X1_takeStop_15 post t_wrong t_wrongAt t_lines t_kind t_at t_behind))))
set_option maxHeartbeats 4000000 in
set_option maxRecDepth 100000 in
theorem c_X1_takeStop (l : Launch) (D : va_G) (cy : Nat → ClassId) (sz : Nat) (A_t A_t_tape A_t_draft A_t_tape_bytes : Nat) (t_wrong : Int32) (t_wrongAt : Int32) (t_lines : Int32) (t_kind : Int32) (t_at : Int32) (t_behind : Int32) (t_tape_size : Int32) (t_tape_bytes : Nat → Int32) (post : Int32 → Int32 → Int32 → Int32 → Int32 → Int32 → Prop) (h : P_X1_takeStop post t_wrong t_wrongAt t_lines t_kind t_at t_behind t_tape_size t_tape_bytes) : Met l yX1_takeStop wsX1_takeStop { frames := 3, cells := 0, slots := 0, locals := 62 } (pcW D cy [(A_t, .inr (1, [.ref A_t_tape, .ref A_t_draft, .int t_wrong, .int t_wrongAt, .int t_lines, .int t_kind, .int t_at, .int t_behind])), (A_t_tape, .inr (6, [.ref A_t_tape_bytes, .int t_tape_size])), (A_t_tape_bytes, .inl (cy 0, 320, .inl t_tape_bytes))] sz [.ref A_t]) (va_Qv (fun (u : Int32 × Int32 × Int32 × Int32 × Int32 × Int32) => post u.1 u.2.1 u.2.2.1 u.2.2.2.1 u.2.2.2.2.1 u.2.2.2.2.2) (bW D [(A_t, .inr (1, [.ref A_t_tape, .ref A_t_draft, .int t_wrong, .int t_wrongAt, .int t_lines, .int t_kind, .int t_at, .int t_behind])), (A_t_tape, .inr (6, [.ref A_t_tape_bytes, .int t_tape_size])), (A_t_tape_bytes, .inl (cy 0, 320, .inl t_tape_bytes))] sz (fun u => [(A_t, .inr (1, [.ref A_t_tape, .ref A_t_draft, .int (u.1), .int (u.2.1), .int (u.2.2.1), .int (u.2.2.2.1), .int (u.2.2.2.2.1), .int (u.2.2.2.2.2)])), (A_t_tape, .inr (6, [.ref A_t_tape_bytes, .int t_tape_size])), (A_t_tape_bytes, .inl (cy 0, 320, .inl t_tape_bytes))])) (va_A [(A_t, .inr (1, [.ref A_t_tape, .ref A_t_draft, .int t_wrong, .int t_wrongAt, .int t_lines, .int t_kind, .int t_at, .int t_behind])), (A_t_tape, .inr (6, [.ref A_t_tape_bytes, .int t_tape_size])), (A_t_tape_bytes, .inl (cy 0, 320, .inl t_tape_bytes))] sz)) 0 0 (va_A [(A_t, .inr (1, [.ref A_t_tape, .ref A_t_draft, .int t_wrong, .int t_wrongAt, .int t_lines, .int t_kind, .int t_at, .int t_behind])), (A_t_tape, .inr (6, [.ref A_t_tape_bytes, .int t_tape_size])), (A_t_tape_bytes, .inl (cy 0, 320, .inl t_tape_bytes))] sz) := by
  refine Met.ofW (cc := cX1_takeStop) (maxL := 1) (ret := none) (by decide) rfl ?_
  intro p e s m args below meth c s₁ B hml hv
  obtain ⟨rfl, hsz, hP, hK, hD0⟩ := hv
  have hx := B.exec
  have hb := B.bytes
  have hr := B.returns
  have hts := atoms_spec (ws := wsX1_takeStop) B.pre
  have hown : s.vm.findClass RX1 = some m.cls := findClass_of_methodNamed B.named
  have hlocks := B.notSynchronized
  have CF : CallFix p m c cX1_takeStop 1 s ([.ref A_t] : List Value).toArray wsX1_takeStop RX1 := ⟨hx, hb, hml, hown, hts⟩
  have f0 := hts (.fieldLink RX1 28 "GapBounds$Reader" "wrong" "I") (by decide +kernel)
  have f1 := hts (.fieldLink RX1 51 "GapBounds$Reader" "at" "I") (by decide +kernel)
  have f2 := hts (.fieldLink RX1 44 "GapBounds$Reader" "kind" "I") (by decide +kernel)
  have f3 := hts (.fieldLink RX1 35 "GapBounds$Reader" "lines" "I") (by decide +kernel)
  have iX1 : ∀ w ∈ u_ws RX1 TX1 8, w ∈ wsX1_takeStop := by decide +kernel
  subst hsz
  obtain ⟨A, hAe⟩ : ∃ A, A = va_A [(A_t, .inr (1, [.ref A_t_tape, .ref A_t_draft, .int t_wrong, .int t_wrongAt, .int t_lines, .int t_kind, .int t_at, .int t_behind])), (A_t_tape, .inr (6, [.ref A_t_tape_bytes, .int t_tape_size])), (A_t_tape_bytes, .inl (cy 0, 320, .inl t_tape_bytes))] s.heap.size := ⟨_, rfl⟩
  have hD : va_D A [(A_t, .inr (1, [.ref A_t_tape, .ref A_t_draft, .int t_wrong, .int t_wrongAt, .int t_lines, .int t_kind, .int t_at, .int t_behind])), (A_t_tape, .inr (6, [.ref A_t_tape_bytes, .int t_tape_size])), (A_t_tape_bytes, .inl (cy 0, 320, .inl t_tape_bytes))] := by rw [hAe]; exact hD0.self
  have hA : ∀ q : Nat, s.heap.size ≤ q → A q := fun q hq => by rw [hAe]; exact Or.inr hq
  have hS : va_S A s.heap s.heap [] := va_S.rf
  have hl := lv_entry [.ref A_t] (n := 1) (Nat.le_of_ble_eq_true rfl)
  rw [lg_entry_eq]
  generalize (lg_sl [.ref A_t] ++ List.replicate (1 - (lg_sl [.ref A_t]).length) Slot.unset).toArray = ls at hl ⊢
  have hl : lv_has ls 1 [(0, .ref A_t)] := hl
  refine W.gen (fun Q0 hQ => ?_)
  have J15 : ∀ (t_wrong : Int32) (t_wrongAt : Int32) (t_lines : Int32) (t_kind : Int32) (t_at : Int32) (t_behind : Int32) (H : Heap) (locs : List Loc) (ls : Array Slot), B_X1_takeStop_15 post t_wrong t_wrongAt t_lines t_kind t_at t_behind → va_P D vwCl [(A_t, .inr (1, [.ref A_t_tape, .ref A_t_draft, .int t_wrong, .int t_wrongAt, .int t_lines, .int t_kind, .int t_at, .int t_behind])), (A_t_tape, .inr (6, [.ref A_t_tape_bytes, .int t_tape_size])), (A_t_tape_bytes, .inl (cy 0, 320, .inl t_tape_bytes))] H → va_D A [(A_t, .inr (1, [.ref A_t_tape, .ref A_t_draft, .int t_wrong, .int t_wrongAt, .int t_lines, .int t_kind, .int t_at, .int t_behind])), (A_t_tape, .inr (6, [.ref A_t_tape_bytes, .int t_tape_size])), (A_t_tape_bytes, .inl (cy 0, 320, .inl t_tape_bytes))] → va_S A s.heap H locs → lv_has ls 1 [(0, .ref A_t)] → W p l e (headSpec wsX1_takeStop { frames := 3, cells := 0, slots := 0, locals := 62 }).room s m ([.ref A_t] : List Value).toArray below meth c H locs 0 0 Q0 (F0 m 15 ls []) := by
    intro t_wrong t_wrongAt t_lines t_kind t_at t_behind H locs ls h hP hD hS hl
    unfold B_X1_takeStop_15 at h
    refine lv_aload_n hx hb dX1_takeStop_15 rfl (lv_at hl 0 rfl) ?_
    refine lv_iconst (v := 2) hx hb dX1_takeStop_16 (by decide) ?_
    refine lv_aload_n hx hb dX1_takeStop_17 rfl (lv_at hl 0 rfl) ?_
    refine va_get (D := D) (ci := 1) (v := .int t_at) (C := RX1) (T := TX1) (N := 8) hx hb hts iX1 hown hK.1 hP 0 rfl rfl 6 (by decide) f1 (fun _ h9 => h9) rfl dX1_takeStop_18 ?_
    have hPn : va_P D vwCl ([(A_t_tape, .inr (6, [.ref A_t_tape_bytes, .int t_tape_size])), (A_t_tape_bytes, .inl (cy 0, 320, .inl t_tape_bytes))] ++ [(A_t, .inr (1, [.ref A_t_tape, .ref A_t_draft, .int t_wrong, .int t_wrongAt, .int t_lines, .int t_kind, .int t_at, .int t_behind]))]) H := hP.sub [1, 2, 0] rfl
    have hDn : va_D A ([(A_t_tape, .inr (6, [.ref A_t_tape_bytes, .int t_tape_size])), (A_t_tape_bytes, .inl (cy 0, 320, .inl t_tape_bytes))] ++ [(A_t, .inr (1, [.ref A_t_tape, .ref A_t_draft, .int t_wrong, .int t_wrongAt, .int t_lines, .int t_kind, .int t_at, .int t_behind]))]) := hD.sub [1, 2, 0] (by decide) rfl
    have hPc := gPR hPn
    have hDc := gDR hDn
    refine mw_v (va_runV (As := [.int (2 : Int32), .int t_at]) (rest := []) CF (c_X1_fail l D cy H.size A_t A_t_tape A_t_draft t_wrong t_wrongAt t_lines t_kind t_at t_behind (2 : Int32) t_at _ h) (cwV 2 hts gX1_takeStop_X1_fail rfl rfl rfl qX1_fail ⟨Nat.le_of_ble_eq_true rfl, Nat.le_of_ble_eq_true rfl⟩) (mpVW hK hPc hDc (ci := 1) (q := (RX1, TX1, 8)) (q0 := 0) rfl rfl) rfl rfl hl.1 rfl (lv_room (Nat.le_of_ble_eq_true rfl)) dX1_takeStop_21 ⟨Nat.zero_le _, Nat.zero_le _⟩) hPn hDn hS hA (fun u H locs h hP hD hS => ?_)
    obtain ⟨t_wrong_v1, t_wrongAt_v1⟩ := u
    have hP : va_P D vwCl [(A_t, .inr (1, [.ref A_t_tape, .ref A_t_draft, .int t_wrong_v1, .int t_wrongAt_v1, .int t_lines, .int t_kind, .int t_at, .int t_behind])), (A_t_tape, .inr (6, [.ref A_t_tape_bytes, .int t_tape_size])), (A_t_tape_bytes, .inl (cy 0, 320, .inl t_tape_bytes))] H := hP.sub [2, 0, 1] rfl
    have hD : va_D A [(A_t, .inr (1, [.ref A_t_tape, .ref A_t_draft, .int t_wrong_v1, .int t_wrongAt_v1, .int t_lines, .int t_kind, .int t_at, .int t_behind])), (A_t_tape, .inr (6, [.ref A_t_tape_bytes, .int t_tape_size])), (A_t_tape_bytes, .inl (cy 0, 320, .inl t_tape_bytes))] := hD.sub [2, 0, 1] (by decide) rfl
    try dsimp only at h
    subst hQ
    subst hAe
    exact W.vret hx hb hr (fun t ht _ => ⟨⟨(t_wrong_v1, t_wrongAt_v1, t_lines, t_kind, t_at, t_behind), rfl, h, by rw [ht]; exact hP, hD⟩, hS.F ht⟩) hS.2.2 dX1_takeStop_24
  unfold P_X1_takeStop at h
  refine lv_aload_n hx hb dX1_takeStop_0 rfl (lv_at hl 0 rfl) ?_
  refine va_get (D := D) (ci := 1) (v := .int t_wrong) (C := RX1) (T := TX1) (N := 8) hx hb hts iX1 hown hK.1 hP 0 rfl rfl 2 (by decide) f0 (fun _ h9 => h9) rfl dX1_takeStop_1 ?_
  refine lv_if_ne (tgt := 15) hx hb dX1_takeStop_4 (by decide) (fun hc => ?_) (fun hc => ?_)
  · replace h := h.1 hc
    exact J15 t_wrong t_wrongAt t_lines t_kind t_at t_behind s.heap [] ls h hP hD hS (lv_sub hl [0] rfl)
  · replace h := h.2 hc
    refine lv_aload_n hx hb dX1_takeStop_7 rfl (lv_at hl 0 rfl) ?_
    refine va_get (D := D) (ci := 1) (v := .int t_kind) (C := RX1) (T := TX1) (N := 8) hx hb hts iX1 hown hK.1 hP 0 rfl rfl 5 (by decide) f2 (fun _ h9 => h9) rfl dX1_takeStop_8 ?_
    refine lv_iconst (v := 4) hx hb dX1_takeStop_11 (by decide) ?_
    refine lv_icmp_eq (tgt := 25) hx hb dX1_takeStop_12 (by decide) (fun hc => ?_) (fun hc => ?_)
    · replace h := h.1 hc
      refine lv_aload_n hx hb dX1_takeStop_25 rfl (lv_at hl 0 rfl) ?_
      refine lv_dup hx hb dX1_takeStop_26 rfl ?_
      refine va_get (D := D) (ci := 1) (v := .int t_lines) (C := RX1) (T := TX1) (N := 8) hx hb hts iX1 hown hK.1 hP 0 rfl rfl 4 (by decide) f3 (fun _ h9 => h9) rfl dX1_takeStop_27 ?_
      refine lv_iconst (v := 1) hx hb dX1_takeStop_30 (by decide) ?_
      refine lv_iadd hx hb dX1_takeStop_31 ?_
      refine va_put (D := D) (ci := 1) (v := .int (t_lines + (1 : Int32))) (ty := .int) (C := RX1) (T := TX1) (N := 8) hx hb hts iX1 tyX1 tyX1_ok nmX1 hown hK.1 hP hD hS 0 rfl rfl 4 (by decide) f3 (fun _ h9 => h9) rfl (tyX1_ok 4 (by decide)) rfl rfl (Nat.le_of_ble_eq_true rfl) dX1_takeStop_32 (fun H locs hP hD hS => ?_)
      have hP : va_P D vwCl [(A_t, .inr (1, [.ref A_t_tape, .ref A_t_draft, .int t_wrong, .int t_wrongAt, .int (t_lines + (1 : Int32)), .int t_kind, .int t_at, .int t_behind])), (A_t_tape, .inr (6, [.ref A_t_tape_bytes, .int t_tape_size])), (A_t_tape_bytes, .inl (cy 0, 320, .inl t_tape_bytes))] H := hP
      have hD : va_D A [(A_t, .inr (1, [.ref A_t_tape, .ref A_t_draft, .int t_wrong, .int t_wrongAt, .int (t_lines + (1 : Int32)), .int t_kind, .int t_at, .int t_behind])), (A_t_tape, .inr (6, [.ref A_t_tape_bytes, .int t_tape_size])), (A_t_tape_bytes, .inl (cy 0, 320, .inl t_tape_bytes))] := hD
      refine lv_aload_n hx hb dX1_takeStop_35 rfl (lv_at hl 0 rfl) ?_
      have hPn : va_P D vwCl ([] ++ [(A_t, .inr (1, [.ref A_t_tape, .ref A_t_draft, .int t_wrong, .int t_wrongAt, .int (t_lines + (1 : Int32)), .int t_kind, .int t_at, .int t_behind])), (A_t_tape, .inr (6, [.ref A_t_tape_bytes, .int t_tape_size])), (A_t_tape_bytes, .inl (cy 0, 320, .inl t_tape_bytes))]) H := hP.sub [0, 1, 2] rfl
      have hDn : va_D A ([] ++ [(A_t, .inr (1, [.ref A_t_tape, .ref A_t_draft, .int t_wrong, .int t_wrongAt, .int (t_lines + (1 : Int32)), .int t_kind, .int t_at, .int t_behind])), (A_t_tape, .inr (6, [.ref A_t_tape_bytes, .int t_tape_size])), (A_t_tape_bytes, .inl (cy 0, 320, .inl t_tape_bytes))]) := hD.sub [0, 1, 2] (by decide) rfl
      have hPc := gPR hPn
      have hDc := gDR hDn
      refine mw_v (va_runV (As := []) (rest := []) CF (c_X1_next l D cy H.size A_t A_t_tape A_t_draft A_t_tape_bytes t_wrong t_wrongAt (t_lines + (1 : Int32)) t_kind t_at t_behind t_tape_size t_tape_bytes _ h) (cwV 0 hts gX1_takeStop_X1_next rfl rfl rfl qX1_next ⟨Nat.le_of_ble_eq_true rfl, Nat.le_of_ble_eq_true rfl⟩) (mpVW hK hPc hDc (ci := 1) (q := (RX1, TX1, 8)) (q0 := 0) rfl rfl) rfl rfl hl.1 rfl (lv_room (Nat.le_of_ble_eq_true rfl)) dX1_takeStop_36 ⟨Nat.zero_le _, Nat.zero_le _⟩) hPn hDn hS hA (fun u H locs h hP hD hS => ?_)
      obtain ⟨t_wrong_v2, t_wrongAt_v2, t_kind_v2, t_at_v2, t_behind_v2⟩ := u
      have hP : va_P D vwCl [(A_t, .inr (1, [.ref A_t_tape, .ref A_t_draft, .int t_wrong_v2, .int t_wrongAt_v2, .int (t_lines + (1 : Int32)), .int t_kind_v2, .int t_at_v2, .int t_behind_v2])), (A_t_tape, .inr (6, [.ref A_t_tape_bytes, .int t_tape_size])), (A_t_tape_bytes, .inl (cy 0, 320, .inl t_tape_bytes))] H := hP.sub [0, 1, 2] rfl
      have hD : va_D A [(A_t, .inr (1, [.ref A_t_tape, .ref A_t_draft, .int t_wrong_v2, .int t_wrongAt_v2, .int (t_lines + (1 : Int32)), .int t_kind_v2, .int t_at_v2, .int t_behind_v2])), (A_t_tape, .inr (6, [.ref A_t_tape_bytes, .int t_tape_size])), (A_t_tape_bytes, .inl (cy 0, 320, .inl t_tape_bytes))] := hD.sub [0, 1, 2] (by decide) rfl
      try dsimp only at h
      subst hQ
      subst hAe
      exact W.vret hx hb hr (fun t ht _ => ⟨⟨(t_wrong_v2, t_wrongAt_v2, t_lines + (1 : Int32), t_kind_v2, t_at_v2, t_behind_v2), rfl, h, by rw [ht]; exact hP, hD⟩, hS.F ht⟩) hS.2.2 dX1_takeStop_39
    · replace h := h.2 hc
      exact J15 t_wrong t_wrongAt t_lines t_kind t_at t_behind s.heap [] ls h hP hD hS (lv_sub hl [0] rfl)
