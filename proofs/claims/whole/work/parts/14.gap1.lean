theorem qX7_feed : yX7_feed.cls = RX7 ∧ yX7_feed.cls ≠ "java/lang/invoke/MethodHandle" ∧ yX7_feed.cls ≠ "java/lang/invoke/VarHandle" ∧ (parseMethodDescriptor yX7_feed.desc).map (fun d => d.parameters.length) = some 1 := by decide +kernel
def P_X7_feed (post : Int32 → Int32 → (Nat → Int32) → Prop) (t_tape_size : Int32) (t_tape_bytes : Nat → Int32) (x1 : Int32) : Prop :=
  ((x1 < 0 → post (-1 : Int32) t_tape_size t_tape_bytes) ∧ (¬ x1 < 0 → ((x1 ≤ (127 : Int32) → ((t_tape_size < (320 : Int32) → (vp_in t_tape_size 320 ∧ post (t_tape_size + (1 : Int32)) (t_tape_size + (1 : Int32)) (upd t_tape_bytes t_tape_size.toNatClampNeg (vp_nar .byte x1.toInt8.toInt32)))) ∧ (¬ t_tape_size < (320 : Int32) → post (-3 : Int32) t_tape_size t_tape_bytes))) ∧ (¬ x1 ≤ (127 : Int32) → post (-1 : Int32) t_tape_size t_tape_bytes))))
set_option maxHeartbeats 4000000 in
set_option maxRecDepth 100000 in
theorem c_X7_feed (l : Launch) (D : va_G) (cy : Nat → ClassId) (sz : Nat) (A_t A_t_tape A_t_now A_t_images A_t_imageMade A_t_sheets A_t_rows A_t_clash A_t_span A_t_reader A_t_tape_bytes : Nat) (t_latestTorn : Int32) (t_tape_size : Int32) (t_tape_bytes : Nat → Int32) (x1 : Int32) (post : Int32 → Int32 → (Nat → Int32) → Prop) (h : P_X7_feed post t_tape_size t_tape_bytes x1) : Met l yX7_feed wsX7_feed { frames := 0, cells := 0, slots := 0, locals := 0 } (pcW D cy [(A_t, .inr (7, [.ref A_t_tape, .ref A_t_now, .ref A_t_images, .ref A_t_imageMade, .ref A_t_sheets, .ref A_t_rows, .ref A_t_clash, .ref A_t_span, .ref A_t_reader, .int t_latestTorn])), (A_t_tape, .inr (6, [.ref A_t_tape_bytes, .int t_tape_size])), (A_t_tape_bytes, .inl (cy 0, 320, .inl t_tape_bytes))] sz [.ref A_t, .int x1]) (va_Qi (fun r (u : Int32 × (Nat → Int32)) => post r u.1 u.2) (bW D [(A_t, .inr (7, [.ref A_t_tape, .ref A_t_now, .ref A_t_images, .ref A_t_imageMade, .ref A_t_sheets, .ref A_t_rows, .ref A_t_clash, .ref A_t_span, .ref A_t_reader, .int t_latestTorn])), (A_t_tape, .inr (6, [.ref A_t_tape_bytes, .int t_tape_size])), (A_t_tape_bytes, .inl (cy 0, 320, .inl t_tape_bytes))] sz (fun u => [(A_t, .inr (7, [.ref A_t_tape, .ref A_t_now, .ref A_t_images, .ref A_t_imageMade, .ref A_t_sheets, .ref A_t_rows, .ref A_t_clash, .ref A_t_span, .ref A_t_reader, .int t_latestTorn])), (A_t_tape, .inr (6, [.ref A_t_tape_bytes, .int (u.1)])), (A_t_tape_bytes, .inl (cy 0, 320, .inl u.2))])) (va_A [(A_t, .inr (7, [.ref A_t_tape, .ref A_t_now, .ref A_t_images, .ref A_t_imageMade, .ref A_t_sheets, .ref A_t_rows, .ref A_t_clash, .ref A_t_span, .ref A_t_reader, .int t_latestTorn])), (A_t_tape, .inr (6, [.ref A_t_tape_bytes, .int t_tape_size])), (A_t_tape_bytes, .inl (cy 0, 320, .inl t_tape_bytes))] sz)) 0 0 (va_A [(A_t, .inr (7, [.ref A_t_tape, .ref A_t_now, .ref A_t_images, .ref A_t_imageMade, .ref A_t_sheets, .ref A_t_rows, .ref A_t_clash, .ref A_t_span, .ref A_t_reader, .int t_latestTorn])), (A_t_tape, .inr (6, [.ref A_t_tape_bytes, .int t_tape_size])), (A_t_tape_bytes, .inl (cy 0, 320, .inl t_tape_bytes))] sz) := by
  refine Met.ofW (cc := cX7_feed) (maxL := 2) (ret := (some .int)) (by decide) rfl ?_
  intro p e s m args below meth c s₁ B hml hv
  obtain ⟨rfl, hsz, hP, hK, hD0⟩ := hv
  have hx := B.exec
  have hb := B.bytes
  have hr := B.returns
  have hts := atoms_spec (ws := wsX7_feed) B.pre
  have hown : s.vm.findClass RX7 = some m.cls := findClass_of_methodNamed B.named
  have hlocks := B.notSynchronized
  have CF : CallFix p m c cX7_feed 2 s ([.ref A_t, .int x1] : List Value).toArray wsX7_feed RX7 := ⟨hx, hb, hml, hown, hts⟩
  have f0 := hts (.fieldLink RX7 63 "GapBounds" "tape" "LGapBounds$Tape;") (by decide +kernel)
  have f1 := hts (.fieldLink RX7 68 "GapBounds$Tape" "size" "I") (by decide +kernel)
  have f2 := hts (.fieldLink RX7 73 "GapBounds$Tape" "bytes" "[B") (by decide +kernel)
  have iX6 : ∀ w ∈ u_ws RX6 TX6 2, w ∈ wsX7_feed := by decide +kernel
  have iX7 : ∀ w ∈ u_ws RX7 TX7 10, w ∈ wsX7_feed := by decide +kernel
  subst hsz
  obtain ⟨A, hAe⟩ : ∃ A, A = va_A [(A_t, .inr (7, [.ref A_t_tape, .ref A_t_now, .ref A_t_images, .ref A_t_imageMade, .ref A_t_sheets, .ref A_t_rows, .ref A_t_clash, .ref A_t_span, .ref A_t_reader, .int t_latestTorn])), (A_t_tape, .inr (6, [.ref A_t_tape_bytes, .int t_tape_size])), (A_t_tape_bytes, .inl (cy 0, 320, .inl t_tape_bytes))] s.heap.size := ⟨_, rfl⟩
  have hD : va_D A [(A_t, .inr (7, [.ref A_t_tape, .ref A_t_now, .ref A_t_images, .ref A_t_imageMade, .ref A_t_sheets, .ref A_t_rows, .ref A_t_clash, .ref A_t_span, .ref A_t_reader, .int t_latestTorn])), (A_t_tape, .inr (6, [.ref A_t_tape_bytes, .int t_tape_size])), (A_t_tape_bytes, .inl (cy 0, 320, .inl t_tape_bytes))] := by rw [hAe]; exact hD0.self
  have hA : ∀ q : Nat, s.heap.size ≤ q → A q := fun q hq => by rw [hAe]; exact Or.inr hq
  have hS : va_S A s.heap s.heap [] := va_S.rf
  have hl := lv_entry [.ref A_t, .int x1] (n := 2) (Nat.le_of_ble_eq_true rfl)
  rw [lg_entry_eq]
  generalize (lg_sl [.ref A_t, .int x1] ++ List.replicate (2 - (lg_sl [.ref A_t, .int x1]).length) Slot.unset).toArray = ls at hl ⊢
  have hl : lv_has ls 2 [(0, .ref A_t), (1, .int x1)] := hl
  refine W.gen (fun Q0 hQ => ?_)
  unfold P_X7_feed at h
  refine lv_iload_n hx hb dX7_feed_0 rfl (lv_at hl 1 rfl) ?_
  refine lv_if_lt (tgt := 10) hx hb dX7_feed_1 (by decide) (fun hc => ?_) (fun hc => ?_)
  · replace h := h.1 hc
    refine lv_iconst (v := -1) hx hb dX7_feed_10 (by decide) ?_
    subst hQ
    subst hAe
    exact W.iret (v := (-1 : Int32)) hx hb hr (fun t ht _ => ⟨⟨(-1 : Int32), (t_tape_size, t_tape_bytes), rfl, h, by rw [ht]; exact hP, hD⟩, hS.F ht⟩) hS.2.2 dX7_feed_11
  · replace h := h.2 hc
    refine lv_iload_n hx hb dX7_feed_4 rfl (lv_at hl 1 rfl) ?_
    refine lv_bipush (v := 127) hx hb dX7_feed_5 (by decide) ?_
    refine lv_icmp_le (tgt := 12) hx hb dX7_feed_7 (by decide) (fun hc => ?_) (fun hc => ?_)
    · replace h := h.1 hc
      refine lv_aload_n hx hb dX7_feed_12 rfl (lv_at hl 0 rfl) ?_
      refine va_get (D := D) (ci := 7) (v := .ref A_t_tape) (C := RX7) (T := TX7) (N := 10) hx hb hts iX7 hown hK.1 hP 0 rfl rfl 0 (by decide) f0 (fun _ h9 => h9) rfl dX7_feed_13 ?_
      refine va_get (D := D) (ci := 6) (v := .int t_tape_size) (C := RX6) (T := TX6) (N := 2) hx hb hts iX6 hown hK.1 hP 1 rfl rfl 1 (by decide) f1 (fun _ h9 => h9) rfl dX7_feed_16 ?_
      refine lv_sipush (v := 320) hx hb dX7_feed_19 (by decide) ?_
      refine lv_icmp_lt (tgt := 28) hx hb dX7_feed_22 (by decide) (fun hc => ?_) (fun hc => ?_)
      · replace h := h.1 hc
        refine lv_aload_n hx hb dX7_feed_28 rfl (lv_at hl 0 rfl) ?_
        refine va_get (D := D) (ci := 7) (v := .ref A_t_tape) (C := RX7) (T := TX7) (N := 10) hx hb hts iX7 hown hK.1 hP 0 rfl rfl 0 (by decide) f0 (fun _ h9 => h9) rfl dX7_feed_29 ?_
        refine va_get (D := D) (ci := 6) (v := .ref A_t_tape_bytes) (C := RX6) (T := TX6) (N := 2) hx hb hts iX6 hown hK.1 hP 1 rfl rfl 0 (by decide) f2 (fun _ h9 => h9) rfl dX7_feed_32 ?_
        refine lv_aload_n hx hb dX7_feed_35 rfl (lv_at hl 0 rfl) ?_
        refine va_get (D := D) (ci := 7) (v := .ref A_t_tape) (C := RX7) (T := TX7) (N := 10) hx hb hts iX7 hown hK.1 hP 0 rfl rfl 0 (by decide) f0 (fun _ h9 => h9) rfl dX7_feed_36 ?_
        refine va_get (D := D) (ci := 6) (v := .int t_tape_size) (C := RX6) (T := TX6) (N := 2) hx hb hts iX6 hown hK.1 hP 1 rfl rfl 1 (by decide) f1 (fun _ h9 => h9) rfl dX7_feed_39 ?_
        refine lv_iload_n hx hb dX7_feed_42 rfl (lv_at hl 1 rfl) ?_
        refine lv_i2b (v := x1.toInt8.toInt32) hx hb dX7_feed_43 rfl ?_
        refine va_bast hx hb hK.1 hP hD hS 2 0 rfl rfl h.1 dX7_feed_44 (fun H locs hP hD hS => ?_)
        replace h := h.2
        have hP : va_P D vwCl [(A_t, .inr (7, [.ref A_t_tape, .ref A_t_now, .ref A_t_images, .ref A_t_imageMade, .ref A_t_sheets, .ref A_t_rows, .ref A_t_clash, .ref A_t_span, .ref A_t_reader, .int t_latestTorn])), (A_t_tape, .inr (6, [.ref A_t_tape_bytes, .int t_tape_size])), (A_t_tape_bytes, .inl (cy 0, 320, .inl (upd t_tape_bytes t_tape_size.toNatClampNeg (vp_nar .byte x1.toInt8.toInt32))))] H := hP
        have hD : va_D A [(A_t, .inr (7, [.ref A_t_tape, .ref A_t_now, .ref A_t_images, .ref A_t_imageMade, .ref A_t_sheets, .ref A_t_rows, .ref A_t_clash, .ref A_t_span, .ref A_t_reader, .int t_latestTorn])), (A_t_tape, .inr (6, [.ref A_t_tape_bytes, .int t_tape_size])), (A_t_tape_bytes, .inl (cy 0, 320, .inl (upd t_tape_bytes t_tape_size.toNatClampNeg (vp_nar .byte x1.toInt8.toInt32))))] := hD
        refine lv_aload_n hx hb dX7_feed_45 rfl (lv_at hl 0 rfl) ?_
        refine va_get (D := D) (ci := 7) (v := .ref A_t_tape) (C := RX7) (T := TX7) (N := 10) hx hb hts iX7 hown hK.1 hP 0 rfl rfl 0 (by decide) f0 (fun _ h9 => h9) rfl dX7_feed_46 ?_
        refine lv_dup hx hb dX7_feed_49 rfl ?_
        refine va_get (D := D) (ci := 6) (v := .int t_tape_size) (C := RX6) (T := TX6) (N := 2) hx hb hts iX6 hown hK.1 hP 1 rfl rfl 1 (by decide) f1 (fun _ h9 => h9) rfl dX7_feed_50 ?_
        refine lv_iconst (v := 1) hx hb dX7_feed_53 (by decide) ?_
        refine lv_iadd hx hb dX7_feed_54 ?_
        refine va_put (D := D) (ci := 6) (v := .int (t_tape_size + (1 : Int32))) (ty := .int) (C := RX6) (T := TX6) (N := 2) hx hb hts iX6 tyX6 tyX6_ok nmX6 hown hK.1 hP hD hS 1 rfl rfl 1 (by decide) f1 (fun _ h9 => h9) rfl (tyX6_ok 1 (by decide)) rfl rfl (Nat.le_of_ble_eq_true rfl) dX7_feed_55 (fun H locs hP hD hS => ?_)
        have hP : va_P D vwCl [(A_t, .inr (7, [.ref A_t_tape, .ref A_t_now, .ref A_t_images, .ref A_t_imageMade, .ref A_t_sheets, .ref A_t_rows, .ref A_t_clash, .ref A_t_span, .ref A_t_reader, .int t_latestTorn])), (A_t_tape, .inr (6, [.ref A_t_tape_bytes, .int (t_tape_size + (1 : Int32))])), (A_t_tape_bytes, .inl (cy 0, 320, .inl (upd t_tape_bytes t_tape_size.toNatClampNeg (vp_nar .byte x1.toInt8.toInt32))))] H := hP
        have hD : va_D A [(A_t, .inr (7, [.ref A_t_tape, .ref A_t_now, .ref A_t_images, .ref A_t_imageMade, .ref A_t_sheets, .ref A_t_rows, .ref A_t_clash, .ref A_t_span, .ref A_t_reader, .int t_latestTorn])), (A_t_tape, .inr (6, [.ref A_t_tape_bytes, .int (t_tape_size + (1 : Int32))])), (A_t_tape_bytes, .inl (cy 0, 320, .inl (upd t_tape_bytes t_tape_size.toNatClampNeg (vp_nar .byte x1.toInt8.toInt32))))] := hD
        refine lv_aload_n hx hb dX7_feed_58 rfl (lv_at hl 0 rfl) ?_
        refine va_get (D := D) (ci := 7) (v := .ref A_t_tape) (C := RX7) (T := TX7) (N := 10) hx hb hts iX7 hown hK.1 hP 0 rfl rfl 0 (by decide) f0 (fun _ h9 => h9) rfl dX7_feed_59 ?_
        refine va_get (D := D) (ci := 6) (v := .int (t_tape_size + (1 : Int32))) (C := RX6) (T := TX6) (N := 2) hx hb hts iX6 hown hK.1 hP 1 rfl rfl 1 (by decide) f1 (fun _ h9 => h9) rfl dX7_feed_62 ?_
        subst hQ
        subst hAe
        exact W.iret (v := t_tape_size + (1 : Int32)) hx hb hr (fun t ht _ => ⟨⟨t_tape_size + (1 : Int32), (t_tape_size + (1 : Int32), upd t_tape_bytes t_tape_size.toNatClampNeg (vp_nar .byte x1.toInt8.toInt32)), rfl, h, by rw [ht]; exact hP, hD⟩, hS.F ht⟩) hS.2.2 dX7_feed_65
      · replace h := h.2 hc
        refine lv_bipush (v := -3) hx hb dX7_feed_25 (by decide) ?_
        subst hQ
        subst hAe
        exact W.iret (v := (-3 : Int32)) hx hb hr (fun t ht _ => ⟨⟨(-3 : Int32), (t_tape_size, t_tape_bytes), rfl, h, by rw [ht]; exact hP, hD⟩, hS.F ht⟩) hS.2.2 dX7_feed_27
    · replace h := h.2 hc
      refine lv_iconst (v := -1) hx hb dX7_feed_10 (by decide) ?_
      subst hQ
      subst hAe
      exact W.iret (v := (-1 : Int32)) hx hb hr (fun t ht _ => ⟨⟨(-1 : Int32), (t_tape_size, t_tape_bytes), rfl, h, by rw [ht]; exact hP, hD⟩, hS.F ht⟩) hS.2.2 dX7_feed_11
theorem qX7_end : yX7_end.cls = RX7 ∧ yX7_end.cls ≠ "java/lang/invoke/MethodHandle" ∧ yX7_end.cls ≠ "java/lang/invoke/VarHandle" ∧ (parseMethodDescriptor yX7_end.desc).map (fun d => d.parameters.length) = some 1 := by decide +kernel
def P_X7_end (post : Int32 → Int32 → Prop) (t_tape_size : Int32) (x1 : Int32) : Prop :=
  ((x1 < 0 → post (-1 : Int32) t_tape_size) ∧ (¬ x1 < 0 → ((x1 ≤ t_tape_size → post t_tape_size x1) ∧ (¬ x1 ≤ t_tape_size → post (-1 : Int32) t_tape_size))))
set_option maxHeartbeats 4000000 in
set_option maxRecDepth 100000 in
theorem c_X7_end (l : Launch) (D : va_G) (cy : Nat → ClassId) (sz : Nat) (A_t A_t_tape A_t_now A_t_images A_t_imageMade A_t_sheets A_t_rows A_t_clash A_t_span A_t_reader A_t_tape_bytes : Nat) (t_latestTorn : Int32) (t_tape_size : Int32) (x1 : Int32) (post : Int32 → Int32 → Prop) (h : P_X7_end post t_tape_size x1) : Met l yX7_end wsX7_end { frames := 0, cells := 0, slots := 0, locals := 0 } (pcW D cy [(A_t, .inr (7, [.ref A_t_tape, .ref A_t_now, .ref A_t_images, .ref A_t_imageMade, .ref A_t_sheets, .ref A_t_rows, .ref A_t_clash, .ref A_t_span, .ref A_t_reader, .int t_latestTorn])), (A_t_tape, .inr (6, [.ref A_t_tape_bytes, .int t_tape_size]))] sz [.ref A_t, .int x1]) (va_Qi (fun r (u : Int32) => post r u) (bW D [(A_t, .inr (7, [.ref A_t_tape, .ref A_t_now, .ref A_t_images, .ref A_t_imageMade, .ref A_t_sheets, .ref A_t_rows, .ref A_t_clash, .ref A_t_span, .ref A_t_reader, .int t_latestTorn])), (A_t_tape, .inr (6, [.ref A_t_tape_bytes, .int t_tape_size]))] sz (fun u => [(A_t, .inr (7, [.ref A_t_tape, .ref A_t_now, .ref A_t_images, .ref A_t_imageMade, .ref A_t_sheets, .ref A_t_rows, .ref A_t_clash, .ref A_t_span, .ref A_t_reader, .int t_latestTorn])), (A_t_tape, .inr (6, [.ref A_t_tape_bytes, .int u]))])) (va_A [(A_t, .inr (7, [.ref A_t_tape, .ref A_t_now, .ref A_t_images, .ref A_t_imageMade, .ref A_t_sheets, .ref A_t_rows, .ref A_t_clash, .ref A_t_span, .ref A_t_reader, .int t_latestTorn])), (A_t_tape, .inr (6, [.ref A_t_tape_bytes, .int t_tape_size]))] sz)) 0 0 (va_A [(A_t, .inr (7, [.ref A_t_tape, .ref A_t_now, .ref A_t_images, .ref A_t_imageMade, .ref A_t_sheets, .ref A_t_rows, .ref A_t_clash, .ref A_t_span, .ref A_t_reader, .int t_latestTorn])), (A_t_tape, .inr (6, [.ref A_t_tape_bytes, .int t_tape_size]))] sz) := by
  refine Met.ofW (cc := cX7_end) (maxL := 3) (ret := (some .int)) (by decide) rfl ?_
  intro p e s m args below meth c s₁ B hml hv
  obtain ⟨rfl, hsz, hP, hK, hD0⟩ := hv
  have hx := B.exec
  have hb := B.bytes
  have hr := B.returns
  have hts := atoms_spec (ws := wsX7_end) B.pre
  have hown : s.vm.findClass RX7 = some m.cls := findClass_of_methodNamed B.named
  have hlocks := B.notSynchronized
  have CF : CallFix p m c cX7_end 3 s ([.ref A_t, .int x1] : List Value).toArray wsX7_end RX7 := ⟨hx, hb, hml, hown, hts⟩
  have f0 := hts (.fieldLink RX7 63 "GapBounds" "tape" "LGapBounds$Tape;") (by decide +kernel)
  have f1 := hts (.fieldLink RX7 68 "GapBounds$Tape" "size" "I") (by decide +kernel)
  have iX6 : ∀ w ∈ u_ws RX6 TX6 2, w ∈ wsX7_end := by decide +kernel
  have iX7 : ∀ w ∈ u_ws RX7 TX7 10, w ∈ wsX7_end := by decide +kernel
  subst hsz
  obtain ⟨A, hAe⟩ : ∃ A, A = va_A [(A_t, .inr (7, [.ref A_t_tape, .ref A_t_now, .ref A_t_images, .ref A_t_imageMade, .ref A_t_sheets, .ref A_t_rows, .ref A_t_clash, .ref A_t_span, .ref A_t_reader, .int t_latestTorn])), (A_t_tape, .inr (6, [.ref A_t_tape_bytes, .int t_tape_size]))] s.heap.size := ⟨_, rfl⟩
  have hD : va_D A [(A_t, .inr (7, [.ref A_t_tape, .ref A_t_now, .ref A_t_images, .ref A_t_imageMade, .ref A_t_sheets, .ref A_t_rows, .ref A_t_clash, .ref A_t_span, .ref A_t_reader, .int t_latestTorn])), (A_t_tape, .inr (6, [.ref A_t_tape_bytes, .int t_tape_size]))] := by rw [hAe]; exact hD0.self
  have hA : ∀ q : Nat, s.heap.size ≤ q → A q := fun q hq => by rw [hAe]; exact Or.inr hq
  have hS : va_S A s.heap s.heap [] := va_S.rf
  have hl := lv_entry [.ref A_t, .int x1] (n := 3) (Nat.le_of_ble_eq_true rfl)
  rw [lg_entry_eq]
  generalize (lg_sl [.ref A_t, .int x1] ++ List.replicate (3 - (lg_sl [.ref A_t, .int x1]).length) Slot.unset).toArray = ls at hl ⊢
  have hl : lv_has ls 3 [(0, .ref A_t), (1, .int x1)] := hl
  refine W.gen (fun Q0 hQ => ?_)
  unfold P_X7_end at h
  refine lv_iload_n hx hb dX7_end_0 rfl (lv_at hl 1 rfl) ?_
  refine lv_if_lt (tgt := 15) hx hb dX7_end_1 (by decide) (fun hc => ?_) (fun hc => ?_)
  · replace h := h.1 hc
    refine lv_iconst (v := -1) hx hb dX7_end_15 (by decide) ?_
    subst hQ
    subst hAe
    exact W.iret (v := (-1 : Int32)) hx hb hr (fun t ht _ => ⟨⟨(-1 : Int32), t_tape_size, rfl, h, by rw [ht]; exact hP, hD⟩, hS.F ht⟩) hS.2.2 dX7_end_16
  · replace h := h.2 hc
    refine lv_iload_n hx hb dX7_end_4 rfl (lv_at hl 1 rfl) ?_
    refine lv_aload_n hx hb dX7_end_5 rfl (lv_at hl 0 rfl) ?_
    refine va_get (D := D) (ci := 7) (v := .ref A_t_tape) (C := RX7) (T := TX7) (N := 10) hx hb hts iX7 hown hK.1 hP 0 rfl rfl 0 (by decide) f0 (fun _ h9 => h9) rfl dX7_end_6 ?_
    refine va_get (D := D) (ci := 6) (v := .int t_tape_size) (C := RX6) (T := TX6) (N := 2) hx hb hts iX6 hown hK.1 hP 1 rfl rfl 1 (by decide) f1 (fun _ h9 => h9) rfl dX7_end_9 ?_
    refine lv_icmp_le (tgt := 17) hx hb dX7_end_12 (by decide) (fun hc => ?_) (fun hc => ?_)
    · replace h := h.1 hc
      refine lv_aload_n hx hb dX7_end_17 rfl (lv_at hl 0 rfl) ?_
      refine va_get (D := D) (ci := 7) (v := .ref A_t_tape) (C := RX7) (T := TX7) (N := 10) hx hb hts iX7 hown hK.1 hP 0 rfl rfl 0 (by decide) f0 (fun _ h9 => h9) rfl dX7_end_18 ?_
      refine va_get (D := D) (ci := 6) (v := .int t_tape_size) (C := RX6) (T := TX6) (N := 2) hx hb hts iX6 hown hK.1 hP 1 rfl rfl 1 (by decide) f1 (fun _ h9 => h9) rfl dX7_end_21 ?_
      refine lv_istore_n (lv' := [(2, .int t_tape_size), (0, .ref A_t), (1, .int x1)]) hx hb dX7_end_24 rfl hl (by decide) rfl (fun ls hl => ?_)
      refine lv_aload_n hx hb dX7_end_25 rfl (lv_at hl 1 rfl) ?_
      refine va_get (D := D) (ci := 7) (v := .ref A_t_tape) (C := RX7) (T := TX7) (N := 10) hx hb hts iX7 hown hK.1 hP 0 rfl rfl 0 (by decide) f0 (fun _ h9 => h9) rfl dX7_end_26 ?_
      refine lv_iload_n hx hb dX7_end_29 rfl (lv_at hl 2 rfl) ?_
      refine va_put (D := D) (ci := 6) (v := .int x1) (ty := .int) (C := RX6) (T := TX6) (N := 2) hx hb hts iX6 tyX6 tyX6_ok nmX6 hown hK.1 hP hD hS 1 rfl rfl 1 (by decide) f1 (fun _ h9 => h9) rfl (tyX6_ok 1 (by decide)) rfl rfl (Nat.le_of_ble_eq_true rfl) dX7_end_30 (fun H locs hP hD hS => ?_)
      have hP : va_P D vwCl [(A_t, .inr (7, [.ref A_t_tape, .ref A_t_now, .ref A_t_images, .ref A_t_imageMade, .ref A_t_sheets, .ref A_t_rows, .ref A_t_clash, .ref A_t_span, .ref A_t_reader, .int t_latestTorn])), (A_t_tape, .inr (6, [.ref A_t_tape_bytes, .int x1]))] H := hP
      have hD : va_D A [(A_t, .inr (7, [.ref A_t_tape, .ref A_t_now, .ref A_t_images, .ref A_t_imageMade, .ref A_t_sheets, .ref A_t_rows, .ref A_t_clash, .ref A_t_span, .ref A_t_reader, .int t_latestTorn])), (A_t_tape, .inr (6, [.ref A_t_tape_bytes, .int x1]))] := hD
      refine lv_iload_n hx hb dX7_end_33 rfl (lv_at hl 0 rfl) ?_
      subst hQ
      subst hAe
      exact W.iret (v := t_tape_size) hx hb hr (fun t ht _ => ⟨⟨t_tape_size, x1, rfl, h, by rw [ht]; exact hP, hD⟩, hS.F ht⟩) hS.2.2 dX7_end_34
    · replace h := h.2 hc
      refine lv_iconst (v := -1) hx hb dX7_end_15 (by decide) ?_
      subst hQ
      subst hAe
      exact W.iret (v := (-1 : Int32)) hx hb hr (fun t ht _ => ⟨⟨(-1 : Int32), t_tape_size, rfl, h, by rw [ht]; exact hP, hD⟩, hS.F ht⟩) hS.2.2 dX7_end_16
theorem qX7_fault : yX7_fault.cls = RX7 ∧ yX7_fault.cls ≠ "java/lang/invoke/MethodHandle" ∧ yX7_fault.cls ≠ "java/lang/invoke/VarHandle" ∧ (parseMethodDescriptor yX7_fault.desc).map (fun d => d.parameters.length) = some 0 := by decide +kernel
def P_X7_fault (post : Int32 → Prop) (t_reader_wrong : Int32) : Prop :=
  post t_reader_wrong
set_option maxHeartbeats 4000000 in
set_option maxRecDepth 100000 in
theorem c_X7_fault (l : Launch) (D : va_G) (cy : Nat → ClassId) (A_t A_t_tape A_t_now A_t_images A_t_imageMade A_t_sheets A_t_rows A_t_clash A_t_span A_t_reader A_t_reader_draft : Nat) (t_latestTorn : Int32) (t_reader_wrong : Int32) (t_reader_wrongAt : Int32) (t_reader_lines : Int32) (t_reader_kind : Int32) (t_reader_at : Int32) (t_reader_behind : Int32) (post : Int32 → Prop) (h : P_X7_fault post t_reader_wrong) : Met l yX7_fault wsX7_fault { frames := 0, cells := 0, slots := 0, locals := 0 } (pcR D cy [(A_t, .inr (7, [.ref A_t_tape, .ref A_t_now, .ref A_t_images, .ref A_t_imageMade, .ref A_t_sheets, .ref A_t_rows, .ref A_t_clash, .ref A_t_span, .ref A_t_reader, .int t_latestTorn])), (A_t_reader, .inr (1, [.ref A_t_tape, .ref A_t_reader_draft, .int t_reader_wrong, .int t_reader_wrongAt, .int t_reader_lines, .int t_reader_kind, .int t_reader_at, .int t_reader_behind]))] [.ref A_t]) (vp_Si post) 0 0 (fun _ => False) := by
  refine Met.ofW (cc := cX7_fault) (maxL := 1) (ret := (some .int)) (by decide) rfl ?_
  intro p e s m args below meth c s₁ B hml hv
  obtain ⟨rfl, hP, hK⟩ := hv
  have hx := B.exec
  have hb := B.bytes
  have hr := B.returns
  have hts := atoms_spec (ws := wsX7_fault) B.pre
  have hown : s.vm.findClass RX7 = some m.cls := findClass_of_methodNamed B.named
  have hlocks := B.notSynchronized
  have CF : CallFix p m c cX7_fault 1 s ([.ref A_t] : List Value).toArray wsX7_fault RX7 := ⟨hx, hb, hml, hown, hts⟩
  have f0 := hts (.fieldLink RX7 55 "GapBounds" "reader" "LGapBounds$Reader;") (by decide +kernel)
  have f1 := hts (.fieldLink RX7 80 "GapBounds$Reader" "wrong" "I") (by decide +kernel)
  have iX1 : ∀ w ∈ u_ws RX1 TX1 8, w ∈ wsX7_fault := by decide +kernel
  have iX7 : ∀ w ∈ u_ws RX7 TX7 10, w ∈ wsX7_fault := by decide +kernel
  have hl := lv_entry [.ref A_t] (n := 1) (Nat.le_of_ble_eq_true rfl)
  rw [lg_entry_eq]
  generalize (lg_sl [.ref A_t] ++ List.replicate (1 - (lg_sl [.ref A_t]).length) Slot.unset).toArray = ls at hl ⊢
  have hl : lv_has ls 1 [(0, .ref A_t)] := hl
  refine W.gen (fun Q0 hQ => ?_)
  unfold P_X7_fault at h
  refine lv_aload_n hx hb dX7_fault_0 rfl (lv_at hl 0 rfl) ?_
  refine va_get (D := D) (ci := 7) (v := .ref A_t_reader) (C := RX7) (T := TX7) (N := 10) hx hb hts iX7 hown hK.1 hP 0 rfl rfl 8 (by decide) f0 (fun _ h9 => h9) rfl dX7_fault_1 ?_
  refine va_get (D := D) (ci := 1) (v := .int t_reader_wrong) (C := RX1) (T := TX1) (N := 8) hx hb hts iX1 hown hK.1 hP 1 rfl rfl 2 (by decide) f1 (fun _ h9 => h9) rfl dX7_fault_4 ?_
  subst hQ
  exact W.iret (v := t_reader_wrong) hx hb hr (fun t ht _ => ⟨t_reader_wrong, rfl, h, ht⟩) (fun _ hq => absurd hq List.not_mem_nil) dX7_fault_7
theorem qX7_isNeedless : yX7_isNeedless.cls = RX7 ∧ yX7_isNeedless.cls ≠ "java/lang/invoke/MethodHandle" ∧ yX7_isNeedless.cls ≠ "java/lang/invoke/VarHandle" ∧ (parseMethodDescriptor yX7_isNeedless.desc).map (fun d => d.parameters.length) = some 1 := by decide +kernel
def P_X7_isNeedless (post : Int32 → (Nat → Int64) → Prop) (t_now_size : Int32) (t_now_wholeness : Int32) (t_now_lower : Nat → Int32) (t_now_upper : Nat → Int32) (t_rows_least : Nat → Int64) (t_now_limits : Nat → Int32) (t_now_stricts : Nat → Int32) (x1 : Int32) : Prop :=
  (vp_in x1 24 ∧ (vp_in x1 24 ∧ P_X2_between (fun (r1 : Int64) (t_rows_least_v1 : Nat → Int64) => P_X5_weightOf (fun (r2 : Int64) => ((r2 < r1 → post (0 : Int32) t_rows_least_v1) ∧ (¬ r2 < r1 → post (1 : Int32) t_rows_least_v1))) t_now_wholeness t_now_limits t_now_stricts x1) t_rows_least t_now_size t_now_wholeness t_now_lower t_now_limits t_now_stricts t_now_upper (t_now_lower x1.toNatClampNeg) (t_now_upper x1.toNatClampNeg) x1))
set_option maxHeartbeats 4000000 in
set_option maxRecDepth 100000 in
theorem c_X7_isNeedless (l : Launch) (D : va_G) (cy : Nat → ClassId) (sz : Nat) (A_t A_t_tape A_t_now A_t_images A_t_imageMade A_t_sheets A_t_rows A_t_clash A_t_span A_t_reader A_t_now_upper A_t_now_lower A_t_now_limits A_t_now_stricts A_t_now_marks A_t_rows_least A_t_rows_table : Nat) (t_latestTorn : Int32) (t_now_size : Int32) (t_now_marked : Int32) (t_now_wholeness : Int32) (t_now_lower : Nat → Int32) (t_now_upper : Nat → Int32) (t_rows_least : Nat → Int64) (t_now_limits : Nat → Int32) (t_now_stricts : Nat → Int32) (x1 : Int32) (post : Int32 → (Nat → Int64) → Prop) (h : P_X7_isNeedless post t_now_size t_now_wholeness t_now_lower t_now_upper t_rows_least t_now_limits t_now_stricts x1) : Met l yX7_isNeedless wsX7_isNeedless { frames := 3, cells := 0, slots := 0, locals := 77 } (pcW D cy [(A_t, .inr (7, [.ref A_t_tape, .ref A_t_now, .ref A_t_images, .ref A_t_imageMade, .ref A_t_sheets, .ref A_t_rows, .ref A_t_clash, .ref A_t_span, .ref A_t_reader, .int t_latestTorn])), (A_t_now, .inr (5, [.ref A_t_now_upper, .ref A_t_now_lower, .ref A_t_now_limits, .ref A_t_now_stricts, .ref A_t_now_marks, .int t_now_size, .int t_now_marked, .int t_now_wholeness])), (A_t_now_lower, .inl (cy 1, 24, .inl t_now_lower)), (A_t_now_upper, .inl (cy 1, 24, .inl t_now_upper)), (A_t_rows, .inr (2, [.ref A_t_rows_least, .ref A_t_rows_table])), (A_t_rows_least, .inl (cy 2, 10, .inr (.inl t_rows_least))), (A_t_now_limits, .inl (cy 1, 24, .inl t_now_limits)), (A_t_now_stricts, .inl (cy 1, 24, .inl t_now_stricts))] sz [.ref A_t, .int x1]) (va_Qi (fun r (u : (Nat → Int64)) => post r u) (bW D [(A_t, .inr (7, [.ref A_t_tape, .ref A_t_now, .ref A_t_images, .ref A_t_imageMade, .ref A_t_sheets, .ref A_t_rows, .ref A_t_clash, .ref A_t_span, .ref A_t_reader, .int t_latestTorn])), (A_t_now, .inr (5, [.ref A_t_now_upper, .ref A_t_now_lower, .ref A_t_now_limits, .ref A_t_now_stricts, .ref A_t_now_marks, .int t_now_size, .int t_now_marked, .int t_now_wholeness])), (A_t_now_lower, .inl (cy 1, 24, .inl t_now_lower)), (A_t_now_upper, .inl (cy 1, 24, .inl t_now_upper)), (A_t_rows, .inr (2, [.ref A_t_rows_least, .ref A_t_rows_table])), (A_t_rows_least, .inl (cy 2, 10, .inr (.inl t_rows_least))), (A_t_now_limits, .inl (cy 1, 24, .inl t_now_limits)), (A_t_now_stricts, .inl (cy 1, 24, .inl t_now_stricts))] sz (fun u => [(A_t, .inr (7, [.ref A_t_tape, .ref A_t_now, .ref A_t_images, .ref A_t_imageMade, .ref A_t_sheets, .ref A_t_rows, .ref A_t_clash, .ref A_t_span, .ref A_t_reader, .int t_latestTorn])), (A_t_now, .inr (5, [.ref A_t_now_upper, .ref A_t_now_lower, .ref A_t_now_limits, .ref A_t_now_stricts, .ref A_t_now_marks, .int t_now_size, .int t_now_marked, .int t_now_wholeness])), (A_t_now_lower, .inl (cy 1, 24, .inl t_now_lower)), (A_t_now_upper, .inl (cy 1, 24, .inl t_now_upper)), (A_t_rows, .inr (2, [.ref A_t_rows_least, .ref A_t_rows_table])), (A_t_rows_least, .inl (cy 2, 10, .inr (.inl u))), (A_t_now_limits, .inl (cy 1, 24, .inl t_now_limits)), (A_t_now_stricts, .inl (cy 1, 24, .inl t_now_stricts))])) (va_A [(A_t, .inr (7, [.ref A_t_tape, .ref A_t_now, .ref A_t_images, .ref A_t_imageMade, .ref A_t_sheets, .ref A_t_rows, .ref A_t_clash, .ref A_t_span, .ref A_t_reader, .int t_latestTorn])), (A_t_now, .inr (5, [.ref A_t_now_upper, .ref A_t_now_lower, .ref A_t_now_limits, .ref A_t_now_stricts, .ref A_t_now_marks, .int t_now_size, .int t_now_marked, .int t_now_wholeness])), (A_t_now_lower, .inl (cy 1, 24, .inl t_now_lower)), (A_t_now_upper, .inl (cy 1, 24, .inl t_now_upper)), (A_t_rows, .inr (2, [.ref A_t_rows_least, .ref A_t_rows_table])), (A_t_rows_least, .inl (cy 2, 10, .inr (.inl t_rows_least))), (A_t_now_limits, .inl (cy 1, 24, .inl t_now_limits)), (A_t_now_stricts, .inl (cy 1, 24, .inl t_now_stricts))] sz)) 0 0 (va_A [(A_t, .inr (7, [.ref A_t_tape, .ref A_t_now, .ref A_t_images, .ref A_t_imageMade, .ref A_t_sheets, .ref A_t_rows, .ref A_t_clash, .ref A_t_span, .ref A_t_reader, .int t_latestTorn])), (A_t_now, .inr (5, [.ref A_t_now_upper, .ref A_t_now_lower, .ref A_t_now_limits, .ref A_t_now_stricts, .ref A_t_now_marks, .int t_now_size, .int t_now_marked, .int t_now_wholeness])), (A_t_now_lower, .inl (cy 1, 24, .inl t_now_lower)), (A_t_now_upper, .inl (cy 1, 24, .inl t_now_upper)), (A_t_rows, .inr (2, [.ref A_t_rows_least, .ref A_t_rows_table])), (A_t_rows_least, .inl (cy 2, 10, .inr (.inl t_rows_least))), (A_t_now_limits, .inl (cy 1, 24, .inl t_now_limits)), (A_t_now_stricts, .inl (cy 1, 24, .inl t_now_stricts))] sz) := by
  refine Met.ofW (cc := cX7_isNeedless) (maxL := 2) (ret := (some .boolean)) (by decide) rfl ?_
  intro p e s m args below meth c s₁ B hml hv
  obtain ⟨rfl, hsz, hP, hK, hD0⟩ := hv
  have hx := B.exec
  have hb := B.bytes
  have hr := B.returns
  have hts := atoms_spec (ws := wsX7_isNeedless) B.pre
  have hown : s.vm.findClass RX7 = some m.cls := findClass_of_methodNamed B.named
  have hlocks := B.notSynchronized
  have CF : CallFix p m c cX7_isNeedless 2 s ([.ref A_t, .int x1] : List Value).toArray wsX7_isNeedless RX7 := ⟨hx, hb, hml, hown, hts⟩
  have f0 := hts (.fieldLink RX7 34 "GapBounds" "rows" "LGapBounds$Rows;") (by decide +kernel)
  have f1 := hts (.fieldLink RX7 10 "GapBounds" "now" "LGapBounds$Store;") (by decide +kernel)
  have f2 := hts (.fieldLink RX7 134 "GapBounds$Store" "lower" "[I") (by decide +kernel)
  have f3 := hts (.fieldLink RX7 130 "GapBounds$Store" "upper" "[I") (by decide +kernel)
  have iX5 : ∀ w ∈ u_ws RX5 TX5 8, w ∈ wsX7_isNeedless := by decide +kernel
  have iX7 : ∀ w ∈ u_ws RX7 TX7 10, w ∈ wsX7_isNeedless := by decide +kernel
  subst hsz
  obtain ⟨A, hAe⟩ : ∃ A, A = va_A [(A_t, .inr (7, [.ref A_t_tape, .ref A_t_now, .ref A_t_images, .ref A_t_imageMade, .ref A_t_sheets, .ref A_t_rows, .ref A_t_clash, .ref A_t_span, .ref A_t_reader, .int t_latestTorn])), (A_t_now, .inr (5, [.ref A_t_now_upper, .ref A_t_now_lower, .ref A_t_now_limits, .ref A_t_now_stricts, .ref A_t_now_marks, .int t_now_size, .int t_now_marked, .int t_now_wholeness])), (A_t_now_lower, .inl (cy 1, 24, .inl t_now_lower)), (A_t_now_upper, .inl (cy 1, 24, .inl t_now_upper)), (A_t_rows, .inr (2, [.ref A_t_rows_least, .ref A_t_rows_table])), (A_t_rows_least, .inl (cy 2, 10, .inr (.inl t_rows_least))), (A_t_now_limits, .inl (cy 1, 24, .inl t_now_limits)), (A_t_now_stricts, .inl (cy 1, 24, .inl t_now_stricts))] s.heap.size := ⟨_, rfl⟩
  have hD : va_D A [(A_t, .inr (7, [.ref A_t_tape, .ref A_t_now, .ref A_t_images, .ref A_t_imageMade, .ref A_t_sheets, .ref A_t_rows, .ref A_t_clash, .ref A_t_span, .ref A_t_reader, .int t_latestTorn])), (A_t_now, .inr (5, [.ref A_t_now_upper, .ref A_t_now_lower, .ref A_t_now_limits, .ref A_t_now_stricts, .ref A_t_now_marks, .int t_now_size, .int t_now_marked, .int t_now_wholeness])), (A_t_now_lower, .inl (cy 1, 24, .inl t_now_lower)), (A_t_now_upper, .inl (cy 1, 24, .inl t_now_upper)), (A_t_rows, .inr (2, [.ref A_t_rows_least, .ref A_t_rows_table])), (A_t_rows_least, .inl (cy 2, 10, .inr (.inl t_rows_least))), (A_t_now_limits, .inl (cy 1, 24, .inl t_now_limits)), (A_t_now_stricts, .inl (cy 1, 24, .inl t_now_stricts))] := by rw [hAe]; exact hD0.self
  have hA : ∀ q : Nat, s.heap.size ≤ q → A q := fun q hq => by rw [hAe]; exact Or.inr hq
  have hS : va_S A s.heap s.heap [] := va_S.rf
  have hl := lv_entry [.ref A_t, .int x1] (n := 2) (Nat.le_of_ble_eq_true rfl)
  rw [lg_entry_eq]
  generalize (lg_sl [.ref A_t, .int x1] ++ List.replicate (2 - (lg_sl [.ref A_t, .int x1]).length) Slot.unset).toArray = ls at hl ⊢
  have hl : lv_has ls 2 [(0, .ref A_t), (1, .int x1)] := hl
  refine W.gen (fun Q0 hQ => ?_)
  unfold P_X7_isNeedless at h
  refine lv_aload_n hx hb dX7_isNeedless_0 rfl (lv_at hl 0 rfl) ?_
  refine va_get (D := D) (ci := 7) (v := .ref A_t_rows) (C := RX7) (T := TX7) (N := 10) hx hb hts iX7 hown hK.1 hP 0 rfl rfl 5 (by decide) f0 (fun _ h9 => h9) rfl dX7_isNeedless_1 ?_
  refine lv_aload_n hx hb dX7_isNeedless_4 rfl (lv_at hl 0 rfl) ?_
  refine va_get (D := D) (ci := 7) (v := .ref A_t_now) (C := RX7) (T := TX7) (N := 10) hx hb hts iX7 hown hK.1 hP 0 rfl rfl 1 (by decide) f1 (fun _ h9 => h9) rfl dX7_isNeedless_5 ?_
  refine lv_aload_n hx hb dX7_isNeedless_8 rfl (lv_at hl 0 rfl) ?_
  refine va_get (D := D) (ci := 7) (v := .ref A_t_now) (C := RX7) (T := TX7) (N := 10) hx hb hts iX7 hown hK.1 hP 0 rfl rfl 1 (by decide) f1 (fun _ h9 => h9) rfl dX7_isNeedless_9 ?_
  refine va_get (D := D) (ci := 5) (v := .ref A_t_now_lower) (C := RX5) (T := TX5) (N := 8) hx hb hts iX5 hown hK.1 hP 1 rfl rfl 1 (by decide) f2 (fun _ h9 => h9) rfl dX7_isNeedless_12 ?_
  refine lv_iload_n hx hb dX7_isNeedless_15 rfl (lv_at hl 1 rfl) ?_
  refine va_iald hx hb hK.1 hP 2 1 rfl rfl h.1 dX7_isNeedless_16 ?_
  replace h := h.2
  refine lv_aload_n hx hb dX7_isNeedless_17 rfl (lv_at hl 0 rfl) ?_
  refine va_get (D := D) (ci := 7) (v := .ref A_t_now) (C := RX7) (T := TX7) (N := 10) hx hb hts iX7 hown hK.1 hP 0 rfl rfl 1 (by decide) f1 (fun _ h9 => h9) rfl dX7_isNeedless_18 ?_
  refine va_get (D := D) (ci := 5) (v := .ref A_t_now_upper) (C := RX5) (T := TX5) (N := 8) hx hb hts iX5 hown hK.1 hP 1 rfl rfl 0 (by decide) f3 (fun _ h9 => h9) rfl dX7_isNeedless_21 ?_
  refine lv_iload_n hx hb dX7_isNeedless_24 rfl (lv_at hl 1 rfl) ?_
  refine va_iald hx hb hK.1 hP 3 1 rfl rfl h.1 dX7_isNeedless_25 ?_
  replace h := h.2
  refine lv_iload_n hx hb dX7_isNeedless_26 rfl (lv_at hl 1 rfl) ?_
  have hPn : va_P D vwCl ([(A_t, .inr (7, [.ref A_t_tape, .ref A_t_now, .ref A_t_images, .ref A_t_imageMade, .ref A_t_sheets, .ref A_t_rows, .ref A_t_clash, .ref A_t_span, .ref A_t_reader, .int t_latestTorn]))] ++ [(A_t_rows, .inr (2, [.ref A_t_rows_least, .ref A_t_rows_table])), (A_t_rows_least, .inl (cy 2, 10, .inr (.inl t_rows_least))), (A_t_now, .inr (5, [.ref A_t_now_upper, .ref A_t_now_lower, .ref A_t_now_limits, .ref A_t_now_stricts, .ref A_t_now_marks, .int t_now_size, .int t_now_marked, .int t_now_wholeness])), (A_t_now_lower, .inl (cy 1, 24, .inl t_now_lower)), (A_t_now_limits, .inl (cy 1, 24, .inl t_now_limits)), (A_t_now_stricts, .inl (cy 1, 24, .inl t_now_stricts)), (A_t_now_upper, .inl (cy 1, 24, .inl t_now_upper))]) s.heap := hP.sub [0, 4, 5, 1, 2, 6, 7, 3] rfl
  have hDn : va_D A ([(A_t, .inr (7, [.ref A_t_tape, .ref A_t_now, .ref A_t_images, .ref A_t_imageMade, .ref A_t_sheets, .ref A_t_rows, .ref A_t_clash, .ref A_t_span, .ref A_t_reader, .int t_latestTorn]))] ++ [(A_t_rows, .inr (2, [.ref A_t_rows_least, .ref A_t_rows_table])), (A_t_rows_least, .inl (cy 2, 10, .inr (.inl t_rows_least))), (A_t_now, .inr (5, [.ref A_t_now_upper, .ref A_t_now_lower, .ref A_t_now_limits, .ref A_t_now_stricts, .ref A_t_now_marks, .int t_now_size, .int t_now_marked, .int t_now_wholeness])), (A_t_now_lower, .inl (cy 1, 24, .inl t_now_lower)), (A_t_now_limits, .inl (cy 1, 24, .inl t_now_limits)), (A_t_now_stricts, .inl (cy 1, 24, .inl t_now_stricts)), (A_t_now_upper, .inl (cy 1, 24, .inl t_now_upper))]) := hD.sub [0, 4, 5, 1, 2, 6, 7, 3] (by decide) rfl
  have hPc := gPR hPn
  have hDc := gDR hDn
  refine mw_l (va_runV (As := [.ref A_t_now, .int (t_now_lower x1.toNatClampNeg), .int (t_now_upper x1.toNatClampNeg), .int x1]) (rest := []) CF (c_X2_between l D cy s.heap.size A_t_rows A_t_rows_least A_t_rows_table A_t_now A_t_now_upper A_t_now_lower A_t_now_limits A_t_now_stricts A_t_now_marks t_rows_least t_now_size t_now_marked t_now_wholeness t_now_lower t_now_limits t_now_stricts t_now_upper (t_now_lower x1.toNatClampNeg) (t_now_upper x1.toNatClampNeg) x1 _ h) (cwV 4 hts gX7_isNeedless_X2_between rfl rfl rfl qX2_between ⟨Nat.le_of_ble_eq_true rfl, Nat.le_of_ble_eq_true rfl⟩) (mpVW hK hPc hDc (ci := 2) (q := (RX2, TX2, 2)) (q0 := 0) rfl rfl) rfl rfl hl.1 rfl (lv_room (Nat.le_of_ble_eq_true rfl)) dX7_isNeedless_27 ⟨Nat.zero_le _, Nat.zero_le _⟩) hPn hDn hS hA (fun r1 t_rows_least_v1 H locs h hP hD hS => ?_)
  have hP : va_P D vwCl [(A_t, .inr (7, [.ref A_t_tape, .ref A_t_now, .ref A_t_images, .ref A_t_imageMade, .ref A_t_sheets, .ref A_t_rows, .ref A_t_clash, .ref A_t_span, .ref A_t_reader, .int t_latestTorn])), (A_t_now, .inr (5, [.ref A_t_now_upper, .ref A_t_now_lower, .ref A_t_now_limits, .ref A_t_now_stricts, .ref A_t_now_marks, .int t_now_size, .int t_now_marked, .int t_now_wholeness])), (A_t_now_lower, .inl (cy 1, 24, .inl t_now_lower)), (A_t_now_upper, .inl (cy 1, 24, .inl t_now_upper)), (A_t_rows, .inr (2, [.ref A_t_rows_least, .ref A_t_rows_table])), (A_t_rows_least, .inl (cy 2, 10, .inr (.inl t_rows_least_v1))), (A_t_now_limits, .inl (cy 1, 24, .inl t_now_limits)), (A_t_now_stricts, .inl (cy 1, 24, .inl t_now_stricts))] H := hP.sub [0, 3, 4, 7, 1, 2, 5, 6] rfl
  have hD : va_D A [(A_t, .inr (7, [.ref A_t_tape, .ref A_t_now, .ref A_t_images, .ref A_t_imageMade, .ref A_t_sheets, .ref A_t_rows, .ref A_t_clash, .ref A_t_span, .ref A_t_reader, .int t_latestTorn])), (A_t_now, .inr (5, [.ref A_t_now_upper, .ref A_t_now_lower, .ref A_t_now_limits, .ref A_t_now_stricts, .ref A_t_now_marks, .int t_now_size, .int t_now_marked, .int t_now_wholeness])), (A_t_now_lower, .inl (cy 1, 24, .inl t_now_lower)), (A_t_now_upper, .inl (cy 1, 24, .inl t_now_upper)), (A_t_rows, .inr (2, [.ref A_t_rows_least, .ref A_t_rows_table])), (A_t_rows_least, .inl (cy 2, 10, .inr (.inl t_rows_least_v1))), (A_t_now_limits, .inl (cy 1, 24, .inl t_now_limits)), (A_t_now_stricts, .inl (cy 1, 24, .inl t_now_stricts))] := hD.sub [0, 3, 4, 7, 1, 2, 5, 6] (by decide) rfl
  refine lv_aload_n hx hb dX7_isNeedless_30 rfl (lv_at hl 0 rfl) ?_
  refine va_get (D := D) (ci := 7) (v := .ref A_t_now) (C := RX7) (T := TX7) (N := 10) hx hb hts iX7 hown hK.1 hP 0 rfl rfl 1 (by decide) f1 (fun _ h9 => h9) rfl dX7_isNeedless_31 ?_
  refine lv_iload_n hx hb dX7_isNeedless_34 rfl (lv_at hl 1 rfl) ?_
  have hPc := hP.sub (ws' := [(A_t_now, .inr (5, [.ref A_t_now_upper, .ref A_t_now_lower, .ref A_t_now_limits, .ref A_t_now_stricts, .ref A_t_now_marks, .int t_now_size, .int t_now_marked, .int t_now_wholeness])), (A_t_now_limits, .inl (cy 1, 24, .inl t_now_limits)), (A_t_now_stricts, .inl (cy 1, 24, .inl t_now_stricts))]) [1, 6, 7] rfl
  refine vp_callSl (W.runV (As := [.int x1]) (rest := [.long r1]) CF (c_X5_weightOf l D cy A_t_now A_t_now_upper A_t_now_lower A_t_now_limits A_t_now_stricts A_t_now_marks t_now_size t_now_marked t_now_wholeness t_now_limits t_now_stricts x1 _ h) (cwV 1 hts gX7_isNeedless_X5_weightOf rfl rfl rfl qX5_weightOf ⟨Nat.le_of_ble_eq_true rfl, Nat.le_of_ble_eq_true rfl⟩) (mpVR hK hPc (ci := 5) (q := (RX5, TX5, 8)) (q0 := 0) rfl rfl) rfl rfl hl.1 rfl (lv_room (Nat.le_of_ble_eq_true rfl)) dX7_isNeedless_35 ⟨Nat.zero_le _, Nat.zero_le _⟩) (fun r2 h => ?_)
  refine lx_gt (tgt := 46) hx hb dX7_isNeedless_38 dX7_isNeedless_39 (by decide) (fun hc => ?_) (fun hc => ?_)
  · replace h := h.1 hc
    refine lv_iconst (v := 0) hx hb dX7_isNeedless_46 (by decide) ?_
    subst hQ
    subst hAe
    exact W.zret (v := (0 : Int32)) hx hb hr bz0 (fun t ht _ => ⟨⟨(0 : Int32), t_rows_least_v1, rfl, h, by rw [ht]; exact hP, hD⟩, hS.F ht⟩) hS.2.2 dX7_isNeedless_47
  · replace h := h.2 hc
    refine lv_iconst (v := 1) hx hb dX7_isNeedless_42 (by decide) ?_
    refine lv_goto (tgt := 47) hx hb dX7_isNeedless_43 (by decide) ?_
    subst hQ
    subst hAe
    exact W.zret (v := (1 : Int32)) hx hb hr bz1 (fun t ht _ => ⟨⟨(1 : Int32), t_rows_least_v1, rfl, h, by rw [ht]; exact hP, hD⟩, hS.F ht⟩) hS.2.2 dX7_isNeedless_47
theorem qX7_bound : yX7_bound.cls = RX7 ∧ yX7_bound.cls ≠ "java/lang/invoke/MethodHandle" ∧ yX7_bound.cls ≠ "java/lang/invoke/VarHandle" ∧ (parseMethodDescriptor yX7_bound.desc).map (fun d => d.parameters.length) = some 2 := by decide +kernel
def P_X7_bound (post : Int32 → (Nat → Int64) → Prop) (t_now_size : Int32) (t_now_wholeness : Int32) (t_now_lower : Nat → Int32) (t_now_upper : Nat → Int32) (t_rows_least : Nat → Int64) (t_now_limits : Nat → Int32) (t_now_stricts : Nat → Int32) (x1 : Int32) (x2 : Int32) : Prop :=
  P_X5_has (fun (r1 : Int32) => ((¬ r1 = 0 → ((x2 = (0 : Int32) → (vp_in x1 24 ∧ post (t_now_upper x1.toNatClampNeg) t_rows_least)) ∧ (¬ x2 = (0 : Int32) → ((x2 = (1 : Int32) → (vp_in x1 24 ∧ post (t_now_lower x1.toNatClampNeg) t_rows_least)) ∧ (¬ x2 = (1 : Int32) → ((x2 = (2 : Int32) → (vp_in x1 24 ∧ post (t_now_stricts x1.toNatClampNeg) t_rows_least)) ∧ (¬ x2 = (2 : Int32) → ((x2 = (3 : Int32) → P_X7_isNeedless (fun (r2 : Int32) (t_rows_least_v2 : Nat → Int64) => ((r2 = 0 → post (0 : Int32) t_rows_least_v2) ∧ (¬ r2 = 0 → post (1 : Int32) t_rows_least_v2))) t_now_size t_now_wholeness t_now_lower t_now_upper t_rows_least t_now_limits t_now_stricts x1) ∧ (¬ x2 = (3 : Int32) → ((x2 = (4 : Int32) → (vp_in x1 24 ∧ (vp_in x1 24 ∧ P_X5_ofPair (fun (r3 : Int32) => post r3 t_rows_least) t_now_size t_now_upper t_now_lower (t_now_upper x1.toNatClampNeg) (t_now_lower x1.toNatClampNeg)))) ∧ (¬ x2 = (4 : Int32) → post (-1 : Int32) t_rows_least))))))))))) ∧ (r1 = 0 → post (-1 : Int32) t_rows_least))) t_now_size x1
set_option maxHeartbeats 4000000 in
set_option maxRecDepth 100000 in
theorem c_X7_bound (l : Launch) (D : va_G) (cy : Nat → ClassId) (sz : Nat) (A_t A_t_tape A_t_now A_t_images A_t_imageMade A_t_sheets A_t_rows A_t_clash A_t_span A_t_reader A_t_now_upper A_t_now_lower A_t_now_limits A_t_now_stricts A_t_now_marks A_t_rows_least A_t_rows_table : Nat) (t_latestTorn : Int32) (t_now_size : Int32) (t_now_marked : Int32) (t_now_wholeness : Int32) (t_now_lower : Nat → Int32) (t_now_upper : Nat → Int32) (t_rows_least : Nat → Int64) (t_now_limits : Nat → Int32) (t_now_stricts : Nat → Int32) (x1 : Int32) (x2 : Int32) (post : Int32 → (Nat → Int64) → Prop) (h : P_X7_bound post t_now_size t_now_wholeness t_now_lower t_now_upper t_rows_least t_now_limits t_now_stricts x1 x2) : Met l yX7_bound wsX7_bound { frames := 4, cells := 0, slots := 0, locals := 98 } (pcW D cy [(A_t, .inr (7, [.ref A_t_tape, .ref A_t_now, .ref A_t_images, .ref A_t_imageMade, .ref A_t_sheets, .ref A_t_rows, .ref A_t_clash, .ref A_t_span, .ref A_t_reader, .int t_latestTorn])), (A_t_now, .inr (5, [.ref A_t_now_upper, .ref A_t_now_lower, .ref A_t_now_limits, .ref A_t_now_stricts, .ref A_t_now_marks, .int t_now_size, .int t_now_marked, .int t_now_wholeness])), (A_t_now_lower, .inl (cy 1, 24, .inl t_now_lower)), (A_t_now_upper, .inl (cy 1, 24, .inl t_now_upper)), (A_t_rows, .inr (2, [.ref A_t_rows_least, .ref A_t_rows_table])), (A_t_rows_least, .inl (cy 2, 10, .inr (.inl t_rows_least))), (A_t_now_limits, .inl (cy 1, 24, .inl t_now_limits)), (A_t_now_stricts, .inl (cy 1, 24, .inl t_now_stricts))] sz [.ref A_t, .int x1, .int x2]) (va_Qi (fun r (u : (Nat → Int64)) => post r u) (bW D [(A_t, .inr (7, [.ref A_t_tape, .ref A_t_now, .ref A_t_images, .ref A_t_imageMade, .ref A_t_sheets, .ref A_t_rows, .ref A_t_clash, .ref A_t_span, .ref A_t_reader, .int t_latestTorn])), (A_t_now, .inr (5, [.ref A_t_now_upper, .ref A_t_now_lower, .ref A_t_now_limits, .ref A_t_now_stricts, .ref A_t_now_marks, .int t_now_size, .int t_now_marked, .int t_now_wholeness])), (A_t_now_lower, .inl (cy 1, 24, .inl t_now_lower)), (A_t_now_upper, .inl (cy 1, 24, .inl t_now_upper)), (A_t_rows, .inr (2, [.ref A_t_rows_least, .ref A_t_rows_table])), (A_t_rows_least, .inl (cy 2, 10, .inr (.inl t_rows_least))), (A_t_now_limits, .inl (cy 1, 24, .inl t_now_limits)), (A_t_now_stricts, .inl (cy 1, 24, .inl t_now_stricts))] sz (fun u => [(A_t, .inr (7, [.ref A_t_tape, .ref A_t_now, .ref A_t_images, .ref A_t_imageMade, .ref A_t_sheets, .ref A_t_rows, .ref A_t_clash, .ref A_t_span, .ref A_t_reader, .int t_latestTorn])), (A_t_now, .inr (5, [.ref A_t_now_upper, .ref A_t_now_lower, .ref A_t_now_limits, .ref A_t_now_stricts, .ref A_t_now_marks, .int t_now_size, .int t_now_marked, .int t_now_wholeness])), (A_t_now_lower, .inl (cy 1, 24, .inl t_now_lower)), (A_t_now_upper, .inl (cy 1, 24, .inl t_now_upper)), (A_t_rows, .inr (2, [.ref A_t_rows_least, .ref A_t_rows_table])), (A_t_rows_least, .inl (cy 2, 10, .inr (.inl u))), (A_t_now_limits, .inl (cy 1, 24, .inl t_now_limits)), (A_t_now_stricts, .inl (cy 1, 24, .inl t_now_stricts))])) (va_A [(A_t, .inr (7, [.ref A_t_tape, .ref A_t_now, .ref A_t_images, .ref A_t_imageMade, .ref A_t_sheets, .ref A_t_rows, .ref A_t_clash, .ref A_t_span, .ref A_t_reader, .int t_latestTorn])), (A_t_now, .inr (5, [.ref A_t_now_upper, .ref A_t_now_lower, .ref A_t_now_limits, .ref A_t_now_stricts, .ref A_t_now_marks, .int t_now_size, .int t_now_marked, .int t_now_wholeness])), (A_t_now_lower, .inl (cy 1, 24, .inl t_now_lower)), (A_t_now_upper, .inl (cy 1, 24, .inl t_now_upper)), (A_t_rows, .inr (2, [.ref A_t_rows_least, .ref A_t_rows_table])), (A_t_rows_least, .inl (cy 2, 10, .inr (.inl t_rows_least))), (A_t_now_limits, .inl (cy 1, 24, .inl t_now_limits)), (A_t_now_stricts, .inl (cy 1, 24, .inl t_now_stricts))] sz)) 0 0 (va_A [(A_t, .inr (7, [.ref A_t_tape, .ref A_t_now, .ref A_t_images, .ref A_t_imageMade, .ref A_t_sheets, .ref A_t_rows, .ref A_t_clash, .ref A_t_span, .ref A_t_reader, .int t_latestTorn])), (A_t_now, .inr (5, [.ref A_t_now_upper, .ref A_t_now_lower, .ref A_t_now_limits, .ref A_t_now_stricts, .ref A_t_now_marks, .int t_now_size, .int t_now_marked, .int t_now_wholeness])), (A_t_now_lower, .inl (cy 1, 24, .inl t_now_lower)), (A_t_now_upper, .inl (cy 1, 24, .inl t_now_upper)), (A_t_rows, .inr (2, [.ref A_t_rows_least, .ref A_t_rows_table])), (A_t_rows_least, .inl (cy 2, 10, .inr (.inl t_rows_least))), (A_t_now_limits, .inl (cy 1, 24, .inl t_now_limits)), (A_t_now_stricts, .inl (cy 1, 24, .inl t_now_stricts))] sz) := by
  refine Met.ofW (cc := cX7_bound) (maxL := 3) (ret := (some .int)) (by decide) rfl ?_
  intro p e s m args below meth c s₁ B hml hv
  obtain ⟨rfl, hsz, hP, hK, hD0⟩ := hv
  have hx := B.exec
  have hb := B.bytes
  have hr := B.returns
  have hts := atoms_spec (ws := wsX7_bound) B.pre
  have hown : s.vm.findClass RX7 = some m.cls := findClass_of_methodNamed B.named
  have hlocks := B.notSynchronized
  have CF : CallFix p m c cX7_bound 3 s ([.ref A_t, .int x1, .int x2] : List Value).toArray wsX7_bound RX7 := ⟨hx, hb, hml, hown, hts⟩
  have f0 := hts (.fieldLink RX7 10 "GapBounds" "now" "LGapBounds$Store;") (by decide +kernel)
  have f1 := hts (.fieldLink RX7 130 "GapBounds$Store" "upper" "[I") (by decide +kernel)
  have f2 := hts (.fieldLink RX7 134 "GapBounds$Store" "lower" "[I") (by decide +kernel)
  have f3 := hts (.fieldLink RX7 137 "GapBounds$Store" "stricts" "[I") (by decide +kernel)
  have iX5 : ∀ w ∈ u_ws RX5 TX5 8, w ∈ wsX7_bound := by decide +kernel
  have iX7 : ∀ w ∈ u_ws RX7 TX7 10, w ∈ wsX7_bound := by decide +kernel
  subst hsz
  obtain ⟨A, hAe⟩ : ∃ A, A = va_A [(A_t, .inr (7, [.ref A_t_tape, .ref A_t_now, .ref A_t_images, .ref A_t_imageMade, .ref A_t_sheets, .ref A_t_rows, .ref A_t_clash, .ref A_t_span, .ref A_t_reader, .int t_latestTorn])), (A_t_now, .inr (5, [.ref A_t_now_upper, .ref A_t_now_lower, .ref A_t_now_limits, .ref A_t_now_stricts, .ref A_t_now_marks, .int t_now_size, .int t_now_marked, .int t_now_wholeness])), (A_t_now_lower, .inl (cy 1, 24, .inl t_now_lower)), (A_t_now_upper, .inl (cy 1, 24, .inl t_now_upper)), (A_t_rows, .inr (2, [.ref A_t_rows_least, .ref A_t_rows_table])), (A_t_rows_least, .inl (cy 2, 10, .inr (.inl t_rows_least))), (A_t_now_limits, .inl (cy 1, 24, .inl t_now_limits)), (A_t_now_stricts, .inl (cy 1, 24, .inl t_now_stricts))] s.heap.size := ⟨_, rfl⟩
  have hD : va_D A [(A_t, .inr (7, [.ref A_t_tape, .ref A_t_now, .ref A_t_images, .ref A_t_imageMade, .ref A_t_sheets, .ref A_t_rows, .ref A_t_clash, .ref A_t_span, .ref A_t_reader, .int t_latestTorn])), (A_t_now, .inr (5, [.ref A_t_now_upper, .ref A_t_now_lower, .ref A_t_now_limits, .ref A_t_now_stricts, .ref A_t_now_marks, .int t_now_size, .int t_now_marked, .int t_now_wholeness])), (A_t_now_lower, .inl (cy 1, 24, .inl t_now_lower)), (A_t_now_upper, .inl (cy 1, 24, .inl t_now_upper)), (A_t_rows, .inr (2, [.ref A_t_rows_least, .ref A_t_rows_table])), (A_t_rows_least, .inl (cy 2, 10, .inr (.inl t_rows_least))), (A_t_now_limits, .inl (cy 1, 24, .inl t_now_limits)), (A_t_now_stricts, .inl (cy 1, 24, .inl t_now_stricts))] := by rw [hAe]; exact hD0.self
  have hA : ∀ q : Nat, s.heap.size ≤ q → A q := fun q hq => by rw [hAe]; exact Or.inr hq
  have hS : va_S A s.heap s.heap [] := va_S.rf
  have hl := lv_entry [.ref A_t, .int x1, .int x2] (n := 3) (Nat.le_of_ble_eq_true rfl)
  rw [lg_entry_eq]
  generalize (lg_sl [.ref A_t, .int x1, .int x2] ++ List.replicate (3 - (lg_sl [.ref A_t, .int x1, .int x2]).length) Slot.unset).toArray = ls at hl ⊢
  have hl : lv_has ls 3 [(0, .ref A_t), (1, .int x1), (2, .int x2)] := hl
  refine W.gen (fun Q0 hQ => ?_)
  unfold P_X7_bound at h
  refine lv_aload_n hx hb dX7_bound_0 rfl (lv_at hl 0 rfl) ?_
  refine va_get (D := D) (ci := 7) (v := .ref A_t_now) (C := RX7) (T := TX7) (N := 10) hx hb hts iX7 hown hK.1 hP 0 rfl rfl 1 (by decide) f0 (fun _ h9 => h9) rfl dX7_bound_1 ?_
  refine lv_iload_n hx hb dX7_bound_4 rfl (lv_at hl 1 rfl) ?_
  have hPc := hP.sub (ws' := [(A_t_now, .inr (5, [.ref A_t_now_upper, .ref A_t_now_lower, .ref A_t_now_limits, .ref A_t_now_stricts, .ref A_t_now_marks, .int t_now_size, .int t_now_marked, .int t_now_wholeness]))]) [1] rfl
  refine vp_callSi (W.runV (As := [.int x1]) (rest := []) CF (c_X5_has l D cy A_t_now A_t_now_upper A_t_now_lower A_t_now_limits A_t_now_stricts A_t_now_marks t_now_size t_now_marked t_now_wholeness x1 _ h) (cwV 1 hts gX7_bound_X5_has rfl rfl rfl qX5_has ⟨Nat.le_of_ble_eq_true rfl, Nat.le_of_ble_eq_true rfl⟩) (mpVR hK hPc (ci := 5) (q := (RX5, TX5, 8)) (q0 := 0) rfl rfl) rfl rfl hl.1 rfl (lv_room (Nat.le_of_ble_eq_true rfl)) dX7_bound_5 ⟨Nat.zero_le _, Nat.zero_le _⟩) (fun r1 h => ?_)
  refine lv_if_ne (tgt := 13) hx hb dX7_bound_8 (by decide) (fun hc => ?_) (fun hc => ?_)
  · replace h := h.1 hc
    refine lv_iload_n hx hb dX7_bound_13 rfl (lv_at hl 2 rfl) ?_
    by_cases hc0 : x2 = (0 : Int32)
    · replace h := h.1 hc0
      refine lv_tableIn (tgt := 48) hx hb dX7_bound_14 (by rw [hc0]; decide) (by rw [hc0]; decide) (by rw [hc0]; rfl) (by decide) ?_
      refine lv_aload_n hx hb dX7_bound_48 rfl (lv_at hl 0 rfl) ?_
      refine va_get (D := D) (ci := 7) (v := .ref A_t_now) (C := RX7) (T := TX7) (N := 10) hx hb hts iX7 hown hK.1 hP 0 rfl rfl 1 (by decide) f0 (fun _ h9 => h9) rfl dX7_bound_49 ?_
      refine va_get (D := D) (ci := 5) (v := .ref A_t_now_upper) (C := RX5) (T := TX5) (N := 8) hx hb hts iX5 hown hK.1 hP 1 rfl rfl 0 (by decide) f1 (fun _ h9 => h9) rfl dX7_bound_52 ?_
      refine lv_iload_n hx hb dX7_bound_55 rfl (lv_at hl 1 rfl) ?_
      refine va_iald hx hb hK.1 hP 3 1 rfl rfl h.1 dX7_bound_56 ?_
      replace h := h.2
      subst hQ
      subst hAe
      exact W.iret (v := t_now_upper x1.toNatClampNeg) hx hb hr (fun t ht _ => ⟨⟨t_now_upper x1.toNatClampNeg, t_rows_least, rfl, h, by rw [ht]; exact hP, hD⟩, hS.F ht⟩) hS.2.2 dX7_bound_57
    · replace h := h.2 hc0
      by_cases hc1 : x2 = (1 : Int32)
      · replace h := h.1 hc1
        refine lv_tableIn (tgt := 58) hx hb dX7_bound_14 (by rw [hc1]; decide) (by rw [hc1]; decide) (by rw [hc1]; rfl) (by decide) ?_
        refine lv_aload_n hx hb dX7_bound_58 rfl (lv_at hl 0 rfl) ?_
        refine va_get (D := D) (ci := 7) (v := .ref A_t_now) (C := RX7) (T := TX7) (N := 10) hx hb hts iX7 hown hK.1 hP 0 rfl rfl 1 (by decide) f0 (fun _ h9 => h9) rfl dX7_bound_59 ?_
        refine va_get (D := D) (ci := 5) (v := .ref A_t_now_lower) (C := RX5) (T := TX5) (N := 8) hx hb hts iX5 hown hK.1 hP 1 rfl rfl 1 (by decide) f2 (fun _ h9 => h9) rfl dX7_bound_62 ?_
        refine lv_iload_n hx hb dX7_bound_65 rfl (lv_at hl 1 rfl) ?_
        refine va_iald hx hb hK.1 hP 2 1 rfl rfl h.1 dX7_bound_66 ?_
        replace h := h.2
        subst hQ
        subst hAe
        exact W.iret (v := t_now_lower x1.toNatClampNeg) hx hb hr (fun t ht _ => ⟨⟨t_now_lower x1.toNatClampNeg, t_rows_least, rfl, h, by rw [ht]; exact hP, hD⟩, hS.F ht⟩) hS.2.2 dX7_bound_67
      · replace h := h.2 hc1
        by_cases hc2 : x2 = (2 : Int32)
        · replace h := h.1 hc2
          refine lv_tableIn (tgt := 68) hx hb dX7_bound_14 (by rw [hc2]; decide) (by rw [hc2]; decide) (by rw [hc2]; rfl) (by decide) ?_
          refine lv_aload_n hx hb dX7_bound_68 rfl (lv_at hl 0 rfl) ?_
          refine va_get (D := D) (ci := 7) (v := .ref A_t_now) (C := RX7) (T := TX7) (N := 10) hx hb hts iX7 hown hK.1 hP 0 rfl rfl 1 (by decide) f0 (fun _ h9 => h9) rfl dX7_bound_69 ?_
          refine va_get (D := D) (ci := 5) (v := .ref A_t_now_stricts) (C := RX5) (T := TX5) (N := 8) hx hb hts iX5 hown hK.1 hP 1 rfl rfl 3 (by decide) f3 (fun _ h9 => h9) rfl dX7_bound_72 ?_
          refine lv_iload_n hx hb dX7_bound_75 rfl (lv_at hl 1 rfl) ?_
          refine va_iald hx hb hK.1 hP 7 1 rfl rfl h.1 dX7_bound_76 ?_
          replace h := h.2
          subst hQ
          subst hAe
          exact W.iret (v := t_now_stricts x1.toNatClampNeg) hx hb hr (fun t ht _ => ⟨⟨t_now_stricts x1.toNatClampNeg, t_rows_least, rfl, h, by rw [ht]; exact hP, hD⟩, hS.F ht⟩) hS.2.2 dX7_bound_77
        · replace h := h.2 hc2
          by_cases hc3 : x2 = (3 : Int32)
          · replace h := h.1 hc3
            refine lv_tableIn (tgt := 78) hx hb dX7_bound_14 (by rw [hc3]; decide) (by rw [hc3]; decide) (by rw [hc3]; rfl) (by decide) ?_
            refine lv_aload_n hx hb dX7_bound_78 rfl (lv_at hl 0 rfl) ?_
            refine lv_iload_n hx hb dX7_bound_79 rfl (lv_at hl 1 rfl) ?_
            have hPn : va_P D vwCl ([] ++ [(A_t, .inr (7, [.ref A_t_tape, .ref A_t_now, .ref A_t_images, .ref A_t_imageMade, .ref A_t_sheets, .ref A_t_rows, .ref A_t_clash, .ref A_t_span, .ref A_t_reader, .int t_latestTorn])), (A_t_now, .inr (5, [.ref A_t_now_upper, .ref A_t_now_lower, .ref A_t_now_limits, .ref A_t_now_stricts, .ref A_t_now_marks, .int t_now_size, .int t_now_marked, .int t_now_wholeness])), (A_t_now_lower, .inl (cy 1, 24, .inl t_now_lower)), (A_t_now_upper, .inl (cy 1, 24, .inl t_now_upper)), (A_t_rows, .inr (2, [.ref A_t_rows_least, .ref A_t_rows_table])), (A_t_rows_least, .inl (cy 2, 10, .inr (.inl t_rows_least))), (A_t_now_limits, .inl (cy 1, 24, .inl t_now_limits)), (A_t_now_stricts, .inl (cy 1, 24, .inl t_now_stricts))]) s.heap := hP.sub [0, 1, 2, 3, 4, 5, 6, 7] rfl
            have hDn : va_D A ([] ++ [(A_t, .inr (7, [.ref A_t_tape, .ref A_t_now, .ref A_t_images, .ref A_t_imageMade, .ref A_t_sheets, .ref A_t_rows, .ref A_t_clash, .ref A_t_span, .ref A_t_reader, .int t_latestTorn])), (A_t_now, .inr (5, [.ref A_t_now_upper, .ref A_t_now_lower, .ref A_t_now_limits, .ref A_t_now_stricts, .ref A_t_now_marks, .int t_now_size, .int t_now_marked, .int t_now_wholeness])), (A_t_now_lower, .inl (cy 1, 24, .inl t_now_lower)), (A_t_now_upper, .inl (cy 1, 24, .inl t_now_upper)), (A_t_rows, .inr (2, [.ref A_t_rows_least, .ref A_t_rows_table])), (A_t_rows_least, .inl (cy 2, 10, .inr (.inl t_rows_least))), (A_t_now_limits, .inl (cy 1, 24, .inl t_now_limits)), (A_t_now_stricts, .inl (cy 1, 24, .inl t_now_stricts))]) := hD.sub [0, 1, 2, 3, 4, 5, 6, 7] (by decide) rfl
            have hPc := gPR hPn
            have hDc := gDR hDn
            refine mw_i (va_runV (As := [.int x1]) (rest := []) CF (c_X7_isNeedless l D cy s.heap.size A_t A_t_tape A_t_now A_t_images A_t_imageMade A_t_sheets A_t_rows A_t_clash A_t_span A_t_reader A_t_now_upper A_t_now_lower A_t_now_limits A_t_now_stricts A_t_now_marks A_t_rows_least A_t_rows_table t_latestTorn t_now_size t_now_marked t_now_wholeness t_now_lower t_now_upper t_rows_least t_now_limits t_now_stricts x1 _ h) (cwV 1 hts gX7_bound_X7_isNeedless rfl rfl rfl qX7_isNeedless ⟨Nat.le_of_ble_eq_true rfl, Nat.le_of_ble_eq_true rfl⟩) (mpVW hK hPc hDc (ci := 7) (q := (RX7, TX7, 10)) (q0 := 0) rfl rfl) rfl rfl hl.1 rfl (lv_room (Nat.le_of_ble_eq_true rfl)) dX7_bound_80 ⟨Nat.zero_le _, Nat.zero_le _⟩) hPn hDn hS hA (fun r2 t_rows_least_v2 H locs h hP hD hS => ?_)
            have hP : va_P D vwCl [(A_t, .inr (7, [.ref A_t_tape, .ref A_t_now, .ref A_t_images, .ref A_t_imageMade, .ref A_t_sheets, .ref A_t_rows, .ref A_t_clash, .ref A_t_span, .ref A_t_reader, .int t_latestTorn])), (A_t_now, .inr (5, [.ref A_t_now_upper, .ref A_t_now_lower, .ref A_t_now_limits, .ref A_t_now_stricts, .ref A_t_now_marks, .int t_now_size, .int t_now_marked, .int t_now_wholeness])), (A_t_now_lower, .inl (cy 1, 24, .inl t_now_lower)), (A_t_now_upper, .inl (cy 1, 24, .inl t_now_upper)), (A_t_rows, .inr (2, [.ref A_t_rows_least, .ref A_t_rows_table])), (A_t_rows_least, .inl (cy 2, 10, .inr (.inl t_rows_least_v2))), (A_t_now_limits, .inl (cy 1, 24, .inl t_now_limits)), (A_t_now_stricts, .inl (cy 1, 24, .inl t_now_stricts))] H := hP.sub [0, 1, 2, 3, 4, 5, 6, 7] rfl
            have hD : va_D A [(A_t, .inr (7, [.ref A_t_tape, .ref A_t_now, .ref A_t_images, .ref A_t_imageMade, .ref A_t_sheets, .ref A_t_rows, .ref A_t_clash, .ref A_t_span, .ref A_t_reader, .int t_latestTorn])), (A_t_now, .inr (5, [.ref A_t_now_upper, .ref A_t_now_lower, .ref A_t_now_limits, .ref A_t_now_stricts, .ref A_t_now_marks, .int t_now_size, .int t_now_marked, .int t_now_wholeness])), (A_t_now_lower, .inl (cy 1, 24, .inl t_now_lower)), (A_t_now_upper, .inl (cy 1, 24, .inl t_now_upper)), (A_t_rows, .inr (2, [.ref A_t_rows_least, .ref A_t_rows_table])), (A_t_rows_least, .inl (cy 2, 10, .inr (.inl t_rows_least_v2))), (A_t_now_limits, .inl (cy 1, 24, .inl t_now_limits)), (A_t_now_stricts, .inl (cy 1, 24, .inl t_now_stricts))] := hD.sub [0, 1, 2, 3, 4, 5, 6, 7] (by decide) rfl
            refine lv_if_eq (tgt := 90) hx hb dX7_bound_83 (by decide) (fun hc => ?_) (fun hc => ?_)
            · replace h := h.1 hc
              refine lv_iconst (v := 0) hx hb dX7_bound_90 (by decide) ?_
              subst hQ
              subst hAe
              exact W.iret (v := (0 : Int32)) hx hb hr (fun t ht _ => ⟨⟨(0 : Int32), t_rows_least_v2, rfl, h, by rw [ht]; exact hP, hD⟩, hS.F ht⟩) hS.2.2 dX7_bound_91
            · replace h := h.2 hc
              refine lv_iconst (v := 1) hx hb dX7_bound_86 (by decide) ?_
              refine lv_goto (tgt := 91) hx hb dX7_bound_87 (by decide) ?_
              subst hQ
              subst hAe
              exact W.iret (v := (1 : Int32)) hx hb hr (fun t ht _ => ⟨⟨(1 : Int32), t_rows_least_v2, rfl, h, by rw [ht]; exact hP, hD⟩, hS.F ht⟩) hS.2.2 dX7_bound_91
          · replace h := h.2 hc3
            by_cases hc4 : x2 = (4 : Int32)
            · replace h := h.1 hc4
              refine lv_tableIn (tgt := 92) hx hb dX7_bound_14 (by rw [hc4]; decide) (by rw [hc4]; decide) (by rw [hc4]; rfl) (by decide) ?_
              refine lv_aload_n hx hb dX7_bound_92 rfl (lv_at hl 0 rfl) ?_
              refine va_get (D := D) (ci := 7) (v := .ref A_t_now) (C := RX7) (T := TX7) (N := 10) hx hb hts iX7 hown hK.1 hP 0 rfl rfl 1 (by decide) f0 (fun _ h9 => h9) rfl dX7_bound_93 ?_
              refine lv_aload_n hx hb dX7_bound_96 rfl (lv_at hl 0 rfl) ?_
              refine va_get (D := D) (ci := 7) (v := .ref A_t_now) (C := RX7) (T := TX7) (N := 10) hx hb hts iX7 hown hK.1 hP 0 rfl rfl 1 (by decide) f0 (fun _ h9 => h9) rfl dX7_bound_97 ?_
              refine va_get (D := D) (ci := 5) (v := .ref A_t_now_upper) (C := RX5) (T := TX5) (N := 8) hx hb hts iX5 hown hK.1 hP 1 rfl rfl 0 (by decide) f1 (fun _ h9 => h9) rfl dX7_bound_100 ?_
              refine lv_iload_n hx hb dX7_bound_103 rfl (lv_at hl 1 rfl) ?_
              refine va_iald hx hb hK.1 hP 3 1 rfl rfl h.1 dX7_bound_104 ?_
              replace h := h.2
              refine lv_aload_n hx hb dX7_bound_105 rfl (lv_at hl 0 rfl) ?_
              refine va_get (D := D) (ci := 7) (v := .ref A_t_now) (C := RX7) (T := TX7) (N := 10) hx hb hts iX7 hown hK.1 hP 0 rfl rfl 1 (by decide) f0 (fun _ h9 => h9) rfl dX7_bound_106 ?_
              refine va_get (D := D) (ci := 5) (v := .ref A_t_now_lower) (C := RX5) (T := TX5) (N := 8) hx hb hts iX5 hown hK.1 hP 1 rfl rfl 1 (by decide) f2 (fun _ h9 => h9) rfl dX7_bound_109 ?_
              refine lv_iload_n hx hb dX7_bound_112 rfl (lv_at hl 1 rfl) ?_
              refine va_iald hx hb hK.1 hP 2 1 rfl rfl h.1 dX7_bound_113 ?_
              replace h := h.2
              have hPc := hP.sub (ws' := [(A_t_now, .inr (5, [.ref A_t_now_upper, .ref A_t_now_lower, .ref A_t_now_limits, .ref A_t_now_stricts, .ref A_t_now_marks, .int t_now_size, .int t_now_marked, .int t_now_wholeness])), (A_t_now_upper, .inl (cy 1, 24, .inl t_now_upper)), (A_t_now_lower, .inl (cy 1, 24, .inl t_now_lower))]) [1, 3, 2] rfl
              refine vp_callSi (W.runV (As := [.int (t_now_upper x1.toNatClampNeg), .int (t_now_lower x1.toNatClampNeg)]) (rest := []) CF (c_X5_ofPair l D cy A_t_now A_t_now_upper A_t_now_lower A_t_now_limits A_t_now_stricts A_t_now_marks t_now_size t_now_marked t_now_wholeness t_now_upper t_now_lower (t_now_upper x1.toNatClampNeg) (t_now_lower x1.toNatClampNeg) _ h) (cwV 2 hts gX7_bound_X5_ofPair rfl rfl rfl qX5_ofPair ⟨Nat.le_of_ble_eq_true rfl, Nat.le_of_ble_eq_true rfl⟩) (mpVR hK hPc (ci := 5) (q := (RX5, TX5, 8)) (q0 := 0) rfl rfl) rfl rfl hl.1 rfl (lv_room (Nat.le_of_ble_eq_true rfl)) dX7_bound_114 ⟨Nat.zero_le _, Nat.zero_le _⟩) (fun r3 h => ?_)
              subst hQ
              subst hAe
              exact W.iret (v := r3) hx hb hr (fun t ht _ => ⟨⟨r3, t_rows_least, rfl, h, by rw [ht]; exact hP, hD⟩, hS.F ht⟩) hS.2.2 dX7_bound_117
            · replace h := h.2 hc4
              refine lv_tableOut (tgt := 118) hx hb dX7_bound_14 (tsw_out (n := 4) (by decide) (fun k hk => ?_)) (by decide) ?_
              · rcases (show k = 0 ∨ k = 1 ∨ k = 2 ∨ k = 3 ∨ k = 4 by omega) with rfl | rfl | rfl | rfl | rfl
                · exact hc0
                · exact hc1
                · exact hc2
                · exact hc3
                · exact hc4
              · skip
                refine lv_iconst (v := -1) hx hb dX7_bound_118 (by decide) ?_
                subst hQ
                subst hAe
                exact W.iret (v := (-1 : Int32)) hx hb hr (fun t ht _ => ⟨⟨(-1 : Int32), t_rows_least, rfl, h, by rw [ht]; exact hP, hD⟩, hS.F ht⟩) hS.2.2 dX7_bound_119
  · replace h := h.2 hc
    refine lv_iconst (v := -1) hx hb dX7_bound_11 (by decide) ?_
    subst hQ
    subst hAe
    exact W.iret (v := (-1 : Int32)) hx hb hr (fun t ht _ => ⟨⟨(-1 : Int32), t_rows_least, rfl, h, by rw [ht]; exact hP, hD⟩, hS.F ht⟩) hS.2.2 dX7_bound_12
theorem qX7_limit : yX7_limit.cls = RX7 ∧ yX7_limit.cls ≠ "java/lang/invoke/MethodHandle" ∧ yX7_limit.cls ≠ "java/lang/invoke/VarHandle" ∧ (parseMethodDescriptor yX7_limit.desc).map (fun d => d.parameters.length) = some 1 := by decide +kernel
def P_X7_limit (post : Int64 → Prop) (t_now_size : Int32) (t_now_limits : Nat → Int32) (x1 : Int32) : Prop :=
  P_X5_has (fun (r1 : Int32) => ((r1 = 0 → post (1000000000000 : Int64)) ∧ (¬ r1 = 0 → (vp_in x1 24 ∧ post ((t_now_limits x1.toNatClampNeg).toInt64))))) t_now_size x1
set_option maxHeartbeats 4000000 in
set_option maxRecDepth 100000 in
theorem c_X7_limit (l : Launch) (D : va_G) (cy : Nat → ClassId) (A_t A_t_tape A_t_now A_t_images A_t_imageMade A_t_sheets A_t_rows A_t_clash A_t_span A_t_reader A_t_now_upper A_t_now_lower A_t_now_limits A_t_now_stricts A_t_now_marks : Nat) (t_latestTorn : Int32) (t_now_size : Int32) (t_now_marked : Int32) (t_now_wholeness : Int32) (t_now_limits : Nat → Int32) (x1 : Int32) (post : Int64 → Prop) (h : P_X7_limit post t_now_size t_now_limits x1) : Met l yX7_limit wsX7_limit { frames := 1, cells := 0, slots := 0, locals := 21 } (pcR D cy [(A_t, .inr (7, [.ref A_t_tape, .ref A_t_now, .ref A_t_images, .ref A_t_imageMade, .ref A_t_sheets, .ref A_t_rows, .ref A_t_clash, .ref A_t_span, .ref A_t_reader, .int t_latestTorn])), (A_t_now, .inr (5, [.ref A_t_now_upper, .ref A_t_now_lower, .ref A_t_now_limits, .ref A_t_now_stricts, .ref A_t_now_marks, .int t_now_size, .int t_now_marked, .int t_now_wholeness])), (A_t_now_limits, .inl (cy 1, 24, .inl t_now_limits))] [.ref A_t, .int x1]) (vp_Sl post) 0 0 (fun _ => False) := by
  refine Met.ofW (cc := cX7_limit) (maxL := 2) (ret := (some .long)) (by decide) rfl ?_
  intro p e s m args below meth c s₁ B hml hv
  obtain ⟨rfl, hP, hK⟩ := hv
  have hx := B.exec
  have hb := B.bytes
  have hr := B.returns
  have hts := atoms_spec (ws := wsX7_limit) B.pre
  have hown : s.vm.findClass RX7 = some m.cls := findClass_of_methodNamed B.named
  have hlocks := B.notSynchronized
  have CF : CallFix p m c cX7_limit 2 s ([.ref A_t, .int x1] : List Value).toArray wsX7_limit RX7 := ⟨hx, hb, hml, hown, hts⟩
  have f0 := hts (.fieldLink RX7 10 "GapBounds" "now" "LGapBounds$Store;") (by decide +kernel)
  have f1 := hts (.constantLong RX7 150 (1000000000000)) (by decide +kernel)
  have f2 := hts (.fieldLink RX7 147 "GapBounds$Store" "limits" "[I") (by decide +kernel)
  have iX5 : ∀ w ∈ u_ws RX5 TX5 8, w ∈ wsX7_limit := by decide +kernel
  have iX7 : ∀ w ∈ u_ws RX7 TX7 10, w ∈ wsX7_limit := by decide +kernel
  have hl := lv_entry [.ref A_t, .int x1] (n := 2) (Nat.le_of_ble_eq_true rfl)
  rw [lg_entry_eq]
  generalize (lg_sl [.ref A_t, .int x1] ++ List.replicate (2 - (lg_sl [.ref A_t, .int x1]).length) Slot.unset).toArray = ls at hl ⊢
  have hl : lv_has ls 2 [(0, .ref A_t), (1, .int x1)] := hl
  refine W.gen (fun Q0 hQ => ?_)
  unfold P_X7_limit at h
  refine lv_aload_n hx hb dX7_limit_0 rfl (lv_at hl 0 rfl) ?_
  refine va_get (D := D) (ci := 7) (v := .ref A_t_now) (C := RX7) (T := TX7) (N := 10) hx hb hts iX7 hown hK.1 hP 0 rfl rfl 1 (by decide) f0 (fun _ h9 => h9) rfl dX7_limit_1 ?_
  refine lv_iload_n hx hb dX7_limit_4 rfl (lv_at hl 1 rfl) ?_
  have hPc := hP.sub (ws' := [(A_t_now, .inr (5, [.ref A_t_now_upper, .ref A_t_now_lower, .ref A_t_now_limits, .ref A_t_now_stricts, .ref A_t_now_marks, .int t_now_size, .int t_now_marked, .int t_now_wholeness]))]) [1] rfl
  refine vp_callSi (W.runV (As := [.int x1]) (rest := []) CF (c_X5_has l D cy A_t_now A_t_now_upper A_t_now_lower A_t_now_limits A_t_now_stricts A_t_now_marks t_now_size t_now_marked t_now_wholeness x1 _ h) (cwV 1 hts gX7_limit_X5_has rfl rfl rfl qX5_has ⟨Nat.le_of_ble_eq_true rfl, Nat.le_of_ble_eq_true rfl⟩) (mpVR hK hPc (ci := 5) (q := (RX5, TX5, 8)) (q0 := 0) rfl rfl) rfl rfl hl.1 rfl (lv_room (Nat.le_of_ble_eq_true rfl)) dX7_limit_5 ⟨Nat.zero_le _, Nat.zero_le _⟩) (fun r1 h => ?_)
  refine lv_if_eq (tgt := 24) hx hb dX7_limit_8 (by decide) (fun hc => ?_) (fun hc => ?_)
  · replace h := h.1 hc
    refine lv_ldc2 (v := 1000000000000) hx hb hown f1 dX7_limit_24 ?_
    subst hQ
    exact W.lret (v := (1000000000000 : Int64)) hx hb hr (fun t ht _ => ⟨(1000000000000 : Int64), rfl, h, ht⟩) (fun _ hq => absurd hq List.not_mem_nil) dX7_limit_27
  · replace h := h.2 hc
    refine lv_aload_n hx hb dX7_limit_11 rfl (lv_at hl 0 rfl) ?_
    refine va_get (D := D) (ci := 7) (v := .ref A_t_now) (C := RX7) (T := TX7) (N := 10) hx hb hts iX7 hown hK.1 hP 0 rfl rfl 1 (by decide) f0 (fun _ h9 => h9) rfl dX7_limit_12 ?_
    refine va_get (D := D) (ci := 5) (v := .ref A_t_now_limits) (C := RX5) (T := TX5) (N := 8) hx hb hts iX5 hown hK.1 hP 1 rfl rfl 2 (by decide) f2 (fun _ h9 => h9) rfl dX7_limit_15 ?_
    refine lv_iload_n hx hb dX7_limit_18 rfl (lv_at hl 1 rfl) ?_
    refine va_iald hx hb hK.1 hP 2 1 rfl rfl h.1 dX7_limit_19 ?_
    replace h := h.2
    refine lv_i2l (v := (t_now_limits x1.toNatClampNeg).toInt64) hx hb dX7_limit_20 rfl ?_
    refine lv_goto (tgt := 27) hx hb dX7_limit_21 (by decide) ?_
    subst hQ
    exact W.lret (v := (t_now_limits x1.toNatClampNeg).toInt64) hx hb hr (fun t ht _ => ⟨(t_now_limits x1.toNatClampNeg).toInt64, rfl, h, ht⟩) (fun _ hq => absurd hq List.not_mem_nil) dX7_limit_27
theorem qX7_tightest : yX7_tightest.cls = RX7 ∧ yX7_tightest.cls ≠ "java/lang/invoke/MethodHandle" ∧ yX7_tightest.cls ≠ "java/lang/invoke/VarHandle" ∧ (parseMethodDescriptor yX7_tightest.desc).map (fun d => d.parameters.length) = some 2 := by decide +kernel
def B_X7_tightest_76 (K_21 : Int32 → Int64 → Int32 → Prop) (x3 : Int32) (x6 : Int32) (y4 : Int64) : Prop :=
  K_21 x3 y4 (x6 + (1 : Int32))
def LB_X7_tightest_21 (post : Int32 → Prop) (t_now_size : Int32) (t_now_wholeness : Int32) (t_now_upper : Nat → Int32) (t_now_lower : Nat → Int32) (t_now_limits : Nat → Int32) (t_now_stricts : Nat → Int32) (x1 : Int32) (x2 : Int32) (K_21 : Int32 → Int64 → Int32 → Prop) (x3 : Int32) (y4 : Int64) (x6 : Int32) : Prop :=
  ((t_now_size ≤ x6 → post x3) ∧ (¬ t_now_size ≤ x6 → P_X5_isOf (fun (r2 : Int32) => ((r2 = 0 → B_X7_tightest_76 K_21 x3 x6 y4) ∧ (¬ r2 = 0 → P_X5_weightOf (fun (r3 : Int64) => ((y4 ≤ r3 → B_X7_tightest_76 K_21 x3 x6 y4) ∧ (¬ y4 ≤ r3 → P_X5_weightOf (fun (r4 : Int64) => B_X7_tightest_76 K_21 x6 x6 r4) t_now_wholeness t_now_limits t_now_stricts x6))) t_now_wholeness t_now_limits t_now_stricts x6))) t_now_upper t_now_lower x6 x1 x2))
noncomputable def L_X7_tightest_21 (post : Int32 → Prop) (t_now_size : Int32) (t_now_wholeness : Int32) (t_now_upper : Nat → Int32) (t_now_lower : Nat → Int32) (t_now_limits : Nat → Int32) (t_now_stricts : Nat → Int32) (x1 : Int32) (x2 : Int32) (n : Nat) : Int32 → Int64 → Int32 → Prop := Nat.rec (motive := fun _ => Int32 → Int64 → Int32 → Prop) (fun _ _ _ => False) (fun _ K => LB_X7_tightest_21 post t_now_size t_now_wholeness t_now_upper t_now_lower t_now_limits t_now_stricts x1 x2 K) n
def P_X7_tightest (post : Int32 → Prop) (t_now_size : Int32) (t_now_wholeness : Int32) (t_now_upper : Nat → Int32) (t_now_lower : Nat → Int32) (t_now_limits : Nat → Int32) (t_now_stricts : Nat → Int32) (x1 : Int32) (x2 : Int32) : Prop :=
  P_X7_arePair (fun (r1 : Int32) => ((¬ r1 = 0 → ∃ n : Nat, L_X7_tightest_21 post t_now_size t_now_wholeness t_now_upper t_now_lower t_now_limits t_now_stricts x1 x2 n (-4 : Int32) (4611686018427387904 : Int64) (0 : Int32)) ∧ (r1 = 0 → post (-1 : Int32)))) x1 x2
set_option maxHeartbeats 4000000 in
set_option maxRecDepth 100000 in
theorem c_X7_tightest (l : Launch) (D : va_G) (cy : Nat → ClassId) (A_t A_t_tape A_t_now A_t_images A_t_imageMade A_t_sheets A_t_rows A_t_clash A_t_span A_t_reader A_t_now_upper A_t_now_lower A_t_now_limits A_t_now_stricts A_t_now_marks : Nat) (t_latestTorn : Int32) (t_now_size : Int32) (t_now_marked : Int32) (t_now_wholeness : Int32) (t_now_upper : Nat → Int32) (t_now_lower : Nat → Int32) (t_now_limits : Nat → Int32) (t_now_stricts : Nat → Int32) (x1 : Int32) (x2 : Int32) (post : Int32 → Prop) (h : P_X7_tightest post t_now_size t_now_wholeness t_now_upper t_now_lower t_now_limits t_now_stricts x1 x2) : Met l yX7_tightest wsX7_tightest { frames := 2, cells := 0, slots := 0, locals := 43 } (pcR D cy [(A_t, .inr (7, [.ref A_t_tape, .ref A_t_now, .ref A_t_images, .ref A_t_imageMade, .ref A_t_sheets, .ref A_t_rows, .ref A_t_clash, .ref A_t_span, .ref A_t_reader, .int t_latestTorn])), (A_t_now, .inr (5, [.ref A_t_now_upper, .ref A_t_now_lower, .ref A_t_now_limits, .ref A_t_now_stricts, .ref A_t_now_marks, .int t_now_size, .int t_now_marked, .int t_now_wholeness])), (A_t_now_upper, .inl (cy 1, 24, .inl t_now_upper)), (A_t_now_lower, .inl (cy 1, 24, .inl t_now_lower)), (A_t_now_limits, .inl (cy 1, 24, .inl t_now_limits)), (A_t_now_stricts, .inl (cy 1, 24, .inl t_now_stricts))] [.ref A_t, .int x1, .int x2]) (vp_Si post) 0 0 (fun _ => False) := by
  refine Met.ofW (cc := cX7_tightest) (maxL := 7) (ret := (some .int)) (by decide) rfl ?_
  intro p e s m args below meth c s₁ B hml hv
  obtain ⟨rfl, hP, hK⟩ := hv
  have hx := B.exec
  have hb := B.bytes
  have hr := B.returns
  have hts := atoms_spec (ws := wsX7_tightest) B.pre
  have hown : s.vm.findClass RX7 = some m.cls := findClass_of_methodNamed B.named
  have hlocks := B.notSynchronized
  have CF : CallFix p m c cX7_tightest 7 s ([.ref A_t, .int x1, .int x2] : List Value).toArray wsX7_tightest RX7 := ⟨hx, hb, hml, hown, hts⟩
  have f0 := hts (.constantLong RX7 156 (4611686018427387904)) (by decide +kernel)
  have f1 := hts (.fieldLink RX7 10 "GapBounds" "now" "LGapBounds$Store;") (by decide +kernel)
  have f2 := hts (.fieldLink RX7 108 "GapBounds$Store" "size" "I") (by decide +kernel)
  have iX5 : ∀ w ∈ u_ws RX5 TX5 8, w ∈ wsX7_tightest := by decide +kernel
  have iX7 : ∀ w ∈ u_ws RX7 TX7 10, w ∈ wsX7_tightest := by decide +kernel
  have hl := lv_entry [.ref A_t, .int x1, .int x2] (n := 7) (Nat.le_of_ble_eq_true rfl)
  rw [lg_entry_eq]
  generalize (lg_sl [.ref A_t, .int x1, .int x2] ++ List.replicate (7 - (lg_sl [.ref A_t, .int x1, .int x2]).length) Slot.unset).toArray = ls at hl ⊢
  have hl : lv_has ls 7 [(0, .ref A_t), (1, .int x1), (2, .int x2)] := hl
  refine W.gen (fun Q0 hQ => ?_)
  have L21 : ∀ (n21 : Nat) (x3 : Int32) (y4 : Int64) (x6 : Int32) (ls : Array Slot), L_X7_tightest_21 post t_now_size t_now_wholeness t_now_upper t_now_lower t_now_limits t_now_stricts x1 x2 n21 x3 y4 x6 → lv_has ls 7 [(0, .ref A_t), (1, .int x1), (2, .int x2), (3, .int x3), (4, .long y4), (6, .int x6)] → W p l e (headSpec wsX7_tightest { frames := 2, cells := 0, slots := 0, locals := 43 }).room s m ([.ref A_t, .int x1, .int x2] : List Value).toArray below meth c s.heap [] 0 0 Q0 (F0 m 21 ls []) := by
    intro n21
    induction n21 with
    | zero => intro x3 y4 x6 ls h; exact False.elim h
    | succ n21 ih21 =>
      intro x3 y4 x6 ls h hl
      have h : LB_X7_tightest_21 post t_now_size t_now_wholeness t_now_upper t_now_lower t_now_limits t_now_stricts x1 x2 (L_X7_tightest_21 post t_now_size t_now_wholeness t_now_upper t_now_lower t_now_limits t_now_stricts x1 x2 n21) x3 y4 x6 := h
      unfold LB_X7_tightest_21 at h
      have J76 : ∀ (x3 : Int32) (y4 : Int64) (x6 : Int32) (ls : Array Slot), B_X7_tightest_76 (L_X7_tightest_21 post t_now_size t_now_wholeness t_now_upper t_now_lower t_now_limits t_now_stricts x1 x2 n21) x3 x6 y4 → lv_has ls 7 [(0, .ref A_t), (1, .int x1), (2, .int x2), (3, .int x3), (4, .long y4), (6, .int x6)] → W p l e (headSpec wsX7_tightest { frames := 2, cells := 0, slots := 0, locals := 43 }).room s m ([.ref A_t, .int x1, .int x2] : List Value).toArray below meth c s.heap [] 0 0 Q0 (F0 m 76 ls []) := by
        intro x3 y4 x6 ls h hl
        unfold B_X7_tightest_76 at h
        refine lv_iinc (v := x6 + (1 : Int32)) (lv' := [(6, .int (x6 + (1 : Int32))), (0, .ref A_t), (1, .int x1), (2, .int x2), (3, .int x3), (4, .long y4)]) hx hb dX7_tightest_76 hl (k := 5) rfl rfl (by decide) rfl (fun ls hl => ?_)
        refine lv_goto (tgt := 21) hx hb dX7_tightest_79 (by decide) ?_
        exact ih21 x3 y4 (x6 + (1 : Int32)) ls h (lv_sub hl [1, 2, 3, 4, 5, 0] rfl)
      refine lv_iload hx hb dX7_tightest_21 (lv_at hl 5 rfl) ?_
      refine lv_aload_n hx hb dX7_tightest_23 rfl (lv_at hl 0 rfl) ?_
      refine va_get (D := D) (ci := 7) (v := .ref A_t_now) (C := RX7) (T := TX7) (N := 10) hx hb hts iX7 hown hK.1 hP 0 rfl rfl 1 (by decide) f1 (fun _ h9 => h9) rfl dX7_tightest_24 ?_
      refine va_get (D := D) (ci := 5) (v := .int t_now_size) (C := RX5) (T := TX5) (N := 8) hx hb hts iX5 hown hK.1 hP 1 rfl rfl 5 (by decide) f2 (fun _ h9 => h9) rfl dX7_tightest_27 ?_
      refine lv_icmp_ge (tgt := 82) hx hb dX7_tightest_30 (by decide) (fun hc => ?_) (fun hc => ?_)
      · replace h := h.1 hc
        refine lv_iload_n hx hb dX7_tightest_82 rfl (lv_at hl 3 rfl) ?_
        subst hQ
        exact W.iret (v := x3) hx hb hr (fun t ht _ => ⟨x3, rfl, h, ht⟩) (fun _ hq => absurd hq List.not_mem_nil) dX7_tightest_83
      · replace h := h.2 hc
        refine lv_aload_n hx hb dX7_tightest_33 rfl (lv_at hl 0 rfl) ?_
        refine va_get (D := D) (ci := 7) (v := .ref A_t_now) (C := RX7) (T := TX7) (N := 10) hx hb hts iX7 hown hK.1 hP 0 rfl rfl 1 (by decide) f1 (fun _ h9 => h9) rfl dX7_tightest_34 ?_
        refine lv_iload hx hb dX7_tightest_37 (lv_at hl 5 rfl) ?_
        refine lv_iload_n hx hb dX7_tightest_39 rfl (lv_at hl 1 rfl) ?_
        refine lv_iload_n hx hb dX7_tightest_40 rfl (lv_at hl 2 rfl) ?_
        have hPc := hP.sub (ws' := [(A_t_now, .inr (5, [.ref A_t_now_upper, .ref A_t_now_lower, .ref A_t_now_limits, .ref A_t_now_stricts, .ref A_t_now_marks, .int t_now_size, .int t_now_marked, .int t_now_wholeness])), (A_t_now_upper, .inl (cy 1, 24, .inl t_now_upper)), (A_t_now_lower, .inl (cy 1, 24, .inl t_now_lower))]) [1, 2, 3] rfl
        refine vp_callSi (W.runV (As := [.int x6, .int x1, .int x2]) (rest := []) CF (c_X5_isOf l D cy A_t_now A_t_now_upper A_t_now_lower A_t_now_limits A_t_now_stricts A_t_now_marks t_now_size t_now_marked t_now_wholeness t_now_upper t_now_lower x6 x1 x2 _ h) (cwV 3 hts gX7_tightest_X5_isOf rfl rfl rfl qX5_isOf ⟨Nat.le_of_ble_eq_true rfl, Nat.le_of_ble_eq_true rfl⟩) (mpVR hK hPc (ci := 5) (q := (RX5, TX5, 8)) (q0 := 0) rfl rfl) rfl rfl hl.1 rfl (lv_room (Nat.le_of_ble_eq_true rfl)) dX7_tightest_41 ⟨Nat.zero_le _, Nat.zero_le _⟩) (fun r2 h => ?_)
        refine lv_if_eq (tgt := 76) hx hb dX7_tightest_44 (by decide) (fun hc => ?_) (fun hc => ?_)
        · replace h := h.1 hc
          exact J76 x3 y4 x6 ls h (lv_sub hl [0, 1, 2, 3, 4, 5] rfl)
        · replace h := h.2 hc
          refine lv_aload_n hx hb dX7_tightest_47 rfl (lv_at hl 0 rfl) ?_
          refine va_get (D := D) (ci := 7) (v := .ref A_t_now) (C := RX7) (T := TX7) (N := 10) hx hb hts iX7 hown hK.1 hP 0 rfl rfl 1 (by decide) f1 (fun _ h9 => h9) rfl dX7_tightest_48 ?_
          refine lv_iload hx hb dX7_tightest_51 (lv_at hl 5 rfl) ?_
          have hPc := hP.sub (ws' := [(A_t_now, .inr (5, [.ref A_t_now_upper, .ref A_t_now_lower, .ref A_t_now_limits, .ref A_t_now_stricts, .ref A_t_now_marks, .int t_now_size, .int t_now_marked, .int t_now_wholeness])), (A_t_now_limits, .inl (cy 1, 24, .inl t_now_limits)), (A_t_now_stricts, .inl (cy 1, 24, .inl t_now_stricts))]) [1, 4, 5] rfl
          refine vp_callSl (W.runV (As := [.int x6]) (rest := []) CF (c_X5_weightOf l D cy A_t_now A_t_now_upper A_t_now_lower A_t_now_limits A_t_now_stricts A_t_now_marks t_now_size t_now_marked t_now_wholeness t_now_limits t_now_stricts x6 _ h) (cwV 1 hts gX7_tightest_X5_weightOf rfl rfl rfl qX5_weightOf ⟨Nat.le_of_ble_eq_true rfl, Nat.le_of_ble_eq_true rfl⟩) (mpVR hK hPc (ci := 5) (q := (RX5, TX5, 8)) (q0 := 0) rfl rfl) rfl rfl hl.1 rfl (lv_room (Nat.le_of_ble_eq_true rfl)) dX7_tightest_53 ⟨Nat.zero_le _, Nat.zero_le _⟩) (fun r3 h => ?_)
          refine lv_lload hx hb dX7_tightest_56 (lv_at hl 4 rfl) ?_
          refine lx_ge (tgt := 76) hx hb dX7_tightest_58 dX7_tightest_59 (by decide) (fun hc => ?_) (fun hc => ?_)
          · replace h := h.1 hc
            exact J76 x3 y4 x6 ls h (lv_sub hl [0, 1, 2, 3, 4, 5] rfl)
          · replace h := h.2 hc
            refine lv_aload_n hx hb dX7_tightest_62 rfl (lv_at hl 0 rfl) ?_
            refine va_get (D := D) (ci := 7) (v := .ref A_t_now) (C := RX7) (T := TX7) (N := 10) hx hb hts iX7 hown hK.1 hP 0 rfl rfl 1 (by decide) f1 (fun _ h9 => h9) rfl dX7_tightest_63 ?_
            refine lv_iload hx hb dX7_tightest_66 (lv_at hl 5 rfl) ?_
            have hPc := hP.sub (ws' := [(A_t_now, .inr (5, [.ref A_t_now_upper, .ref A_t_now_lower, .ref A_t_now_limits, .ref A_t_now_stricts, .ref A_t_now_marks, .int t_now_size, .int t_now_marked, .int t_now_wholeness])), (A_t_now_limits, .inl (cy 1, 24, .inl t_now_limits)), (A_t_now_stricts, .inl (cy 1, 24, .inl t_now_stricts))]) [1, 4, 5] rfl
            refine vp_callSl (W.runV (As := [.int x6]) (rest := []) CF (c_X5_weightOf l D cy A_t_now A_t_now_upper A_t_now_lower A_t_now_limits A_t_now_stricts A_t_now_marks t_now_size t_now_marked t_now_wholeness t_now_limits t_now_stricts x6 _ h) (cwV 1 hts gX7_tightest_X5_weightOf rfl rfl rfl qX5_weightOf ⟨Nat.le_of_ble_eq_true rfl, Nat.le_of_ble_eq_true rfl⟩) (mpVR hK hPc (ci := 5) (q := (RX5, TX5, 8)) (q0 := 0) rfl rfl) rfl rfl hl.1 rfl (lv_room (Nat.le_of_ble_eq_true rfl)) dX7_tightest_68 ⟨Nat.zero_le _, Nat.zero_le _⟩) (fun r4 h => ?_)
            refine lv_lstore (lv' := [(4, .long r4), (0, .ref A_t), (1, .int x1), (2, .int x2), (3, .int x3), (6, .int x6)]) hx hb dX7_tightest_71 hl (by decide) rfl (fun ls hl => ?_)
            refine lv_iload hx hb dX7_tightest_73 (lv_at hl 5 rfl) ?_
            refine lv_istore_n (lv' := [(3, .int x6), (4, .long r4), (0, .ref A_t), (1, .int x1), (2, .int x2), (6, .int x6)]) hx hb dX7_tightest_75 rfl hl (by decide) rfl (fun ls hl => ?_)
            exact J76 x6 r4 x6 ls h (lv_sub hl [2, 3, 4, 0, 1, 5] rfl)
  unfold P_X7_tightest at h
  refine lv_iload_n hx hb dX7_tightest_0 rfl (lv_at hl 1 rfl) ?_
  refine lv_iload_n hx hb dX7_tightest_1 rfl (lv_at hl 2 rfl) ?_
  refine vp_callSi (W.runS (As := [.int x1, .int x2]) (rest := []) CF (c_X7_arePair l x1 x2 _ h) (va_cwS 2 hts gX7_tightest_X7_arePair rfl rfl rfl qX7_arePair.2 ⟨Nat.le_of_ble_eq_true rfl, Nat.le_of_ble_eq_true rfl⟩) mpSN rfl rfl hl.1 rfl (lv_room (Nat.le_of_ble_eq_true rfl)) dX7_tightest_2 ⟨Nat.zero_le _, Nat.zero_le _⟩) (fun r1 h => ?_)
  refine lv_if_ne (tgt := 10) hx hb dX7_tightest_5 (by decide) (fun hc => ?_) (fun hc => ?_)
  · replace h := h.1 hc
    refine lv_bipush (v := -4) hx hb dX7_tightest_10 (by decide) ?_
    refine lv_istore_n (lv' := [(3, .int (-4 : Int32)), (0, .ref A_t), (1, .int x1), (2, .int x2)]) hx hb dX7_tightest_12 rfl hl (by decide) rfl (fun ls hl => ?_)
    refine lv_ldc2 (v := 4611686018427387904) hx hb hown f0 dX7_tightest_13 ?_
    refine lv_lstore (lv' := [(4, .long (4611686018427387904 : Int64)), (3, .int (-4 : Int32)), (0, .ref A_t), (1, .int x1), (2, .int x2)]) hx hb dX7_tightest_16 hl (by decide) rfl (fun ls hl => ?_)
    refine lv_iconst (v := 0) hx hb dX7_tightest_18 (by decide) ?_
    refine lv_istore (lv' := [(6, .int (0 : Int32)), (4, .long (4611686018427387904 : Int64)), (3, .int (-4 : Int32)), (0, .ref A_t), (1, .int x1), (2, .int x2)]) hx hb dX7_tightest_19 hl (by decide) rfl (fun ls hl => ?_)
    obtain ⟨nn, h⟩ := h
    exact L21 nn (-4 : Int32) (4611686018427387904 : Int64) (0 : Int32) ls h (lv_sub hl [3, 4, 5, 2, 1, 0] rfl)
  · replace h := h.2 hc
    refine lv_iconst (v := -1) hx hb dX7_tightest_8 (by decide) ?_
    subst hQ
    exact W.iret (v := (-1 : Int32)) hx hb hr (fun t ht _ => ⟨(-1 : Int32), rfl, h, ht⟩) (fun _ hq => absurd hq List.not_mem_nil) dX7_tightest_9
theorem qX7_pair : yX7_pair.cls = RX7 ∧ yX7_pair.cls ≠ "java/lang/invoke/MethodHandle" ∧ yX7_pair.cls ≠ "java/lang/invoke/VarHandle" ∧ (parseMethodDescriptor yX7_pair.desc).map (fun d => d.parameters.length) = some 1 := by decide +kernel
def B_X7_pair_63 (K_10 : Int32 → Int32 → Prop) (x2 : Int32) (x3 : Int32) : Prop :=
  K_10 x2 (x3 + (1 : Int32))
def LB_X7_pair_10 (post : Int32 → Prop) (t_now_size : Int32) (t_now_upper : Nat → Int32) (t_now_lower : Nat → Int32) (x1 : Int32) (K_10 : Int32 → Int32 → Prop) (x2 : Int32) (x3 : Int32) : Prop :=
  ((t_now_size ≤ x3 → post (-4 : Int32)) ∧ (¬ t_now_size ≤ x3 → P_X5_isFirstOfPair (fun (r1 : Int32) => ((r1 = 0 → B_X7_pair_63 K_10 x2 x3) ∧ (¬ r1 = 0 → ((¬ x2 = x1 → B_X7_pair_63 K_10 (x2 + (1 : Int32)) x3) ∧ (x2 = x1 → (vp_in x3 24 ∧ (vp_in x3 24 ∧ post (((10 : Int32) * (t_now_upper x3.toNatClampNeg)) + (t_now_lower x3.toNatClampNeg))))))))) t_now_upper t_now_lower x3))
noncomputable def L_X7_pair_10 (post : Int32 → Prop) (t_now_size : Int32) (t_now_upper : Nat → Int32) (t_now_lower : Nat → Int32) (x1 : Int32) (n : Nat) : Int32 → Int32 → Prop := Nat.rec (motive := fun _ => Int32 → Int32 → Prop) (fun _ _ => False) (fun _ K => LB_X7_pair_10 post t_now_size t_now_upper t_now_lower x1 K) n
def P_X7_pair (post : Int32 → Prop) (t_now_size : Int32) (t_now_upper : Nat → Int32) (t_now_lower : Nat → Int32) (x1 : Int32) : Prop :=
  ((0 ≤ x1 → ∃ n : Nat, L_X7_pair_10 post t_now_size t_now_upper t_now_lower x1 n (0 : Int32) (0 : Int32)) ∧ (¬ 0 ≤ x1 → post (-1 : Int32)))
set_option maxHeartbeats 4000000 in
set_option maxRecDepth 100000 in
theorem c_X7_pair (l : Launch) (D : va_G) (cy : Nat → ClassId) (A_t A_t_tape A_t_now A_t_images A_t_imageMade A_t_sheets A_t_rows A_t_clash A_t_span A_t_reader A_t_now_upper A_t_now_lower A_t_now_limits A_t_now_stricts A_t_now_marks : Nat) (t_latestTorn : Int32) (t_now_size : Int32) (t_now_marked : Int32) (t_now_wholeness : Int32) (t_now_upper : Nat → Int32) (t_now_lower : Nat → Int32) (x1 : Int32) (post : Int32 → Prop) (h : P_X7_pair post t_now_size t_now_upper t_now_lower x1) : Met l yX7_pair wsX7_pair { frames := 2, cells := 0, slots := 0, locals := 45 } (pcR D cy [(A_t, .inr (7, [.ref A_t_tape, .ref A_t_now, .ref A_t_images, .ref A_t_imageMade, .ref A_t_sheets, .ref A_t_rows, .ref A_t_clash, .ref A_t_span, .ref A_t_reader, .int t_latestTorn])), (A_t_now, .inr (5, [.ref A_t_now_upper, .ref A_t_now_lower, .ref A_t_now_limits, .ref A_t_now_stricts, .ref A_t_now_marks, .int t_now_size, .int t_now_marked, .int t_now_wholeness])), (A_t_now_upper, .inl (cy 1, 24, .inl t_now_upper)), (A_t_now_lower, .inl (cy 1, 24, .inl t_now_lower))] [.ref A_t, .int x1]) (vp_Si post) 0 0 (fun _ => False) := by
  refine Met.ofW (cc := cX7_pair) (maxL := 4) (ret := (some .int)) (by decide) rfl ?_
  intro p e s m args below meth c s₁ B hml hv
  obtain ⟨rfl, hP, hK⟩ := hv
  have hx := B.exec
  have hb := B.bytes
  have hr := B.returns
  have hts := atoms_spec (ws := wsX7_pair) B.pre
  have hown : s.vm.findClass RX7 = some m.cls := findClass_of_methodNamed B.named
  have hlocks := B.notSynchronized
  have CF : CallFix p m c cX7_pair 4 s ([.ref A_t, .int x1] : List Value).toArray wsX7_pair RX7 := ⟨hx, hb, hml, hown, hts⟩
  have f0 := hts (.fieldLink RX7 10 "GapBounds" "now" "LGapBounds$Store;") (by decide +kernel)
  have f1 := hts (.fieldLink RX7 108 "GapBounds$Store" "size" "I") (by decide +kernel)
  have f2 := hts (.fieldLink RX7 130 "GapBounds$Store" "upper" "[I") (by decide +kernel)
  have f3 := hts (.fieldLink RX7 134 "GapBounds$Store" "lower" "[I") (by decide +kernel)
  have iX5 : ∀ w ∈ u_ws RX5 TX5 8, w ∈ wsX7_pair := by decide +kernel
  have iX7 : ∀ w ∈ u_ws RX7 TX7 10, w ∈ wsX7_pair := by decide +kernel
  have hl := lv_entry [.ref A_t, .int x1] (n := 4) (Nat.le_of_ble_eq_true rfl)
  rw [lg_entry_eq]
  generalize (lg_sl [.ref A_t, .int x1] ++ List.replicate (4 - (lg_sl [.ref A_t, .int x1]).length) Slot.unset).toArray = ls at hl ⊢
  have hl : lv_has ls 4 [(0, .ref A_t), (1, .int x1)] := hl
  refine W.gen (fun Q0 hQ => ?_)
  have L10 : ∀ (n10 : Nat) (x2 : Int32) (x3 : Int32) (ls : Array Slot), L_X7_pair_10 post t_now_size t_now_upper t_now_lower x1 n10 x2 x3 → lv_has ls 4 [(0, .ref A_t), (1, .int x1), (2, .int x2), (3, .int x3)] → W p l e (headSpec wsX7_pair { frames := 2, cells := 0, slots := 0, locals := 45 }).room s m ([.ref A_t, .int x1] : List Value).toArray below meth c s.heap [] 0 0 Q0 (F0 m 10 ls []) := by
    intro n10
    induction n10 with
    | zero => intro x2 x3 ls h; exact False.elim h
    | succ n10 ih10 =>
      intro x2 x3 ls h hl
      have h : LB_X7_pair_10 post t_now_size t_now_upper t_now_lower x1 (L_X7_pair_10 post t_now_size t_now_upper t_now_lower x1 n10) x2 x3 := h
      unfold LB_X7_pair_10 at h
      have J63 : ∀ (x2 : Int32) (x3 : Int32) (ls : Array Slot), B_X7_pair_63 (L_X7_pair_10 post t_now_size t_now_upper t_now_lower x1 n10) x2 x3 → lv_has ls 4 [(0, .ref A_t), (1, .int x1), (2, .int x2), (3, .int x3)] → W p l e (headSpec wsX7_pair { frames := 2, cells := 0, slots := 0, locals := 45 }).room s m ([.ref A_t, .int x1] : List Value).toArray below meth c s.heap [] 0 0 Q0 (F0 m 63 ls []) := by
        intro x2 x3 ls h hl
        unfold B_X7_pair_63 at h
        refine lv_iinc (v := x3 + (1 : Int32)) (lv' := [(3, .int (x3 + (1 : Int32))), (0, .ref A_t), (1, .int x1), (2, .int x2)]) hx hb dX7_pair_63 hl (k := 3) rfl rfl (by decide) rfl (fun ls hl => ?_)
        refine lv_goto (tgt := 10) hx hb dX7_pair_66 (by decide) ?_
        exact ih10 x2 (x3 + (1 : Int32)) ls h (lv_sub hl [1, 2, 3, 0] rfl)
      refine lv_iload_n hx hb dX7_pair_10 rfl (lv_at hl 3 rfl) ?_
      refine lv_aload_n hx hb dX7_pair_11 rfl (lv_at hl 0 rfl) ?_
      refine va_get (D := D) (ci := 7) (v := .ref A_t_now) (C := RX7) (T := TX7) (N := 10) hx hb hts iX7 hown hK.1 hP 0 rfl rfl 1 (by decide) f0 (fun _ h9 => h9) rfl dX7_pair_12 ?_
      refine va_get (D := D) (ci := 5) (v := .int t_now_size) (C := RX5) (T := TX5) (N := 8) hx hb hts iX5 hown hK.1 hP 1 rfl rfl 5 (by decide) f1 (fun _ h9 => h9) rfl dX7_pair_15 ?_
      refine lv_icmp_ge (tgt := 69) hx hb dX7_pair_18 (by decide) (fun hc => ?_) (fun hc => ?_)
      · replace h := h.1 hc
        refine lv_bipush (v := -4) hx hb dX7_pair_69 (by decide) ?_
        subst hQ
        exact W.iret (v := (-4 : Int32)) hx hb hr (fun t ht _ => ⟨(-4 : Int32), rfl, h, ht⟩) (fun _ hq => absurd hq List.not_mem_nil) dX7_pair_71
      · replace h := h.2 hc
        refine lv_aload_n hx hb dX7_pair_21 rfl (lv_at hl 0 rfl) ?_
        refine va_get (D := D) (ci := 7) (v := .ref A_t_now) (C := RX7) (T := TX7) (N := 10) hx hb hts iX7 hown hK.1 hP 0 rfl rfl 1 (by decide) f0 (fun _ h9 => h9) rfl dX7_pair_22 ?_
        refine lv_iload_n hx hb dX7_pair_25 rfl (lv_at hl 3 rfl) ?_
        have hPc := hP.sub (ws' := [(A_t_now, .inr (5, [.ref A_t_now_upper, .ref A_t_now_lower, .ref A_t_now_limits, .ref A_t_now_stricts, .ref A_t_now_marks, .int t_now_size, .int t_now_marked, .int t_now_wholeness])), (A_t_now_upper, .inl (cy 1, 24, .inl t_now_upper)), (A_t_now_lower, .inl (cy 1, 24, .inl t_now_lower))]) [1, 2, 3] rfl
        refine vp_callSi (W.runV (As := [.int x3]) (rest := []) CF (c_X5_isFirstOfPair l D cy A_t_now A_t_now_upper A_t_now_lower A_t_now_limits A_t_now_stricts A_t_now_marks t_now_size t_now_marked t_now_wholeness t_now_upper t_now_lower x3 _ h) (cwV 1 hts gX7_pair_X5_isFirstOfPair rfl rfl rfl qX5_isFirstOfPair ⟨Nat.le_of_ble_eq_true rfl, Nat.le_of_ble_eq_true rfl⟩) (mpVR hK hPc (ci := 5) (q := (RX5, TX5, 8)) (q0 := 0) rfl rfl) rfl rfl hl.1 rfl (lv_room (Nat.le_of_ble_eq_true rfl)) dX7_pair_26 ⟨Nat.zero_le _, Nat.zero_le _⟩) (fun r1 h => ?_)
        refine lv_if_eq (tgt := 63) hx hb dX7_pair_29 (by decide) (fun hc => ?_) (fun hc => ?_)
        · replace h := h.1 hc
          exact J63 x2 x3 ls h (lv_sub hl [0, 1, 2, 3] rfl)
        · replace h := h.2 hc
          refine lv_iload_n hx hb dX7_pair_32 rfl (lv_at hl 2 rfl) ?_
          refine lv_iload_n hx hb dX7_pair_33 rfl (lv_at hl 1 rfl) ?_
          refine lv_icmp_ne (tgt := 60) hx hb dX7_pair_34 (by decide) (fun hc => ?_) (fun hc => ?_)
          · replace h := h.1 hc
            refine lv_iinc (v := x2 + (1 : Int32)) (lv' := [(2, .int (x2 + (1 : Int32))), (0, .ref A_t), (1, .int x1), (3, .int x3)]) hx hb dX7_pair_60 hl (k := 2) rfl rfl (by decide) rfl (fun ls hl => ?_)
            exact J63 (x2 + (1 : Int32)) x3 ls h (lv_sub hl [1, 2, 0, 3] rfl)
          · replace h := h.2 hc
            refine lv_bipush (v := 10) hx hb dX7_pair_37 (by decide) ?_
            refine lv_aload_n hx hb dX7_pair_39 rfl (lv_at hl 0 rfl) ?_
            refine va_get (D := D) (ci := 7) (v := .ref A_t_now) (C := RX7) (T := TX7) (N := 10) hx hb hts iX7 hown hK.1 hP 0 rfl rfl 1 (by decide) f0 (fun _ h9 => h9) rfl dX7_pair_40 ?_
            refine va_get (D := D) (ci := 5) (v := .ref A_t_now_upper) (C := RX5) (T := TX5) (N := 8) hx hb hts iX5 hown hK.1 hP 1 rfl rfl 0 (by decide) f2 (fun _ h9 => h9) rfl dX7_pair_43 ?_
            refine lv_iload_n hx hb dX7_pair_46 rfl (lv_at hl 3 rfl) ?_
            refine va_iald hx hb hK.1 hP 2 1 rfl rfl h.1 dX7_pair_47 ?_
            replace h := h.2
            refine lv_imul hx hb dX7_pair_48 ?_
            refine lv_aload_n hx hb dX7_pair_49 rfl (lv_at hl 0 rfl) ?_
            refine va_get (D := D) (ci := 7) (v := .ref A_t_now) (C := RX7) (T := TX7) (N := 10) hx hb hts iX7 hown hK.1 hP 0 rfl rfl 1 (by decide) f0 (fun _ h9 => h9) rfl dX7_pair_50 ?_
            refine va_get (D := D) (ci := 5) (v := .ref A_t_now_lower) (C := RX5) (T := TX5) (N := 8) hx hb hts iX5 hown hK.1 hP 1 rfl rfl 1 (by decide) f3 (fun _ h9 => h9) rfl dX7_pair_53 ?_
            refine lv_iload_n hx hb dX7_pair_56 rfl (lv_at hl 3 rfl) ?_
            refine va_iald hx hb hK.1 hP 3 1 rfl rfl h.1 dX7_pair_57 ?_
            replace h := h.2
            refine lv_iadd hx hb dX7_pair_58 ?_
            subst hQ
            exact W.iret (v := ((10 : Int32) * (t_now_upper x3.toNatClampNeg)) + (t_now_lower x3.toNatClampNeg)) hx hb hr (fun t ht _ => ⟨((10 : Int32) * (t_now_upper x3.toNatClampNeg)) + (t_now_lower x3.toNatClampNeg), rfl, h, ht⟩) (fun _ hq => absurd hq List.not_mem_nil) dX7_pair_59
  unfold P_X7_pair at h
  refine lv_iload_n hx hb dX7_pair_0 rfl (lv_at hl 1 rfl) ?_
  refine lv_if_ge (tgt := 6) hx hb dX7_pair_1 (by decide) (fun hc => ?_) (fun hc => ?_)
  · replace h := h.1 hc
    refine lv_iconst (v := 0) hx hb dX7_pair_6 (by decide) ?_
    refine lv_istore_n (lv' := [(2, .int (0 : Int32)), (0, .ref A_t), (1, .int x1)]) hx hb dX7_pair_7 rfl hl (by decide) rfl (fun ls hl => ?_)
    refine lv_iconst (v := 0) hx hb dX7_pair_8 (by decide) ?_
    refine lv_istore_n (lv' := [(3, .int (0 : Int32)), (2, .int (0 : Int32)), (0, .ref A_t), (1, .int x1)]) hx hb dX7_pair_9 rfl hl (by decide) rfl (fun ls hl => ?_)
    obtain ⟨nn, h⟩ := h
    exact L10 nn (0 : Int32) (0 : Int32) ls h (lv_sub hl [2, 3, 1, 0] rfl)
  · replace h := h.2 hc
    refine lv_iconst (v := -1) hx hb dX7_pair_4 (by decide) ?_
    subst hQ
    exact W.iret (v := (-1 : Int32)) hx hb hr (fun t ht _ => ⟨(-1 : Int32), rfl, h, ht⟩) (fun _ hq => absurd hq List.not_mem_nil) dX7_pair_5
theorem qX7_fits : yX7_fits.cls = RX7 ∧ yX7_fits.cls ≠ "java/lang/invoke/MethodHandle" ∧ yX7_fits.cls ≠ "java/lang/invoke/VarHandle" ∧ (parseMethodDescriptor yX7_fits.desc).map (fun d => d.parameters.length) = some 4 := by decide +kernel
def P_X7_fits (post : Int32 → (Nat → Int64) → Prop) (t_rows_least : Nat → Int64) (t_now_size : Int32) (t_now_wholeness : Int32) (t_now_lower : Nat → Int32) (t_now_limits : Nat → Int32) (t_now_stricts : Nat → Int32) (t_now_upper : Nat → Int32) (x1 : Int32) (x2 : Int32) (x5 : Int32) (y3 : Int64) : Prop :=
  P_X2_between (fun (r1 : Int64) (t_rows_least_v1 : Nat → Int64) => ((r1 = (4611686018427387904 : Int64) → post (1 : Int32) t_rows_least_v1) ∧ (¬ r1 = (4611686018427387904 : Int64) → ((r1 + y3 < (0 : Int64) → post (0 : Int32) t_rows_least_v1) ∧ (¬ r1 + y3 < (0 : Int64) → post (1 : Int32) t_rows_least_v1))))) t_rows_least t_now_size t_now_wholeness t_now_lower t_now_limits t_now_stricts t_now_upper x1 x2 x5
set_option maxHeartbeats 4000000 in
set_option maxRecDepth 100000 in
theorem c_X7_fits (l : Launch) (D : va_G) (cy : Nat → ClassId) (sz : Nat) (A_t A_t_tape A_t_now A_t_images A_t_imageMade A_t_sheets A_t_rows A_t_clash A_t_span A_t_reader A_t_rows_least A_t_rows_table A_t_now_upper A_t_now_lower A_t_now_limits A_t_now_stricts A_t_now_marks : Nat) (t_latestTorn : Int32) (t_rows_least : Nat → Int64) (t_now_size : Int32) (t_now_marked : Int32) (t_now_wholeness : Int32) (t_now_lower : Nat → Int32) (t_now_limits : Nat → Int32) (t_now_stricts : Nat → Int32) (t_now_upper : Nat → Int32) (x1 : Int32) (x2 : Int32) (y3 : Int64) (x5 : Int32) (post : Int32 → (Nat → Int64) → Prop) (h : P_X7_fits post t_rows_least t_now_size t_now_wholeness t_now_lower t_now_limits t_now_stricts t_now_upper x1 x2 x5 y3) : Met l yX7_fits wsX7_fits { frames := 3, cells := 0, slots := 0, locals := 77 } (pcW D cy [(A_t, .inr (7, [.ref A_t_tape, .ref A_t_now, .ref A_t_images, .ref A_t_imageMade, .ref A_t_sheets, .ref A_t_rows, .ref A_t_clash, .ref A_t_span, .ref A_t_reader, .int t_latestTorn])), (A_t_rows, .inr (2, [.ref A_t_rows_least, .ref A_t_rows_table])), (A_t_rows_least, .inl (cy 2, 10, .inr (.inl t_rows_least))), (A_t_now, .inr (5, [.ref A_t_now_upper, .ref A_t_now_lower, .ref A_t_now_limits, .ref A_t_now_stricts, .ref A_t_now_marks, .int t_now_size, .int t_now_marked, .int t_now_wholeness])), (A_t_now_lower, .inl (cy 1, 24, .inl t_now_lower)), (A_t_now_limits, .inl (cy 1, 24, .inl t_now_limits)), (A_t_now_stricts, .inl (cy 1, 24, .inl t_now_stricts)), (A_t_now_upper, .inl (cy 1, 24, .inl t_now_upper))] sz [.ref A_t, .int x1, .int x2, .long y3, .int x5]) (va_Qi (fun r (u : (Nat → Int64)) => post r u) (bW D [(A_t, .inr (7, [.ref A_t_tape, .ref A_t_now, .ref A_t_images, .ref A_t_imageMade, .ref A_t_sheets, .ref A_t_rows, .ref A_t_clash, .ref A_t_span, .ref A_t_reader, .int t_latestTorn])), (A_t_rows, .inr (2, [.ref A_t_rows_least, .ref A_t_rows_table])), (A_t_rows_least, .inl (cy 2, 10, .inr (.inl t_rows_least))), (A_t_now, .inr (5, [.ref A_t_now_upper, .ref A_t_now_lower, .ref A_t_now_limits, .ref A_t_now_stricts, .ref A_t_now_marks, .int t_now_size, .int t_now_marked, .int t_now_wholeness])), (A_t_now_lower, .inl (cy 1, 24, .inl t_now_lower)), (A_t_now_limits, .inl (cy 1, 24, .inl t_now_limits)), (A_t_now_stricts, .inl (cy 1, 24, .inl t_now_stricts)), (A_t_now_upper, .inl (cy 1, 24, .inl t_now_upper))] sz (fun u => [(A_t, .inr (7, [.ref A_t_tape, .ref A_t_now, .ref A_t_images, .ref A_t_imageMade, .ref A_t_sheets, .ref A_t_rows, .ref A_t_clash, .ref A_t_span, .ref A_t_reader, .int t_latestTorn])), (A_t_rows, .inr (2, [.ref A_t_rows_least, .ref A_t_rows_table])), (A_t_rows_least, .inl (cy 2, 10, .inr (.inl u))), (A_t_now, .inr (5, [.ref A_t_now_upper, .ref A_t_now_lower, .ref A_t_now_limits, .ref A_t_now_stricts, .ref A_t_now_marks, .int t_now_size, .int t_now_marked, .int t_now_wholeness])), (A_t_now_lower, .inl (cy 1, 24, .inl t_now_lower)), (A_t_now_limits, .inl (cy 1, 24, .inl t_now_limits)), (A_t_now_stricts, .inl (cy 1, 24, .inl t_now_stricts)), (A_t_now_upper, .inl (cy 1, 24, .inl t_now_upper))])) (va_A [(A_t, .inr (7, [.ref A_t_tape, .ref A_t_now, .ref A_t_images, .ref A_t_imageMade, .ref A_t_sheets, .ref A_t_rows, .ref A_t_clash, .ref A_t_span, .ref A_t_reader, .int t_latestTorn])), (A_t_rows, .inr (2, [.ref A_t_rows_least, .ref A_t_rows_table])), (A_t_rows_least, .inl (cy 2, 10, .inr (.inl t_rows_least))), (A_t_now, .inr (5, [.ref A_t_now_upper, .ref A_t_now_lower, .ref A_t_now_limits, .ref A_t_now_stricts, .ref A_t_now_marks, .int t_now_size, .int t_now_marked, .int t_now_wholeness])), (A_t_now_lower, .inl (cy 1, 24, .inl t_now_lower)), (A_t_now_limits, .inl (cy 1, 24, .inl t_now_limits)), (A_t_now_stricts, .inl (cy 1, 24, .inl t_now_stricts)), (A_t_now_upper, .inl (cy 1, 24, .inl t_now_upper))] sz)) 0 0 (va_A [(A_t, .inr (7, [.ref A_t_tape, .ref A_t_now, .ref A_t_images, .ref A_t_imageMade, .ref A_t_sheets, .ref A_t_rows, .ref A_t_clash, .ref A_t_span, .ref A_t_reader, .int t_latestTorn])), (A_t_rows, .inr (2, [.ref A_t_rows_least, .ref A_t_rows_table])), (A_t_rows_least, .inl (cy 2, 10, .inr (.inl t_rows_least))), (A_t_now, .inr (5, [.ref A_t_now_upper, .ref A_t_now_lower, .ref A_t_now_limits, .ref A_t_now_stricts, .ref A_t_now_marks, .int t_now_size, .int t_now_marked, .int t_now_wholeness])), (A_t_now_lower, .inl (cy 1, 24, .inl t_now_lower)), (A_t_now_limits, .inl (cy 1, 24, .inl t_now_limits)), (A_t_now_stricts, .inl (cy 1, 24, .inl t_now_stricts)), (A_t_now_upper, .inl (cy 1, 24, .inl t_now_upper))] sz) := by
  refine Met.ofW (cc := cX7_fits) (maxL := 8) (ret := (some .boolean)) (by decide) rfl ?_
  intro p e s m args below meth c s₁ B hml hv
  obtain ⟨rfl, hsz, hP, hK, hD0⟩ := hv
  have hx := B.exec
  have hb := B.bytes
  have hr := B.returns
  have hts := atoms_spec (ws := wsX7_fits) B.pre
  have hown : s.vm.findClass RX7 = some m.cls := findClass_of_methodNamed B.named
  have hlocks := B.notSynchronized
  have CF : CallFix p m c cX7_fits 8 s ([.ref A_t, .int x1, .int x2, .long y3, .int x5] : List Value).toArray wsX7_fits RX7 := ⟨hx, hb, hml, hown, hts⟩
  have f0 := hts (.fieldLink RX7 34 "GapBounds" "rows" "LGapBounds$Rows;") (by decide +kernel)
  have f1 := hts (.fieldLink RX7 10 "GapBounds" "now" "LGapBounds$Store;") (by decide +kernel)
  have f2 := hts (.constantLong RX7 156 (4611686018427387904)) (by decide +kernel)
  have iX7 : ∀ w ∈ u_ws RX7 TX7 10, w ∈ wsX7_fits := by decide +kernel
  subst hsz
  obtain ⟨A, hAe⟩ : ∃ A, A = va_A [(A_t, .inr (7, [.ref A_t_tape, .ref A_t_now, .ref A_t_images, .ref A_t_imageMade, .ref A_t_sheets, .ref A_t_rows, .ref A_t_clash, .ref A_t_span, .ref A_t_reader, .int t_latestTorn])), (A_t_rows, .inr (2, [.ref A_t_rows_least, .ref A_t_rows_table])), (A_t_rows_least, .inl (cy 2, 10, .inr (.inl t_rows_least))), (A_t_now, .inr (5, [.ref A_t_now_upper, .ref A_t_now_lower, .ref A_t_now_limits, .ref A_t_now_stricts, .ref A_t_now_marks, .int t_now_size, .int t_now_marked, .int t_now_wholeness])), (A_t_now_lower, .inl (cy 1, 24, .inl t_now_lower)), (A_t_now_limits, .inl (cy 1, 24, .inl t_now_limits)), (A_t_now_stricts, .inl (cy 1, 24, .inl t_now_stricts)), (A_t_now_upper, .inl (cy 1, 24, .inl t_now_upper))] s.heap.size := ⟨_, rfl⟩
  have hD : va_D A [(A_t, .inr (7, [.ref A_t_tape, .ref A_t_now, .ref A_t_images, .ref A_t_imageMade, .ref A_t_sheets, .ref A_t_rows, .ref A_t_clash, .ref A_t_span, .ref A_t_reader, .int t_latestTorn])), (A_t_rows, .inr (2, [.ref A_t_rows_least, .ref A_t_rows_table])), (A_t_rows_least, .inl (cy 2, 10, .inr (.inl t_rows_least))), (A_t_now, .inr (5, [.ref A_t_now_upper, .ref A_t_now_lower, .ref A_t_now_limits, .ref A_t_now_stricts, .ref A_t_now_marks, .int t_now_size, .int t_now_marked, .int t_now_wholeness])), (A_t_now_lower, .inl (cy 1, 24, .inl t_now_lower)), (A_t_now_limits, .inl (cy 1, 24, .inl t_now_limits)), (A_t_now_stricts, .inl (cy 1, 24, .inl t_now_stricts)), (A_t_now_upper, .inl (cy 1, 24, .inl t_now_upper))] := by rw [hAe]; exact hD0.self
  have hA : ∀ q : Nat, s.heap.size ≤ q → A q := fun q hq => by rw [hAe]; exact Or.inr hq
  have hS : va_S A s.heap s.heap [] := va_S.rf
  have hl := lv_entry [.ref A_t, .int x1, .int x2, .long y3, .int x5] (n := 8) (Nat.le_of_ble_eq_true rfl)
  rw [lg_entry_eq]
  generalize (lg_sl [.ref A_t, .int x1, .int x2, .long y3, .int x5] ++ List.replicate (8 - (lg_sl [.ref A_t, .int x1, .int x2, .long y3, .int x5]).length) Slot.unset).toArray = ls at hl ⊢
  have hl : lv_has ls 8 [(0, .ref A_t), (1, .int x1), (2, .int x2), (3, .long y3), (5, .int x5)] := hl
  refine W.gen (fun Q0 hQ => ?_)
  unfold P_X7_fits at h
  refine lv_aload_n hx hb dX7_fits_0 rfl (lv_at hl 0 rfl) ?_
  refine va_get (D := D) (ci := 7) (v := .ref A_t_rows) (C := RX7) (T := TX7) (N := 10) hx hb hts iX7 hown hK.1 hP 0 rfl rfl 5 (by decide) f0 (fun _ h9 => h9) rfl dX7_fits_1 ?_
  refine lv_aload_n hx hb dX7_fits_4 rfl (lv_at hl 0 rfl) ?_
  refine va_get (D := D) (ci := 7) (v := .ref A_t_now) (C := RX7) (T := TX7) (N := 10) hx hb hts iX7 hown hK.1 hP 0 rfl rfl 1 (by decide) f1 (fun _ h9 => h9) rfl dX7_fits_5 ?_
  refine lv_iload_n hx hb dX7_fits_8 rfl (lv_at hl 1 rfl) ?_
  refine lv_iload_n hx hb dX7_fits_9 rfl (lv_at hl 2 rfl) ?_
  refine lv_iload hx hb dX7_fits_10 (lv_at hl 4 rfl) ?_
  have hPn : va_P D vwCl ([(A_t, .inr (7, [.ref A_t_tape, .ref A_t_now, .ref A_t_images, .ref A_t_imageMade, .ref A_t_sheets, .ref A_t_rows, .ref A_t_clash, .ref A_t_span, .ref A_t_reader, .int t_latestTorn]))] ++ [(A_t_rows, .inr (2, [.ref A_t_rows_least, .ref A_t_rows_table])), (A_t_rows_least, .inl (cy 2, 10, .inr (.inl t_rows_least))), (A_t_now, .inr (5, [.ref A_t_now_upper, .ref A_t_now_lower, .ref A_t_now_limits, .ref A_t_now_stricts, .ref A_t_now_marks, .int t_now_size, .int t_now_marked, .int t_now_wholeness])), (A_t_now_lower, .inl (cy 1, 24, .inl t_now_lower)), (A_t_now_limits, .inl (cy 1, 24, .inl t_now_limits)), (A_t_now_stricts, .inl (cy 1, 24, .inl t_now_stricts)), (A_t_now_upper, .inl (cy 1, 24, .inl t_now_upper))]) s.heap := hP.sub [0, 1, 2, 3, 4, 5, 6, 7] rfl
  have hDn : va_D A ([(A_t, .inr (7, [.ref A_t_tape, .ref A_t_now, .ref A_t_images, .ref A_t_imageMade, .ref A_t_sheets, .ref A_t_rows, .ref A_t_clash, .ref A_t_span, .ref A_t_reader, .int t_latestTorn]))] ++ [(A_t_rows, .inr (2, [.ref A_t_rows_least, .ref A_t_rows_table])), (A_t_rows_least, .inl (cy 2, 10, .inr (.inl t_rows_least))), (A_t_now, .inr (5, [.ref A_t_now_upper, .ref A_t_now_lower, .ref A_t_now_limits, .ref A_t_now_stricts, .ref A_t_now_marks, .int t_now_size, .int t_now_marked, .int t_now_wholeness])), (A_t_now_lower, .inl (cy 1, 24, .inl t_now_lower)), (A_t_now_limits, .inl (cy 1, 24, .inl t_now_limits)), (A_t_now_stricts, .inl (cy 1, 24, .inl t_now_stricts)), (A_t_now_upper, .inl (cy 1, 24, .inl t_now_upper))]) := hD.sub [0, 1, 2, 3, 4, 5, 6, 7] (by decide) rfl
  have hPc := gPR hPn
  have hDc := gDR hDn
  refine mw_l (va_runV (As := [.ref A_t_now, .int x1, .int x2, .int x5]) (rest := []) CF (c_X2_between l D cy s.heap.size A_t_rows A_t_rows_least A_t_rows_table A_t_now A_t_now_upper A_t_now_lower A_t_now_limits A_t_now_stricts A_t_now_marks t_rows_least t_now_size t_now_marked t_now_wholeness t_now_lower t_now_limits t_now_stricts t_now_upper x1 x2 x5 _ h) (cwV 4 hts gX7_fits_X2_between rfl rfl rfl qX2_between ⟨Nat.le_of_ble_eq_true rfl, Nat.le_of_ble_eq_true rfl⟩) (mpVW hK hPc hDc (ci := 2) (q := (RX2, TX2, 2)) (q0 := 0) rfl rfl) rfl rfl hl.1 rfl (lv_room (Nat.le_of_ble_eq_true rfl)) dX7_fits_12 ⟨Nat.zero_le _, Nat.zero_le _⟩) hPn hDn hS hA (fun r1 t_rows_least_v1 H locs h hP hD hS => ?_)
  have hP : va_P D vwCl [(A_t, .inr (7, [.ref A_t_tape, .ref A_t_now, .ref A_t_images, .ref A_t_imageMade, .ref A_t_sheets, .ref A_t_rows, .ref A_t_clash, .ref A_t_span, .ref A_t_reader, .int t_latestTorn])), (A_t_rows, .inr (2, [.ref A_t_rows_least, .ref A_t_rows_table])), (A_t_rows_least, .inl (cy 2, 10, .inr (.inl t_rows_least_v1))), (A_t_now, .inr (5, [.ref A_t_now_upper, .ref A_t_now_lower, .ref A_t_now_limits, .ref A_t_now_stricts, .ref A_t_now_marks, .int t_now_size, .int t_now_marked, .int t_now_wholeness])), (A_t_now_lower, .inl (cy 1, 24, .inl t_now_lower)), (A_t_now_limits, .inl (cy 1, 24, .inl t_now_limits)), (A_t_now_stricts, .inl (cy 1, 24, .inl t_now_stricts)), (A_t_now_upper, .inl (cy 1, 24, .inl t_now_upper))] H := hP.sub [0, 1, 2, 3, 4, 5, 6, 7] rfl
  have hD : va_D A [(A_t, .inr (7, [.ref A_t_tape, .ref A_t_now, .ref A_t_images, .ref A_t_imageMade, .ref A_t_sheets, .ref A_t_rows, .ref A_t_clash, .ref A_t_span, .ref A_t_reader, .int t_latestTorn])), (A_t_rows, .inr (2, [.ref A_t_rows_least, .ref A_t_rows_table])), (A_t_rows_least, .inl (cy 2, 10, .inr (.inl t_rows_least_v1))), (A_t_now, .inr (5, [.ref A_t_now_upper, .ref A_t_now_lower, .ref A_t_now_limits, .ref A_t_now_stricts, .ref A_t_now_marks, .int t_now_size, .int t_now_marked, .int t_now_wholeness])), (A_t_now_lower, .inl (cy 1, 24, .inl t_now_lower)), (A_t_now_limits, .inl (cy 1, 24, .inl t_now_limits)), (A_t_now_stricts, .inl (cy 1, 24, .inl t_now_stricts)), (A_t_now_upper, .inl (cy 1, 24, .inl t_now_upper))] := hD.sub [0, 1, 2, 3, 4, 5, 6, 7] (by decide) rfl
  refine lv_lstore (lv' := [(6, .long r1), (0, .ref A_t), (1, .int x1), (2, .int x2), (3, .long y3), (5, .int x5)]) hx hb dX7_fits_15 hl (by decide) rfl (fun ls hl => ?_)
  refine lv_lload hx hb dX7_fits_17 (lv_at hl 0 rfl) ?_
  refine lv_ldc2 (v := 4611686018427387904) hx hb hown f2 dX7_fits_19 ?_
  refine lx_eq (tgt := 35) hx hb dX7_fits_22 dX7_fits_23 (by decide) (fun hc => ?_) (fun hc => ?_)
  · replace h := h.1 hc
    refine lv_iconst (v := 1) hx hb dX7_fits_35 (by decide) ?_
    refine lv_goto (tgt := 40) hx hb dX7_fits_36 (by decide) ?_
    subst hQ
    subst hAe
    exact W.zret (v := (1 : Int32)) hx hb hr bz1 (fun t ht _ => ⟨⟨(1 : Int32), t_rows_least_v1, rfl, h, by rw [ht]; exact hP, hD⟩, hS.F ht⟩) hS.2.2 dX7_fits_40
  · replace h := h.2 hc
    refine lv_lload hx hb dX7_fits_26 (lv_at hl 0 rfl) ?_
    refine lv_lload_n hx hb dX7_fits_28 rfl (lv_at hl 4 rfl) ?_
    refine lv_ladd hx hb dX7_fits_29 ?_
    refine lv_lconst (v := 0) hx hb dX7_fits_30 (by decide) ?_
    refine lx_lt (tgt := 39) hx hb dX7_fits_31 dX7_fits_32 (by decide) (fun hc => ?_) (fun hc => ?_)
    · replace h := h.1 hc
      refine lv_iconst (v := 0) hx hb dX7_fits_39 (by decide) ?_
      subst hQ
      subst hAe
      exact W.zret (v := (0 : Int32)) hx hb hr bz0 (fun t ht _ => ⟨⟨(0 : Int32), t_rows_least_v1, rfl, h, by rw [ht]; exact hP, hD⟩, hS.F ht⟩) hS.2.2 dX7_fits_40
    · replace h := h.2 hc
      refine lv_iconst (v := 1) hx hb dX7_fits_35 (by decide) ?_
      refine lv_goto (tgt := 40) hx hb dX7_fits_36 (by decide) ?_
      subst hQ
      subst hAe
      exact W.zret (v := (1 : Int32)) hx hb hr bz1 (fun t ht _ => ⟨⟨(1 : Int32), t_rows_least_v1, rfl, h, by rw [ht]; exact hP, hD⟩, hS.F ht⟩) hS.2.2 dX7_fits_40
theorem qX7_may : yX7_may.cls = RX7 ∧ yX7_may.cls ≠ "java/lang/invoke/MethodHandle" ∧ yX7_may.cls ≠ "java/lang/invoke/VarHandle" ∧ (parseMethodDescriptor yX7_may.desc).map (fun d => d.parameters.length) = some 4 := by decide +kernel
def P_X7_may (post : Int32 → (Nat → Int64) → Prop) (t_now_size : Int32) (t_now_wholeness : Int32) (t_rows_least : Nat → Int64) (t_now_lower : Nat → Int32) (t_now_limits : Nat → Int32) (t_now_stricts : Nat → Int32) (t_now_upper : Nat → Int32) (x1 : Int32) (x2 : Int32) (x3 : Int32) (x4 : Int32) : Prop :=
  P_X7_arePair (fun (r1 : Int32) => ((r1 = 0 → post (-1 : Int32) t_rows_least) ∧ (¬ r1 = 0 → P_X7_isBit (fun (r2 : Int32) => ((¬ r2 = 0 → P_X7_weigh (fun (r3 : Int64) => P_X7_fits (fun (r4 : Int32) (t_rows_least_v4 : Nat → Int64) => ((r4 = 0 → post (0 : Int32) t_rows_least_v4) ∧ (¬ r4 = 0 → post (1 : Int32) t_rows_least_v4))) t_rows_least t_now_size t_now_wholeness t_now_lower t_now_limits t_now_stricts t_now_upper x1 x2 (-1 : Int32) r3) x3 x4 t_now_wholeness) ∧ (r2 = 0 → post (-1 : Int32) t_rows_least))) x4))) x1 x2
set_option maxHeartbeats 4000000 in
set_option maxRecDepth 100000 in
theorem c_X7_may (l : Launch) (D : va_G) (cy : Nat → ClassId) (sz : Nat) (A_t A_t_tape A_t_now A_t_images A_t_imageMade A_t_sheets A_t_rows A_t_clash A_t_span A_t_reader A_t_now_upper A_t_now_lower A_t_now_limits A_t_now_stricts A_t_now_marks A_t_rows_least A_t_rows_table : Nat) (t_latestTorn : Int32) (t_now_size : Int32) (t_now_marked : Int32) (t_now_wholeness : Int32) (t_rows_least : Nat → Int64) (t_now_lower : Nat → Int32) (t_now_limits : Nat → Int32) (t_now_stricts : Nat → Int32) (t_now_upper : Nat → Int32) (x1 : Int32) (x2 : Int32) (x3 : Int32) (x4 : Int32) (post : Int32 → (Nat → Int64) → Prop) (h : P_X7_may post t_now_size t_now_wholeness t_rows_least t_now_lower t_now_limits t_now_stricts t_now_upper x1 x2 x3 x4) : Met l yX7_may wsX7_may { frames := 4, cells := 0, slots := 0, locals := 104 } (pcW D cy [(A_t, .inr (7, [.ref A_t_tape, .ref A_t_now, .ref A_t_images, .ref A_t_imageMade, .ref A_t_sheets, .ref A_t_rows, .ref A_t_clash, .ref A_t_span, .ref A_t_reader, .int t_latestTorn])), (A_t_now, .inr (5, [.ref A_t_now_upper, .ref A_t_now_lower, .ref A_t_now_limits, .ref A_t_now_stricts, .ref A_t_now_marks, .int t_now_size, .int t_now_marked, .int t_now_wholeness])), (A_t_rows, .inr (2, [.ref A_t_rows_least, .ref A_t_rows_table])), (A_t_rows_least, .inl (cy 2, 10, .inr (.inl t_rows_least))), (A_t_now_lower, .inl (cy 1, 24, .inl t_now_lower)), (A_t_now_limits, .inl (cy 1, 24, .inl t_now_limits)), (A_t_now_stricts, .inl (cy 1, 24, .inl t_now_stricts)), (A_t_now_upper, .inl (cy 1, 24, .inl t_now_upper))] sz [.ref A_t, .int x1, .int x2, .int x3, .int x4]) (va_Qi (fun r (u : (Nat → Int64)) => post r u) (bW D [(A_t, .inr (7, [.ref A_t_tape, .ref A_t_now, .ref A_t_images, .ref A_t_imageMade, .ref A_t_sheets, .ref A_t_rows, .ref A_t_clash, .ref A_t_span, .ref A_t_reader, .int t_latestTorn])), (A_t_now, .inr (5, [.ref A_t_now_upper, .ref A_t_now_lower, .ref A_t_now_limits, .ref A_t_now_stricts, .ref A_t_now_marks, .int t_now_size, .int t_now_marked, .int t_now_wholeness])), (A_t_rows, .inr (2, [.ref A_t_rows_least, .ref A_t_rows_table])), (A_t_rows_least, .inl (cy 2, 10, .inr (.inl t_rows_least))), (A_t_now_lower, .inl (cy 1, 24, .inl t_now_lower)), (A_t_now_limits, .inl (cy 1, 24, .inl t_now_limits)), (A_t_now_stricts, .inl (cy 1, 24, .inl t_now_stricts)), (A_t_now_upper, .inl (cy 1, 24, .inl t_now_upper))] sz (fun u => [(A_t, .inr (7, [.ref A_t_tape, .ref A_t_now, .ref A_t_images, .ref A_t_imageMade, .ref A_t_sheets, .ref A_t_rows, .ref A_t_clash, .ref A_t_span, .ref A_t_reader, .int t_latestTorn])), (A_t_now, .inr (5, [.ref A_t_now_upper, .ref A_t_now_lower, .ref A_t_now_limits, .ref A_t_now_stricts, .ref A_t_now_marks, .int t_now_size, .int t_now_marked, .int t_now_wholeness])), (A_t_rows, .inr (2, [.ref A_t_rows_least, .ref A_t_rows_table])), (A_t_rows_least, .inl (cy 2, 10, .inr (.inl u))), (A_t_now_lower, .inl (cy 1, 24, .inl t_now_lower)), (A_t_now_limits, .inl (cy 1, 24, .inl t_now_limits)), (A_t_now_stricts, .inl (cy 1, 24, .inl t_now_stricts)), (A_t_now_upper, .inl (cy 1, 24, .inl t_now_upper))])) (va_A [(A_t, .inr (7, [.ref A_t_tape, .ref A_t_now, .ref A_t_images, .ref A_t_imageMade, .ref A_t_sheets, .ref A_t_rows, .ref A_t_clash, .ref A_t_span, .ref A_t_reader, .int t_latestTorn])), (A_t_now, .inr (5, [.ref A_t_now_upper, .ref A_t_now_lower, .ref A_t_now_limits, .ref A_t_now_stricts, .ref A_t_now_marks, .int t_now_size, .int t_now_marked, .int t_now_wholeness])), (A_t_rows, .inr (2, [.ref A_t_rows_least, .ref A_t_rows_table])), (A_t_rows_least, .inl (cy 2, 10, .inr (.inl t_rows_least))), (A_t_now_lower, .inl (cy 1, 24, .inl t_now_lower)), (A_t_now_limits, .inl (cy 1, 24, .inl t_now_limits)), (A_t_now_stricts, .inl (cy 1, 24, .inl t_now_stricts)), (A_t_now_upper, .inl (cy 1, 24, .inl t_now_upper))] sz)) 0 0 (va_A [(A_t, .inr (7, [.ref A_t_tape, .ref A_t_now, .ref A_t_images, .ref A_t_imageMade, .ref A_t_sheets, .ref A_t_rows, .ref A_t_clash, .ref A_t_span, .ref A_t_reader, .int t_latestTorn])), (A_t_now, .inr (5, [.ref A_t_now_upper, .ref A_t_now_lower, .ref A_t_now_limits, .ref A_t_now_stricts, .ref A_t_now_marks, .int t_now_size, .int t_now_marked, .int t_now_wholeness])), (A_t_rows, .inr (2, [.ref A_t_rows_least, .ref A_t_rows_table])), (A_t_rows_least, .inl (cy 2, 10, .inr (.inl t_rows_least))), (A_t_now_lower, .inl (cy 1, 24, .inl t_now_lower)), (A_t_now_limits, .inl (cy 1, 24, .inl t_now_limits)), (A_t_now_stricts, .inl (cy 1, 24, .inl t_now_stricts)), (A_t_now_upper, .inl (cy 1, 24, .inl t_now_upper))] sz) := by
  refine Met.ofW (cc := cX7_may) (maxL := 5) (ret := (some .int)) (by decide) rfl ?_
  intro p e s m args below meth c s₁ B hml hv
  obtain ⟨rfl, hsz, hP, hK, hD0⟩ := hv
  have hx := B.exec
  have hb := B.bytes
  have hr := B.returns
  have hts := atoms_spec (ws := wsX7_may) B.pre
  have hown : s.vm.findClass RX7 = some m.cls := findClass_of_methodNamed B.named
  have hlocks := B.notSynchronized
  have CF : CallFix p m c cX7_may 5 s ([.ref A_t, .int x1, .int x2, .int x3, .int x4] : List Value).toArray wsX7_may RX7 := ⟨hx, hb, hml, hown, hts⟩
  have f0 := hts (.fieldLink RX7 10 "GapBounds" "now" "LGapBounds$Store;") (by decide +kernel)
  have f1 := hts (.fieldLink RX7 86 "GapBounds$Store" "wholeness" "I") (by decide +kernel)
  have iX5 : ∀ w ∈ u_ws RX5 TX5 8, w ∈ wsX7_may := by decide +kernel
  have iX7 : ∀ w ∈ u_ws RX7 TX7 10, w ∈ wsX7_may := by decide +kernel
  subst hsz
  obtain ⟨A, hAe⟩ : ∃ A, A = va_A [(A_t, .inr (7, [.ref A_t_tape, .ref A_t_now, .ref A_t_images, .ref A_t_imageMade, .ref A_t_sheets, .ref A_t_rows, .ref A_t_clash, .ref A_t_span, .ref A_t_reader, .int t_latestTorn])), (A_t_now, .inr (5, [.ref A_t_now_upper, .ref A_t_now_lower, .ref A_t_now_limits, .ref A_t_now_stricts, .ref A_t_now_marks, .int t_now_size, .int t_now_marked, .int t_now_wholeness])), (A_t_rows, .inr (2, [.ref A_t_rows_least, .ref A_t_rows_table])), (A_t_rows_least, .inl (cy 2, 10, .inr (.inl t_rows_least))), (A_t_now_lower, .inl (cy 1, 24, .inl t_now_lower)), (A_t_now_limits, .inl (cy 1, 24, .inl t_now_limits)), (A_t_now_stricts, .inl (cy 1, 24, .inl t_now_stricts)), (A_t_now_upper, .inl (cy 1, 24, .inl t_now_upper))] s.heap.size := ⟨_, rfl⟩
  have hD : va_D A [(A_t, .inr (7, [.ref A_t_tape, .ref A_t_now, .ref A_t_images, .ref A_t_imageMade, .ref A_t_sheets, .ref A_t_rows, .ref A_t_clash, .ref A_t_span, .ref A_t_reader, .int t_latestTorn])), (A_t_now, .inr (5, [.ref A_t_now_upper, .ref A_t_now_lower, .ref A_t_now_limits, .ref A_t_now_stricts, .ref A_t_now_marks, .int t_now_size, .int t_now_marked, .int t_now_wholeness])), (A_t_rows, .inr (2, [.ref A_t_rows_least, .ref A_t_rows_table])), (A_t_rows_least, .inl (cy 2, 10, .inr (.inl t_rows_least))), (A_t_now_lower, .inl (cy 1, 24, .inl t_now_lower)), (A_t_now_limits, .inl (cy 1, 24, .inl t_now_limits)), (A_t_now_stricts, .inl (cy 1, 24, .inl t_now_stricts)), (A_t_now_upper, .inl (cy 1, 24, .inl t_now_upper))] := by rw [hAe]; exact hD0.self
  have hA : ∀ q : Nat, s.heap.size ≤ q → A q := fun q hq => by rw [hAe]; exact Or.inr hq
  have hS : va_S A s.heap s.heap [] := va_S.rf
  have hl := lv_entry [.ref A_t, .int x1, .int x2, .int x3, .int x4] (n := 5) (Nat.le_of_ble_eq_true rfl)
  rw [lg_entry_eq]
  generalize (lg_sl [.ref A_t, .int x1, .int x2, .int x3, .int x4] ++ List.replicate (5 - (lg_sl [.ref A_t, .int x1, .int x2, .int x3, .int x4]).length) Slot.unset).toArray = ls at hl ⊢
  have hl : lv_has ls 5 [(0, .ref A_t), (1, .int x1), (2, .int x2), (3, .int x3), (4, .int x4)] := hl
  refine W.gen (fun Q0 hQ => ?_)
  unfold P_X7_may at h
  refine lv_iload_n hx hb dX7_may_0 rfl (lv_at hl 1 rfl) ?_
  refine lv_iload_n hx hb dX7_may_1 rfl (lv_at hl 2 rfl) ?_
  refine vp_callSi (W.runS (As := [.int x1, .int x2]) (rest := []) CF (c_X7_arePair l x1 x2 _ h) (va_cwS 2 hts gX7_may_X7_arePair rfl rfl rfl qX7_arePair.2 ⟨Nat.le_of_ble_eq_true rfl, Nat.le_of_ble_eq_true rfl⟩) mpSN rfl rfl hl.1 rfl (lv_room (Nat.le_of_ble_eq_true rfl)) dX7_may_2 ⟨Nat.zero_le _, Nat.zero_le _⟩) (fun r1 h => ?_)
  refine lv_if_eq (tgt := 16) hx hb dX7_may_5 (by decide) (fun hc => ?_) (fun hc => ?_)
  · replace h := h.1 hc
    refine lv_iconst (v := -1) hx hb dX7_may_16 (by decide) ?_
    subst hQ
    subst hAe
    exact W.iret (v := (-1 : Int32)) hx hb hr (fun t ht _ => ⟨⟨(-1 : Int32), t_rows_least, rfl, h, by rw [ht]; exact hP, hD⟩, hS.F ht⟩) hS.2.2 dX7_may_17
  · replace h := h.2 hc
    refine lv_iload hx hb dX7_may_8 (lv_at hl 4 rfl) ?_
    refine vp_callSi (W.runS (As := [.int x4]) (rest := []) CF (c_X7_isBit l x4 _ h) (va_cwS 1 hts gX7_may_X7_isBit rfl rfl rfl qX7_isBit.2 ⟨Nat.le_of_ble_eq_true rfl, Nat.le_of_ble_eq_true rfl⟩) mpSN rfl rfl hl.1 rfl (lv_room (Nat.le_of_ble_eq_true rfl)) dX7_may_10 ⟨Nat.zero_le _, Nat.zero_le _⟩) (fun r2 h => ?_)
    refine lv_if_ne (tgt := 18) hx hb dX7_may_13 (by decide) (fun hc => ?_) (fun hc => ?_)
    · replace h := h.1 hc
      refine lv_aload_n hx hb dX7_may_18 rfl (lv_at hl 0 rfl) ?_
      refine lv_iload_n hx hb dX7_may_19 rfl (lv_at hl 1 rfl) ?_
      refine lv_iload_n hx hb dX7_may_20 rfl (lv_at hl 2 rfl) ?_
      refine lv_iload_n hx hb dX7_may_21 rfl (lv_at hl 3 rfl) ?_
      refine lv_iload hx hb dX7_may_22 (lv_at hl 4 rfl) ?_
      refine lv_aload_n hx hb dX7_may_24 rfl (lv_at hl 0 rfl) ?_
      refine va_get (D := D) (ci := 7) (v := .ref A_t_now) (C := RX7) (T := TX7) (N := 10) hx hb hts iX7 hown hK.1 hP 0 rfl rfl 1 (by decide) f0 (fun _ h9 => h9) rfl dX7_may_25 ?_
      refine va_get (D := D) (ci := 5) (v := .int t_now_wholeness) (C := RX5) (T := TX5) (N := 8) hx hb hts iX5 hown hK.1 hP 1 rfl rfl 7 (by decide) f1 (fun _ h9 => h9) rfl dX7_may_28 ?_
      refine vp_callSl (W.runS (As := [.int x3, .int x4, .int t_now_wholeness]) (rest := [.int x2, .int x1, .ref A_t]) CF (c_X7_weigh l x3 x4 t_now_wholeness _ h) (va_cwS 3 hts gX7_may_X7_weigh rfl rfl rfl qX7_weigh.2 ⟨Nat.le_of_ble_eq_true rfl, Nat.le_of_ble_eq_true rfl⟩) mpSN rfl rfl hl.1 rfl (lv_room (Nat.le_of_ble_eq_true rfl)) dX7_may_31 ⟨Nat.zero_le _, Nat.zero_le _⟩) (fun r3 h => ?_)
      refine lv_iconst (v := -1) hx hb dX7_may_34 (by decide) ?_
      have hPn : va_P D vwCl ([] ++ [(A_t, .inr (7, [.ref A_t_tape, .ref A_t_now, .ref A_t_images, .ref A_t_imageMade, .ref A_t_sheets, .ref A_t_rows, .ref A_t_clash, .ref A_t_span, .ref A_t_reader, .int t_latestTorn])), (A_t_rows, .inr (2, [.ref A_t_rows_least, .ref A_t_rows_table])), (A_t_rows_least, .inl (cy 2, 10, .inr (.inl t_rows_least))), (A_t_now, .inr (5, [.ref A_t_now_upper, .ref A_t_now_lower, .ref A_t_now_limits, .ref A_t_now_stricts, .ref A_t_now_marks, .int t_now_size, .int t_now_marked, .int t_now_wholeness])), (A_t_now_lower, .inl (cy 1, 24, .inl t_now_lower)), (A_t_now_limits, .inl (cy 1, 24, .inl t_now_limits)), (A_t_now_stricts, .inl (cy 1, 24, .inl t_now_stricts)), (A_t_now_upper, .inl (cy 1, 24, .inl t_now_upper))]) s.heap := hP.sub [0, 2, 3, 1, 4, 5, 6, 7] rfl
      have hDn : va_D A ([] ++ [(A_t, .inr (7, [.ref A_t_tape, .ref A_t_now, .ref A_t_images, .ref A_t_imageMade, .ref A_t_sheets, .ref A_t_rows, .ref A_t_clash, .ref A_t_span, .ref A_t_reader, .int t_latestTorn])), (A_t_rows, .inr (2, [.ref A_t_rows_least, .ref A_t_rows_table])), (A_t_rows_least, .inl (cy 2, 10, .inr (.inl t_rows_least))), (A_t_now, .inr (5, [.ref A_t_now_upper, .ref A_t_now_lower, .ref A_t_now_limits, .ref A_t_now_stricts, .ref A_t_now_marks, .int t_now_size, .int t_now_marked, .int t_now_wholeness])), (A_t_now_lower, .inl (cy 1, 24, .inl t_now_lower)), (A_t_now_limits, .inl (cy 1, 24, .inl t_now_limits)), (A_t_now_stricts, .inl (cy 1, 24, .inl t_now_stricts)), (A_t_now_upper, .inl (cy 1, 24, .inl t_now_upper))]) := hD.sub [0, 2, 3, 1, 4, 5, 6, 7] (by decide) rfl
      have hPc := gPR hPn
      have hDc := gDR hDn
      refine mw_i (va_runV (As := [.int x1, .int x2, .long r3, .int (-1 : Int32)]) (rest := []) CF (c_X7_fits l D cy s.heap.size A_t A_t_tape A_t_now A_t_images A_t_imageMade A_t_sheets A_t_rows A_t_clash A_t_span A_t_reader A_t_rows_least A_t_rows_table A_t_now_upper A_t_now_lower A_t_now_limits A_t_now_stricts A_t_now_marks t_latestTorn t_rows_least t_now_size t_now_marked t_now_wholeness t_now_lower t_now_limits t_now_stricts t_now_upper x1 x2 r3 (-1 : Int32) _ h) (cwV 4 hts gX7_may_X7_fits rfl rfl rfl qX7_fits ⟨Nat.le_of_ble_eq_true rfl, Nat.le_of_ble_eq_true rfl⟩) (mpVW hK hPc hDc (ci := 7) (q := (RX7, TX7, 10)) (q0 := 0) rfl rfl) rfl rfl hl.1 rfl (lv_room (Nat.le_of_ble_eq_true rfl)) dX7_may_35 ⟨Nat.zero_le _, Nat.zero_le _⟩) hPn hDn hS hA (fun r4 t_rows_least_v4 H locs h hP hD hS => ?_)
      have hP : va_P D vwCl [(A_t, .inr (7, [.ref A_t_tape, .ref A_t_now, .ref A_t_images, .ref A_t_imageMade, .ref A_t_sheets, .ref A_t_rows, .ref A_t_clash, .ref A_t_span, .ref A_t_reader, .int t_latestTorn])), (A_t_now, .inr (5, [.ref A_t_now_upper, .ref A_t_now_lower, .ref A_t_now_limits, .ref A_t_now_stricts, .ref A_t_now_marks, .int t_now_size, .int t_now_marked, .int t_now_wholeness])), (A_t_rows, .inr (2, [.ref A_t_rows_least, .ref A_t_rows_table])), (A_t_rows_least, .inl (cy 2, 10, .inr (.inl t_rows_least_v4))), (A_t_now_lower, .inl (cy 1, 24, .inl t_now_lower)), (A_t_now_limits, .inl (cy 1, 24, .inl t_now_limits)), (A_t_now_stricts, .inl (cy 1, 24, .inl t_now_stricts)), (A_t_now_upper, .inl (cy 1, 24, .inl t_now_upper))] H := hP.sub [0, 3, 1, 2, 4, 5, 6, 7] rfl
      have hD : va_D A [(A_t, .inr (7, [.ref A_t_tape, .ref A_t_now, .ref A_t_images, .ref A_t_imageMade, .ref A_t_sheets, .ref A_t_rows, .ref A_t_clash, .ref A_t_span, .ref A_t_reader, .int t_latestTorn])), (A_t_now, .inr (5, [.ref A_t_now_upper, .ref A_t_now_lower, .ref A_t_now_limits, .ref A_t_now_stricts, .ref A_t_now_marks, .int t_now_size, .int t_now_marked, .int t_now_wholeness])), (A_t_rows, .inr (2, [.ref A_t_rows_least, .ref A_t_rows_table])), (A_t_rows_least, .inl (cy 2, 10, .inr (.inl t_rows_least_v4))), (A_t_now_lower, .inl (cy 1, 24, .inl t_now_lower)), (A_t_now_limits, .inl (cy 1, 24, .inl t_now_limits)), (A_t_now_stricts, .inl (cy 1, 24, .inl t_now_stricts)), (A_t_now_upper, .inl (cy 1, 24, .inl t_now_upper))] := hD.sub [0, 3, 1, 2, 4, 5, 6, 7] (by decide) rfl
      refine lv_if_eq (tgt := 45) hx hb dX7_may_38 (by decide) (fun hc => ?_) (fun hc => ?_)
      · replace h := h.1 hc
        refine lv_iconst (v := 0) hx hb dX7_may_45 (by decide) ?_
        subst hQ
        subst hAe
        exact W.iret (v := (0 : Int32)) hx hb hr (fun t ht _ => ⟨⟨(0 : Int32), t_rows_least_v4, rfl, h, by rw [ht]; exact hP, hD⟩, hS.F ht⟩) hS.2.2 dX7_may_46
      · replace h := h.2 hc
        refine lv_iconst (v := 1) hx hb dX7_may_41 (by decide) ?_
        refine lv_goto (tgt := 46) hx hb dX7_may_42 (by decide) ?_
        subst hQ
        subst hAe
        exact W.iret (v := (1 : Int32)) hx hb hr (fun t ht _ => ⟨⟨(1 : Int32), t_rows_least_v4, rfl, h, by rw [ht]; exact hP, hD⟩, hS.F ht⟩) hS.2.2 dX7_may_46
    · replace h := h.2 hc
      refine lv_iconst (v := -1) hx hb dX7_may_16 (by decide) ?_
      subst hQ
      subst hAe
      exact W.iret (v := (-1 : Int32)) hx hb hr (fun t ht _ => ⟨⟨(-1 : Int32), t_rows_least, rfl, h, by rw [ht]; exact hP, hD⟩, hS.F ht⟩) hS.2.2 dX7_may_17
theorem qX7_conflict : yX7_conflict.cls = RX7 ∧ yX7_conflict.cls ≠ "java/lang/invoke/MethodHandle" ∧ yX7_conflict.cls ≠ "java/lang/invoke/VarHandle" ∧ (parseMethodDescriptor yX7_conflict.desc).map (fun d => d.parameters.length) = some 1 := by decide +kernel
def P_X7_conflict (post : Int32 → Prop) (t_clash_size : Int32) (t_clash_row : Nat → Int32) (x1 : Int32) : Prop :=
  ((0 ≤ x1 → ((t_clash_size ≤ x1 → post (-4 : Int32)) ∧ (¬ t_clash_size ≤ x1 → (vp_in x1 10 ∧ post (t_clash_row x1.toNatClampNeg))))) ∧ (¬ 0 ≤ x1 → post (-1 : Int32)))
set_option maxHeartbeats 4000000 in
set_option maxRecDepth 100000 in
theorem c_X7_conflict (l : Launch) (D : va_G) (cy : Nat → ClassId) (A_t A_t_tape A_t_now A_t_images A_t_imageMade A_t_sheets A_t_rows A_t_clash A_t_span A_t_reader A_t_clash_row A_t_clash_least : Nat) (t_latestTorn : Int32) (t_clash_size : Int32) (t_clash_row : Nat → Int32) (x1 : Int32) (post : Int32 → Prop) (h : P_X7_conflict post t_clash_size t_clash_row x1) : Met l yX7_conflict wsX7_conflict { frames := 0, cells := 0, slots := 0, locals := 0 } (pcR D cy [(A_t, .inr (7, [.ref A_t_tape, .ref A_t_now, .ref A_t_images, .ref A_t_imageMade, .ref A_t_sheets, .ref A_t_rows, .ref A_t_clash, .ref A_t_span, .ref A_t_reader, .int t_latestTorn])), (A_t_clash, .inr (0, [.ref A_t_clash_row, .int t_clash_size, .ref A_t_clash_least])), (A_t_clash_row, .inl (cy 1, 10, .inl t_clash_row))] [.ref A_t, .int x1]) (vp_Si post) 0 0 (fun _ => False) := by
  refine Met.ofW (cc := cX7_conflict) (maxL := 2) (ret := (some .int)) (by decide) rfl ?_
  intro p e s m args below meth c s₁ B hml hv
  obtain ⟨rfl, hP, hK⟩ := hv
  have hx := B.exec
  have hb := B.bytes
  have hr := B.returns
  have hts := atoms_spec (ws := wsX7_conflict) B.pre
  have hown : s.vm.findClass RX7 = some m.cls := findClass_of_methodNamed B.named
  have hlocks := B.notSynchronized
  have CF : CallFix p m c cX7_conflict 2 s ([.ref A_t, .int x1] : List Value).toArray wsX7_conflict RX7 := ⟨hx, hb, hml, hown, hts⟩
  have f0 := hts (.fieldLink RX7 41 "GapBounds" "clash" "LGapBounds$Clash;") (by decide +kernel)
  have f1 := hts (.fieldLink RX7 104 "GapBounds$Clash" "size" "I") (by decide +kernel)
  have f2 := hts (.fieldLink RX7 184 "GapBounds$Clash" "row" "[I") (by decide +kernel)
  have iX0 : ∀ w ∈ u_ws RX0 TX0 3, w ∈ wsX7_conflict := by decide +kernel
  have iX7 : ∀ w ∈ u_ws RX7 TX7 10, w ∈ wsX7_conflict := by decide +kernel
  have hl := lv_entry [.ref A_t, .int x1] (n := 2) (Nat.le_of_ble_eq_true rfl)
  rw [lg_entry_eq]
  generalize (lg_sl [.ref A_t, .int x1] ++ List.replicate (2 - (lg_sl [.ref A_t, .int x1]).length) Slot.unset).toArray = ls at hl ⊢
  have hl : lv_has ls 2 [(0, .ref A_t), (1, .int x1)] := hl
  refine W.gen (fun Q0 hQ => ?_)
  unfold P_X7_conflict at h
  refine lv_iload_n hx hb dX7_conflict_0 rfl (lv_at hl 1 rfl) ?_
  refine lv_if_ge (tgt := 6) hx hb dX7_conflict_1 (by decide) (fun hc => ?_) (fun hc => ?_)
  · replace h := h.1 hc
    refine lv_iload_n hx hb dX7_conflict_6 rfl (lv_at hl 1 rfl) ?_
    refine lv_aload_n hx hb dX7_conflict_7 rfl (lv_at hl 0 rfl) ?_
    refine va_get (D := D) (ci := 7) (v := .ref A_t_clash) (C := RX7) (T := TX7) (N := 10) hx hb hts iX7 hown hK.1 hP 0 rfl rfl 6 (by decide) f0 (fun _ h9 => h9) rfl dX7_conflict_8 ?_
    refine va_get (D := D) (ci := 0) (v := .int t_clash_size) (C := RX0) (T := TX0) (N := 3) hx hb hts iX0 hown hK.1 hP 1 rfl rfl 1 (by decide) f1 (fun _ h9 => h9) rfl dX7_conflict_11 ?_
    refine lv_icmp_ge (tgt := 29) hx hb dX7_conflict_14 (by decide) (fun hc => ?_) (fun hc => ?_)
    · replace h := h.1 hc
      refine lv_bipush (v := -4) hx hb dX7_conflict_29 (by decide) ?_
      subst hQ
      exact W.iret (v := (-4 : Int32)) hx hb hr (fun t ht _ => ⟨(-4 : Int32), rfl, h, ht⟩) (fun _ hq => absurd hq List.not_mem_nil) dX7_conflict_31
    · replace h := h.2 hc
      refine lv_aload_n hx hb dX7_conflict_17 rfl (lv_at hl 0 rfl) ?_
      refine va_get (D := D) (ci := 7) (v := .ref A_t_clash) (C := RX7) (T := TX7) (N := 10) hx hb hts iX7 hown hK.1 hP 0 rfl rfl 6 (by decide) f0 (fun _ h9 => h9) rfl dX7_conflict_18 ?_
      refine va_get (D := D) (ci := 0) (v := .ref A_t_clash_row) (C := RX0) (T := TX0) (N := 3) hx hb hts iX0 hown hK.1 hP 1 rfl rfl 0 (by decide) f2 (fun _ h9 => h9) rfl dX7_conflict_21 ?_
      refine lv_iload_n hx hb dX7_conflict_24 rfl (lv_at hl 1 rfl) ?_
      refine va_iald hx hb hK.1 hP 2 1 rfl rfl h.1 dX7_conflict_25 ?_
      replace h := h.2
      refine lv_goto (tgt := 31) hx hb dX7_conflict_26 (by decide) ?_
      subst hQ
      exact W.iret (v := t_clash_row x1.toNatClampNeg) hx hb hr (fun t ht _ => ⟨t_clash_row x1.toNatClampNeg, rfl, h, ht⟩) (fun _ hq => absurd hq List.not_mem_nil) dX7_conflict_31
  · replace h := h.2 hc
    refine lv_iconst (v := -1) hx hb dX7_conflict_4 (by decide) ?_
    subst hQ
    exact W.iret (v := (-1 : Int32)) hx hb hr (fun t ht _ => ⟨(-1 : Int32), rfl, h, ht⟩) (fun _ hq => absurd hq List.not_mem_nil) dX7_conflict_5
theorem qX7_drop : yX7_drop.cls = RX7 ∧ yX7_drop.cls ≠ "java/lang/invoke/MethodHandle" ∧ yX7_drop.cls ≠ "java/lang/invoke/VarHandle" ∧ (parseMethodDescriptor yX7_drop.desc).map (fun d => d.parameters.length) = some 1 := by decide +kernel
def P_X7_drop (post : Int32 → Int32 → (Nat → Int32) → (Nat → Int32) → (Nat → Int32) → (Nat → Int32) → (Nat → Int32) → Prop) (t_now_size : Int32) (t_now_marked : Int32) (t_now_upper : Nat → Int32) (t_now_marks : Nat → Int32) (t_now_lower : Nat → Int32) (t_now_limits : Nat → Int32) (t_now_stricts : Nat → Int32) (x1 : Int32) : Prop :=
  P_X5_has (fun (r1 : Int32) => ((¬ r1 = 0 → P_X5_remove (fun (t_now_size_v2 : Int32) (t_now_upper_v2 : Nat → Int32) (t_now_marks_v2 : Nat → Int32) (t_now_lower_v2 : Nat → Int32) (t_now_limits_v2 : Nat → Int32) (t_now_stricts_v2 : Nat → Int32) => post t_now_size_v2 t_now_size_v2 t_now_upper_v2 t_now_marks_v2 t_now_lower_v2 t_now_limits_v2 t_now_stricts_v2) t_now_size t_now_marked t_now_upper t_now_marks t_now_lower t_now_limits t_now_stricts x1) ∧ (r1 = 0 → post (-1 : Int32) t_now_size t_now_upper t_now_marks t_now_lower t_now_limits t_now_stricts))) t_now_size x1
set_option maxHeartbeats 4000000 in
set_option maxRecDepth 100000 in
theorem c_X7_drop (l : Launch) (D : va_G) (cy : Nat → ClassId) (sz : Nat) (A_t A_t_tape A_t_now A_t_images A_t_imageMade A_t_sheets A_t_rows A_t_clash A_t_span A_t_reader A_t_now_upper A_t_now_lower A_t_now_limits A_t_now_stricts A_t_now_marks : Nat) (t_latestTorn : Int32) (t_now_size : Int32) (t_now_marked : Int32) (t_now_wholeness : Int32) (t_now_upper : Nat → Int32) (t_now_marks : Nat → Int32) (t_now_lower : Nat → Int32) (t_now_limits : Nat → Int32) (t_now_stricts : Nat → Int32) (x1 : Int32) (post : Int32 → Int32 → (Nat → Int32) → (Nat → Int32) → (Nat → Int32) → (Nat → Int32) → (Nat → Int32) → Prop) (h : P_X7_drop post t_now_size t_now_marked t_now_upper t_now_marks t_now_lower t_now_limits t_now_stricts x1) : Met l yX7_drop wsX7_drop { frames := 1, cells := 0, slots := 0, locals := 22 } (pcW D cy [(A_t, .inr (7, [.ref A_t_tape, .ref A_t_now, .ref A_t_images, .ref A_t_imageMade, .ref A_t_sheets, .ref A_t_rows, .ref A_t_clash, .ref A_t_span, .ref A_t_reader, .int t_latestTorn])), (A_t_now, .inr (5, [.ref A_t_now_upper, .ref A_t_now_lower, .ref A_t_now_limits, .ref A_t_now_stricts, .ref A_t_now_marks, .int t_now_size, .int t_now_marked, .int t_now_wholeness])), (A_t_now_upper, .inl (cy 1, 24, .inl t_now_upper)), (A_t_now_marks, .inl (cy 1, 8, .inl t_now_marks)), (A_t_now_lower, .inl (cy 1, 24, .inl t_now_lower)), (A_t_now_limits, .inl (cy 1, 24, .inl t_now_limits)), (A_t_now_stricts, .inl (cy 1, 24, .inl t_now_stricts))] sz [.ref A_t, .int x1]) (va_Qi (fun r (u : Int32 × (Nat → Int32) × (Nat → Int32) × (Nat → Int32) × (Nat → Int32) × (Nat → Int32)) => post r u.1 u.2.1 u.2.2.1 u.2.2.2.1 u.2.2.2.2.1 u.2.2.2.2.2) (bW D [(A_t, .inr (7, [.ref A_t_tape, .ref A_t_now, .ref A_t_images, .ref A_t_imageMade, .ref A_t_sheets, .ref A_t_rows, .ref A_t_clash, .ref A_t_span, .ref A_t_reader, .int t_latestTorn])), (A_t_now, .inr (5, [.ref A_t_now_upper, .ref A_t_now_lower, .ref A_t_now_limits, .ref A_t_now_stricts, .ref A_t_now_marks, .int t_now_size, .int t_now_marked, .int t_now_wholeness])), (A_t_now_upper, .inl (cy 1, 24, .inl t_now_upper)), (A_t_now_marks, .inl (cy 1, 8, .inl t_now_marks)), (A_t_now_lower, .inl (cy 1, 24, .inl t_now_lower)), (A_t_now_limits, .inl (cy 1, 24, .inl t_now_limits)), (A_t_now_stricts, .inl (cy 1, 24, .inl t_now_stricts))] sz (fun u => [(A_t, .inr (7, [.ref A_t_tape, .ref A_t_now, .ref A_t_images, .ref A_t_imageMade, .ref A_t_sheets, .ref A_t_rows, .ref A_t_clash, .ref A_t_span, .ref A_t_reader, .int t_latestTorn])), (A_t_now, .inr (5, [.ref A_t_now_upper, .ref A_t_now_lower, .ref A_t_now_limits, .ref A_t_now_stricts, .ref A_t_now_marks, .int (u.1), .int t_now_marked, .int t_now_wholeness])), (A_t_now_upper, .inl (cy 1, 24, .inl u.2.1)), (A_t_now_marks, .inl (cy 1, 8, .inl u.2.2.1)), (A_t_now_lower, .inl (cy 1, 24, .inl u.2.2.2.1)), (A_t_now_limits, .inl (cy 1, 24, .inl u.2.2.2.2.1)), (A_t_now_stricts, .inl (cy 1, 24, .inl u.2.2.2.2.2))])) (va_A [(A_t, .inr (7, [.ref A_t_tape, .ref A_t_now, .ref A_t_images, .ref A_t_imageMade, .ref A_t_sheets, .ref A_t_rows, .ref A_t_clash, .ref A_t_span, .ref A_t_reader, .int t_latestTorn])), (A_t_now, .inr (5, [.ref A_t_now_upper, .ref A_t_now_lower, .ref A_t_now_limits, .ref A_t_now_stricts, .ref A_t_now_marks, .int t_now_size, .int t_now_marked, .int t_now_wholeness])), (A_t_now_upper, .inl (cy 1, 24, .inl t_now_upper)), (A_t_now_marks, .inl (cy 1, 8, .inl t_now_marks)), (A_t_now_lower, .inl (cy 1, 24, .inl t_now_lower)), (A_t_now_limits, .inl (cy 1, 24, .inl t_now_limits)), (A_t_now_stricts, .inl (cy 1, 24, .inl t_now_stricts))] sz)) 0 0 (va_A [(A_t, .inr (7, [.ref A_t_tape, .ref A_t_now, .ref A_t_images, .ref A_t_imageMade, .ref A_t_sheets, .ref A_t_rows, .ref A_t_clash, .ref A_t_span, .ref A_t_reader, .int t_latestTorn])), (A_t_now, .inr (5, [.ref A_t_now_upper, .ref A_t_now_lower, .ref A_t_now_limits, .ref A_t_now_stricts, .ref A_t_now_marks, .int t_now_size, .int t_now_marked, .int t_now_wholeness])), (A_t_now_upper, .inl (cy 1, 24, .inl t_now_upper)), (A_t_now_marks, .inl (cy 1, 8, .inl t_now_marks)), (A_t_now_lower, .inl (cy 1, 24, .inl t_now_lower)), (A_t_now_limits, .inl (cy 1, 24, .inl t_now_limits)), (A_t_now_stricts, .inl (cy 1, 24, .inl t_now_stricts))] sz) := by
  refine Met.ofW (cc := cX7_drop) (maxL := 2) (ret := (some .int)) (by decide) rfl ?_
  intro p e s m args below meth c s₁ B hml hv
  obtain ⟨rfl, hsz, hP, hK, hD0⟩ := hv
  have hx := B.exec
  have hb := B.bytes
  have hr := B.returns
  have hts := atoms_spec (ws := wsX7_drop) B.pre
  have hown : s.vm.findClass RX7 = some m.cls := findClass_of_methodNamed B.named
  have hlocks := B.notSynchronized
  have CF : CallFix p m c cX7_drop 2 s ([.ref A_t, .int x1] : List Value).toArray wsX7_drop RX7 := ⟨hx, hb, hml, hown, hts⟩
  have f0 := hts (.fieldLink RX7 10 "GapBounds" "now" "LGapBounds$Store;") (by decide +kernel)
  have f1 := hts (.fieldLink RX7 108 "GapBounds$Store" "size" "I") (by decide +kernel)
  have iX5 : ∀ w ∈ u_ws RX5 TX5 8, w ∈ wsX7_drop := by decide +kernel
  have iX7 : ∀ w ∈ u_ws RX7 TX7 10, w ∈ wsX7_drop := by decide +kernel
  subst hsz
  obtain ⟨A, hAe⟩ : ∃ A, A = va_A [(A_t, .inr (7, [.ref A_t_tape, .ref A_t_now, .ref A_t_images, .ref A_t_imageMade, .ref A_t_sheets, .ref A_t_rows, .ref A_t_clash, .ref A_t_span, .ref A_t_reader, .int t_latestTorn])), (A_t_now, .inr (5, [.ref A_t_now_upper, .ref A_t_now_lower, .ref A_t_now_limits, .ref A_t_now_stricts, .ref A_t_now_marks, .int t_now_size, .int t_now_marked, .int t_now_wholeness])), (A_t_now_upper, .inl (cy 1, 24, .inl t_now_upper)), (A_t_now_marks, .inl (cy 1, 8, .inl t_now_marks)), (A_t_now_lower, .inl (cy 1, 24, .inl t_now_lower)), (A_t_now_limits, .inl (cy 1, 24, .inl t_now_limits)), (A_t_now_stricts, .inl (cy 1, 24, .inl t_now_stricts))] s.heap.size := ⟨_, rfl⟩
  have hD : va_D A [(A_t, .inr (7, [.ref A_t_tape, .ref A_t_now, .ref A_t_images, .ref A_t_imageMade, .ref A_t_sheets, .ref A_t_rows, .ref A_t_clash, .ref A_t_span, .ref A_t_reader, .int t_latestTorn])), (A_t_now, .inr (5, [.ref A_t_now_upper, .ref A_t_now_lower, .ref A_t_now_limits, .ref A_t_now_stricts, .ref A_t_now_marks, .int t_now_size, .int t_now_marked, .int t_now_wholeness])), (A_t_now_upper, .inl (cy 1, 24, .inl t_now_upper)), (A_t_now_marks, .inl (cy 1, 8, .inl t_now_marks)), (A_t_now_lower, .inl (cy 1, 24, .inl t_now_lower)), (A_t_now_limits, .inl (cy 1, 24, .inl t_now_limits)), (A_t_now_stricts, .inl (cy 1, 24, .inl t_now_stricts))] := by rw [hAe]; exact hD0.self
  have hA : ∀ q : Nat, s.heap.size ≤ q → A q := fun q hq => by rw [hAe]; exact Or.inr hq
  have hS : va_S A s.heap s.heap [] := va_S.rf
  have hl := lv_entry [.ref A_t, .int x1] (n := 2) (Nat.le_of_ble_eq_true rfl)
  rw [lg_entry_eq]
  generalize (lg_sl [.ref A_t, .int x1] ++ List.replicate (2 - (lg_sl [.ref A_t, .int x1]).length) Slot.unset).toArray = ls at hl ⊢
  have hl : lv_has ls 2 [(0, .ref A_t), (1, .int x1)] := hl
  refine W.gen (fun Q0 hQ => ?_)
  unfold P_X7_drop at h
  refine lv_aload_n hx hb dX7_drop_0 rfl (lv_at hl 0 rfl) ?_
  refine va_get (D := D) (ci := 7) (v := .ref A_t_now) (C := RX7) (T := TX7) (N := 10) hx hb hts iX7 hown hK.1 hP 0 rfl rfl 1 (by decide) f0 (fun _ h9 => h9) rfl dX7_drop_1 ?_
  refine lv_iload_n hx hb dX7_drop_4 rfl (lv_at hl 1 rfl) ?_
  have hPc := hP.sub (ws' := [(A_t_now, .inr (5, [.ref A_t_now_upper, .ref A_t_now_lower, .ref A_t_now_limits, .ref A_t_now_stricts, .ref A_t_now_marks, .int t_now_size, .int t_now_marked, .int t_now_wholeness]))]) [1] rfl
  refine vp_callSi (W.runV (As := [.int x1]) (rest := []) CF (c_X5_has l D cy A_t_now A_t_now_upper A_t_now_lower A_t_now_limits A_t_now_stricts A_t_now_marks t_now_size t_now_marked t_now_wholeness x1 _ h) (cwV 1 hts gX7_drop_X5_has rfl rfl rfl qX5_has ⟨Nat.le_of_ble_eq_true rfl, Nat.le_of_ble_eq_true rfl⟩) (mpVR hK hPc (ci := 5) (q := (RX5, TX5, 8)) (q0 := 0) rfl rfl) rfl rfl hl.1 rfl (lv_room (Nat.le_of_ble_eq_true rfl)) dX7_drop_5 ⟨Nat.zero_le _, Nat.zero_le _⟩) (fun r1 h => ?_)
  refine lv_if_ne (tgt := 13) hx hb dX7_drop_8 (by decide) (fun hc => ?_) (fun hc => ?_)
  · replace h := h.1 hc
    refine lv_aload_n hx hb dX7_drop_13 rfl (lv_at hl 0 rfl) ?_
    refine va_get (D := D) (ci := 7) (v := .ref A_t_now) (C := RX7) (T := TX7) (N := 10) hx hb hts iX7 hown hK.1 hP 0 rfl rfl 1 (by decide) f0 (fun _ h9 => h9) rfl dX7_drop_14 ?_
    refine lv_iload_n hx hb dX7_drop_17 rfl (lv_at hl 1 rfl) ?_
    have hPn : va_P D vwCl ([(A_t, .inr (7, [.ref A_t_tape, .ref A_t_now, .ref A_t_images, .ref A_t_imageMade, .ref A_t_sheets, .ref A_t_rows, .ref A_t_clash, .ref A_t_span, .ref A_t_reader, .int t_latestTorn]))] ++ [(A_t_now, .inr (5, [.ref A_t_now_upper, .ref A_t_now_lower, .ref A_t_now_limits, .ref A_t_now_stricts, .ref A_t_now_marks, .int t_now_size, .int t_now_marked, .int t_now_wholeness])), (A_t_now_upper, .inl (cy 1, 24, .inl t_now_upper)), (A_t_now_marks, .inl (cy 1, 8, .inl t_now_marks)), (A_t_now_lower, .inl (cy 1, 24, .inl t_now_lower)), (A_t_now_limits, .inl (cy 1, 24, .inl t_now_limits)), (A_t_now_stricts, .inl (cy 1, 24, .inl t_now_stricts))]) s.heap := hP.sub [0, 1, 2, 3, 4, 5, 6] rfl
    have hDn : va_D A ([(A_t, .inr (7, [.ref A_t_tape, .ref A_t_now, .ref A_t_images, .ref A_t_imageMade, .ref A_t_sheets, .ref A_t_rows, .ref A_t_clash, .ref A_t_span, .ref A_t_reader, .int t_latestTorn]))] ++ [(A_t_now, .inr (5, [.ref A_t_now_upper, .ref A_t_now_lower, .ref A_t_now_limits, .ref A_t_now_stricts, .ref A_t_now_marks, .int t_now_size, .int t_now_marked, .int t_now_wholeness])), (A_t_now_upper, .inl (cy 1, 24, .inl t_now_upper)), (A_t_now_marks, .inl (cy 1, 8, .inl t_now_marks)), (A_t_now_lower, .inl (cy 1, 24, .inl t_now_lower)), (A_t_now_limits, .inl (cy 1, 24, .inl t_now_limits)), (A_t_now_stricts, .inl (cy 1, 24, .inl t_now_stricts))]) := hD.sub [0, 1, 2, 3, 4, 5, 6] (by decide) rfl
    have hPc := gPR hPn
    have hDc := gDR hDn
    refine mw_v (va_runV (As := [.int x1]) (rest := []) CF (c_X5_remove l D cy s.heap.size A_t_now A_t_now_upper A_t_now_lower A_t_now_limits A_t_now_stricts A_t_now_marks t_now_size t_now_marked t_now_wholeness t_now_upper t_now_marks t_now_lower t_now_limits t_now_stricts x1 _ h) (cwV 1 hts gX7_drop_X5_remove rfl rfl rfl qX5_remove ⟨Nat.le_of_ble_eq_true rfl, Nat.le_of_ble_eq_true rfl⟩) (mpVW hK hPc hDc (ci := 5) (q := (RX5, TX5, 8)) (q0 := 0) rfl rfl) rfl rfl hl.1 rfl (lv_room (Nat.le_of_ble_eq_true rfl)) dX7_drop_18 ⟨Nat.zero_le _, Nat.zero_le _⟩) hPn hDn hS hA (fun u H locs h hP hD hS => ?_)
    obtain ⟨t_now_size_v2, t_now_upper_v2, t_now_marks_v2, t_now_lower_v2, t_now_limits_v2, t_now_stricts_v2⟩ := u
    have hP : va_P D vwCl [(A_t, .inr (7, [.ref A_t_tape, .ref A_t_now, .ref A_t_images, .ref A_t_imageMade, .ref A_t_sheets, .ref A_t_rows, .ref A_t_clash, .ref A_t_span, .ref A_t_reader, .int t_latestTorn])), (A_t_now, .inr (5, [.ref A_t_now_upper, .ref A_t_now_lower, .ref A_t_now_limits, .ref A_t_now_stricts, .ref A_t_now_marks, .int t_now_size_v2, .int t_now_marked, .int t_now_wholeness])), (A_t_now_upper, .inl (cy 1, 24, .inl t_now_upper_v2)), (A_t_now_marks, .inl (cy 1, 8, .inl t_now_marks_v2)), (A_t_now_lower, .inl (cy 1, 24, .inl t_now_lower_v2)), (A_t_now_limits, .inl (cy 1, 24, .inl t_now_limits_v2)), (A_t_now_stricts, .inl (cy 1, 24, .inl t_now_stricts_v2))] H := hP.sub [0, 1, 2, 3, 4, 5, 6] rfl
    have hD : va_D A [(A_t, .inr (7, [.ref A_t_tape, .ref A_t_now, .ref A_t_images, .ref A_t_imageMade, .ref A_t_sheets, .ref A_t_rows, .ref A_t_clash, .ref A_t_span, .ref A_t_reader, .int t_latestTorn])), (A_t_now, .inr (5, [.ref A_t_now_upper, .ref A_t_now_lower, .ref A_t_now_limits, .ref A_t_now_stricts, .ref A_t_now_marks, .int t_now_size_v2, .int t_now_marked, .int t_now_wholeness])), (A_t_now_upper, .inl (cy 1, 24, .inl t_now_upper_v2)), (A_t_now_marks, .inl (cy 1, 8, .inl t_now_marks_v2)), (A_t_now_lower, .inl (cy 1, 24, .inl t_now_lower_v2)), (A_t_now_limits, .inl (cy 1, 24, .inl t_now_limits_v2)), (A_t_now_stricts, .inl (cy 1, 24, .inl t_now_stricts_v2))] := hD.sub [0, 1, 2, 3, 4, 5, 6] (by decide) rfl
    try dsimp only at h
    refine lv_aload_n hx hb dX7_drop_21 rfl (lv_at hl 0 rfl) ?_
    refine va_get (D := D) (ci := 7) (v := .ref A_t_now) (C := RX7) (T := TX7) (N := 10) hx hb hts iX7 hown hK.1 hP 0 rfl rfl 1 (by decide) f0 (fun _ h9 => h9) rfl dX7_drop_22 ?_
    refine va_get (D := D) (ci := 5) (v := .int t_now_size_v2) (C := RX5) (T := TX5) (N := 8) hx hb hts iX5 hown hK.1 hP 1 rfl rfl 5 (by decide) f1 (fun _ h9 => h9) rfl dX7_drop_25 ?_
    subst hQ
    subst hAe
    exact W.iret (v := t_now_size_v2) hx hb hr (fun t ht _ => ⟨⟨t_now_size_v2, (t_now_size_v2, t_now_upper_v2, t_now_marks_v2, t_now_lower_v2, t_now_limits_v2, t_now_stricts_v2), rfl, h, by rw [ht]; exact hP, hD⟩, hS.F ht⟩) hS.2.2 dX7_drop_28
  · replace h := h.2 hc
    refine lv_iconst (v := -1) hx hb dX7_drop_11 (by decide) ?_
    subst hQ
    subst hAe
    exact W.iret (v := (-1 : Int32)) hx hb hr (fun t ht _ => ⟨⟨(-1 : Int32), (t_now_size, t_now_upper, t_now_marks, t_now_lower, t_now_limits, t_now_stricts), rfl, h, by rw [ht]; exact hP, hD⟩, hS.F ht⟩) hS.2.2 dX7_drop_12
theorem qX7_shift : yX7_shift.cls = RX7 ∧ yX7_shift.cls ≠ "java/lang/invoke/MethodHandle" ∧ yX7_shift.cls ≠ "java/lang/invoke/VarHandle" ∧ (parseMethodDescriptor yX7_shift.desc).map (fun d => d.parameters.length) = some 2 := by decide +kernel
def B_X7_shift_117 (K_52 : (Nat → Int32) → Int32 → Int32 → Prop) (t_now_limits : Nat → Int32) (x3 : Int32) (x4 : Int32) : Prop :=
  K_52 t_now_limits x3 (x4 + (1 : Int32))
def B_X7_shift_92 (K_52 : (Nat → Int32) → Int32 → Int32 → Prop) (t_now_upper : Nat → Int32) (t_now_lower : Nat → Int32) (t_now_limits : Nat → Int32) (x1 : Int32) (x2 : Int32) (x3 : Int32) (x4 : Int32) : Prop :=
  P_X5_shiftedLimit (fun (r2 : Int64) => (vp_in x4 24 ∧ B_X7_shift_117 K_52 (upd t_now_limits x4.toNatClampNeg r2.toInt32) (x3 + (1 : Int32)) x4)) t_now_upper t_now_lower t_now_limits x4 x1 x2
def LB_X7_shift_52 (post : Int32 → (Nat → Int32) → Prop) (t_now_size : Int32) (t_now_upper : Nat → Int32) (t_now_lower : Nat → Int32) (x1 : Int32) (x2 : Int32) (K_52 : (Nat → Int32) → Int32 → Int32 → Prop) (t_now_limits : Nat → Int32) (x3 : Int32) (x4 : Int32) : Prop :=
  ((t_now_size ≤ x4 → post x3 t_now_limits) ∧ (¬ t_now_size ≤ x4 → (vp_in x4 24 ∧ ((t_now_upper x4.toNatClampNeg = x1 → B_X7_shift_92 K_52 t_now_upper t_now_lower t_now_limits x1 x2 x3 x4) ∧ (¬ t_now_upper x4.toNatClampNeg = x1 → (vp_in x4 24 ∧ ((¬ t_now_lower x4.toNatClampNeg = x1 → B_X7_shift_117 K_52 t_now_limits x3 x4) ∧ (t_now_lower x4.toNatClampNeg = x1 → B_X7_shift_92 K_52 t_now_upper t_now_lower t_now_limits x1 x2 x3 x4))))))))
noncomputable def L_X7_shift_52 (post : Int32 → (Nat → Int32) → Prop) (t_now_size : Int32) (t_now_upper : Nat → Int32) (t_now_lower : Nat → Int32) (x1 : Int32) (x2 : Int32) (n : Nat) : (Nat → Int32) → Int32 → Int32 → Prop := Nat.rec (motive := fun _ => (Nat → Int32) → Int32 → Int32 → Prop) (fun _ _ _ => False) (fun _ K => LB_X7_shift_52 post t_now_size t_now_upper t_now_lower x1 x2 K) n
def LB_X7_shift_11 (post : Int32 → (Nat → Int32) → Prop) (t_now_size : Int32) (t_now_upper : Nat → Int32) (t_now_lower : Nat → Int32) (t_now_limits : Nat → Int32) (x1 : Int32) (x2 : Int32) (K_11 : Int32 → Prop) (x3 : Int32) : Prop :=
  ((t_now_size ≤ x3 → ∃ n : Nat, L_X7_shift_52 post t_now_size t_now_upper t_now_lower x1 x2 n t_now_limits (0 : Int32) (0 : Int32)) ∧ (¬ t_now_size ≤ x3 → P_X5_shiftedLimit (fun (r3 : Int64) => P_X7_is32Bits (fun (r4 : Int32) => ((¬ r4 = 0 → K_11 (x3 + (1 : Int32))) ∧ (r4 = 0 → post (-5 : Int32) t_now_limits))) r3) t_now_upper t_now_lower t_now_limits x3 x1 x2))
noncomputable def L_X7_shift_11 (post : Int32 → (Nat → Int32) → Prop) (t_now_size : Int32) (t_now_upper : Nat → Int32) (t_now_lower : Nat → Int32) (t_now_limits : Nat → Int32) (x1 : Int32) (x2 : Int32) (n : Nat) : Int32 → Prop := Nat.rec (motive := fun _ => Int32 → Prop) (fun _ => False) (fun _ K => LB_X7_shift_11 post t_now_size t_now_upper t_now_lower t_now_limits x1 x2 K) n
def P_X7_shift (post : Int32 → (Nat → Int32) → Prop) (t_now_size : Int32) (t_now_upper : Nat → Int32) (t_now_lower : Nat → Int32) (t_now_limits : Nat → Int32) (x1 : Int32) (x2 : Int32) : Prop :=
  P_X7_isThing (fun (r1 : Int32) => ((¬ r1 = 0 → ∃ n : Nat, L_X7_shift_11 post t_now_size t_now_upper t_now_lower t_now_limits x1 x2 n (0 : Int32)) ∧ (r1 = 0 → post (-1 : Int32) t_now_limits))) x1
set_option maxHeartbeats 4000000 in
set_option maxRecDepth 100000 in
theorem c_X7_shift (l : Launch) (D : va_G) (cy : Nat → ClassId) (sz : Nat) (A_t A_t_tape A_t_now A_t_images A_t_imageMade A_t_sheets A_t_rows A_t_clash A_t_span A_t_reader A_t_now_upper A_t_now_lower A_t_now_limits A_t_now_stricts A_t_now_marks : Nat) (t_latestTorn : Int32) (t_now_size : Int32) (t_now_marked : Int32) (t_now_wholeness : Int32) (t_now_upper : Nat → Int32) (t_now_lower : Nat → Int32) (t_now_limits : Nat → Int32) (x1 : Int32) (x2 : Int32) (post : Int32 → (Nat → Int32) → Prop) (h : P_X7_shift post t_now_size t_now_upper t_now_lower t_now_limits x1 x2) : Met l yX7_shift wsX7_shift { frames := 1, cells := 0, slots := 0, locals := 23 } (pcW D cy [(A_t, .inr (7, [.ref A_t_tape, .ref A_t_now, .ref A_t_images, .ref A_t_imageMade, .ref A_t_sheets, .ref A_t_rows, .ref A_t_clash, .ref A_t_span, .ref A_t_reader, .int t_latestTorn])), (A_t_now, .inr (5, [.ref A_t_now_upper, .ref A_t_now_lower, .ref A_t_now_limits, .ref A_t_now_stricts, .ref A_t_now_marks, .int t_now_size, .int t_now_marked, .int t_now_wholeness])), (A_t_now_upper, .inl (cy 1, 24, .inl t_now_upper)), (A_t_now_lower, .inl (cy 1, 24, .inl t_now_lower)), (A_t_now_limits, .inl (cy 1, 24, .inl t_now_limits))] sz [.ref A_t, .int x1, .int x2]) (va_Qi (fun r (u : (Nat → Int32)) => post r u) (bW D [(A_t, .inr (7, [.ref A_t_tape, .ref A_t_now, .ref A_t_images, .ref A_t_imageMade, .ref A_t_sheets, .ref A_t_rows, .ref A_t_clash, .ref A_t_span, .ref A_t_reader, .int t_latestTorn])), (A_t_now, .inr (5, [.ref A_t_now_upper, .ref A_t_now_lower, .ref A_t_now_limits, .ref A_t_now_stricts, .ref A_t_now_marks, .int t_now_size, .int t_now_marked, .int t_now_wholeness])), (A_t_now_upper, .inl (cy 1, 24, .inl t_now_upper)), (A_t_now_lower, .inl (cy 1, 24, .inl t_now_lower)), (A_t_now_limits, .inl (cy 1, 24, .inl t_now_limits))] sz (fun u => [(A_t, .inr (7, [.ref A_t_tape, .ref A_t_now, .ref A_t_images, .ref A_t_imageMade, .ref A_t_sheets, .ref A_t_rows, .ref A_t_clash, .ref A_t_span, .ref A_t_reader, .int t_latestTorn])), (A_t_now, .inr (5, [.ref A_t_now_upper, .ref A_t_now_lower, .ref A_t_now_limits, .ref A_t_now_stricts, .ref A_t_now_marks, .int t_now_size, .int t_now_marked, .int t_now_wholeness])), (A_t_now_upper, .inl (cy 1, 24, .inl t_now_upper)), (A_t_now_lower, .inl (cy 1, 24, .inl t_now_lower)), (A_t_now_limits, .inl (cy 1, 24, .inl u))])) (va_A [(A_t, .inr (7, [.ref A_t_tape, .ref A_t_now, .ref A_t_images, .ref A_t_imageMade, .ref A_t_sheets, .ref A_t_rows, .ref A_t_clash, .ref A_t_span, .ref A_t_reader, .int t_latestTorn])), (A_t_now, .inr (5, [.ref A_t_now_upper, .ref A_t_now_lower, .ref A_t_now_limits, .ref A_t_now_stricts, .ref A_t_now_marks, .int t_now_size, .int t_now_marked, .int t_now_wholeness])), (A_t_now_upper, .inl (cy 1, 24, .inl t_now_upper)), (A_t_now_lower, .inl (cy 1, 24, .inl t_now_lower)), (A_t_now_limits, .inl (cy 1, 24, .inl t_now_limits))] sz)) 0 0 (va_A [(A_t, .inr (7, [.ref A_t_tape, .ref A_t_now, .ref A_t_images, .ref A_t_imageMade, .ref A_t_sheets, .ref A_t_rows, .ref A_t_clash, .ref A_t_span, .ref A_t_reader, .int t_latestTorn])), (A_t_now, .inr (5, [.ref A_t_now_upper, .ref A_t_now_lower, .ref A_t_now_limits, .ref A_t_now_stricts, .ref A_t_now_marks, .int t_now_size, .int t_now_marked, .int t_now_wholeness])), (A_t_now_upper, .inl (cy 1, 24, .inl t_now_upper)), (A_t_now_lower, .inl (cy 1, 24, .inl t_now_lower)), (A_t_now_limits, .inl (cy 1, 24, .inl t_now_limits))] sz) := by
  refine Met.ofW (cc := cX7_shift) (maxL := 5) (ret := (some .int)) (by decide) rfl ?_
  intro p e s m args below meth c s₁ B hml hv
  obtain ⟨rfl, hsz, hP, hK, hD0⟩ := hv
  have hx := B.exec
  have hb := B.bytes
  have hr := B.returns
  have hts := atoms_spec (ws := wsX7_shift) B.pre
  have hown : s.vm.findClass RX7 = some m.cls := findClass_of_methodNamed B.named
  have hlocks := B.notSynchronized
  have CF : CallFix p m c cX7_shift 5 s ([.ref A_t, .int x1, .int x2] : List Value).toArray wsX7_shift RX7 := ⟨hx, hb, hml, hown, hts⟩
  have f0 := hts (.fieldLink RX7 10 "GapBounds" "now" "LGapBounds$Store;") (by decide +kernel)
  have f1 := hts (.fieldLink RX7 108 "GapBounds$Store" "size" "I") (by decide +kernel)
  have f2 := hts (.fieldLink RX7 130 "GapBounds$Store" "upper" "[I") (by decide +kernel)
  have f3 := hts (.fieldLink RX7 147 "GapBounds$Store" "limits" "[I") (by decide +kernel)
  have f4 := hts (.fieldLink RX7 134 "GapBounds$Store" "lower" "[I") (by decide +kernel)
  have iX5 : ∀ w ∈ u_ws RX5 TX5 8, w ∈ wsX7_shift := by decide +kernel
  have iX7 : ∀ w ∈ u_ws RX7 TX7 10, w ∈ wsX7_shift := by decide +kernel
  subst hsz
  obtain ⟨A, hAe⟩ : ∃ A, A = va_A [(A_t, .inr (7, [.ref A_t_tape, .ref A_t_now, .ref A_t_images, .ref A_t_imageMade, .ref A_t_sheets, .ref A_t_rows, .ref A_t_clash, .ref A_t_span, .ref A_t_reader, .int t_latestTorn])), (A_t_now, .inr (5, [.ref A_t_now_upper, .ref A_t_now_lower, .ref A_t_now_limits, .ref A_t_now_stricts, .ref A_t_now_marks, .int t_now_size, .int t_now_marked, .int t_now_wholeness])), (A_t_now_upper, .inl (cy 1, 24, .inl t_now_upper)), (A_t_now_lower, .inl (cy 1, 24, .inl t_now_lower)), (A_t_now_limits, .inl (cy 1, 24, .inl t_now_limits))] s.heap.size := ⟨_, rfl⟩
  have hD : va_D A [(A_t, .inr (7, [.ref A_t_tape, .ref A_t_now, .ref A_t_images, .ref A_t_imageMade, .ref A_t_sheets, .ref A_t_rows, .ref A_t_clash, .ref A_t_span, .ref A_t_reader, .int t_latestTorn])), (A_t_now, .inr (5, [.ref A_t_now_upper, .ref A_t_now_lower, .ref A_t_now_limits, .ref A_t_now_stricts, .ref A_t_now_marks, .int t_now_size, .int t_now_marked, .int t_now_wholeness])), (A_t_now_upper, .inl (cy 1, 24, .inl t_now_upper)), (A_t_now_lower, .inl (cy 1, 24, .inl t_now_lower)), (A_t_now_limits, .inl (cy 1, 24, .inl t_now_limits))] := by rw [hAe]; exact hD0.self
  have hA : ∀ q : Nat, s.heap.size ≤ q → A q := fun q hq => by rw [hAe]; exact Or.inr hq
  have hS : va_S A s.heap s.heap [] := va_S.rf
  have hl := lv_entry [.ref A_t, .int x1, .int x2] (n := 5) (Nat.le_of_ble_eq_true rfl)
  rw [lg_entry_eq]
  generalize (lg_sl [.ref A_t, .int x1, .int x2] ++ List.replicate (5 - (lg_sl [.ref A_t, .int x1, .int x2]).length) Slot.unset).toArray = ls at hl ⊢
  have hl : lv_has ls 5 [(0, .ref A_t), (1, .int x1), (2, .int x2)] := hl
  refine W.gen (fun Q0 hQ => ?_)
  have L52 : ∀ (n52 : Nat) (t_now_limits : Nat → Int32) (x3 : Int32) (x4 : Int32) (H : Heap) (locs : List Loc) (ls : Array Slot), L_X7_shift_52 post t_now_size t_now_upper t_now_lower x1 x2 n52 t_now_limits x3 x4 → va_P D vwCl [(A_t, .inr (7, [.ref A_t_tape, .ref A_t_now, .ref A_t_images, .ref A_t_imageMade, .ref A_t_sheets, .ref A_t_rows, .ref A_t_clash, .ref A_t_span, .ref A_t_reader, .int t_latestTorn])), (A_t_now, .inr (5, [.ref A_t_now_upper, .ref A_t_now_lower, .ref A_t_now_limits, .ref A_t_now_stricts, .ref A_t_now_marks, .int t_now_size, .int t_now_marked, .int t_now_wholeness])), (A_t_now_upper, .inl (cy 1, 24, .inl t_now_upper)), (A_t_now_lower, .inl (cy 1, 24, .inl t_now_lower)), (A_t_now_limits, .inl (cy 1, 24, .inl t_now_limits))] H → va_D A [(A_t, .inr (7, [.ref A_t_tape, .ref A_t_now, .ref A_t_images, .ref A_t_imageMade, .ref A_t_sheets, .ref A_t_rows, .ref A_t_clash, .ref A_t_span, .ref A_t_reader, .int t_latestTorn])), (A_t_now, .inr (5, [.ref A_t_now_upper, .ref A_t_now_lower, .ref A_t_now_limits, .ref A_t_now_stricts, .ref A_t_now_marks, .int t_now_size, .int t_now_marked, .int t_now_wholeness])), (A_t_now_upper, .inl (cy 1, 24, .inl t_now_upper)), (A_t_now_lower, .inl (cy 1, 24, .inl t_now_lower)), (A_t_now_limits, .inl (cy 1, 24, .inl t_now_limits))] → va_S A s.heap H locs → lv_has ls 5 [(0, .ref A_t), (1, .int x1), (2, .int x2), (3, .int x3), (4, .int x4)] → W p l e (headSpec wsX7_shift { frames := 1, cells := 0, slots := 0, locals := 23 }).room s m ([.ref A_t, .int x1, .int x2] : List Value).toArray below meth c H locs 0 0 Q0 (F0 m 52 ls []) := by
    intro n52
    induction n52 with
    | zero => intro t_now_limits x3 x4 H locs ls h; exact False.elim h
    | succ n52 ih52 =>
      intro t_now_limits x3 x4 H locs ls h hP hD hS hl
      have h : LB_X7_shift_52 post t_now_size t_now_upper t_now_lower x1 x2 (L_X7_shift_52 post t_now_size t_now_upper t_now_lower x1 x2 n52) t_now_limits x3 x4 := h
      unfold LB_X7_shift_52 at h
      have J117 : ∀ (t_now_limits : Nat → Int32) (x3 : Int32) (x4 : Int32) (H : Heap) (locs : List Loc) (ls : Array Slot), B_X7_shift_117 (L_X7_shift_52 post t_now_size t_now_upper t_now_lower x1 x2 n52) t_now_limits x3 x4 → va_P D vwCl [(A_t, .inr (7, [.ref A_t_tape, .ref A_t_now, .ref A_t_images, .ref A_t_imageMade, .ref A_t_sheets, .ref A_t_rows, .ref A_t_clash, .ref A_t_span, .ref A_t_reader, .int t_latestTorn])), (A_t_now, .inr (5, [.ref A_t_now_upper, .ref A_t_now_lower, .ref A_t_now_limits, .ref A_t_now_stricts, .ref A_t_now_marks, .int t_now_size, .int t_now_marked, .int t_now_wholeness])), (A_t_now_upper, .inl (cy 1, 24, .inl t_now_upper)), (A_t_now_lower, .inl (cy 1, 24, .inl t_now_lower)), (A_t_now_limits, .inl (cy 1, 24, .inl t_now_limits))] H → va_D A [(A_t, .inr (7, [.ref A_t_tape, .ref A_t_now, .ref A_t_images, .ref A_t_imageMade, .ref A_t_sheets, .ref A_t_rows, .ref A_t_clash, .ref A_t_span, .ref A_t_reader, .int t_latestTorn])), (A_t_now, .inr (5, [.ref A_t_now_upper, .ref A_t_now_lower, .ref A_t_now_limits, .ref A_t_now_stricts, .ref A_t_now_marks, .int t_now_size, .int t_now_marked, .int t_now_wholeness])), (A_t_now_upper, .inl (cy 1, 24, .inl t_now_upper)), (A_t_now_lower, .inl (cy 1, 24, .inl t_now_lower)), (A_t_now_limits, .inl (cy 1, 24, .inl t_now_limits))] → va_S A s.heap H locs → lv_has ls 5 [(0, .ref A_t), (1, .int x1), (2, .int x2), (3, .int x3), (4, .int x4)] → W p l e (headSpec wsX7_shift { frames := 1, cells := 0, slots := 0, locals := 23 }).room s m ([.ref A_t, .int x1, .int x2] : List Value).toArray below meth c H locs 0 0 Q0 (F0 m 117 ls []) := by
        intro t_now_limits x3 x4 H locs ls h hP hD hS hl
        unfold B_X7_shift_117 at h
        refine lv_iinc (v := x4 + (1 : Int32)) (lv' := [(4, .int (x4 + (1 : Int32))), (0, .ref A_t), (1, .int x1), (2, .int x2), (3, .int x3)]) hx hb dX7_shift_117 hl (k := 4) rfl rfl (by decide) rfl (fun ls hl => ?_)
        refine lv_goto (tgt := 52) hx hb dX7_shift_120 (by decide) ?_
        exact ih52 t_now_limits x3 (x4 + (1 : Int32)) H locs ls h hP hD hS (lv_sub hl [1, 2, 3, 4, 0] rfl)
      have J92 : ∀ (t_now_limits : Nat → Int32) (x3 : Int32) (x4 : Int32) (H : Heap) (locs : List Loc) (ls : Array Slot), B_X7_shift_92 (L_X7_shift_52 post t_now_size t_now_upper t_now_lower x1 x2 n52) t_now_upper t_now_lower t_now_limits x1 x2 x3 x4 → va_P D vwCl [(A_t, .inr (7, [.ref A_t_tape, .ref A_t_now, .ref A_t_images, .ref A_t_imageMade, .ref A_t_sheets, .ref A_t_rows, .ref A_t_clash, .ref A_t_span, .ref A_t_reader, .int t_latestTorn])), (A_t_now, .inr (5, [.ref A_t_now_upper, .ref A_t_now_lower, .ref A_t_now_limits, .ref A_t_now_stricts, .ref A_t_now_marks, .int t_now_size, .int t_now_marked, .int t_now_wholeness])), (A_t_now_upper, .inl (cy 1, 24, .inl t_now_upper)), (A_t_now_lower, .inl (cy 1, 24, .inl t_now_lower)), (A_t_now_limits, .inl (cy 1, 24, .inl t_now_limits))] H → va_D A [(A_t, .inr (7, [.ref A_t_tape, .ref A_t_now, .ref A_t_images, .ref A_t_imageMade, .ref A_t_sheets, .ref A_t_rows, .ref A_t_clash, .ref A_t_span, .ref A_t_reader, .int t_latestTorn])), (A_t_now, .inr (5, [.ref A_t_now_upper, .ref A_t_now_lower, .ref A_t_now_limits, .ref A_t_now_stricts, .ref A_t_now_marks, .int t_now_size, .int t_now_marked, .int t_now_wholeness])), (A_t_now_upper, .inl (cy 1, 24, .inl t_now_upper)), (A_t_now_lower, .inl (cy 1, 24, .inl t_now_lower)), (A_t_now_limits, .inl (cy 1, 24, .inl t_now_limits))] → va_S A s.heap H locs → lv_has ls 5 [(0, .ref A_t), (1, .int x1), (2, .int x2), (3, .int x3), (4, .int x4)] → W p l e (headSpec wsX7_shift { frames := 1, cells := 0, slots := 0, locals := 23 }).room s m ([.ref A_t, .int x1, .int x2] : List Value).toArray below meth c H locs 0 0 Q0 (F0 m 92 ls []) := by
        intro t_now_limits x3 x4 H locs ls h hP hD hS hl
        unfold B_X7_shift_92 at h
        refine lv_aload_n hx hb dX7_shift_92 rfl (lv_at hl 0 rfl) ?_
        refine va_get (D := D) (ci := 7) (v := .ref A_t_now) (C := RX7) (T := TX7) (N := 10) hx hb hts iX7 hown hK.1 hP 0 rfl rfl 1 (by decide) f0 (fun _ h9 => h9) rfl dX7_shift_93 ?_
        refine va_get (D := D) (ci := 5) (v := .ref A_t_now_limits) (C := RX5) (T := TX5) (N := 8) hx hb hts iX5 hown hK.1 hP 1 rfl rfl 2 (by decide) f3 (fun _ h9 => h9) rfl dX7_shift_96 ?_
        refine lv_iload hx hb dX7_shift_99 (lv_at hl 4 rfl) ?_
        refine lv_aload_n hx hb dX7_shift_101 rfl (lv_at hl 0 rfl) ?_
        refine va_get (D := D) (ci := 7) (v := .ref A_t_now) (C := RX7) (T := TX7) (N := 10) hx hb hts iX7 hown hK.1 hP 0 rfl rfl 1 (by decide) f0 (fun _ h9 => h9) rfl dX7_shift_102 ?_
        refine lv_iload hx hb dX7_shift_105 (lv_at hl 4 rfl) ?_
        refine lv_iload_n hx hb dX7_shift_107 rfl (lv_at hl 1 rfl) ?_
        refine lv_iload_n hx hb dX7_shift_108 rfl (lv_at hl 2 rfl) ?_
        have hPc := hP.sub (ws' := [(A_t_now, .inr (5, [.ref A_t_now_upper, .ref A_t_now_lower, .ref A_t_now_limits, .ref A_t_now_stricts, .ref A_t_now_marks, .int t_now_size, .int t_now_marked, .int t_now_wholeness])), (A_t_now_upper, .inl (cy 1, 24, .inl t_now_upper)), (A_t_now_lower, .inl (cy 1, 24, .inl t_now_lower)), (A_t_now_limits, .inl (cy 1, 24, .inl t_now_limits))]) [1, 2, 3, 4] rfl
        refine vp_callSl (W.runV (As := [.int x4, .int x1, .int x2]) (rest := [.int x4, .ref A_t_now_limits]) CF (c_X5_shiftedLimit l D cy A_t_now A_t_now_upper A_t_now_lower A_t_now_limits A_t_now_stricts A_t_now_marks t_now_size t_now_marked t_now_wholeness t_now_upper t_now_lower t_now_limits x4 x1 x2 _ h) (cwV 3 hts gX7_shift_X5_shiftedLimit rfl rfl rfl qX5_shiftedLimit ⟨Nat.le_of_ble_eq_true rfl, Nat.le_of_ble_eq_true rfl⟩) (mpVR hK hPc (ci := 5) (q := (RX5, TX5, 8)) (q0 := 0) rfl rfl) rfl rfl hl.1 rfl (lv_room (Nat.le_of_ble_eq_true rfl)) dX7_shift_109 ⟨Nat.zero_le _, Nat.zero_le _⟩) (fun r2 h => ?_)
        refine lv_l2i (v := r2.toInt32) hx hb dX7_shift_112 rfl ?_
        refine va_iast hx hb hK.1 hP hD hS 4 1 rfl rfl h.1 dX7_shift_113 (fun H locs hP hD hS => ?_)
        replace h := h.2
        have hP : va_P D vwCl [(A_t, .inr (7, [.ref A_t_tape, .ref A_t_now, .ref A_t_images, .ref A_t_imageMade, .ref A_t_sheets, .ref A_t_rows, .ref A_t_clash, .ref A_t_span, .ref A_t_reader, .int t_latestTorn])), (A_t_now, .inr (5, [.ref A_t_now_upper, .ref A_t_now_lower, .ref A_t_now_limits, .ref A_t_now_stricts, .ref A_t_now_marks, .int t_now_size, .int t_now_marked, .int t_now_wholeness])), (A_t_now_upper, .inl (cy 1, 24, .inl t_now_upper)), (A_t_now_lower, .inl (cy 1, 24, .inl t_now_lower)), (A_t_now_limits, .inl (cy 1, 24, .inl (upd t_now_limits x4.toNatClampNeg r2.toInt32)))] H := hP
        have hD : va_D A [(A_t, .inr (7, [.ref A_t_tape, .ref A_t_now, .ref A_t_images, .ref A_t_imageMade, .ref A_t_sheets, .ref A_t_rows, .ref A_t_clash, .ref A_t_span, .ref A_t_reader, .int t_latestTorn])), (A_t_now, .inr (5, [.ref A_t_now_upper, .ref A_t_now_lower, .ref A_t_now_limits, .ref A_t_now_stricts, .ref A_t_now_marks, .int t_now_size, .int t_now_marked, .int t_now_wholeness])), (A_t_now_upper, .inl (cy 1, 24, .inl t_now_upper)), (A_t_now_lower, .inl (cy 1, 24, .inl t_now_lower)), (A_t_now_limits, .inl (cy 1, 24, .inl (upd t_now_limits x4.toNatClampNeg r2.toInt32)))] := hD
        refine lv_iinc (v := x3 + (1 : Int32)) (lv' := [(3, .int (x3 + (1 : Int32))), (0, .ref A_t), (1, .int x1), (2, .int x2), (4, .int x4)]) hx hb dX7_shift_114 hl (k := 3) rfl rfl (by decide) rfl (fun ls hl => ?_)
        exact J117 (upd t_now_limits x4.toNatClampNeg r2.toInt32) (x3 + (1 : Int32)) x4 H locs ls h hP hD hS (lv_sub hl [1, 2, 3, 0, 4] rfl)
      refine lv_iload hx hb dX7_shift_52 (lv_at hl 4 rfl) ?_
      refine lv_aload_n hx hb dX7_shift_54 rfl (lv_at hl 0 rfl) ?_
      refine va_get (D := D) (ci := 7) (v := .ref A_t_now) (C := RX7) (T := TX7) (N := 10) hx hb hts iX7 hown hK.1 hP 0 rfl rfl 1 (by decide) f0 (fun _ h9 => h9) rfl dX7_shift_55 ?_
      refine va_get (D := D) (ci := 5) (v := .int t_now_size) (C := RX5) (T := TX5) (N := 8) hx hb hts iX5 hown hK.1 hP 1 rfl rfl 5 (by decide) f1 (fun _ h9 => h9) rfl dX7_shift_58 ?_
      refine lv_icmp_ge (tgt := 123) hx hb dX7_shift_61 (by decide) (fun hc => ?_) (fun hc => ?_)
      · replace h := h.1 hc
        refine lv_iload_n hx hb dX7_shift_123 rfl (lv_at hl 3 rfl) ?_
        subst hQ
        subst hAe
        exact W.iret (v := x3) hx hb hr (fun t ht _ => ⟨⟨x3, t_now_limits, rfl, h, by rw [ht]; exact hP, hD⟩, hS.F ht⟩) hS.2.2 dX7_shift_124
      · replace h := h.2 hc
        refine lv_aload_n hx hb dX7_shift_64 rfl (lv_at hl 0 rfl) ?_
        refine va_get (D := D) (ci := 7) (v := .ref A_t_now) (C := RX7) (T := TX7) (N := 10) hx hb hts iX7 hown hK.1 hP 0 rfl rfl 1 (by decide) f0 (fun _ h9 => h9) rfl dX7_shift_65 ?_
        refine va_get (D := D) (ci := 5) (v := .ref A_t_now_upper) (C := RX5) (T := TX5) (N := 8) hx hb hts iX5 hown hK.1 hP 1 rfl rfl 0 (by decide) f2 (fun _ h9 => h9) rfl dX7_shift_68 ?_
        refine lv_iload hx hb dX7_shift_71 (lv_at hl 4 rfl) ?_
        refine va_iald hx hb hK.1 hP 2 1 rfl rfl h.1 dX7_shift_73 ?_
        replace h := h.2
        refine lv_iload_n hx hb dX7_shift_74 rfl (lv_at hl 1 rfl) ?_
        refine lv_icmp_eq (tgt := 92) hx hb dX7_shift_75 (by decide) (fun hc => ?_) (fun hc => ?_)
        · replace h := h.1 hc
          exact J92 t_now_limits x3 x4 H locs ls h hP hD hS (lv_sub hl [0, 1, 2, 3, 4] rfl)
        · replace h := h.2 hc
          refine lv_aload_n hx hb dX7_shift_78 rfl (lv_at hl 0 rfl) ?_
          refine va_get (D := D) (ci := 7) (v := .ref A_t_now) (C := RX7) (T := TX7) (N := 10) hx hb hts iX7 hown hK.1 hP 0 rfl rfl 1 (by decide) f0 (fun _ h9 => h9) rfl dX7_shift_79 ?_
          refine va_get (D := D) (ci := 5) (v := .ref A_t_now_lower) (C := RX5) (T := TX5) (N := 8) hx hb hts iX5 hown hK.1 hP 1 rfl rfl 1 (by decide) f4 (fun _ h9 => h9) rfl dX7_shift_82 ?_
          refine lv_iload hx hb dX7_shift_85 (lv_at hl 4 rfl) ?_
          refine va_iald hx hb hK.1 hP 3 1 rfl rfl h.1 dX7_shift_87 ?_
          replace h := h.2
          refine lv_iload_n hx hb dX7_shift_88 rfl (lv_at hl 1 rfl) ?_
          refine lv_icmp_ne (tgt := 117) hx hb dX7_shift_89 (by decide) (fun hc => ?_) (fun hc => ?_)
          · replace h := h.1 hc
            exact J117 t_now_limits x3 x4 H locs ls h hP hD hS (lv_sub hl [0, 1, 2, 3, 4] rfl)
          · replace h := h.2 hc
            exact J92 t_now_limits x3 x4 H locs ls h hP hD hS (lv_sub hl [0, 1, 2, 3, 4] rfl)
  have L11 : ∀ (n11 : Nat) (t_now_limits : Nat → Int32) (x3 : Int32) (H : Heap) (locs : List Loc) (ls : Array Slot), L_X7_shift_11 post t_now_size t_now_upper t_now_lower t_now_limits x1 x2 n11 x3 → va_P D vwCl [(A_t, .inr (7, [.ref A_t_tape, .ref A_t_now, .ref A_t_images, .ref A_t_imageMade, .ref A_t_sheets, .ref A_t_rows, .ref A_t_clash, .ref A_t_span, .ref A_t_reader, .int t_latestTorn])), (A_t_now, .inr (5, [.ref A_t_now_upper, .ref A_t_now_lower, .ref A_t_now_limits, .ref A_t_now_stricts, .ref A_t_now_marks, .int t_now_size, .int t_now_marked, .int t_now_wholeness])), (A_t_now_upper, .inl (cy 1, 24, .inl t_now_upper)), (A_t_now_lower, .inl (cy 1, 24, .inl t_now_lower)), (A_t_now_limits, .inl (cy 1, 24, .inl t_now_limits))] H → va_D A [(A_t, .inr (7, [.ref A_t_tape, .ref A_t_now, .ref A_t_images, .ref A_t_imageMade, .ref A_t_sheets, .ref A_t_rows, .ref A_t_clash, .ref A_t_span, .ref A_t_reader, .int t_latestTorn])), (A_t_now, .inr (5, [.ref A_t_now_upper, .ref A_t_now_lower, .ref A_t_now_limits, .ref A_t_now_stricts, .ref A_t_now_marks, .int t_now_size, .int t_now_marked, .int t_now_wholeness])), (A_t_now_upper, .inl (cy 1, 24, .inl t_now_upper)), (A_t_now_lower, .inl (cy 1, 24, .inl t_now_lower)), (A_t_now_limits, .inl (cy 1, 24, .inl t_now_limits))] → va_S A s.heap H locs → lv_has ls 5 [(0, .ref A_t), (1, .int x1), (2, .int x2), (3, .int x3)] → W p l e (headSpec wsX7_shift { frames := 1, cells := 0, slots := 0, locals := 23 }).room s m ([.ref A_t, .int x1, .int x2] : List Value).toArray below meth c H locs 0 0 Q0 (F0 m 11 ls []) := by
    intro n11
    induction n11 with
    | zero => intro t_now_limits x3 H locs ls h; exact False.elim h
    | succ n11 ih11 =>
      intro t_now_limits x3 H locs ls h hP hD hS hl
      have h : LB_X7_shift_11 post t_now_size t_now_upper t_now_lower t_now_limits x1 x2 (L_X7_shift_11 post t_now_size t_now_upper t_now_lower t_now_limits x1 x2 n11) x3 := h
      unfold LB_X7_shift_11 at h
      refine lv_iload_n hx hb dX7_shift_11 rfl (lv_at hl 3 rfl) ?_
      refine lv_aload_n hx hb dX7_shift_12 rfl (lv_at hl 0 rfl) ?_
      refine va_get (D := D) (ci := 7) (v := .ref A_t_now) (C := RX7) (T := TX7) (N := 10) hx hb hts iX7 hown hK.1 hP 0 rfl rfl 1 (by decide) f0 (fun _ h9 => h9) rfl dX7_shift_13 ?_
      refine va_get (D := D) (ci := 5) (v := .int t_now_size) (C := RX5) (T := TX5) (N := 8) hx hb hts iX5 hown hK.1 hP 1 rfl rfl 5 (by decide) f1 (fun _ h9 => h9) rfl dX7_shift_16 ?_
      refine lv_icmp_ge (tgt := 47) hx hb dX7_shift_19 (by decide) (fun hc => ?_) (fun hc => ?_)
      · replace h := h.1 hc
        refine lv_iconst (v := 0) hx hb dX7_shift_47 (by decide) ?_
        refine lv_istore_n (lv' := [(3, .int (0 : Int32)), (0, .ref A_t), (1, .int x1), (2, .int x2)]) hx hb dX7_shift_48 rfl hl (by decide) rfl (fun ls hl => ?_)
        refine lv_iconst (v := 0) hx hb dX7_shift_49 (by decide) ?_
        refine lv_istore (lv' := [(4, .int (0 : Int32)), (3, .int (0 : Int32)), (0, .ref A_t), (1, .int x1), (2, .int x2)]) hx hb dX7_shift_50 hl (by decide) rfl (fun ls hl => ?_)
        obtain ⟨nn, h⟩ := h
        exact L52 nn t_now_limits (0 : Int32) (0 : Int32) H locs ls h hP hD hS (lv_sub hl [2, 3, 4, 1, 0] rfl)
      · replace h := h.2 hc
        refine lv_aload_n hx hb dX7_shift_22 rfl (lv_at hl 0 rfl) ?_
        refine va_get (D := D) (ci := 7) (v := .ref A_t_now) (C := RX7) (T := TX7) (N := 10) hx hb hts iX7 hown hK.1 hP 0 rfl rfl 1 (by decide) f0 (fun _ h9 => h9) rfl dX7_shift_23 ?_
        refine lv_iload_n hx hb dX7_shift_26 rfl (lv_at hl 3 rfl) ?_
        refine lv_iload_n hx hb dX7_shift_27 rfl (lv_at hl 1 rfl) ?_
        refine lv_iload_n hx hb dX7_shift_28 rfl (lv_at hl 2 rfl) ?_
        have hPc := hP.sub (ws' := [(A_t_now, .inr (5, [.ref A_t_now_upper, .ref A_t_now_lower, .ref A_t_now_limits, .ref A_t_now_stricts, .ref A_t_now_marks, .int t_now_size, .int t_now_marked, .int t_now_wholeness])), (A_t_now_upper, .inl (cy 1, 24, .inl t_now_upper)), (A_t_now_lower, .inl (cy 1, 24, .inl t_now_lower)), (A_t_now_limits, .inl (cy 1, 24, .inl t_now_limits))]) [1, 2, 3, 4] rfl
        refine vp_callSl (W.runV (As := [.int x3, .int x1, .int x2]) (rest := []) CF (c_X5_shiftedLimit l D cy A_t_now A_t_now_upper A_t_now_lower A_t_now_limits A_t_now_stricts A_t_now_marks t_now_size t_now_marked t_now_wholeness t_now_upper t_now_lower t_now_limits x3 x1 x2 _ h) (cwV 3 hts gX7_shift_X5_shiftedLimit rfl rfl rfl qX5_shiftedLimit ⟨Nat.le_of_ble_eq_true rfl, Nat.le_of_ble_eq_true rfl⟩) (mpVR hK hPc (ci := 5) (q := (RX5, TX5, 8)) (q0 := 0) rfl rfl) rfl rfl hl.1 rfl (lv_room (Nat.le_of_ble_eq_true rfl)) dX7_shift_29 ⟨Nat.zero_le _, Nat.zero_le _⟩) (fun r3 h => ?_)
        refine vp_callSi (W.runS (As := [.long r3]) (rest := []) CF (c_X7_is32Bits l r3 _ h) (va_cwS 1 hts gX7_shift_X7_is32Bits rfl rfl rfl qX7_is32Bits.2 ⟨Nat.le_of_ble_eq_true rfl, Nat.le_of_ble_eq_true rfl⟩) mpSN rfl rfl hl.1 rfl (lv_room (Nat.le_of_ble_eq_true rfl)) dX7_shift_32 ⟨Nat.zero_le _, Nat.zero_le _⟩) (fun r4 h => ?_)
        refine lv_if_ne (tgt := 41) hx hb dX7_shift_35 (by decide) (fun hc => ?_) (fun hc => ?_)
        · replace h := h.1 hc
          refine lv_iinc (v := x3 + (1 : Int32)) (lv' := [(3, .int (x3 + (1 : Int32))), (0, .ref A_t), (1, .int x1), (2, .int x2)]) hx hb dX7_shift_41 hl (k := 3) rfl rfl (by decide) rfl (fun ls hl => ?_)
          refine lv_goto (tgt := 11) hx hb dX7_shift_44 (by decide) ?_
          exact ih11 t_now_limits (x3 + (1 : Int32)) H locs ls h hP hD hS (lv_sub hl [1, 2, 3, 0] rfl)
        · replace h := h.2 hc
          refine lv_bipush (v := -5) hx hb dX7_shift_38 (by decide) ?_
          subst hQ
          subst hAe
          exact W.iret (v := (-5 : Int32)) hx hb hr (fun t ht _ => ⟨⟨(-5 : Int32), t_now_limits, rfl, h, by rw [ht]; exact hP, hD⟩, hS.F ht⟩) hS.2.2 dX7_shift_40
  unfold P_X7_shift at h
  refine lv_iload_n hx hb dX7_shift_0 rfl (lv_at hl 1 rfl) ?_
  refine vp_callSi (W.runS (As := [.int x1]) (rest := []) CF (c_X7_isThing l x1 _ h) (va_cwS 1 hts gX7_shift_X7_isThing rfl rfl rfl qX7_isThing.2 ⟨Nat.le_of_ble_eq_true rfl, Nat.le_of_ble_eq_true rfl⟩) mpSN rfl rfl hl.1 rfl (lv_room (Nat.le_of_ble_eq_true rfl)) dX7_shift_1 ⟨Nat.zero_le _, Nat.zero_le _⟩) (fun r1 h => ?_)
  refine lv_if_ne (tgt := 9) hx hb dX7_shift_4 (by decide) (fun hc => ?_) (fun hc => ?_)
  · replace h := h.1 hc
    refine lv_iconst (v := 0) hx hb dX7_shift_9 (by decide) ?_
    refine lv_istore_n (lv' := [(3, .int (0 : Int32)), (0, .ref A_t), (1, .int x1), (2, .int x2)]) hx hb dX7_shift_10 rfl hl (by decide) rfl (fun ls hl => ?_)
    obtain ⟨nn, h⟩ := h
    exact L11 nn t_now_limits (0 : Int32) s.heap [] ls h hP hD hS (lv_sub hl [1, 2, 3, 0] rfl)
  · replace h := h.2 hc
    refine lv_iconst (v := -1) hx hb dX7_shift_7 (by decide) ?_
    subst hQ
    subst hAe
    exact W.iret (v := (-1 : Int32)) hx hb hr (fun t ht _ => ⟨⟨(-1 : Int32), t_now_limits, rfl, h, by rw [ht]; exact hP, hD⟩, hS.F ht⟩) hS.2.2 dX7_shift_8
theorem qX7_whole : yX7_whole.cls = RX7 ∧ yX7_whole.cls ≠ "java/lang/invoke/MethodHandle" ∧ yX7_whole.cls ≠ "java/lang/invoke/VarHandle" ∧ (parseMethodDescriptor yX7_whole.desc).map (fun d => d.parameters.length) = some 1 := by decide +kernel
def P_X7_whole (post : Int32 → (Nat → Int64) → Int32 → Prop) (t_rows_least : Nat → Int64) (t_now_size : Int32) (t_now_wholeness : Int32) (t_now_lower : Nat → Int32) (t_now_limits : Nat → Int32) (t_now_stricts : Nat → Int32) (t_now_upper : Nat → Int32) (x1 : Int32) : Prop :=
  P_X7_isBit (fun (r1 : Int32) => ((¬ r1 = 0 → P_X2_canHold (fun (r2 : Int32) (t_rows_least_v2 : Nat → Int64) => ((¬ r2 = 0 → post t_now_wholeness t_rows_least_v2 x1) ∧ (r2 = 0 → post (-2 : Int32) t_rows_least_v2 t_now_wholeness))) t_rows_least t_now_size t_now_lower t_now_limits t_now_stricts t_now_upper x1) ∧ (r1 = 0 → post (-1 : Int32) t_rows_least t_now_wholeness))) x1
set_option maxHeartbeats 4000000 in
set_option maxRecDepth 100000 in
theorem c_X7_whole (l : Launch) (D : va_G) (cy : Nat → ClassId) (sz : Nat) (A_t A_t_tape A_t_now A_t_images A_t_imageMade A_t_sheets A_t_rows A_t_clash A_t_span A_t_reader A_t_rows_least A_t_rows_table A_t_now_upper A_t_now_lower A_t_now_limits A_t_now_stricts A_t_now_marks : Nat) (t_latestTorn : Int32) (t_rows_least : Nat → Int64) (t_now_size : Int32) (t_now_marked : Int32) (t_now_wholeness : Int32) (t_now_lower : Nat → Int32) (t_now_limits : Nat → Int32) (t_now_stricts : Nat → Int32) (t_now_upper : Nat → Int32) (x1 : Int32) (post : Int32 → (Nat → Int64) → Int32 → Prop) (h : P_X7_whole post t_rows_least t_now_size t_now_wholeness t_now_lower t_now_limits t_now_stricts t_now_upper x1) : Met l yX7_whole wsX7_whole { frames := 3, cells := 0, slots := 0, locals := 75 } (pcW D cy [(A_t, .inr (7, [.ref A_t_tape, .ref A_t_now, .ref A_t_images, .ref A_t_imageMade, .ref A_t_sheets, .ref A_t_rows, .ref A_t_clash, .ref A_t_span, .ref A_t_reader, .int t_latestTorn])), (A_t_rows, .inr (2, [.ref A_t_rows_least, .ref A_t_rows_table])), (A_t_rows_least, .inl (cy 2, 10, .inr (.inl t_rows_least))), (A_t_now, .inr (5, [.ref A_t_now_upper, .ref A_t_now_lower, .ref A_t_now_limits, .ref A_t_now_stricts, .ref A_t_now_marks, .int t_now_size, .int t_now_marked, .int t_now_wholeness])), (A_t_now_lower, .inl (cy 1, 24, .inl t_now_lower)), (A_t_now_limits, .inl (cy 1, 24, .inl t_now_limits)), (A_t_now_stricts, .inl (cy 1, 24, .inl t_now_stricts)), (A_t_now_upper, .inl (cy 1, 24, .inl t_now_upper))] sz [.ref A_t, .int x1]) (va_Qi (fun r (u : (Nat → Int64) × Int32) => post r u.1 u.2) (bW D [(A_t, .inr (7, [.ref A_t_tape, .ref A_t_now, .ref A_t_images, .ref A_t_imageMade, .ref A_t_sheets, .ref A_t_rows, .ref A_t_clash, .ref A_t_span, .ref A_t_reader, .int t_latestTorn])), (A_t_rows, .inr (2, [.ref A_t_rows_least, .ref A_t_rows_table])), (A_t_rows_least, .inl (cy 2, 10, .inr (.inl t_rows_least))), (A_t_now, .inr (5, [.ref A_t_now_upper, .ref A_t_now_lower, .ref A_t_now_limits, .ref A_t_now_stricts, .ref A_t_now_marks, .int t_now_size, .int t_now_marked, .int t_now_wholeness])), (A_t_now_lower, .inl (cy 1, 24, .inl t_now_lower)), (A_t_now_limits, .inl (cy 1, 24, .inl t_now_limits)), (A_t_now_stricts, .inl (cy 1, 24, .inl t_now_stricts)), (A_t_now_upper, .inl (cy 1, 24, .inl t_now_upper))] sz (fun u => [(A_t, .inr (7, [.ref A_t_tape, .ref A_t_now, .ref A_t_images, .ref A_t_imageMade, .ref A_t_sheets, .ref A_t_rows, .ref A_t_clash, .ref A_t_span, .ref A_t_reader, .int t_latestTorn])), (A_t_rows, .inr (2, [.ref A_t_rows_least, .ref A_t_rows_table])), (A_t_rows_least, .inl (cy 2, 10, .inr (.inl u.1))), (A_t_now, .inr (5, [.ref A_t_now_upper, .ref A_t_now_lower, .ref A_t_now_limits, .ref A_t_now_stricts, .ref A_t_now_marks, .int t_now_size, .int t_now_marked, .int (u.2)])), (A_t_now_lower, .inl (cy 1, 24, .inl t_now_lower)), (A_t_now_limits, .inl (cy 1, 24, .inl t_now_limits)), (A_t_now_stricts, .inl (cy 1, 24, .inl t_now_stricts)), (A_t_now_upper, .inl (cy 1, 24, .inl t_now_upper))])) (va_A [(A_t, .inr (7, [.ref A_t_tape, .ref A_t_now, .ref A_t_images, .ref A_t_imageMade, .ref A_t_sheets, .ref A_t_rows, .ref A_t_clash, .ref A_t_span, .ref A_t_reader, .int t_latestTorn])), (A_t_rows, .inr (2, [.ref A_t_rows_least, .ref A_t_rows_table])), (A_t_rows_least, .inl (cy 2, 10, .inr (.inl t_rows_least))), (A_t_now, .inr (5, [.ref A_t_now_upper, .ref A_t_now_lower, .ref A_t_now_limits, .ref A_t_now_stricts, .ref A_t_now_marks, .int t_now_size, .int t_now_marked, .int t_now_wholeness])), (A_t_now_lower, .inl (cy 1, 24, .inl t_now_lower)), (A_t_now_limits, .inl (cy 1, 24, .inl t_now_limits)), (A_t_now_stricts, .inl (cy 1, 24, .inl t_now_stricts)), (A_t_now_upper, .inl (cy 1, 24, .inl t_now_upper))] sz)) 0 0 (va_A [(A_t, .inr (7, [.ref A_t_tape, .ref A_t_now, .ref A_t_images, .ref A_t_imageMade, .ref A_t_sheets, .ref A_t_rows, .ref A_t_clash, .ref A_t_span, .ref A_t_reader, .int t_latestTorn])), (A_t_rows, .inr (2, [.ref A_t_rows_least, .ref A_t_rows_table])), (A_t_rows_least, .inl (cy 2, 10, .inr (.inl t_rows_least))), (A_t_now, .inr (5, [.ref A_t_now_upper, .ref A_t_now_lower, .ref A_t_now_limits, .ref A_t_now_stricts, .ref A_t_now_marks, .int t_now_size, .int t_now_marked, .int t_now_wholeness])), (A_t_now_lower, .inl (cy 1, 24, .inl t_now_lower)), (A_t_now_limits, .inl (cy 1, 24, .inl t_now_limits)), (A_t_now_stricts, .inl (cy 1, 24, .inl t_now_stricts)), (A_t_now_upper, .inl (cy 1, 24, .inl t_now_upper))] sz) := by
  refine Met.ofW (cc := cX7_whole) (maxL := 3) (ret := (some .int)) (by decide) rfl ?_
  intro p e s m args below meth c s₁ B hml hv
  obtain ⟨rfl, hsz, hP, hK, hD0⟩ := hv
  have hx := B.exec
  have hb := B.bytes
  have hr := B.returns
  have hts := atoms_spec (ws := wsX7_whole) B.pre
  have hown : s.vm.findClass RX7 = some m.cls := findClass_of_methodNamed B.named
  have hlocks := B.notSynchronized
  have CF : CallFix p m c cX7_whole 3 s ([.ref A_t, .int x1] : List Value).toArray wsX7_whole RX7 := ⟨hx, hb, hml, hown, hts⟩
  have f0 := hts (.fieldLink RX7 34 "GapBounds" "rows" "LGapBounds$Rows;") (by decide +kernel)
  have f1 := hts (.fieldLink RX7 10 "GapBounds" "now" "LGapBounds$Store;") (by decide +kernel)
  have f2 := hts (.fieldLink RX7 86 "GapBounds$Store" "wholeness" "I") (by decide +kernel)
  have iX5 : ∀ w ∈ u_ws RX5 TX5 8, w ∈ wsX7_whole := by decide +kernel
  have iX7 : ∀ w ∈ u_ws RX7 TX7 10, w ∈ wsX7_whole := by decide +kernel
  subst hsz
  obtain ⟨A, hAe⟩ : ∃ A, A = va_A [(A_t, .inr (7, [.ref A_t_tape, .ref A_t_now, .ref A_t_images, .ref A_t_imageMade, .ref A_t_sheets, .ref A_t_rows, .ref A_t_clash, .ref A_t_span, .ref A_t_reader, .int t_latestTorn])), (A_t_rows, .inr (2, [.ref A_t_rows_least, .ref A_t_rows_table])), (A_t_rows_least, .inl (cy 2, 10, .inr (.inl t_rows_least))), (A_t_now, .inr (5, [.ref A_t_now_upper, .ref A_t_now_lower, .ref A_t_now_limits, .ref A_t_now_stricts, .ref A_t_now_marks, .int t_now_size, .int t_now_marked, .int t_now_wholeness])), (A_t_now_lower, .inl (cy 1, 24, .inl t_now_lower)), (A_t_now_limits, .inl (cy 1, 24, .inl t_now_limits)), (A_t_now_stricts, .inl (cy 1, 24, .inl t_now_stricts)), (A_t_now_upper, .inl (cy 1, 24, .inl t_now_upper))] s.heap.size := ⟨_, rfl⟩
  have hD : va_D A [(A_t, .inr (7, [.ref A_t_tape, .ref A_t_now, .ref A_t_images, .ref A_t_imageMade, .ref A_t_sheets, .ref A_t_rows, .ref A_t_clash, .ref A_t_span, .ref A_t_reader, .int t_latestTorn])), (A_t_rows, .inr (2, [.ref A_t_rows_least, .ref A_t_rows_table])), (A_t_rows_least, .inl (cy 2, 10, .inr (.inl t_rows_least))), (A_t_now, .inr (5, [.ref A_t_now_upper, .ref A_t_now_lower, .ref A_t_now_limits, .ref A_t_now_stricts, .ref A_t_now_marks, .int t_now_size, .int t_now_marked, .int t_now_wholeness])), (A_t_now_lower, .inl (cy 1, 24, .inl t_now_lower)), (A_t_now_limits, .inl (cy 1, 24, .inl t_now_limits)), (A_t_now_stricts, .inl (cy 1, 24, .inl t_now_stricts)), (A_t_now_upper, .inl (cy 1, 24, .inl t_now_upper))] := by rw [hAe]; exact hD0.self
  have hA : ∀ q : Nat, s.heap.size ≤ q → A q := fun q hq => by rw [hAe]; exact Or.inr hq
  have hS : va_S A s.heap s.heap [] := va_S.rf
  have hl := lv_entry [.ref A_t, .int x1] (n := 3) (Nat.le_of_ble_eq_true rfl)
  rw [lg_entry_eq]
  generalize (lg_sl [.ref A_t, .int x1] ++ List.replicate (3 - (lg_sl [.ref A_t, .int x1]).length) Slot.unset).toArray = ls at hl ⊢
  have hl : lv_has ls 3 [(0, .ref A_t), (1, .int x1)] := hl
  refine W.gen (fun Q0 hQ => ?_)
  unfold P_X7_whole at h
  refine lv_iload_n hx hb dX7_whole_0 rfl (lv_at hl 1 rfl) ?_
  refine vp_callSi (W.runS (As := [.int x1]) (rest := []) CF (c_X7_isBit l x1 _ h) (va_cwS 1 hts gX7_whole_X7_isBit rfl rfl rfl qX7_isBit.2 ⟨Nat.le_of_ble_eq_true rfl, Nat.le_of_ble_eq_true rfl⟩) mpSN rfl rfl hl.1 rfl (lv_room (Nat.le_of_ble_eq_true rfl)) dX7_whole_1 ⟨Nat.zero_le _, Nat.zero_le _⟩) (fun r1 h => ?_)
  refine lv_if_ne (tgt := 9) hx hb dX7_whole_4 (by decide) (fun hc => ?_) (fun hc => ?_)
  · replace h := h.1 hc
    refine lv_aload_n hx hb dX7_whole_9 rfl (lv_at hl 0 rfl) ?_
    refine va_get (D := D) (ci := 7) (v := .ref A_t_rows) (C := RX7) (T := TX7) (N := 10) hx hb hts iX7 hown hK.1 hP 0 rfl rfl 5 (by decide) f0 (fun _ h9 => h9) rfl dX7_whole_10 ?_
    refine lv_aload_n hx hb dX7_whole_13 rfl (lv_at hl 0 rfl) ?_
    refine va_get (D := D) (ci := 7) (v := .ref A_t_now) (C := RX7) (T := TX7) (N := 10) hx hb hts iX7 hown hK.1 hP 0 rfl rfl 1 (by decide) f1 (fun _ h9 => h9) rfl dX7_whole_14 ?_
    refine lv_iload_n hx hb dX7_whole_17 rfl (lv_at hl 1 rfl) ?_
    have hPn : va_P D vwCl ([(A_t, .inr (7, [.ref A_t_tape, .ref A_t_now, .ref A_t_images, .ref A_t_imageMade, .ref A_t_sheets, .ref A_t_rows, .ref A_t_clash, .ref A_t_span, .ref A_t_reader, .int t_latestTorn]))] ++ [(A_t_rows, .inr (2, [.ref A_t_rows_least, .ref A_t_rows_table])), (A_t_rows_least, .inl (cy 2, 10, .inr (.inl t_rows_least))), (A_t_now, .inr (5, [.ref A_t_now_upper, .ref A_t_now_lower, .ref A_t_now_limits, .ref A_t_now_stricts, .ref A_t_now_marks, .int t_now_size, .int t_now_marked, .int t_now_wholeness])), (A_t_now_lower, .inl (cy 1, 24, .inl t_now_lower)), (A_t_now_limits, .inl (cy 1, 24, .inl t_now_limits)), (A_t_now_stricts, .inl (cy 1, 24, .inl t_now_stricts)), (A_t_now_upper, .inl (cy 1, 24, .inl t_now_upper))]) s.heap := hP.sub [0, 1, 2, 3, 4, 5, 6, 7] rfl
    have hDn : va_D A ([(A_t, .inr (7, [.ref A_t_tape, .ref A_t_now, .ref A_t_images, .ref A_t_imageMade, .ref A_t_sheets, .ref A_t_rows, .ref A_t_clash, .ref A_t_span, .ref A_t_reader, .int t_latestTorn]))] ++ [(A_t_rows, .inr (2, [.ref A_t_rows_least, .ref A_t_rows_table])), (A_t_rows_least, .inl (cy 2, 10, .inr (.inl t_rows_least))), (A_t_now, .inr (5, [.ref A_t_now_upper, .ref A_t_now_lower, .ref A_t_now_limits, .ref A_t_now_stricts, .ref A_t_now_marks, .int t_now_size, .int t_now_marked, .int t_now_wholeness])), (A_t_now_lower, .inl (cy 1, 24, .inl t_now_lower)), (A_t_now_limits, .inl (cy 1, 24, .inl t_now_limits)), (A_t_now_stricts, .inl (cy 1, 24, .inl t_now_stricts)), (A_t_now_upper, .inl (cy 1, 24, .inl t_now_upper))]) := hD.sub [0, 1, 2, 3, 4, 5, 6, 7] (by decide) rfl
    have hPc := gPR hPn
    have hDc := gDR hDn
    refine mw_i (va_runV (As := [.ref A_t_now, .int x1]) (rest := []) CF (c_X2_canHold l D cy s.heap.size A_t_rows A_t_rows_least A_t_rows_table A_t_now A_t_now_upper A_t_now_lower A_t_now_limits A_t_now_stricts A_t_now_marks t_rows_least t_now_size t_now_marked t_now_wholeness t_now_lower t_now_limits t_now_stricts t_now_upper x1 _ h) (cwV 2 hts gX7_whole_X2_canHold rfl rfl rfl qX2_canHold ⟨Nat.le_of_ble_eq_true rfl, Nat.le_of_ble_eq_true rfl⟩) (mpVW hK hPc hDc (ci := 2) (q := (RX2, TX2, 2)) (q0 := 0) rfl rfl) rfl rfl hl.1 rfl (lv_room (Nat.le_of_ble_eq_true rfl)) dX7_whole_18 ⟨Nat.zero_le _, Nat.zero_le _⟩) hPn hDn hS hA (fun r2 t_rows_least_v2 H locs h hP hD hS => ?_)
    have hP : va_P D vwCl [(A_t, .inr (7, [.ref A_t_tape, .ref A_t_now, .ref A_t_images, .ref A_t_imageMade, .ref A_t_sheets, .ref A_t_rows, .ref A_t_clash, .ref A_t_span, .ref A_t_reader, .int t_latestTorn])), (A_t_rows, .inr (2, [.ref A_t_rows_least, .ref A_t_rows_table])), (A_t_rows_least, .inl (cy 2, 10, .inr (.inl t_rows_least_v2))), (A_t_now, .inr (5, [.ref A_t_now_upper, .ref A_t_now_lower, .ref A_t_now_limits, .ref A_t_now_stricts, .ref A_t_now_marks, .int t_now_size, .int t_now_marked, .int t_now_wholeness])), (A_t_now_lower, .inl (cy 1, 24, .inl t_now_lower)), (A_t_now_limits, .inl (cy 1, 24, .inl t_now_limits)), (A_t_now_stricts, .inl (cy 1, 24, .inl t_now_stricts)), (A_t_now_upper, .inl (cy 1, 24, .inl t_now_upper))] H := hP.sub [0, 1, 2, 3, 4, 5, 6, 7] rfl
    have hD : va_D A [(A_t, .inr (7, [.ref A_t_tape, .ref A_t_now, .ref A_t_images, .ref A_t_imageMade, .ref A_t_sheets, .ref A_t_rows, .ref A_t_clash, .ref A_t_span, .ref A_t_reader, .int t_latestTorn])), (A_t_rows, .inr (2, [.ref A_t_rows_least, .ref A_t_rows_table])), (A_t_rows_least, .inl (cy 2, 10, .inr (.inl t_rows_least_v2))), (A_t_now, .inr (5, [.ref A_t_now_upper, .ref A_t_now_lower, .ref A_t_now_limits, .ref A_t_now_stricts, .ref A_t_now_marks, .int t_now_size, .int t_now_marked, .int t_now_wholeness])), (A_t_now_lower, .inl (cy 1, 24, .inl t_now_lower)), (A_t_now_limits, .inl (cy 1, 24, .inl t_now_limits)), (A_t_now_stricts, .inl (cy 1, 24, .inl t_now_stricts)), (A_t_now_upper, .inl (cy 1, 24, .inl t_now_upper))] := hD.sub [0, 1, 2, 3, 4, 5, 6, 7] (by decide) rfl
    refine lv_if_ne (tgt := 27) hx hb dX7_whole_21 (by decide) (fun hc => ?_) (fun hc => ?_)
    · replace h := h.1 hc
      refine lv_aload_n hx hb dX7_whole_27 rfl (lv_at hl 0 rfl) ?_
      refine va_get (D := D) (ci := 7) (v := .ref A_t_now) (C := RX7) (T := TX7) (N := 10) hx hb hts iX7 hown hK.1 hP 0 rfl rfl 1 (by decide) f1 (fun _ h9 => h9) rfl dX7_whole_28 ?_
      refine va_get (D := D) (ci := 5) (v := .int t_now_wholeness) (C := RX5) (T := TX5) (N := 8) hx hb hts iX5 hown hK.1 hP 3 rfl rfl 7 (by decide) f2 (fun _ h9 => h9) rfl dX7_whole_31 ?_
      refine lv_istore_n (lv' := [(2, .int t_now_wholeness), (0, .ref A_t), (1, .int x1)]) hx hb dX7_whole_34 rfl hl (by decide) rfl (fun ls hl => ?_)
      refine lv_aload_n hx hb dX7_whole_35 rfl (lv_at hl 1 rfl) ?_
      refine va_get (D := D) (ci := 7) (v := .ref A_t_now) (C := RX7) (T := TX7) (N := 10) hx hb hts iX7 hown hK.1 hP 0 rfl rfl 1 (by decide) f1 (fun _ h9 => h9) rfl dX7_whole_36 ?_
      refine lv_iload_n hx hb dX7_whole_39 rfl (lv_at hl 2 rfl) ?_
      refine va_put (D := D) (ci := 5) (v := .int x1) (ty := .int) (C := RX5) (T := TX5) (N := 8) hx hb hts iX5 tyX5 tyX5_ok nmX5 hown hK.1 hP hD hS 3 rfl rfl 7 (by decide) f2 (fun _ h9 => h9) rfl (tyX5_ok 7 (by decide)) rfl rfl (Nat.le_of_ble_eq_true rfl) dX7_whole_40 (fun H locs hP hD hS => ?_)
      have hP : va_P D vwCl [(A_t, .inr (7, [.ref A_t_tape, .ref A_t_now, .ref A_t_images, .ref A_t_imageMade, .ref A_t_sheets, .ref A_t_rows, .ref A_t_clash, .ref A_t_span, .ref A_t_reader, .int t_latestTorn])), (A_t_rows, .inr (2, [.ref A_t_rows_least, .ref A_t_rows_table])), (A_t_rows_least, .inl (cy 2, 10, .inr (.inl t_rows_least_v2))), (A_t_now, .inr (5, [.ref A_t_now_upper, .ref A_t_now_lower, .ref A_t_now_limits, .ref A_t_now_stricts, .ref A_t_now_marks, .int t_now_size, .int t_now_marked, .int x1])), (A_t_now_lower, .inl (cy 1, 24, .inl t_now_lower)), (A_t_now_limits, .inl (cy 1, 24, .inl t_now_limits)), (A_t_now_stricts, .inl (cy 1, 24, .inl t_now_stricts)), (A_t_now_upper, .inl (cy 1, 24, .inl t_now_upper))] H := hP
      have hD : va_D A [(A_t, .inr (7, [.ref A_t_tape, .ref A_t_now, .ref A_t_images, .ref A_t_imageMade, .ref A_t_sheets, .ref A_t_rows, .ref A_t_clash, .ref A_t_span, .ref A_t_reader, .int t_latestTorn])), (A_t_rows, .inr (2, [.ref A_t_rows_least, .ref A_t_rows_table])), (A_t_rows_least, .inl (cy 2, 10, .inr (.inl t_rows_least_v2))), (A_t_now, .inr (5, [.ref A_t_now_upper, .ref A_t_now_lower, .ref A_t_now_limits, .ref A_t_now_stricts, .ref A_t_now_marks, .int t_now_size, .int t_now_marked, .int x1])), (A_t_now_lower, .inl (cy 1, 24, .inl t_now_lower)), (A_t_now_limits, .inl (cy 1, 24, .inl t_now_limits)), (A_t_now_stricts, .inl (cy 1, 24, .inl t_now_stricts)), (A_t_now_upper, .inl (cy 1, 24, .inl t_now_upper))] := hD
      refine lv_iload_n hx hb dX7_whole_43 rfl (lv_at hl 0 rfl) ?_
      subst hQ
      subst hAe
      exact W.iret (v := t_now_wholeness) hx hb hr (fun t ht _ => ⟨⟨t_now_wholeness, (t_rows_least_v2, x1), rfl, h, by rw [ht]; exact hP, hD⟩, hS.F ht⟩) hS.2.2 dX7_whole_44
    · replace h := h.2 hc
      refine lv_bipush (v := -2) hx hb dX7_whole_24 (by decide) ?_
      subst hQ
      subst hAe
      exact W.iret (v := (-2 : Int32)) hx hb hr (fun t ht _ => ⟨⟨(-2 : Int32), (t_rows_least_v2, t_now_wholeness), rfl, h, by rw [ht]; exact hP, hD⟩, hS.F ht⟩) hS.2.2 dX7_whole_26
  · replace h := h.2 hc
    refine lv_iconst (v := -1) hx hb dX7_whole_7 (by decide) ?_
    subst hQ
    subst hAe
    exact W.iret (v := (-1 : Int32)) hx hb hr (fun t ht _ => ⟨⟨(-1 : Int32), (t_rows_least, t_now_wholeness), rfl, h, by rw [ht]; exact hP, hD⟩, hS.F ht⟩) hS.2.2 dX7_whole_8
theorem qX7_push : yX7_push.cls = RX7 ∧ yX7_push.cls ≠ "java/lang/invoke/MethodHandle" ∧ yX7_push.cls ≠ "java/lang/invoke/VarHandle" ∧ (parseMethodDescriptor yX7_push.desc).map (fun d => d.parameters.length) = some 0 := by decide +kernel
def P_X7_push (post : Int32 → Int32 → (Nat → Int32) → Prop) (t_now_size : Int32) (t_now_marked : Int32) (t_now_marks : Nat → Int32) : Prop :=
  ((t_now_marked < (8 : Int32) → (vp_in t_now_marked 8 ∧ post (t_now_marked + (1 : Int32)) (t_now_marked + (1 : Int32)) (upd t_now_marks t_now_marked.toNatClampNeg t_now_size))) ∧ (¬ t_now_marked < (8 : Int32) → post (-3 : Int32) t_now_marked t_now_marks))
set_option maxHeartbeats 4000000 in
set_option maxRecDepth 100000 in
theorem c_X7_push (l : Launch) (D : va_G) (cy : Nat → ClassId) (sz : Nat) (A_t A_t_tape A_t_now A_t_images A_t_imageMade A_t_sheets A_t_rows A_t_clash A_t_span A_t_reader A_t_now_upper A_t_now_lower A_t_now_limits A_t_now_stricts A_t_now_marks : Nat) (t_latestTorn : Int32) (t_now_size : Int32) (t_now_marked : Int32) (t_now_wholeness : Int32) (t_now_marks : Nat → Int32) (post : Int32 → Int32 → (Nat → Int32) → Prop) (h : P_X7_push post t_now_size t_now_marked t_now_marks) : Met l yX7_push wsX7_push { frames := 0, cells := 0, slots := 0, locals := 0 } (pcW D cy [(A_t, .inr (7, [.ref A_t_tape, .ref A_t_now, .ref A_t_images, .ref A_t_imageMade, .ref A_t_sheets, .ref A_t_rows, .ref A_t_clash, .ref A_t_span, .ref A_t_reader, .int t_latestTorn])), (A_t_now, .inr (5, [.ref A_t_now_upper, .ref A_t_now_lower, .ref A_t_now_limits, .ref A_t_now_stricts, .ref A_t_now_marks, .int t_now_size, .int t_now_marked, .int t_now_wholeness])), (A_t_now_marks, .inl (cy 1, 8, .inl t_now_marks))] sz [.ref A_t]) (va_Qi (fun r (u : Int32 × (Nat → Int32)) => post r u.1 u.2) (bW D [(A_t, .inr (7, [.ref A_t_tape, .ref A_t_now, .ref A_t_images, .ref A_t_imageMade, .ref A_t_sheets, .ref A_t_rows, .ref A_t_clash, .ref A_t_span, .ref A_t_reader, .int t_latestTorn])), (A_t_now, .inr (5, [.ref A_t_now_upper, .ref A_t_now_lower, .ref A_t_now_limits, .ref A_t_now_stricts, .ref A_t_now_marks, .int t_now_size, .int t_now_marked, .int t_now_wholeness])), (A_t_now_marks, .inl (cy 1, 8, .inl t_now_marks))] sz (fun u => [(A_t, .inr (7, [.ref A_t_tape, .ref A_t_now, .ref A_t_images, .ref A_t_imageMade, .ref A_t_sheets, .ref A_t_rows, .ref A_t_clash, .ref A_t_span, .ref A_t_reader, .int t_latestTorn])), (A_t_now, .inr (5, [.ref A_t_now_upper, .ref A_t_now_lower, .ref A_t_now_limits, .ref A_t_now_stricts, .ref A_t_now_marks, .int t_now_size, .int (u.1), .int t_now_wholeness])), (A_t_now_marks, .inl (cy 1, 8, .inl u.2))])) (va_A [(A_t, .inr (7, [.ref A_t_tape, .ref A_t_now, .ref A_t_images, .ref A_t_imageMade, .ref A_t_sheets, .ref A_t_rows, .ref A_t_clash, .ref A_t_span, .ref A_t_reader, .int t_latestTorn])), (A_t_now, .inr (5, [.ref A_t_now_upper, .ref A_t_now_lower, .ref A_t_now_limits, .ref A_t_now_stricts, .ref A_t_now_marks, .int t_now_size, .int t_now_marked, .int t_now_wholeness])), (A_t_now_marks, .inl (cy 1, 8, .inl t_now_marks))] sz)) 0 0 (va_A [(A_t, .inr (7, [.ref A_t_tape, .ref A_t_now, .ref A_t_images, .ref A_t_imageMade, .ref A_t_sheets, .ref A_t_rows, .ref A_t_clash, .ref A_t_span, .ref A_t_reader, .int t_latestTorn])), (A_t_now, .inr (5, [.ref A_t_now_upper, .ref A_t_now_lower, .ref A_t_now_limits, .ref A_t_now_stricts, .ref A_t_now_marks, .int t_now_size, .int t_now_marked, .int t_now_wholeness])), (A_t_now_marks, .inl (cy 1, 8, .inl t_now_marks))] sz) := by
  refine Met.ofW (cc := cX7_push) (maxL := 1) (ret := (some .int)) (by decide) rfl ?_
  intro p e s m args below meth c s₁ B hml hv
  obtain ⟨rfl, hsz, hP, hK, hD0⟩ := hv
  have hx := B.exec
  have hb := B.bytes
  have hr := B.returns
  have hts := atoms_spec (ws := wsX7_push) B.pre
  have hown : s.vm.findClass RX7 = some m.cls := findClass_of_methodNamed B.named
  have hlocks := B.notSynchronized
  have CF : CallFix p m c cX7_push 1 s ([.ref A_t] : List Value).toArray wsX7_push RX7 := ⟨hx, hb, hml, hown, hts⟩
  have f0 := hts (.fieldLink RX7 10 "GapBounds" "now" "LGapBounds$Store;") (by decide +kernel)
  have f1 := hts (.fieldLink RX7 109 "GapBounds$Store" "marked" "I") (by decide +kernel)
  have f2 := hts (.fieldLink RX7 205 "GapBounds$Store" "marks" "[I") (by decide +kernel)
  have f3 := hts (.fieldLink RX7 108 "GapBounds$Store" "size" "I") (by decide +kernel)
  have iX5 : ∀ w ∈ u_ws RX5 TX5 8, w ∈ wsX7_push := by decide +kernel
  have iX7 : ∀ w ∈ u_ws RX7 TX7 10, w ∈ wsX7_push := by decide +kernel
  subst hsz
  obtain ⟨A, hAe⟩ : ∃ A, A = va_A [(A_t, .inr (7, [.ref A_t_tape, .ref A_t_now, .ref A_t_images, .ref A_t_imageMade, .ref A_t_sheets, .ref A_t_rows, .ref A_t_clash, .ref A_t_span, .ref A_t_reader, .int t_latestTorn])), (A_t_now, .inr (5, [.ref A_t_now_upper, .ref A_t_now_lower, .ref A_t_now_limits, .ref A_t_now_stricts, .ref A_t_now_marks, .int t_now_size, .int t_now_marked, .int t_now_wholeness])), (A_t_now_marks, .inl (cy 1, 8, .inl t_now_marks))] s.heap.size := ⟨_, rfl⟩
  have hD : va_D A [(A_t, .inr (7, [.ref A_t_tape, .ref A_t_now, .ref A_t_images, .ref A_t_imageMade, .ref A_t_sheets, .ref A_t_rows, .ref A_t_clash, .ref A_t_span, .ref A_t_reader, .int t_latestTorn])), (A_t_now, .inr (5, [.ref A_t_now_upper, .ref A_t_now_lower, .ref A_t_now_limits, .ref A_t_now_stricts, .ref A_t_now_marks, .int t_now_size, .int t_now_marked, .int t_now_wholeness])), (A_t_now_marks, .inl (cy 1, 8, .inl t_now_marks))] := by rw [hAe]; exact hD0.self
  have hA : ∀ q : Nat, s.heap.size ≤ q → A q := fun q hq => by rw [hAe]; exact Or.inr hq
  have hS : va_S A s.heap s.heap [] := va_S.rf
  have hl := lv_entry [.ref A_t] (n := 1) (Nat.le_of_ble_eq_true rfl)
  rw [lg_entry_eq]
  generalize (lg_sl [.ref A_t] ++ List.replicate (1 - (lg_sl [.ref A_t]).length) Slot.unset).toArray = ls at hl ⊢
  have hl : lv_has ls 1 [(0, .ref A_t)] := hl
  refine W.gen (fun Q0 hQ => ?_)
  unfold P_X7_push at h
  refine lv_aload_n hx hb dX7_push_0 rfl (lv_at hl 0 rfl) ?_
  refine va_get (D := D) (ci := 7) (v := .ref A_t_now) (C := RX7) (T := TX7) (N := 10) hx hb hts iX7 hown hK.1 hP 0 rfl rfl 1 (by decide) f0 (fun _ h9 => h9) rfl dX7_push_1 ?_
  refine va_get (D := D) (ci := 5) (v := .int t_now_marked) (C := RX5) (T := TX5) (N := 8) hx hb hts iX5 hown hK.1 hP 1 rfl rfl 6 (by decide) f1 (fun _ h9 => h9) rfl dX7_push_4 ?_
  refine lv_bipush (v := 8) hx hb dX7_push_7 (by decide) ?_
  refine lv_icmp_lt (tgt := 15) hx hb dX7_push_9 (by decide) (fun hc => ?_) (fun hc => ?_)
  · replace h := h.1 hc
    refine lv_aload_n hx hb dX7_push_15 rfl (lv_at hl 0 rfl) ?_
    refine va_get (D := D) (ci := 7) (v := .ref A_t_now) (C := RX7) (T := TX7) (N := 10) hx hb hts iX7 hown hK.1 hP 0 rfl rfl 1 (by decide) f0 (fun _ h9 => h9) rfl dX7_push_16 ?_
    refine va_get (D := D) (ci := 5) (v := .ref A_t_now_marks) (C := RX5) (T := TX5) (N := 8) hx hb hts iX5 hown hK.1 hP 1 rfl rfl 4 (by decide) f2 (fun _ h9 => h9) rfl dX7_push_19 ?_
    refine lv_aload_n hx hb dX7_push_22 rfl (lv_at hl 0 rfl) ?_
    refine va_get (D := D) (ci := 7) (v := .ref A_t_now) (C := RX7) (T := TX7) (N := 10) hx hb hts iX7 hown hK.1 hP 0 rfl rfl 1 (by decide) f0 (fun _ h9 => h9) rfl dX7_push_23 ?_
    refine va_get (D := D) (ci := 5) (v := .int t_now_marked) (C := RX5) (T := TX5) (N := 8) hx hb hts iX5 hown hK.1 hP 1 rfl rfl 6 (by decide) f1 (fun _ h9 => h9) rfl dX7_push_26 ?_
    refine lv_aload_n hx hb dX7_push_29 rfl (lv_at hl 0 rfl) ?_
    refine va_get (D := D) (ci := 7) (v := .ref A_t_now) (C := RX7) (T := TX7) (N := 10) hx hb hts iX7 hown hK.1 hP 0 rfl rfl 1 (by decide) f0 (fun _ h9 => h9) rfl dX7_push_30 ?_
    refine va_get (D := D) (ci := 5) (v := .int t_now_size) (C := RX5) (T := TX5) (N := 8) hx hb hts iX5 hown hK.1 hP 1 rfl rfl 5 (by decide) f3 (fun _ h9 => h9) rfl dX7_push_33 ?_
    refine va_iast hx hb hK.1 hP hD hS 2 1 rfl rfl h.1 dX7_push_36 (fun H locs hP hD hS => ?_)
    replace h := h.2
    have hP : va_P D vwCl [(A_t, .inr (7, [.ref A_t_tape, .ref A_t_now, .ref A_t_images, .ref A_t_imageMade, .ref A_t_sheets, .ref A_t_rows, .ref A_t_clash, .ref A_t_span, .ref A_t_reader, .int t_latestTorn])), (A_t_now, .inr (5, [.ref A_t_now_upper, .ref A_t_now_lower, .ref A_t_now_limits, .ref A_t_now_stricts, .ref A_t_now_marks, .int t_now_size, .int t_now_marked, .int t_now_wholeness])), (A_t_now_marks, .inl (cy 1, 8, .inl (upd t_now_marks t_now_marked.toNatClampNeg t_now_size)))] H := hP
    have hD : va_D A [(A_t, .inr (7, [.ref A_t_tape, .ref A_t_now, .ref A_t_images, .ref A_t_imageMade, .ref A_t_sheets, .ref A_t_rows, .ref A_t_clash, .ref A_t_span, .ref A_t_reader, .int t_latestTorn])), (A_t_now, .inr (5, [.ref A_t_now_upper, .ref A_t_now_lower, .ref A_t_now_limits, .ref A_t_now_stricts, .ref A_t_now_marks, .int t_now_size, .int t_now_marked, .int t_now_wholeness])), (A_t_now_marks, .inl (cy 1, 8, .inl (upd t_now_marks t_now_marked.toNatClampNeg t_now_size)))] := hD
    refine lv_aload_n hx hb dX7_push_37 rfl (lv_at hl 0 rfl) ?_
    refine va_get (D := D) (ci := 7) (v := .ref A_t_now) (C := RX7) (T := TX7) (N := 10) hx hb hts iX7 hown hK.1 hP 0 rfl rfl 1 (by decide) f0 (fun _ h9 => h9) rfl dX7_push_38 ?_
    refine lv_dup hx hb dX7_push_41 rfl ?_
    refine va_get (D := D) (ci := 5) (v := .int t_now_marked) (C := RX5) (T := TX5) (N := 8) hx hb hts iX5 hown hK.1 hP 1 rfl rfl 6 (by decide) f1 (fun _ h9 => h9) rfl dX7_push_42 ?_
    refine lv_iconst (v := 1) hx hb dX7_push_45 (by decide) ?_
    refine lv_iadd hx hb dX7_push_46 ?_
    refine va_put (D := D) (ci := 5) (v := .int (t_now_marked + (1 : Int32))) (ty := .int) (C := RX5) (T := TX5) (N := 8) hx hb hts iX5 tyX5 tyX5_ok nmX5 hown hK.1 hP hD hS 1 rfl rfl 6 (by decide) f1 (fun _ h9 => h9) rfl (tyX5_ok 6 (by decide)) rfl rfl (Nat.le_of_ble_eq_true rfl) dX7_push_47 (fun H locs hP hD hS => ?_)
    have hP : va_P D vwCl [(A_t, .inr (7, [.ref A_t_tape, .ref A_t_now, .ref A_t_images, .ref A_t_imageMade, .ref A_t_sheets, .ref A_t_rows, .ref A_t_clash, .ref A_t_span, .ref A_t_reader, .int t_latestTorn])), (A_t_now, .inr (5, [.ref A_t_now_upper, .ref A_t_now_lower, .ref A_t_now_limits, .ref A_t_now_stricts, .ref A_t_now_marks, .int t_now_size, .int (t_now_marked + (1 : Int32)), .int t_now_wholeness])), (A_t_now_marks, .inl (cy 1, 8, .inl (upd t_now_marks t_now_marked.toNatClampNeg t_now_size)))] H := hP
    have hD : va_D A [(A_t, .inr (7, [.ref A_t_tape, .ref A_t_now, .ref A_t_images, .ref A_t_imageMade, .ref A_t_sheets, .ref A_t_rows, .ref A_t_clash, .ref A_t_span, .ref A_t_reader, .int t_latestTorn])), (A_t_now, .inr (5, [.ref A_t_now_upper, .ref A_t_now_lower, .ref A_t_now_limits, .ref A_t_now_stricts, .ref A_t_now_marks, .int t_now_size, .int (t_now_marked + (1 : Int32)), .int t_now_wholeness])), (A_t_now_marks, .inl (cy 1, 8, .inl (upd t_now_marks t_now_marked.toNatClampNeg t_now_size)))] := hD
    refine lv_aload_n hx hb dX7_push_50 rfl (lv_at hl 0 rfl) ?_
    refine va_get (D := D) (ci := 7) (v := .ref A_t_now) (C := RX7) (T := TX7) (N := 10) hx hb hts iX7 hown hK.1 hP 0 rfl rfl 1 (by decide) f0 (fun _ h9 => h9) rfl dX7_push_51 ?_
    refine va_get (D := D) (ci := 5) (v := .int (t_now_marked + (1 : Int32))) (C := RX5) (T := TX5) (N := 8) hx hb hts iX5 hown hK.1 hP 1 rfl rfl 6 (by decide) f1 (fun _ h9 => h9) rfl dX7_push_54 ?_
    subst hQ
    subst hAe
    exact W.iret (v := t_now_marked + (1 : Int32)) hx hb hr (fun t ht _ => ⟨⟨t_now_marked + (1 : Int32), (t_now_marked + (1 : Int32), upd t_now_marks t_now_marked.toNatClampNeg t_now_size), rfl, h, by rw [ht]; exact hP, hD⟩, hS.F ht⟩) hS.2.2 dX7_push_57
  · replace h := h.2 hc
    refine lv_bipush (v := -3) hx hb dX7_push_12 (by decide) ?_
    subst hQ
    subst hAe
    exact W.iret (v := (-3 : Int32)) hx hb hr (fun t ht _ => ⟨⟨(-3 : Int32), (t_now_marked, t_now_marks), rfl, h, by rw [ht]; exact hP, hD⟩, hS.F ht⟩) hS.2.2 dX7_push_14
theorem qX7_pop : yX7_pop.cls = RX7 ∧ yX7_pop.cls ≠ "java/lang/invoke/MethodHandle" ∧ yX7_pop.cls ≠ "java/lang/invoke/VarHandle" ∧ (parseMethodDescriptor yX7_pop.desc).map (fun d => d.parameters.length) = some 1 := by decide +kernel
def P_X7_pop (post : Int32 → Int32 → Int32 → Prop) (t_now_size : Int32) (t_now_marked : Int32) (t_now_marks : Nat → Int32) (x1 : Int32) : Prop :=
  P_X5_hasMark (fun (r1 : Int32) => ((¬ r1 = 0 → (vp_in x1 8 ∧ post (t_now_size - (t_now_marks x1.toNatClampNeg)) (t_now_marks x1.toNatClampNeg) x1)) ∧ (r1 = 0 → post (-1 : Int32) t_now_size t_now_marked))) t_now_marked x1
set_option maxHeartbeats 4000000 in
set_option maxRecDepth 100000 in
theorem c_X7_pop (l : Launch) (D : va_G) (cy : Nat → ClassId) (sz : Nat) (A_t A_t_tape A_t_now A_t_images A_t_imageMade A_t_sheets A_t_rows A_t_clash A_t_span A_t_reader A_t_now_upper A_t_now_lower A_t_now_limits A_t_now_stricts A_t_now_marks : Nat) (t_latestTorn : Int32) (t_now_size : Int32) (t_now_marked : Int32) (t_now_wholeness : Int32) (t_now_marks : Nat → Int32) (x1 : Int32) (post : Int32 → Int32 → Int32 → Prop) (h : P_X7_pop post t_now_size t_now_marked t_now_marks x1) : Met l yX7_pop wsX7_pop { frames := 1, cells := 0, slots := 0, locals := 21 } (pcW D cy [(A_t, .inr (7, [.ref A_t_tape, .ref A_t_now, .ref A_t_images, .ref A_t_imageMade, .ref A_t_sheets, .ref A_t_rows, .ref A_t_clash, .ref A_t_span, .ref A_t_reader, .int t_latestTorn])), (A_t_now, .inr (5, [.ref A_t_now_upper, .ref A_t_now_lower, .ref A_t_now_limits, .ref A_t_now_stricts, .ref A_t_now_marks, .int t_now_size, .int t_now_marked, .int t_now_wholeness])), (A_t_now_marks, .inl (cy 1, 8, .inl t_now_marks))] sz [.ref A_t, .int x1]) (va_Qi (fun r (u : Int32 × Int32) => post r u.1 u.2) (bW D [(A_t, .inr (7, [.ref A_t_tape, .ref A_t_now, .ref A_t_images, .ref A_t_imageMade, .ref A_t_sheets, .ref A_t_rows, .ref A_t_clash, .ref A_t_span, .ref A_t_reader, .int t_latestTorn])), (A_t_now, .inr (5, [.ref A_t_now_upper, .ref A_t_now_lower, .ref A_t_now_limits, .ref A_t_now_stricts, .ref A_t_now_marks, .int t_now_size, .int t_now_marked, .int t_now_wholeness])), (A_t_now_marks, .inl (cy 1, 8, .inl t_now_marks))] sz (fun u => [(A_t, .inr (7, [.ref A_t_tape, .ref A_t_now, .ref A_t_images, .ref A_t_imageMade, .ref A_t_sheets, .ref A_t_rows, .ref A_t_clash, .ref A_t_span, .ref A_t_reader, .int t_latestTorn])), (A_t_now, .inr (5, [.ref A_t_now_upper, .ref A_t_now_lower, .ref A_t_now_limits, .ref A_t_now_stricts, .ref A_t_now_marks, .int (u.1), .int (u.2), .int t_now_wholeness])), (A_t_now_marks, .inl (cy 1, 8, .inl t_now_marks))])) (va_A [(A_t, .inr (7, [.ref A_t_tape, .ref A_t_now, .ref A_t_images, .ref A_t_imageMade, .ref A_t_sheets, .ref A_t_rows, .ref A_t_clash, .ref A_t_span, .ref A_t_reader, .int t_latestTorn])), (A_t_now, .inr (5, [.ref A_t_now_upper, .ref A_t_now_lower, .ref A_t_now_limits, .ref A_t_now_stricts, .ref A_t_now_marks, .int t_now_size, .int t_now_marked, .int t_now_wholeness])), (A_t_now_marks, .inl (cy 1, 8, .inl t_now_marks))] sz)) 0 0 (va_A [(A_t, .inr (7, [.ref A_t_tape, .ref A_t_now, .ref A_t_images, .ref A_t_imageMade, .ref A_t_sheets, .ref A_t_rows, .ref A_t_clash, .ref A_t_span, .ref A_t_reader, .int t_latestTorn])), (A_t_now, .inr (5, [.ref A_t_now_upper, .ref A_t_now_lower, .ref A_t_now_limits, .ref A_t_now_stricts, .ref A_t_now_marks, .int t_now_size, .int t_now_marked, .int t_now_wholeness])), (A_t_now_marks, .inl (cy 1, 8, .inl t_now_marks))] sz) := by
  refine Met.ofW (cc := cX7_pop) (maxL := 3) (ret := (some .int)) (by decide) rfl ?_
  intro p e s m args below meth c s₁ B hml hv
  obtain ⟨rfl, hsz, hP, hK, hD0⟩ := hv
  have hx := B.exec
  have hb := B.bytes
  have hr := B.returns
  have hts := atoms_spec (ws := wsX7_pop) B.pre
  have hown : s.vm.findClass RX7 = some m.cls := findClass_of_methodNamed B.named
  have hlocks := B.notSynchronized
  have CF : CallFix p m c cX7_pop 3 s ([.ref A_t, .int x1] : List Value).toArray wsX7_pop RX7 := ⟨hx, hb, hml, hown, hts⟩
  have f0 := hts (.fieldLink RX7 10 "GapBounds" "now" "LGapBounds$Store;") (by decide +kernel)
  have f1 := hts (.fieldLink RX7 108 "GapBounds$Store" "size" "I") (by decide +kernel)
  have f2 := hts (.fieldLink RX7 205 "GapBounds$Store" "marks" "[I") (by decide +kernel)
  have f3 := hts (.fieldLink RX7 109 "GapBounds$Store" "marked" "I") (by decide +kernel)
  have iX5 : ∀ w ∈ u_ws RX5 TX5 8, w ∈ wsX7_pop := by decide +kernel
  have iX7 : ∀ w ∈ u_ws RX7 TX7 10, w ∈ wsX7_pop := by decide +kernel
  subst hsz
  obtain ⟨A, hAe⟩ : ∃ A, A = va_A [(A_t, .inr (7, [.ref A_t_tape, .ref A_t_now, .ref A_t_images, .ref A_t_imageMade, .ref A_t_sheets, .ref A_t_rows, .ref A_t_clash, .ref A_t_span, .ref A_t_reader, .int t_latestTorn])), (A_t_now, .inr (5, [.ref A_t_now_upper, .ref A_t_now_lower, .ref A_t_now_limits, .ref A_t_now_stricts, .ref A_t_now_marks, .int t_now_size, .int t_now_marked, .int t_now_wholeness])), (A_t_now_marks, .inl (cy 1, 8, .inl t_now_marks))] s.heap.size := ⟨_, rfl⟩
  have hD : va_D A [(A_t, .inr (7, [.ref A_t_tape, .ref A_t_now, .ref A_t_images, .ref A_t_imageMade, .ref A_t_sheets, .ref A_t_rows, .ref A_t_clash, .ref A_t_span, .ref A_t_reader, .int t_latestTorn])), (A_t_now, .inr (5, [.ref A_t_now_upper, .ref A_t_now_lower, .ref A_t_now_limits, .ref A_t_now_stricts, .ref A_t_now_marks, .int t_now_size, .int t_now_marked, .int t_now_wholeness])), (A_t_now_marks, .inl (cy 1, 8, .inl t_now_marks))] := by rw [hAe]; exact hD0.self
  have hA : ∀ q : Nat, s.heap.size ≤ q → A q := fun q hq => by rw [hAe]; exact Or.inr hq
  have hS : va_S A s.heap s.heap [] := va_S.rf
  have hl := lv_entry [.ref A_t, .int x1] (n := 3) (Nat.le_of_ble_eq_true rfl)
  rw [lg_entry_eq]
  generalize (lg_sl [.ref A_t, .int x1] ++ List.replicate (3 - (lg_sl [.ref A_t, .int x1]).length) Slot.unset).toArray = ls at hl ⊢
  have hl : lv_has ls 3 [(0, .ref A_t), (1, .int x1)] := hl
  refine W.gen (fun Q0 hQ => ?_)
  unfold P_X7_pop at h
  refine lv_aload_n hx hb dX7_pop_0 rfl (lv_at hl 0 rfl) ?_
  refine va_get (D := D) (ci := 7) (v := .ref A_t_now) (C := RX7) (T := TX7) (N := 10) hx hb hts iX7 hown hK.1 hP 0 rfl rfl 1 (by decide) f0 (fun _ h9 => h9) rfl dX7_pop_1 ?_
  refine lv_iload_n hx hb dX7_pop_4 rfl (lv_at hl 1 rfl) ?_
  have hPc := hP.sub (ws' := [(A_t_now, .inr (5, [.ref A_t_now_upper, .ref A_t_now_lower, .ref A_t_now_limits, .ref A_t_now_stricts, .ref A_t_now_marks, .int t_now_size, .int t_now_marked, .int t_now_wholeness]))]) [1] rfl
  refine vp_callSi (W.runV (As := [.int x1]) (rest := []) CF (c_X5_hasMark l D cy A_t_now A_t_now_upper A_t_now_lower A_t_now_limits A_t_now_stricts A_t_now_marks t_now_size t_now_marked t_now_wholeness x1 _ h) (cwV 1 hts gX7_pop_X5_hasMark rfl rfl rfl qX5_hasMark ⟨Nat.le_of_ble_eq_true rfl, Nat.le_of_ble_eq_true rfl⟩) (mpVR hK hPc (ci := 5) (q := (RX5, TX5, 8)) (q0 := 0) rfl rfl) rfl rfl hl.1 rfl (lv_room (Nat.le_of_ble_eq_true rfl)) dX7_pop_5 ⟨Nat.zero_le _, Nat.zero_le _⟩) (fun r1 h => ?_)
  refine lv_if_ne (tgt := 13) hx hb dX7_pop_8 (by decide) (fun hc => ?_) (fun hc => ?_)
  · replace h := h.1 hc
    refine lv_aload_n hx hb dX7_pop_13 rfl (lv_at hl 0 rfl) ?_
    refine va_get (D := D) (ci := 7) (v := .ref A_t_now) (C := RX7) (T := TX7) (N := 10) hx hb hts iX7 hown hK.1 hP 0 rfl rfl 1 (by decide) f0 (fun _ h9 => h9) rfl dX7_pop_14 ?_
    refine va_get (D := D) (ci := 5) (v := .int t_now_size) (C := RX5) (T := TX5) (N := 8) hx hb hts iX5 hown hK.1 hP 1 rfl rfl 5 (by decide) f1 (fun _ h9 => h9) rfl dX7_pop_17 ?_
    refine lv_istore_n (lv' := [(2, .int t_now_size), (0, .ref A_t), (1, .int x1)]) hx hb dX7_pop_20 rfl hl (by decide) rfl (fun ls hl => ?_)
    refine lv_aload_n hx hb dX7_pop_21 rfl (lv_at hl 1 rfl) ?_
    refine va_get (D := D) (ci := 7) (v := .ref A_t_now) (C := RX7) (T := TX7) (N := 10) hx hb hts iX7 hown hK.1 hP 0 rfl rfl 1 (by decide) f0 (fun _ h9 => h9) rfl dX7_pop_22 ?_
    refine lv_aload_n hx hb dX7_pop_25 rfl (lv_at hl 1 rfl) ?_
    refine va_get (D := D) (ci := 7) (v := .ref A_t_now) (C := RX7) (T := TX7) (N := 10) hx hb hts iX7 hown hK.1 hP 0 rfl rfl 1 (by decide) f0 (fun _ h9 => h9) rfl dX7_pop_26 ?_
    refine va_get (D := D) (ci := 5) (v := .ref A_t_now_marks) (C := RX5) (T := TX5) (N := 8) hx hb hts iX5 hown hK.1 hP 1 rfl rfl 4 (by decide) f2 (fun _ h9 => h9) rfl dX7_pop_29 ?_
    refine lv_iload_n hx hb dX7_pop_32 rfl (lv_at hl 2 rfl) ?_
    refine va_iald hx hb hK.1 hP 2 1 rfl rfl h.1 dX7_pop_33 ?_
    replace h := h.2
    refine va_put (D := D) (ci := 5) (v := .int (t_now_marks x1.toNatClampNeg)) (ty := .int) (C := RX5) (T := TX5) (N := 8) hx hb hts iX5 tyX5 tyX5_ok nmX5 hown hK.1 hP hD hS 1 rfl rfl 5 (by decide) f1 (fun _ h9 => h9) rfl (tyX5_ok 5 (by decide)) rfl rfl (Nat.le_of_ble_eq_true rfl) dX7_pop_34 (fun H locs hP hD hS => ?_)
    have hP : va_P D vwCl [(A_t, .inr (7, [.ref A_t_tape, .ref A_t_now, .ref A_t_images, .ref A_t_imageMade, .ref A_t_sheets, .ref A_t_rows, .ref A_t_clash, .ref A_t_span, .ref A_t_reader, .int t_latestTorn])), (A_t_now, .inr (5, [.ref A_t_now_upper, .ref A_t_now_lower, .ref A_t_now_limits, .ref A_t_now_stricts, .ref A_t_now_marks, .int (t_now_marks x1.toNatClampNeg), .int t_now_marked, .int t_now_wholeness])), (A_t_now_marks, .inl (cy 1, 8, .inl t_now_marks))] H := hP
    have hD : va_D A [(A_t, .inr (7, [.ref A_t_tape, .ref A_t_now, .ref A_t_images, .ref A_t_imageMade, .ref A_t_sheets, .ref A_t_rows, .ref A_t_clash, .ref A_t_span, .ref A_t_reader, .int t_latestTorn])), (A_t_now, .inr (5, [.ref A_t_now_upper, .ref A_t_now_lower, .ref A_t_now_limits, .ref A_t_now_stricts, .ref A_t_now_marks, .int (t_now_marks x1.toNatClampNeg), .int t_now_marked, .int t_now_wholeness])), (A_t_now_marks, .inl (cy 1, 8, .inl t_now_marks))] := hD
    refine lv_aload_n hx hb dX7_pop_37 rfl (lv_at hl 1 rfl) ?_
    refine va_get (D := D) (ci := 7) (v := .ref A_t_now) (C := RX7) (T := TX7) (N := 10) hx hb hts iX7 hown hK.1 hP 0 rfl rfl 1 (by decide) f0 (fun _ h9 => h9) rfl dX7_pop_38 ?_
    refine lv_iload_n hx hb dX7_pop_41 rfl (lv_at hl 2 rfl) ?_
    refine va_put (D := D) (ci := 5) (v := .int x1) (ty := .int) (C := RX5) (T := TX5) (N := 8) hx hb hts iX5 tyX5 tyX5_ok nmX5 hown hK.1 hP hD hS 1 rfl rfl 6 (by decide) f3 (fun _ h9 => h9) rfl (tyX5_ok 6 (by decide)) rfl rfl (Nat.le_of_ble_eq_true rfl) dX7_pop_42 (fun H locs hP hD hS => ?_)
    have hP : va_P D vwCl [(A_t, .inr (7, [.ref A_t_tape, .ref A_t_now, .ref A_t_images, .ref A_t_imageMade, .ref A_t_sheets, .ref A_t_rows, .ref A_t_clash, .ref A_t_span, .ref A_t_reader, .int t_latestTorn])), (A_t_now, .inr (5, [.ref A_t_now_upper, .ref A_t_now_lower, .ref A_t_now_limits, .ref A_t_now_stricts, .ref A_t_now_marks, .int (t_now_marks x1.toNatClampNeg), .int x1, .int t_now_wholeness])), (A_t_now_marks, .inl (cy 1, 8, .inl t_now_marks))] H := hP
    have hD : va_D A [(A_t, .inr (7, [.ref A_t_tape, .ref A_t_now, .ref A_t_images, .ref A_t_imageMade, .ref A_t_sheets, .ref A_t_rows, .ref A_t_clash, .ref A_t_span, .ref A_t_reader, .int t_latestTorn])), (A_t_now, .inr (5, [.ref A_t_now_upper, .ref A_t_now_lower, .ref A_t_now_limits, .ref A_t_now_stricts, .ref A_t_now_marks, .int (t_now_marks x1.toNatClampNeg), .int x1, .int t_now_wholeness])), (A_t_now_marks, .inl (cy 1, 8, .inl t_now_marks))] := hD
    refine lv_iload_n hx hb dX7_pop_45 rfl (lv_at hl 0 rfl) ?_
    refine lv_aload_n hx hb dX7_pop_46 rfl (lv_at hl 1 rfl) ?_
    refine va_get (D := D) (ci := 7) (v := .ref A_t_now) (C := RX7) (T := TX7) (N := 10) hx hb hts iX7 hown hK.1 hP 0 rfl rfl 1 (by decide) f0 (fun _ h9 => h9) rfl dX7_pop_47 ?_
    refine va_get (D := D) (ci := 5) (v := .int (t_now_marks x1.toNatClampNeg)) (C := RX5) (T := TX5) (N := 8) hx hb hts iX5 hown hK.1 hP 1 rfl rfl 5 (by decide) f1 (fun _ h9 => h9) rfl dX7_pop_50 ?_
    refine lv_isub hx hb dX7_pop_53 ?_
    subst hQ
    subst hAe
    exact W.iret (v := t_now_size - (t_now_marks x1.toNatClampNeg)) hx hb hr (fun t ht _ => ⟨⟨t_now_size - (t_now_marks x1.toNatClampNeg), (t_now_marks x1.toNatClampNeg, x1), rfl, h, by rw [ht]; exact hP, hD⟩, hS.F ht⟩) hS.2.2 dX7_pop_54
  · replace h := h.2 hc
    refine lv_iconst (v := -1) hx hb dX7_pop_11 (by decide) ?_
    subst hQ
    subst hAe
    exact W.iret (v := (-1 : Int32)) hx hb hr (fun t ht _ => ⟨⟨(-1 : Int32), (t_now_size, t_now_marked), rfl, h, by rw [ht]; exact hP, hD⟩, hS.F ht⟩) hS.2.2 dX7_pop_12
theorem qX7_level : yX7_level.cls = RX7 ∧ yX7_level.cls ≠ "java/lang/invoke/MethodHandle" ∧ yX7_level.cls ≠ "java/lang/invoke/VarHandle" ∧ (parseMethodDescriptor yX7_level.desc).map (fun d => d.parameters.length) = some 1 := by decide +kernel
def P_X7_level (post : Int32 → Prop) (t_now_marked : Int32) (t_now_marks : Nat → Int32) (x1 : Int32) : Prop :=
  P_X5_hasMark (fun (r1 : Int32) => ((r1 = 0 → post (-1 : Int32)) ∧ (¬ r1 = 0 → (vp_in x1 8 ∧ post (t_now_marks x1.toNatClampNeg))))) t_now_marked x1
set_option maxHeartbeats 4000000 in
set_option maxRecDepth 100000 in
theorem c_X7_level (l : Launch) (D : va_G) (cy : Nat → ClassId) (A_t A_t_tape A_t_now A_t_images A_t_imageMade A_t_sheets A_t_rows A_t_clash A_t_span A_t_reader A_t_now_upper A_t_now_lower A_t_now_limits A_t_now_stricts A_t_now_marks : Nat) (t_latestTorn : Int32) (t_now_size : Int32) (t_now_marked : Int32) (t_now_wholeness : Int32) (t_now_marks : Nat → Int32) (x1 : Int32) (post : Int32 → Prop) (h : P_X7_level post t_now_marked t_now_marks x1) : Met l yX7_level wsX7_level { frames := 1, cells := 0, slots := 0, locals := 21 } (pcR D cy [(A_t, .inr (7, [.ref A_t_tape, .ref A_t_now, .ref A_t_images, .ref A_t_imageMade, .ref A_t_sheets, .ref A_t_rows, .ref A_t_clash, .ref A_t_span, .ref A_t_reader, .int t_latestTorn])), (A_t_now, .inr (5, [.ref A_t_now_upper, .ref A_t_now_lower, .ref A_t_now_limits, .ref A_t_now_stricts, .ref A_t_now_marks, .int t_now_size, .int t_now_marked, .int t_now_wholeness])), (A_t_now_marks, .inl (cy 1, 8, .inl t_now_marks))] [.ref A_t, .int x1]) (vp_Si post) 0 0 (fun _ => False) := by
  refine Met.ofW (cc := cX7_level) (maxL := 2) (ret := (some .int)) (by decide) rfl ?_
  intro p e s m args below meth c s₁ B hml hv
  obtain ⟨rfl, hP, hK⟩ := hv
  have hx := B.exec
  have hb := B.bytes
  have hr := B.returns
  have hts := atoms_spec (ws := wsX7_level) B.pre
  have hown : s.vm.findClass RX7 = some m.cls := findClass_of_methodNamed B.named
  have hlocks := B.notSynchronized
  have CF : CallFix p m c cX7_level 2 s ([.ref A_t, .int x1] : List Value).toArray wsX7_level RX7 := ⟨hx, hb, hml, hown, hts⟩
  have f0 := hts (.fieldLink RX7 10 "GapBounds" "now" "LGapBounds$Store;") (by decide +kernel)
  have f1 := hts (.fieldLink RX7 205 "GapBounds$Store" "marks" "[I") (by decide +kernel)
  have iX5 : ∀ w ∈ u_ws RX5 TX5 8, w ∈ wsX7_level := by decide +kernel
  have iX7 : ∀ w ∈ u_ws RX7 TX7 10, w ∈ wsX7_level := by decide +kernel
  have hl := lv_entry [.ref A_t, .int x1] (n := 2) (Nat.le_of_ble_eq_true rfl)
  rw [lg_entry_eq]
  generalize (lg_sl [.ref A_t, .int x1] ++ List.replicate (2 - (lg_sl [.ref A_t, .int x1]).length) Slot.unset).toArray = ls at hl ⊢
  have hl : lv_has ls 2 [(0, .ref A_t), (1, .int x1)] := hl
  refine W.gen (fun Q0 hQ => ?_)
  unfold P_X7_level at h
  refine lv_aload_n hx hb dX7_level_0 rfl (lv_at hl 0 rfl) ?_
  refine va_get (D := D) (ci := 7) (v := .ref A_t_now) (C := RX7) (T := TX7) (N := 10) hx hb hts iX7 hown hK.1 hP 0 rfl rfl 1 (by decide) f0 (fun _ h9 => h9) rfl dX7_level_1 ?_
  refine lv_iload_n hx hb dX7_level_4 rfl (lv_at hl 1 rfl) ?_
  have hPc := hP.sub (ws' := [(A_t_now, .inr (5, [.ref A_t_now_upper, .ref A_t_now_lower, .ref A_t_now_limits, .ref A_t_now_stricts, .ref A_t_now_marks, .int t_now_size, .int t_now_marked, .int t_now_wholeness]))]) [1] rfl
  refine vp_callSi (W.runV (As := [.int x1]) (rest := []) CF (c_X5_hasMark l D cy A_t_now A_t_now_upper A_t_now_lower A_t_now_limits A_t_now_stricts A_t_now_marks t_now_size t_now_marked t_now_wholeness x1 _ h) (cwV 1 hts gX7_level_X5_hasMark rfl rfl rfl qX5_hasMark ⟨Nat.le_of_ble_eq_true rfl, Nat.le_of_ble_eq_true rfl⟩) (mpVR hK hPc (ci := 5) (q := (RX5, TX5, 8)) (q0 := 0) rfl rfl) rfl rfl hl.1 rfl (lv_room (Nat.le_of_ble_eq_true rfl)) dX7_level_5 ⟨Nat.zero_le _, Nat.zero_le _⟩) (fun r1 h => ?_)
  refine lv_if_eq (tgt := 23) hx hb dX7_level_8 (by decide) (fun hc => ?_) (fun hc => ?_)
  · replace h := h.1 hc
    refine lv_iconst (v := -1) hx hb dX7_level_23 (by decide) ?_
    subst hQ
    exact W.iret (v := (-1 : Int32)) hx hb hr (fun t ht _ => ⟨(-1 : Int32), rfl, h, ht⟩) (fun _ hq => absurd hq List.not_mem_nil) dX7_level_24
  · replace h := h.2 hc
    refine lv_aload_n hx hb dX7_level_11 rfl (lv_at hl 0 rfl) ?_
    refine va_get (D := D) (ci := 7) (v := .ref A_t_now) (C := RX7) (T := TX7) (N := 10) hx hb hts iX7 hown hK.1 hP 0 rfl rfl 1 (by decide) f0 (fun _ h9 => h9) rfl dX7_level_12 ?_
    refine va_get (D := D) (ci := 5) (v := .ref A_t_now_marks) (C := RX5) (T := TX5) (N := 8) hx hb hts iX5 hown hK.1 hP 1 rfl rfl 4 (by decide) f1 (fun _ h9 => h9) rfl dX7_level_15 ?_
    refine lv_iload_n hx hb dX7_level_18 rfl (lv_at hl 1 rfl) ?_
    refine va_iald hx hb hK.1 hP 2 1 rfl rfl h.1 dX7_level_19 ?_
    replace h := h.2
    refine lv_goto (tgt := 24) hx hb dX7_level_20 (by decide) ?_
    subst hQ
    exact W.iret (v := t_now_marks x1.toNatClampNeg) hx hb hr (fun t ht _ => ⟨t_now_marks x1.toNatClampNeg, rfl, h, ht⟩) (fun _ hq => absurd hq List.not_mem_nil) dX7_level_24
theorem qX7_implied : yX7_implied.cls = RX7 ∧ yX7_implied.cls ≠ "java/lang/invoke/MethodHandle" ∧ yX7_implied.cls ≠ "java/lang/invoke/VarHandle" ∧ (parseMethodDescriptor yX7_implied.desc).map (fun d => d.parameters.length) = some 3 := by decide +kernel
def P_X7_implied (post : Int64 → (Nat → Int64) → Prop) (t_rows_least : Nat → Int64) (t_now_size : Int32) (t_now_wholeness : Int32) (t_now_lower : Nat → Int32) (t_now_limits : Nat → Int32) (t_now_stricts : Nat → Int32) (t_now_upper : Nat → Int32) (x1 : Int32) (x2 : Int32) (x3 : Int32) : Prop :=
  P_X7_isThing (fun (r1 : Int32) => ((r1 = 0 → post (-1 : Int64) t_rows_least) ∧ (¬ r1 = 0 → P_X7_isThing (fun (r2 : Int32) => ((r2 = 0 → post (-1 : Int64) t_rows_least) ∧ (¬ r2 = 0 → P_X7_isBit (fun (r3 : Int32) => ((¬ r3 = 0 → P_X2_between (fun (r4 : Int64) (t_rows_least_v4 : Nat → Int64) => ((¬ r4 = (4611686018427387904 : Int64) → ((¬ x3 = 0 → P_X7_edgesOf (fun (r5 : Int64) => post r5 t_rows_least_v4) r4) ∧ (x3 = 0 → P_X7_amountOf (fun (r6 : Int64) => post r6 t_rows_least_v4) r4))) ∧ (r4 = (4611686018427387904 : Int64) → post (1000000000000 : Int64) t_rows_least_v4))) t_rows_least t_now_size t_now_wholeness t_now_lower t_now_limits t_now_stricts t_now_upper x2 x1 (-1 : Int32)) ∧ (r3 = 0 → post (-1 : Int64) t_rows_least))) x3))) x2))) x1
set_option maxHeartbeats 4000000 in
set_option maxRecDepth 100000 in
theorem c_X7_implied (l : Launch) (D : va_G) (cy : Nat → ClassId) (sz : Nat) (A_t A_t_tape A_t_now A_t_images A_t_imageMade A_t_sheets A_t_rows A_t_clash A_t_span A_t_reader A_t_rows_least A_t_rows_table A_t_now_upper A_t_now_lower A_t_now_limits A_t_now_stricts A_t_now_marks : Nat) (t_latestTorn : Int32) (t_rows_least : Nat → Int64) (t_now_size : Int32) (t_now_marked : Int32) (t_now_wholeness : Int32) (t_now_lower : Nat → Int32) (t_now_limits : Nat → Int32) (t_now_stricts : Nat → Int32) (t_now_upper : Nat → Int32) (x1 : Int32) (x2 : Int32) (x3 : Int32) (post : Int64 → (Nat → Int64) → Prop) (h : P_X7_implied post t_rows_least t_now_size t_now_wholeness t_now_lower t_now_limits t_now_stricts t_now_upper x1 x2 x3) : Met l yX7_implied wsX7_implied { frames := 3, cells := 0, slots := 0, locals := 77 } (pcW D cy [(A_t, .inr (7, [.ref A_t_tape, .ref A_t_now, .ref A_t_images, .ref A_t_imageMade, .ref A_t_sheets, .ref A_t_rows, .ref A_t_clash, .ref A_t_span, .ref A_t_reader, .int t_latestTorn])), (A_t_rows, .inr (2, [.ref A_t_rows_least, .ref A_t_rows_table])), (A_t_rows_least, .inl (cy 2, 10, .inr (.inl t_rows_least))), (A_t_now, .inr (5, [.ref A_t_now_upper, .ref A_t_now_lower, .ref A_t_now_limits, .ref A_t_now_stricts, .ref A_t_now_marks, .int t_now_size, .int t_now_marked, .int t_now_wholeness])), (A_t_now_lower, .inl (cy 1, 24, .inl t_now_lower)), (A_t_now_limits, .inl (cy 1, 24, .inl t_now_limits)), (A_t_now_stricts, .inl (cy 1, 24, .inl t_now_stricts)), (A_t_now_upper, .inl (cy 1, 24, .inl t_now_upper))] sz [.ref A_t, .int x1, .int x2, .int x3]) (va_Ql (fun r (u : (Nat → Int64)) => post r u) (bW D [(A_t, .inr (7, [.ref A_t_tape, .ref A_t_now, .ref A_t_images, .ref A_t_imageMade, .ref A_t_sheets, .ref A_t_rows, .ref A_t_clash, .ref A_t_span, .ref A_t_reader, .int t_latestTorn])), (A_t_rows, .inr (2, [.ref A_t_rows_least, .ref A_t_rows_table])), (A_t_rows_least, .inl (cy 2, 10, .inr (.inl t_rows_least))), (A_t_now, .inr (5, [.ref A_t_now_upper, .ref A_t_now_lower, .ref A_t_now_limits, .ref A_t_now_stricts, .ref A_t_now_marks, .int t_now_size, .int t_now_marked, .int t_now_wholeness])), (A_t_now_lower, .inl (cy 1, 24, .inl t_now_lower)), (A_t_now_limits, .inl (cy 1, 24, .inl t_now_limits)), (A_t_now_stricts, .inl (cy 1, 24, .inl t_now_stricts)), (A_t_now_upper, .inl (cy 1, 24, .inl t_now_upper))] sz (fun u => [(A_t, .inr (7, [.ref A_t_tape, .ref A_t_now, .ref A_t_images, .ref A_t_imageMade, .ref A_t_sheets, .ref A_t_rows, .ref A_t_clash, .ref A_t_span, .ref A_t_reader, .int t_latestTorn])), (A_t_rows, .inr (2, [.ref A_t_rows_least, .ref A_t_rows_table])), (A_t_rows_least, .inl (cy 2, 10, .inr (.inl u))), (A_t_now, .inr (5, [.ref A_t_now_upper, .ref A_t_now_lower, .ref A_t_now_limits, .ref A_t_now_stricts, .ref A_t_now_marks, .int t_now_size, .int t_now_marked, .int t_now_wholeness])), (A_t_now_lower, .inl (cy 1, 24, .inl t_now_lower)), (A_t_now_limits, .inl (cy 1, 24, .inl t_now_limits)), (A_t_now_stricts, .inl (cy 1, 24, .inl t_now_stricts)), (A_t_now_upper, .inl (cy 1, 24, .inl t_now_upper))])) (va_A [(A_t, .inr (7, [.ref A_t_tape, .ref A_t_now, .ref A_t_images, .ref A_t_imageMade, .ref A_t_sheets, .ref A_t_rows, .ref A_t_clash, .ref A_t_span, .ref A_t_reader, .int t_latestTorn])), (A_t_rows, .inr (2, [.ref A_t_rows_least, .ref A_t_rows_table])), (A_t_rows_least, .inl (cy 2, 10, .inr (.inl t_rows_least))), (A_t_now, .inr (5, [.ref A_t_now_upper, .ref A_t_now_lower, .ref A_t_now_limits, .ref A_t_now_stricts, .ref A_t_now_marks, .int t_now_size, .int t_now_marked, .int t_now_wholeness])), (A_t_now_lower, .inl (cy 1, 24, .inl t_now_lower)), (A_t_now_limits, .inl (cy 1, 24, .inl t_now_limits)), (A_t_now_stricts, .inl (cy 1, 24, .inl t_now_stricts)), (A_t_now_upper, .inl (cy 1, 24, .inl t_now_upper))] sz)) 0 0 (va_A [(A_t, .inr (7, [.ref A_t_tape, .ref A_t_now, .ref A_t_images, .ref A_t_imageMade, .ref A_t_sheets, .ref A_t_rows, .ref A_t_clash, .ref A_t_span, .ref A_t_reader, .int t_latestTorn])), (A_t_rows, .inr (2, [.ref A_t_rows_least, .ref A_t_rows_table])), (A_t_rows_least, .inl (cy 2, 10, .inr (.inl t_rows_least))), (A_t_now, .inr (5, [.ref A_t_now_upper, .ref A_t_now_lower, .ref A_t_now_limits, .ref A_t_now_stricts, .ref A_t_now_marks, .int t_now_size, .int t_now_marked, .int t_now_wholeness])), (A_t_now_lower, .inl (cy 1, 24, .inl t_now_lower)), (A_t_now_limits, .inl (cy 1, 24, .inl t_now_limits)), (A_t_now_stricts, .inl (cy 1, 24, .inl t_now_stricts)), (A_t_now_upper, .inl (cy 1, 24, .inl t_now_upper))] sz) := by
  refine Met.ofW (cc := cX7_implied) (maxL := 6) (ret := (some .long)) (by decide) rfl ?_
  intro p e s m args below meth c s₁ B hml hv
  obtain ⟨rfl, hsz, hP, hK, hD0⟩ := hv
  have hx := B.exec
  have hb := B.bytes
  have hr := B.returns
  have hts := atoms_spec (ws := wsX7_implied) B.pre
  have hown : s.vm.findClass RX7 = some m.cls := findClass_of_methodNamed B.named
  have hlocks := B.notSynchronized
  have CF : CallFix p m c cX7_implied 6 s ([.ref A_t, .int x1, .int x2, .int x3] : List Value).toArray wsX7_implied RX7 := ⟨hx, hb, hml, hown, hts⟩
  have f0 := hts (.constantLong RX7 211 (-1)) (by decide +kernel)
  have f1 := hts (.fieldLink RX7 34 "GapBounds" "rows" "LGapBounds$Rows;") (by decide +kernel)
  have f2 := hts (.fieldLink RX7 10 "GapBounds" "now" "LGapBounds$Store;") (by decide +kernel)
  have f3 := hts (.constantLong RX7 156 (4611686018427387904)) (by decide +kernel)
  have f4 := hts (.constantLong RX7 150 (1000000000000)) (by decide +kernel)
  have iX7 : ∀ w ∈ u_ws RX7 TX7 10, w ∈ wsX7_implied := by decide +kernel
  subst hsz
  obtain ⟨A, hAe⟩ : ∃ A, A = va_A [(A_t, .inr (7, [.ref A_t_tape, .ref A_t_now, .ref A_t_images, .ref A_t_imageMade, .ref A_t_sheets, .ref A_t_rows, .ref A_t_clash, .ref A_t_span, .ref A_t_reader, .int t_latestTorn])), (A_t_rows, .inr (2, [.ref A_t_rows_least, .ref A_t_rows_table])), (A_t_rows_least, .inl (cy 2, 10, .inr (.inl t_rows_least))), (A_t_now, .inr (5, [.ref A_t_now_upper, .ref A_t_now_lower, .ref A_t_now_limits, .ref A_t_now_stricts, .ref A_t_now_marks, .int t_now_size, .int t_now_marked, .int t_now_wholeness])), (A_t_now_lower, .inl (cy 1, 24, .inl t_now_lower)), (A_t_now_limits, .inl (cy 1, 24, .inl t_now_limits)), (A_t_now_stricts, .inl (cy 1, 24, .inl t_now_stricts)), (A_t_now_upper, .inl (cy 1, 24, .inl t_now_upper))] s.heap.size := ⟨_, rfl⟩
  have hD : va_D A [(A_t, .inr (7, [.ref A_t_tape, .ref A_t_now, .ref A_t_images, .ref A_t_imageMade, .ref A_t_sheets, .ref A_t_rows, .ref A_t_clash, .ref A_t_span, .ref A_t_reader, .int t_latestTorn])), (A_t_rows, .inr (2, [.ref A_t_rows_least, .ref A_t_rows_table])), (A_t_rows_least, .inl (cy 2, 10, .inr (.inl t_rows_least))), (A_t_now, .inr (5, [.ref A_t_now_upper, .ref A_t_now_lower, .ref A_t_now_limits, .ref A_t_now_stricts, .ref A_t_now_marks, .int t_now_size, .int t_now_marked, .int t_now_wholeness])), (A_t_now_lower, .inl (cy 1, 24, .inl t_now_lower)), (A_t_now_limits, .inl (cy 1, 24, .inl t_now_limits)), (A_t_now_stricts, .inl (cy 1, 24, .inl t_now_stricts)), (A_t_now_upper, .inl (cy 1, 24, .inl t_now_upper))] := by rw [hAe]; exact hD0.self
  have hA : ∀ q : Nat, s.heap.size ≤ q → A q := fun q hq => by rw [hAe]; exact Or.inr hq
  have hS : va_S A s.heap s.heap [] := va_S.rf
  have hl := lv_entry [.ref A_t, .int x1, .int x2, .int x3] (n := 6) (Nat.le_of_ble_eq_true rfl)
  rw [lg_entry_eq]
  generalize (lg_sl [.ref A_t, .int x1, .int x2, .int x3] ++ List.replicate (6 - (lg_sl [.ref A_t, .int x1, .int x2, .int x3]).length) Slot.unset).toArray = ls at hl ⊢
  have hl : lv_has ls 6 [(0, .ref A_t), (1, .int x1), (2, .int x2), (3, .int x3)] := hl
  refine W.gen (fun Q0 hQ => ?_)
  unfold P_X7_implied at h
  refine lv_iload_n hx hb dX7_implied_0 rfl (lv_at hl 1 rfl) ?_
  refine vp_callSi (W.runS (As := [.int x1]) (rest := []) CF (c_X7_isThing l x1 _ h) (va_cwS 1 hts gX7_implied_X7_isThing rfl rfl rfl qX7_isThing.2 ⟨Nat.le_of_ble_eq_true rfl, Nat.le_of_ble_eq_true rfl⟩) mpSN rfl rfl hl.1 rfl (lv_room (Nat.le_of_ble_eq_true rfl)) dX7_implied_1 ⟨Nat.zero_le _, Nat.zero_le _⟩) (fun r1 h => ?_)
  refine lv_if_eq (tgt := 21) hx hb dX7_implied_4 (by decide) (fun hc => ?_) (fun hc => ?_)
  · replace h := h.1 hc
    refine lv_ldc2 (v := -1) hx hb hown f0 dX7_implied_21 ?_
    subst hQ
    subst hAe
    exact W.lret (v := (-1 : Int64)) hx hb hr (fun t ht _ => ⟨⟨(-1 : Int64), t_rows_least, rfl, h, by rw [ht]; exact hP, hD⟩, hS.F ht⟩) hS.2.2 dX7_implied_24
  · replace h := h.2 hc
    refine lv_iload_n hx hb dX7_implied_7 rfl (lv_at hl 2 rfl) ?_
    refine vp_callSi (W.runS (As := [.int x2]) (rest := []) CF (c_X7_isThing l x2 _ h) (va_cwS 1 hts gX7_implied_X7_isThing rfl rfl rfl qX7_isThing.2 ⟨Nat.le_of_ble_eq_true rfl, Nat.le_of_ble_eq_true rfl⟩) mpSN rfl rfl hl.1 rfl (lv_room (Nat.le_of_ble_eq_true rfl)) dX7_implied_8 ⟨Nat.zero_le _, Nat.zero_le _⟩) (fun r2 h => ?_)
    refine lv_if_eq (tgt := 21) hx hb dX7_implied_11 (by decide) (fun hc => ?_) (fun hc => ?_)
    · replace h := h.1 hc
      refine lv_ldc2 (v := -1) hx hb hown f0 dX7_implied_21 ?_
      subst hQ
      subst hAe
      exact W.lret (v := (-1 : Int64)) hx hb hr (fun t ht _ => ⟨⟨(-1 : Int64), t_rows_least, rfl, h, by rw [ht]; exact hP, hD⟩, hS.F ht⟩) hS.2.2 dX7_implied_24
    · replace h := h.2 hc
      refine lv_iload_n hx hb dX7_implied_14 rfl (lv_at hl 3 rfl) ?_
      refine vp_callSi (W.runS (As := [.int x3]) (rest := []) CF (c_X7_isBit l x3 _ h) (va_cwS 1 hts gX7_implied_X7_isBit rfl rfl rfl qX7_isBit.2 ⟨Nat.le_of_ble_eq_true rfl, Nat.le_of_ble_eq_true rfl⟩) mpSN rfl rfl hl.1 rfl (lv_room (Nat.le_of_ble_eq_true rfl)) dX7_implied_15 ⟨Nat.zero_le _, Nat.zero_le _⟩) (fun r3 h => ?_)
      refine lv_if_ne (tgt := 25) hx hb dX7_implied_18 (by decide) (fun hc => ?_) (fun hc => ?_)
      · replace h := h.1 hc
        refine lv_aload_n hx hb dX7_implied_25 rfl (lv_at hl 0 rfl) ?_
        refine va_get (D := D) (ci := 7) (v := .ref A_t_rows) (C := RX7) (T := TX7) (N := 10) hx hb hts iX7 hown hK.1 hP 0 rfl rfl 5 (by decide) f1 (fun _ h9 => h9) rfl dX7_implied_26 ?_
        refine lv_aload_n hx hb dX7_implied_29 rfl (lv_at hl 0 rfl) ?_
        refine va_get (D := D) (ci := 7) (v := .ref A_t_now) (C := RX7) (T := TX7) (N := 10) hx hb hts iX7 hown hK.1 hP 0 rfl rfl 1 (by decide) f2 (fun _ h9 => h9) rfl dX7_implied_30 ?_
        refine lv_iload_n hx hb dX7_implied_33 rfl (lv_at hl 2 rfl) ?_
        refine lv_iload_n hx hb dX7_implied_34 rfl (lv_at hl 1 rfl) ?_
        refine lv_iconst (v := -1) hx hb dX7_implied_35 (by decide) ?_
        have hPn : va_P D vwCl ([(A_t, .inr (7, [.ref A_t_tape, .ref A_t_now, .ref A_t_images, .ref A_t_imageMade, .ref A_t_sheets, .ref A_t_rows, .ref A_t_clash, .ref A_t_span, .ref A_t_reader, .int t_latestTorn]))] ++ [(A_t_rows, .inr (2, [.ref A_t_rows_least, .ref A_t_rows_table])), (A_t_rows_least, .inl (cy 2, 10, .inr (.inl t_rows_least))), (A_t_now, .inr (5, [.ref A_t_now_upper, .ref A_t_now_lower, .ref A_t_now_limits, .ref A_t_now_stricts, .ref A_t_now_marks, .int t_now_size, .int t_now_marked, .int t_now_wholeness])), (A_t_now_lower, .inl (cy 1, 24, .inl t_now_lower)), (A_t_now_limits, .inl (cy 1, 24, .inl t_now_limits)), (A_t_now_stricts, .inl (cy 1, 24, .inl t_now_stricts)), (A_t_now_upper, .inl (cy 1, 24, .inl t_now_upper))]) s.heap := hP.sub [0, 1, 2, 3, 4, 5, 6, 7] rfl
        have hDn : va_D A ([(A_t, .inr (7, [.ref A_t_tape, .ref A_t_now, .ref A_t_images, .ref A_t_imageMade, .ref A_t_sheets, .ref A_t_rows, .ref A_t_clash, .ref A_t_span, .ref A_t_reader, .int t_latestTorn]))] ++ [(A_t_rows, .inr (2, [.ref A_t_rows_least, .ref A_t_rows_table])), (A_t_rows_least, .inl (cy 2, 10, .inr (.inl t_rows_least))), (A_t_now, .inr (5, [.ref A_t_now_upper, .ref A_t_now_lower, .ref A_t_now_limits, .ref A_t_now_stricts, .ref A_t_now_marks, .int t_now_size, .int t_now_marked, .int t_now_wholeness])), (A_t_now_lower, .inl (cy 1, 24, .inl t_now_lower)), (A_t_now_limits, .inl (cy 1, 24, .inl t_now_limits)), (A_t_now_stricts, .inl (cy 1, 24, .inl t_now_stricts)), (A_t_now_upper, .inl (cy 1, 24, .inl t_now_upper))]) := hD.sub [0, 1, 2, 3, 4, 5, 6, 7] (by decide) rfl
        have hPc := gPR hPn
        have hDc := gDR hDn
        refine mw_l (va_runV (As := [.ref A_t_now, .int x2, .int x1, .int (-1 : Int32)]) (rest := []) CF (c_X2_between l D cy s.heap.size A_t_rows A_t_rows_least A_t_rows_table A_t_now A_t_now_upper A_t_now_lower A_t_now_limits A_t_now_stricts A_t_now_marks t_rows_least t_now_size t_now_marked t_now_wholeness t_now_lower t_now_limits t_now_stricts t_now_upper x2 x1 (-1 : Int32) _ h) (cwV 4 hts gX7_implied_X2_between rfl rfl rfl qX2_between ⟨Nat.le_of_ble_eq_true rfl, Nat.le_of_ble_eq_true rfl⟩) (mpVW hK hPc hDc (ci := 2) (q := (RX2, TX2, 2)) (q0 := 0) rfl rfl) rfl rfl hl.1 rfl (lv_room (Nat.le_of_ble_eq_true rfl)) dX7_implied_36 ⟨Nat.zero_le _, Nat.zero_le _⟩) hPn hDn hS hA (fun r4 t_rows_least_v4 H locs h hP hD hS => ?_)
        have hP : va_P D vwCl [(A_t, .inr (7, [.ref A_t_tape, .ref A_t_now, .ref A_t_images, .ref A_t_imageMade, .ref A_t_sheets, .ref A_t_rows, .ref A_t_clash, .ref A_t_span, .ref A_t_reader, .int t_latestTorn])), (A_t_rows, .inr (2, [.ref A_t_rows_least, .ref A_t_rows_table])), (A_t_rows_least, .inl (cy 2, 10, .inr (.inl t_rows_least_v4))), (A_t_now, .inr (5, [.ref A_t_now_upper, .ref A_t_now_lower, .ref A_t_now_limits, .ref A_t_now_stricts, .ref A_t_now_marks, .int t_now_size, .int t_now_marked, .int t_now_wholeness])), (A_t_now_lower, .inl (cy 1, 24, .inl t_now_lower)), (A_t_now_limits, .inl (cy 1, 24, .inl t_now_limits)), (A_t_now_stricts, .inl (cy 1, 24, .inl t_now_stricts)), (A_t_now_upper, .inl (cy 1, 24, .inl t_now_upper))] H := hP.sub [0, 1, 2, 3, 4, 5, 6, 7] rfl
        have hD : va_D A [(A_t, .inr (7, [.ref A_t_tape, .ref A_t_now, .ref A_t_images, .ref A_t_imageMade, .ref A_t_sheets, .ref A_t_rows, .ref A_t_clash, .ref A_t_span, .ref A_t_reader, .int t_latestTorn])), (A_t_rows, .inr (2, [.ref A_t_rows_least, .ref A_t_rows_table])), (A_t_rows_least, .inl (cy 2, 10, .inr (.inl t_rows_least_v4))), (A_t_now, .inr (5, [.ref A_t_now_upper, .ref A_t_now_lower, .ref A_t_now_limits, .ref A_t_now_stricts, .ref A_t_now_marks, .int t_now_size, .int t_now_marked, .int t_now_wholeness])), (A_t_now_lower, .inl (cy 1, 24, .inl t_now_lower)), (A_t_now_limits, .inl (cy 1, 24, .inl t_now_limits)), (A_t_now_stricts, .inl (cy 1, 24, .inl t_now_stricts)), (A_t_now_upper, .inl (cy 1, 24, .inl t_now_upper))] := hD.sub [0, 1, 2, 3, 4, 5, 6, 7] (by decide) rfl
        refine lv_lstore (lv' := [(4, .long r4), (0, .ref A_t), (1, .int x1), (2, .int x2), (3, .int x3)]) hx hb dX7_implied_39 hl (by decide) rfl (fun ls hl => ?_)
        refine lv_lload hx hb dX7_implied_41 (lv_at hl 0 rfl) ?_
        refine lv_ldc2 (v := 4611686018427387904) hx hb hown f3 dX7_implied_43 ?_
        refine lx_ne (tgt := 54) hx hb dX7_implied_46 dX7_implied_47 (by decide) (fun hc => ?_) (fun hc => ?_)
        · replace h := h.1 hc
          refine lv_iload_n hx hb dX7_implied_54 rfl (lv_at hl 4 rfl) ?_
          refine lv_if_ne (tgt := 66) hx hb dX7_implied_55 (by decide) (fun hc => ?_) (fun hc => ?_)
          · replace h := h.1 hc
            refine lv_lload hx hb dX7_implied_66 (lv_at hl 0 rfl) ?_
            refine vp_callSl (W.runS (As := [.long r4]) (rest := []) CF (c_X7_edgesOf l r4 _ h) (va_cwS 1 hts gX7_implied_X7_edgesOf rfl rfl rfl qX7_edgesOf.2 ⟨Nat.le_of_ble_eq_true rfl, Nat.le_of_ble_eq_true rfl⟩) mpSN rfl rfl hl.1 rfl (lv_room (Nat.le_of_ble_eq_true rfl)) dX7_implied_68 ⟨Nat.zero_le _, Nat.zero_le _⟩) (fun r5 h => ?_)
            subst hQ
            subst hAe
            exact W.lret (v := r5) hx hb hr (fun t ht _ => ⟨⟨r5, t_rows_least_v4, rfl, h, by rw [ht]; exact hP, hD⟩, hS.F ht⟩) hS.2.2 dX7_implied_71
          · replace h := h.2 hc
            refine lv_lload hx hb dX7_implied_58 (lv_at hl 0 rfl) ?_
            refine vp_callSl (W.runS (As := [.long r4]) (rest := []) CF (c_X7_amountOf l r4 _ h) (va_cwS 1 hts gX7_implied_X7_amountOf rfl rfl rfl qX7_amountOf.2 ⟨Nat.le_of_ble_eq_true rfl, Nat.le_of_ble_eq_true rfl⟩) mpSN rfl rfl hl.1 rfl (lv_room (Nat.le_of_ble_eq_true rfl)) dX7_implied_60 ⟨Nat.zero_le _, Nat.zero_le _⟩) (fun r6 h => ?_)
            refine lv_goto (tgt := 71) hx hb dX7_implied_63 (by decide) ?_
            subst hQ
            subst hAe
            exact W.lret (v := r6) hx hb hr (fun t ht _ => ⟨⟨r6, t_rows_least_v4, rfl, h, by rw [ht]; exact hP, hD⟩, hS.F ht⟩) hS.2.2 dX7_implied_71
        · replace h := h.2 hc
          refine lv_ldc2 (v := 1000000000000) hx hb hown f4 dX7_implied_50 ?_
          subst hQ
          subst hAe
          exact W.lret (v := (1000000000000 : Int64)) hx hb hr (fun t ht _ => ⟨⟨(1000000000000 : Int64), t_rows_least_v4, rfl, h, by rw [ht]; exact hP, hD⟩, hS.F ht⟩) hS.2.2 dX7_implied_53
      · replace h := h.2 hc
        refine lv_ldc2 (v := -1) hx hb hown f0 dX7_implied_21 ?_
        subst hQ
        subst hAe
        exact W.lret (v := (-1 : Int64)) hx hb hr (fun t ht _ => ⟨⟨(-1 : Int64), t_rows_least, rfl, h, by rw [ht]; exact hP, hD⟩, hS.F ht⟩) hS.2.2 dX7_implied_24
theorem qX7_fixed : yX7_fixed.cls = RX7 ∧ yX7_fixed.cls ≠ "java/lang/invoke/MethodHandle" ∧ yX7_fixed.cls ≠ "java/lang/invoke/VarHandle" ∧ (parseMethodDescriptor yX7_fixed.desc).map (fun d => d.parameters.length) = some 2 := by decide +kernel
def P_X7_fixed (post : Int32 → (Nat → Int64) → Prop) (t_rows_least : Nat → Int64) (t_now_size : Int32) (t_now_wholeness : Int32) (t_now_lower : Nat → Int32) (t_now_limits : Nat → Int32) (t_now_stricts : Nat → Int32) (t_now_upper : Nat → Int32) (x1 : Int32) (x2 : Int32) : Prop :=
  P_X7_isThing (fun (r1 : Int32) => ((r1 = 0 → post (-1 : Int32) t_rows_least) ∧ (¬ r1 = 0 → P_X7_isThing (fun (r2 : Int32) => ((¬ r2 = 0 → P_X2_between (fun (r3 : Int64) (t_rows_least_v3 : Nat → Int64) => P_X2_between (fun (r4 : Int64) (t_rows_least_v4 : Nat → Int64) => P_X7_sumToNothing (fun (r5 : Int32) => ((r5 = 0 → post (0 : Int32) t_rows_least_v4) ∧ (¬ r5 = 0 → post (1 : Int32) t_rows_least_v4))) r3 r4) t_rows_least_v3 t_now_size t_now_wholeness t_now_lower t_now_limits t_now_stricts t_now_upper x2 x1 (-1 : Int32)) t_rows_least t_now_size t_now_wholeness t_now_lower t_now_limits t_now_stricts t_now_upper x1 x2 (-1 : Int32)) ∧ (r2 = 0 → post (-1 : Int32) t_rows_least))) x2))) x1
set_option maxHeartbeats 4000000 in
set_option maxRecDepth 100000 in
theorem c_X7_fixed (l : Launch) (D : va_G) (cy : Nat → ClassId) (sz : Nat) (A_t A_t_tape A_t_now A_t_images A_t_imageMade A_t_sheets A_t_rows A_t_clash A_t_span A_t_reader A_t_rows_least A_t_rows_table A_t_now_upper A_t_now_lower A_t_now_limits A_t_now_stricts A_t_now_marks : Nat) (t_latestTorn : Int32) (t_rows_least : Nat → Int64) (t_now_size : Int32) (t_now_marked : Int32) (t_now_wholeness : Int32) (t_now_lower : Nat → Int32) (t_now_limits : Nat → Int32) (t_now_stricts : Nat → Int32) (t_now_upper : Nat → Int32) (x1 : Int32) (x2 : Int32) (post : Int32 → (Nat → Int64) → Prop) (h : P_X7_fixed post t_rows_least t_now_size t_now_wholeness t_now_lower t_now_limits t_now_stricts t_now_upper x1 x2) : Met l yX7_fixed wsX7_fixed { frames := 3, cells := 0, slots := 0, locals := 77 } (pcW D cy [(A_t, .inr (7, [.ref A_t_tape, .ref A_t_now, .ref A_t_images, .ref A_t_imageMade, .ref A_t_sheets, .ref A_t_rows, .ref A_t_clash, .ref A_t_span, .ref A_t_reader, .int t_latestTorn])), (A_t_rows, .inr (2, [.ref A_t_rows_least, .ref A_t_rows_table])), (A_t_rows_least, .inl (cy 2, 10, .inr (.inl t_rows_least))), (A_t_now, .inr (5, [.ref A_t_now_upper, .ref A_t_now_lower, .ref A_t_now_limits, .ref A_t_now_stricts, .ref A_t_now_marks, .int t_now_size, .int t_now_marked, .int t_now_wholeness])), (A_t_now_lower, .inl (cy 1, 24, .inl t_now_lower)), (A_t_now_limits, .inl (cy 1, 24, .inl t_now_limits)), (A_t_now_stricts, .inl (cy 1, 24, .inl t_now_stricts)), (A_t_now_upper, .inl (cy 1, 24, .inl t_now_upper))] sz [.ref A_t, .int x1, .int x2]) (va_Qi (fun r (u : (Nat → Int64)) => post r u) (bW D [(A_t, .inr (7, [.ref A_t_tape, .ref A_t_now, .ref A_t_images, .ref A_t_imageMade, .ref A_t_sheets, .ref A_t_rows, .ref A_t_clash, .ref A_t_span, .ref A_t_reader, .int t_latestTorn])), (A_t_rows, .inr (2, [.ref A_t_rows_least, .ref A_t_rows_table])), (A_t_rows_least, .inl (cy 2, 10, .inr (.inl t_rows_least))), (A_t_now, .inr (5, [.ref A_t_now_upper, .ref A_t_now_lower, .ref A_t_now_limits, .ref A_t_now_stricts, .ref A_t_now_marks, .int t_now_size, .int t_now_marked, .int t_now_wholeness])), (A_t_now_lower, .inl (cy 1, 24, .inl t_now_lower)), (A_t_now_limits, .inl (cy 1, 24, .inl t_now_limits)), (A_t_now_stricts, .inl (cy 1, 24, .inl t_now_stricts)), (A_t_now_upper, .inl (cy 1, 24, .inl t_now_upper))] sz (fun u => [(A_t, .inr (7, [.ref A_t_tape, .ref A_t_now, .ref A_t_images, .ref A_t_imageMade, .ref A_t_sheets, .ref A_t_rows, .ref A_t_clash, .ref A_t_span, .ref A_t_reader, .int t_latestTorn])), (A_t_rows, .inr (2, [.ref A_t_rows_least, .ref A_t_rows_table])), (A_t_rows_least, .inl (cy 2, 10, .inr (.inl u))), (A_t_now, .inr (5, [.ref A_t_now_upper, .ref A_t_now_lower, .ref A_t_now_limits, .ref A_t_now_stricts, .ref A_t_now_marks, .int t_now_size, .int t_now_marked, .int t_now_wholeness])), (A_t_now_lower, .inl (cy 1, 24, .inl t_now_lower)), (A_t_now_limits, .inl (cy 1, 24, .inl t_now_limits)), (A_t_now_stricts, .inl (cy 1, 24, .inl t_now_stricts)), (A_t_now_upper, .inl (cy 1, 24, .inl t_now_upper))])) (va_A [(A_t, .inr (7, [.ref A_t_tape, .ref A_t_now, .ref A_t_images, .ref A_t_imageMade, .ref A_t_sheets, .ref A_t_rows, .ref A_t_clash, .ref A_t_span, .ref A_t_reader, .int t_latestTorn])), (A_t_rows, .inr (2, [.ref A_t_rows_least, .ref A_t_rows_table])), (A_t_rows_least, .inl (cy 2, 10, .inr (.inl t_rows_least))), (A_t_now, .inr (5, [.ref A_t_now_upper, .ref A_t_now_lower, .ref A_t_now_limits, .ref A_t_now_stricts, .ref A_t_now_marks, .int t_now_size, .int t_now_marked, .int t_now_wholeness])), (A_t_now_lower, .inl (cy 1, 24, .inl t_now_lower)), (A_t_now_limits, .inl (cy 1, 24, .inl t_now_limits)), (A_t_now_stricts, .inl (cy 1, 24, .inl t_now_stricts)), (A_t_now_upper, .inl (cy 1, 24, .inl t_now_upper))] sz)) 0 0 (va_A [(A_t, .inr (7, [.ref A_t_tape, .ref A_t_now, .ref A_t_images, .ref A_t_imageMade, .ref A_t_sheets, .ref A_t_rows, .ref A_t_clash, .ref A_t_span, .ref A_t_reader, .int t_latestTorn])), (A_t_rows, .inr (2, [.ref A_t_rows_least, .ref A_t_rows_table])), (A_t_rows_least, .inl (cy 2, 10, .inr (.inl t_rows_least))), (A_t_now, .inr (5, [.ref A_t_now_upper, .ref A_t_now_lower, .ref A_t_now_limits, .ref A_t_now_stricts, .ref A_t_now_marks, .int t_now_size, .int t_now_marked, .int t_now_wholeness])), (A_t_now_lower, .inl (cy 1, 24, .inl t_now_lower)), (A_t_now_limits, .inl (cy 1, 24, .inl t_now_limits)), (A_t_now_stricts, .inl (cy 1, 24, .inl t_now_stricts)), (A_t_now_upper, .inl (cy 1, 24, .inl t_now_upper))] sz) := by
  refine Met.ofW (cc := cX7_fixed) (maxL := 7) (ret := (some .int)) (by decide) rfl ?_
  intro p e s m args below meth c s₁ B hml hv
  obtain ⟨rfl, hsz, hP, hK, hD0⟩ := hv
  have hx := B.exec
  have hb := B.bytes
  have hr := B.returns
  have hts := atoms_spec (ws := wsX7_fixed) B.pre
  have hown : s.vm.findClass RX7 = some m.cls := findClass_of_methodNamed B.named
  have hlocks := B.notSynchronized
  have CF : CallFix p m c cX7_fixed 7 s ([.ref A_t, .int x1, .int x2] : List Value).toArray wsX7_fixed RX7 := ⟨hx, hb, hml, hown, hts⟩
  have f0 := hts (.fieldLink RX7 34 "GapBounds" "rows" "LGapBounds$Rows;") (by decide +kernel)
  have f1 := hts (.fieldLink RX7 10 "GapBounds" "now" "LGapBounds$Store;") (by decide +kernel)
  have iX7 : ∀ w ∈ u_ws RX7 TX7 10, w ∈ wsX7_fixed := by decide +kernel
  subst hsz
  obtain ⟨A, hAe⟩ : ∃ A, A = va_A [(A_t, .inr (7, [.ref A_t_tape, .ref A_t_now, .ref A_t_images, .ref A_t_imageMade, .ref A_t_sheets, .ref A_t_rows, .ref A_t_clash, .ref A_t_span, .ref A_t_reader, .int t_latestTorn])), (A_t_rows, .inr (2, [.ref A_t_rows_least, .ref A_t_rows_table])), (A_t_rows_least, .inl (cy 2, 10, .inr (.inl t_rows_least))), (A_t_now, .inr (5, [.ref A_t_now_upper, .ref A_t_now_lower, .ref A_t_now_limits, .ref A_t_now_stricts, .ref A_t_now_marks, .int t_now_size, .int t_now_marked, .int t_now_wholeness])), (A_t_now_lower, .inl (cy 1, 24, .inl t_now_lower)), (A_t_now_limits, .inl (cy 1, 24, .inl t_now_limits)), (A_t_now_stricts, .inl (cy 1, 24, .inl t_now_stricts)), (A_t_now_upper, .inl (cy 1, 24, .inl t_now_upper))] s.heap.size := ⟨_, rfl⟩
  have hD : va_D A [(A_t, .inr (7, [.ref A_t_tape, .ref A_t_now, .ref A_t_images, .ref A_t_imageMade, .ref A_t_sheets, .ref A_t_rows, .ref A_t_clash, .ref A_t_span, .ref A_t_reader, .int t_latestTorn])), (A_t_rows, .inr (2, [.ref A_t_rows_least, .ref A_t_rows_table])), (A_t_rows_least, .inl (cy 2, 10, .inr (.inl t_rows_least))), (A_t_now, .inr (5, [.ref A_t_now_upper, .ref A_t_now_lower, .ref A_t_now_limits, .ref A_t_now_stricts, .ref A_t_now_marks, .int t_now_size, .int t_now_marked, .int t_now_wholeness])), (A_t_now_lower, .inl (cy 1, 24, .inl t_now_lower)), (A_t_now_limits, .inl (cy 1, 24, .inl t_now_limits)), (A_t_now_stricts, .inl (cy 1, 24, .inl t_now_stricts)), (A_t_now_upper, .inl (cy 1, 24, .inl t_now_upper))] := by rw [hAe]; exact hD0.self
  have hA : ∀ q : Nat, s.heap.size ≤ q → A q := fun q hq => by rw [hAe]; exact Or.inr hq
  have hS : va_S A s.heap s.heap [] := va_S.rf
  have hl := lv_entry [.ref A_t, .int x1, .int x2] (n := 7) (Nat.le_of_ble_eq_true rfl)
  rw [lg_entry_eq]
  generalize (lg_sl [.ref A_t, .int x1, .int x2] ++ List.replicate (7 - (lg_sl [.ref A_t, .int x1, .int x2]).length) Slot.unset).toArray = ls at hl ⊢
  have hl : lv_has ls 7 [(0, .ref A_t), (1, .int x1), (2, .int x2)] := hl
  refine W.gen (fun Q0 hQ => ?_)
  unfold P_X7_fixed at h
  refine lv_iload_n hx hb dX7_fixed_0 rfl (lv_at hl 1 rfl) ?_
  refine vp_callSi (W.runS (As := [.int x1]) (rest := []) CF (c_X7_isThing l x1 _ h) (va_cwS 1 hts gX7_fixed_X7_isThing rfl rfl rfl qX7_isThing.2 ⟨Nat.le_of_ble_eq_true rfl, Nat.le_of_ble_eq_true rfl⟩) mpSN rfl rfl hl.1 rfl (lv_room (Nat.le_of_ble_eq_true rfl)) dX7_fixed_1 ⟨Nat.zero_le _, Nat.zero_le _⟩) (fun r1 h => ?_)
  refine lv_if_eq (tgt := 14) hx hb dX7_fixed_4 (by decide) (fun hc => ?_) (fun hc => ?_)
  · replace h := h.1 hc
    refine lv_iconst (v := -1) hx hb dX7_fixed_14 (by decide) ?_
    subst hQ
    subst hAe
    exact W.iret (v := (-1 : Int32)) hx hb hr (fun t ht _ => ⟨⟨(-1 : Int32), t_rows_least, rfl, h, by rw [ht]; exact hP, hD⟩, hS.F ht⟩) hS.2.2 dX7_fixed_15
  · replace h := h.2 hc
    refine lv_iload_n hx hb dX7_fixed_7 rfl (lv_at hl 2 rfl) ?_
    refine vp_callSi (W.runS (As := [.int x2]) (rest := []) CF (c_X7_isThing l x2 _ h) (va_cwS 1 hts gX7_fixed_X7_isThing rfl rfl rfl qX7_isThing.2 ⟨Nat.le_of_ble_eq_true rfl, Nat.le_of_ble_eq_true rfl⟩) mpSN rfl rfl hl.1 rfl (lv_room (Nat.le_of_ble_eq_true rfl)) dX7_fixed_8 ⟨Nat.zero_le _, Nat.zero_le _⟩) (fun r2 h => ?_)
    refine lv_if_ne (tgt := 16) hx hb dX7_fixed_11 (by decide) (fun hc => ?_) (fun hc => ?_)
    · replace h := h.1 hc
      refine lv_aload_n hx hb dX7_fixed_16 rfl (lv_at hl 0 rfl) ?_
      refine va_get (D := D) (ci := 7) (v := .ref A_t_rows) (C := RX7) (T := TX7) (N := 10) hx hb hts iX7 hown hK.1 hP 0 rfl rfl 5 (by decide) f0 (fun _ h9 => h9) rfl dX7_fixed_17 ?_
      refine lv_aload_n hx hb dX7_fixed_20 rfl (lv_at hl 0 rfl) ?_
      refine va_get (D := D) (ci := 7) (v := .ref A_t_now) (C := RX7) (T := TX7) (N := 10) hx hb hts iX7 hown hK.1 hP 0 rfl rfl 1 (by decide) f1 (fun _ h9 => h9) rfl dX7_fixed_21 ?_
      refine lv_iload_n hx hb dX7_fixed_24 rfl (lv_at hl 1 rfl) ?_
      refine lv_iload_n hx hb dX7_fixed_25 rfl (lv_at hl 2 rfl) ?_
      refine lv_iconst (v := -1) hx hb dX7_fixed_26 (by decide) ?_
      have hPn : va_P D vwCl ([(A_t, .inr (7, [.ref A_t_tape, .ref A_t_now, .ref A_t_images, .ref A_t_imageMade, .ref A_t_sheets, .ref A_t_rows, .ref A_t_clash, .ref A_t_span, .ref A_t_reader, .int t_latestTorn]))] ++ [(A_t_rows, .inr (2, [.ref A_t_rows_least, .ref A_t_rows_table])), (A_t_rows_least, .inl (cy 2, 10, .inr (.inl t_rows_least))), (A_t_now, .inr (5, [.ref A_t_now_upper, .ref A_t_now_lower, .ref A_t_now_limits, .ref A_t_now_stricts, .ref A_t_now_marks, .int t_now_size, .int t_now_marked, .int t_now_wholeness])), (A_t_now_lower, .inl (cy 1, 24, .inl t_now_lower)), (A_t_now_limits, .inl (cy 1, 24, .inl t_now_limits)), (A_t_now_stricts, .inl (cy 1, 24, .inl t_now_stricts)), (A_t_now_upper, .inl (cy 1, 24, .inl t_now_upper))]) s.heap := hP.sub [0, 1, 2, 3, 4, 5, 6, 7] rfl
      have hDn : va_D A ([(A_t, .inr (7, [.ref A_t_tape, .ref A_t_now, .ref A_t_images, .ref A_t_imageMade, .ref A_t_sheets, .ref A_t_rows, .ref A_t_clash, .ref A_t_span, .ref A_t_reader, .int t_latestTorn]))] ++ [(A_t_rows, .inr (2, [.ref A_t_rows_least, .ref A_t_rows_table])), (A_t_rows_least, .inl (cy 2, 10, .inr (.inl t_rows_least))), (A_t_now, .inr (5, [.ref A_t_now_upper, .ref A_t_now_lower, .ref A_t_now_limits, .ref A_t_now_stricts, .ref A_t_now_marks, .int t_now_size, .int t_now_marked, .int t_now_wholeness])), (A_t_now_lower, .inl (cy 1, 24, .inl t_now_lower)), (A_t_now_limits, .inl (cy 1, 24, .inl t_now_limits)), (A_t_now_stricts, .inl (cy 1, 24, .inl t_now_stricts)), (A_t_now_upper, .inl (cy 1, 24, .inl t_now_upper))]) := hD.sub [0, 1, 2, 3, 4, 5, 6, 7] (by decide) rfl
      have hPc := gPR hPn
      have hDc := gDR hDn
      refine mw_l (va_runV (As := [.ref A_t_now, .int x1, .int x2, .int (-1 : Int32)]) (rest := []) CF (c_X2_between l D cy s.heap.size A_t_rows A_t_rows_least A_t_rows_table A_t_now A_t_now_upper A_t_now_lower A_t_now_limits A_t_now_stricts A_t_now_marks t_rows_least t_now_size t_now_marked t_now_wholeness t_now_lower t_now_limits t_now_stricts t_now_upper x1 x2 (-1 : Int32) _ h) (cwV 4 hts gX7_fixed_X2_between rfl rfl rfl qX2_between ⟨Nat.le_of_ble_eq_true rfl, Nat.le_of_ble_eq_true rfl⟩) (mpVW hK hPc hDc (ci := 2) (q := (RX2, TX2, 2)) (q0 := 0) rfl rfl) rfl rfl hl.1 rfl (lv_room (Nat.le_of_ble_eq_true rfl)) dX7_fixed_27 ⟨Nat.zero_le _, Nat.zero_le _⟩) hPn hDn hS hA (fun r3 t_rows_least_v3 H locs h hP hD hS => ?_)
      have hP : va_P D vwCl [(A_t, .inr (7, [.ref A_t_tape, .ref A_t_now, .ref A_t_images, .ref A_t_imageMade, .ref A_t_sheets, .ref A_t_rows, .ref A_t_clash, .ref A_t_span, .ref A_t_reader, .int t_latestTorn])), (A_t_rows, .inr (2, [.ref A_t_rows_least, .ref A_t_rows_table])), (A_t_rows_least, .inl (cy 2, 10, .inr (.inl t_rows_least_v3))), (A_t_now, .inr (5, [.ref A_t_now_upper, .ref A_t_now_lower, .ref A_t_now_limits, .ref A_t_now_stricts, .ref A_t_now_marks, .int t_now_size, .int t_now_marked, .int t_now_wholeness])), (A_t_now_lower, .inl (cy 1, 24, .inl t_now_lower)), (A_t_now_limits, .inl (cy 1, 24, .inl t_now_limits)), (A_t_now_stricts, .inl (cy 1, 24, .inl t_now_stricts)), (A_t_now_upper, .inl (cy 1, 24, .inl t_now_upper))] H := hP.sub [0, 1, 2, 3, 4, 5, 6, 7] rfl
      have hD : va_D A [(A_t, .inr (7, [.ref A_t_tape, .ref A_t_now, .ref A_t_images, .ref A_t_imageMade, .ref A_t_sheets, .ref A_t_rows, .ref A_t_clash, .ref A_t_span, .ref A_t_reader, .int t_latestTorn])), (A_t_rows, .inr (2, [.ref A_t_rows_least, .ref A_t_rows_table])), (A_t_rows_least, .inl (cy 2, 10, .inr (.inl t_rows_least_v3))), (A_t_now, .inr (5, [.ref A_t_now_upper, .ref A_t_now_lower, .ref A_t_now_limits, .ref A_t_now_stricts, .ref A_t_now_marks, .int t_now_size, .int t_now_marked, .int t_now_wholeness])), (A_t_now_lower, .inl (cy 1, 24, .inl t_now_lower)), (A_t_now_limits, .inl (cy 1, 24, .inl t_now_limits)), (A_t_now_stricts, .inl (cy 1, 24, .inl t_now_stricts)), (A_t_now_upper, .inl (cy 1, 24, .inl t_now_upper))] := hD.sub [0, 1, 2, 3, 4, 5, 6, 7] (by decide) rfl
      refine lv_lstore_n (lv' := [(3, .long r3), (0, .ref A_t), (1, .int x1), (2, .int x2)]) hx hb dX7_fixed_30 rfl hl (by decide) rfl (fun ls hl => ?_)
      refine lv_aload_n hx hb dX7_fixed_31 rfl (lv_at hl 1 rfl) ?_
      refine va_get (D := D) (ci := 7) (v := .ref A_t_rows) (C := RX7) (T := TX7) (N := 10) hx hb hts iX7 hown hK.1 hP 0 rfl rfl 5 (by decide) f0 (fun _ h9 => h9) rfl dX7_fixed_32 ?_
      refine lv_aload_n hx hb dX7_fixed_35 rfl (lv_at hl 1 rfl) ?_
      refine va_get (D := D) (ci := 7) (v := .ref A_t_now) (C := RX7) (T := TX7) (N := 10) hx hb hts iX7 hown hK.1 hP 0 rfl rfl 1 (by decide) f1 (fun _ h9 => h9) rfl dX7_fixed_36 ?_
      refine lv_iload_n hx hb dX7_fixed_39 rfl (lv_at hl 3 rfl) ?_
      refine lv_iload_n hx hb dX7_fixed_40 rfl (lv_at hl 2 rfl) ?_
      refine lv_iconst (v := -1) hx hb dX7_fixed_41 (by decide) ?_
      have hPn : va_P D vwCl ([(A_t, .inr (7, [.ref A_t_tape, .ref A_t_now, .ref A_t_images, .ref A_t_imageMade, .ref A_t_sheets, .ref A_t_rows, .ref A_t_clash, .ref A_t_span, .ref A_t_reader, .int t_latestTorn]))] ++ [(A_t_rows, .inr (2, [.ref A_t_rows_least, .ref A_t_rows_table])), (A_t_rows_least, .inl (cy 2, 10, .inr (.inl t_rows_least_v3))), (A_t_now, .inr (5, [.ref A_t_now_upper, .ref A_t_now_lower, .ref A_t_now_limits, .ref A_t_now_stricts, .ref A_t_now_marks, .int t_now_size, .int t_now_marked, .int t_now_wholeness])), (A_t_now_lower, .inl (cy 1, 24, .inl t_now_lower)), (A_t_now_limits, .inl (cy 1, 24, .inl t_now_limits)), (A_t_now_stricts, .inl (cy 1, 24, .inl t_now_stricts)), (A_t_now_upper, .inl (cy 1, 24, .inl t_now_upper))]) H := hP.sub [0, 1, 2, 3, 4, 5, 6, 7] rfl
      have hDn : va_D A ([(A_t, .inr (7, [.ref A_t_tape, .ref A_t_now, .ref A_t_images, .ref A_t_imageMade, .ref A_t_sheets, .ref A_t_rows, .ref A_t_clash, .ref A_t_span, .ref A_t_reader, .int t_latestTorn]))] ++ [(A_t_rows, .inr (2, [.ref A_t_rows_least, .ref A_t_rows_table])), (A_t_rows_least, .inl (cy 2, 10, .inr (.inl t_rows_least_v3))), (A_t_now, .inr (5, [.ref A_t_now_upper, .ref A_t_now_lower, .ref A_t_now_limits, .ref A_t_now_stricts, .ref A_t_now_marks, .int t_now_size, .int t_now_marked, .int t_now_wholeness])), (A_t_now_lower, .inl (cy 1, 24, .inl t_now_lower)), (A_t_now_limits, .inl (cy 1, 24, .inl t_now_limits)), (A_t_now_stricts, .inl (cy 1, 24, .inl t_now_stricts)), (A_t_now_upper, .inl (cy 1, 24, .inl t_now_upper))]) := hD.sub [0, 1, 2, 3, 4, 5, 6, 7] (by decide) rfl
      have hPc := gPR hPn
      have hDc := gDR hDn
      refine mw_l (va_runV (As := [.ref A_t_now, .int x2, .int x1, .int (-1 : Int32)]) (rest := []) CF (c_X2_between l D cy H.size A_t_rows A_t_rows_least A_t_rows_table A_t_now A_t_now_upper A_t_now_lower A_t_now_limits A_t_now_stricts A_t_now_marks t_rows_least_v3 t_now_size t_now_marked t_now_wholeness t_now_lower t_now_limits t_now_stricts t_now_upper x2 x1 (-1 : Int32) _ h) (cwV 4 hts gX7_fixed_X2_between rfl rfl rfl qX2_between ⟨Nat.le_of_ble_eq_true rfl, Nat.le_of_ble_eq_true rfl⟩) (mpVW hK hPc hDc (ci := 2) (q := (RX2, TX2, 2)) (q0 := 0) rfl rfl) rfl rfl hl.1 rfl (lv_room (Nat.le_of_ble_eq_true rfl)) dX7_fixed_42 ⟨Nat.zero_le _, Nat.zero_le _⟩) hPn hDn hS hA (fun r4 t_rows_least_v4 H locs h hP hD hS => ?_)
      have hP : va_P D vwCl [(A_t, .inr (7, [.ref A_t_tape, .ref A_t_now, .ref A_t_images, .ref A_t_imageMade, .ref A_t_sheets, .ref A_t_rows, .ref A_t_clash, .ref A_t_span, .ref A_t_reader, .int t_latestTorn])), (A_t_rows, .inr (2, [.ref A_t_rows_least, .ref A_t_rows_table])), (A_t_rows_least, .inl (cy 2, 10, .inr (.inl t_rows_least_v4))), (A_t_now, .inr (5, [.ref A_t_now_upper, .ref A_t_now_lower, .ref A_t_now_limits, .ref A_t_now_stricts, .ref A_t_now_marks, .int t_now_size, .int t_now_marked, .int t_now_wholeness])), (A_t_now_lower, .inl (cy 1, 24, .inl t_now_lower)), (A_t_now_limits, .inl (cy 1, 24, .inl t_now_limits)), (A_t_now_stricts, .inl (cy 1, 24, .inl t_now_stricts)), (A_t_now_upper, .inl (cy 1, 24, .inl t_now_upper))] H := hP.sub [0, 1, 2, 3, 4, 5, 6, 7] rfl
      have hD : va_D A [(A_t, .inr (7, [.ref A_t_tape, .ref A_t_now, .ref A_t_images, .ref A_t_imageMade, .ref A_t_sheets, .ref A_t_rows, .ref A_t_clash, .ref A_t_span, .ref A_t_reader, .int t_latestTorn])), (A_t_rows, .inr (2, [.ref A_t_rows_least, .ref A_t_rows_table])), (A_t_rows_least, .inl (cy 2, 10, .inr (.inl t_rows_least_v4))), (A_t_now, .inr (5, [.ref A_t_now_upper, .ref A_t_now_lower, .ref A_t_now_limits, .ref A_t_now_stricts, .ref A_t_now_marks, .int t_now_size, .int t_now_marked, .int t_now_wholeness])), (A_t_now_lower, .inl (cy 1, 24, .inl t_now_lower)), (A_t_now_limits, .inl (cy 1, 24, .inl t_now_limits)), (A_t_now_stricts, .inl (cy 1, 24, .inl t_now_stricts)), (A_t_now_upper, .inl (cy 1, 24, .inl t_now_upper))] := hD.sub [0, 1, 2, 3, 4, 5, 6, 7] (by decide) rfl
      refine lv_lstore (lv' := [(5, .long r4), (3, .long r3), (0, .ref A_t), (1, .int x1), (2, .int x2)]) hx hb dX7_fixed_45 hl (by decide) rfl (fun ls hl => ?_)
      refine lv_lload_n hx hb dX7_fixed_47 rfl (lv_at hl 1 rfl) ?_
      refine lv_lload hx hb dX7_fixed_48 (lv_at hl 0 rfl) ?_
      refine vp_callSi (W.runS (As := [.long r3, .long r4]) (rest := []) CF (c_X7_sumToNothing l r3 r4 _ h) (va_cwS 2 hts gX7_fixed_X7_sumToNothing rfl rfl rfl qX7_sumToNothing.2 ⟨Nat.le_of_ble_eq_true rfl, Nat.le_of_ble_eq_true rfl⟩) mpSN rfl rfl hl.1 rfl (lv_room (Nat.le_of_ble_eq_true rfl)) dX7_fixed_50 ⟨Nat.zero_le _, Nat.zero_le _⟩) (fun r5 h => ?_)
      refine lv_if_eq (tgt := 60) hx hb dX7_fixed_53 (by decide) (fun hc => ?_) (fun hc => ?_)
      · replace h := h.1 hc
        refine lv_iconst (v := 0) hx hb dX7_fixed_60 (by decide) ?_
        subst hQ
        subst hAe
        exact W.iret (v := (0 : Int32)) hx hb hr (fun t ht _ => ⟨⟨(0 : Int32), t_rows_least_v4, rfl, h, by rw [ht]; exact hP, hD⟩, hS.F ht⟩) hS.2.2 dX7_fixed_61
      · replace h := h.2 hc
        refine lv_iconst (v := 1) hx hb dX7_fixed_56 (by decide) ?_
        refine lv_goto (tgt := 61) hx hb dX7_fixed_57 (by decide) ?_
        subst hQ
        subst hAe
        exact W.iret (v := (1 : Int32)) hx hb hr (fun t ht _ => ⟨⟨(1 : Int32), t_rows_least_v4, rfl, h, by rw [ht]; exact hP, hD⟩, hS.F ht⟩) hS.2.2 dX7_fixed_61
    · replace h := h.2 hc
      refine lv_iconst (v := -1) hx hb dX7_fixed_14 (by decide) ?_
      subst hQ
      subst hAe
      exact W.iret (v := (-1 : Int32)) hx hb hr (fun t ht _ => ⟨⟨(-1 : Int32), t_rows_least, rfl, h, by rw [ht]; exact hP, hD⟩, hS.F ht⟩) hS.2.2 dX7_fixed_15
theorem qX7_high : yX7_high.cls = RX7 ∧ yX7_high.cls ≠ "java/lang/invoke/MethodHandle" ∧ yX7_high.cls ≠ "java/lang/invoke/VarHandle" ∧ (parseMethodDescriptor yX7_high.desc).map (fun d => d.parameters.length) = some 2 := by decide +kernel
def P_X7_high (post : Int64 → (Nat → Int64) → Prop) (t_now_size : Int32) (t_now_wholeness : Int32) (t_rows_least : Nat → Int64) (t_now_lower : Nat → Int32) (t_now_limits : Nat → Int32) (t_now_stricts : Nat → Int32) (t_now_upper : Nat → Int32) (x1 : Int32) (x2 : Int32) : Prop :=
  P_X7_isThing (fun (r1 : Int32) => ((r1 = 0 → post (-1 : Int64) t_rows_least) ∧ (¬ r1 = 0 → P_X7_isBit (fun (r2 : Int32) => ((¬ r2 = 0 → P_X2_highOf (fun (r3 : Int64) (t_rows_least_v3 : Nat → Int64) => ((¬ x2 = 0 → P_X7_edgesOf (fun (r4 : Int64) => post r4 t_rows_least_v3) r3) ∧ (x2 = 0 → P_X7_amountOf (fun (r5 : Int64) => post r5 t_rows_least_v3) r3))) t_now_size t_now_wholeness t_rows_least t_now_lower t_now_limits t_now_stricts t_now_upper x1) ∧ (r2 = 0 → post (-1 : Int64) t_rows_least))) x2))) x1
set_option maxHeartbeats 4000000 in
set_option maxRecDepth 100000 in
theorem c_X7_high (l : Launch) (D : va_G) (cy : Nat → ClassId) (sz : Nat) (A_t A_t_tape A_t_now A_t_images A_t_imageMade A_t_sheets A_t_rows A_t_clash A_t_span A_t_reader A_t_now_upper A_t_now_lower A_t_now_limits A_t_now_stricts A_t_now_marks A_t_rows_least A_t_rows_table : Nat) (t_latestTorn : Int32) (t_now_size : Int32) (t_now_marked : Int32) (t_now_wholeness : Int32) (t_rows_least : Nat → Int64) (t_now_lower : Nat → Int32) (t_now_limits : Nat → Int32) (t_now_stricts : Nat → Int32) (t_now_upper : Nat → Int32) (x1 : Int32) (x2 : Int32) (post : Int64 → (Nat → Int64) → Prop) (h : P_X7_high post t_now_size t_now_wholeness t_rows_least t_now_lower t_now_limits t_now_stricts t_now_upper x1 x2) : Met l yX7_high wsX7_high { frames := 4, cells := 0, slots := 0, locals := 97 } (pcW D cy [(A_t, .inr (7, [.ref A_t_tape, .ref A_t_now, .ref A_t_images, .ref A_t_imageMade, .ref A_t_sheets, .ref A_t_rows, .ref A_t_clash, .ref A_t_span, .ref A_t_reader, .int t_latestTorn])), (A_t_now, .inr (5, [.ref A_t_now_upper, .ref A_t_now_lower, .ref A_t_now_limits, .ref A_t_now_stricts, .ref A_t_now_marks, .int t_now_size, .int t_now_marked, .int t_now_wholeness])), (A_t_rows, .inr (2, [.ref A_t_rows_least, .ref A_t_rows_table])), (A_t_rows_least, .inl (cy 2, 10, .inr (.inl t_rows_least))), (A_t_now_lower, .inl (cy 1, 24, .inl t_now_lower)), (A_t_now_limits, .inl (cy 1, 24, .inl t_now_limits)), (A_t_now_stricts, .inl (cy 1, 24, .inl t_now_stricts)), (A_t_now_upper, .inl (cy 1, 24, .inl t_now_upper))] sz [.ref A_t, .int x1, .int x2]) (va_Ql (fun r (u : (Nat → Int64)) => post r u) (bW D [(A_t, .inr (7, [.ref A_t_tape, .ref A_t_now, .ref A_t_images, .ref A_t_imageMade, .ref A_t_sheets, .ref A_t_rows, .ref A_t_clash, .ref A_t_span, .ref A_t_reader, .int t_latestTorn])), (A_t_now, .inr (5, [.ref A_t_now_upper, .ref A_t_now_lower, .ref A_t_now_limits, .ref A_t_now_stricts, .ref A_t_now_marks, .int t_now_size, .int t_now_marked, .int t_now_wholeness])), (A_t_rows, .inr (2, [.ref A_t_rows_least, .ref A_t_rows_table])), (A_t_rows_least, .inl (cy 2, 10, .inr (.inl t_rows_least))), (A_t_now_lower, .inl (cy 1, 24, .inl t_now_lower)), (A_t_now_limits, .inl (cy 1, 24, .inl t_now_limits)), (A_t_now_stricts, .inl (cy 1, 24, .inl t_now_stricts)), (A_t_now_upper, .inl (cy 1, 24, .inl t_now_upper))] sz (fun u => [(A_t, .inr (7, [.ref A_t_tape, .ref A_t_now, .ref A_t_images, .ref A_t_imageMade, .ref A_t_sheets, .ref A_t_rows, .ref A_t_clash, .ref A_t_span, .ref A_t_reader, .int t_latestTorn])), (A_t_now, .inr (5, [.ref A_t_now_upper, .ref A_t_now_lower, .ref A_t_now_limits, .ref A_t_now_stricts, .ref A_t_now_marks, .int t_now_size, .int t_now_marked, .int t_now_wholeness])), (A_t_rows, .inr (2, [.ref A_t_rows_least, .ref A_t_rows_table])), (A_t_rows_least, .inl (cy 2, 10, .inr (.inl u))), (A_t_now_lower, .inl (cy 1, 24, .inl t_now_lower)), (A_t_now_limits, .inl (cy 1, 24, .inl t_now_limits)), (A_t_now_stricts, .inl (cy 1, 24, .inl t_now_stricts)), (A_t_now_upper, .inl (cy 1, 24, .inl t_now_upper))])) (va_A [(A_t, .inr (7, [.ref A_t_tape, .ref A_t_now, .ref A_t_images, .ref A_t_imageMade, .ref A_t_sheets, .ref A_t_rows, .ref A_t_clash, .ref A_t_span, .ref A_t_reader, .int t_latestTorn])), (A_t_now, .inr (5, [.ref A_t_now_upper, .ref A_t_now_lower, .ref A_t_now_limits, .ref A_t_now_stricts, .ref A_t_now_marks, .int t_now_size, .int t_now_marked, .int t_now_wholeness])), (A_t_rows, .inr (2, [.ref A_t_rows_least, .ref A_t_rows_table])), (A_t_rows_least, .inl (cy 2, 10, .inr (.inl t_rows_least))), (A_t_now_lower, .inl (cy 1, 24, .inl t_now_lower)), (A_t_now_limits, .inl (cy 1, 24, .inl t_now_limits)), (A_t_now_stricts, .inl (cy 1, 24, .inl t_now_stricts)), (A_t_now_upper, .inl (cy 1, 24, .inl t_now_upper))] sz)) 0 0 (va_A [(A_t, .inr (7, [.ref A_t_tape, .ref A_t_now, .ref A_t_images, .ref A_t_imageMade, .ref A_t_sheets, .ref A_t_rows, .ref A_t_clash, .ref A_t_span, .ref A_t_reader, .int t_latestTorn])), (A_t_now, .inr (5, [.ref A_t_now_upper, .ref A_t_now_lower, .ref A_t_now_limits, .ref A_t_now_stricts, .ref A_t_now_marks, .int t_now_size, .int t_now_marked, .int t_now_wholeness])), (A_t_rows, .inr (2, [.ref A_t_rows_least, .ref A_t_rows_table])), (A_t_rows_least, .inl (cy 2, 10, .inr (.inl t_rows_least))), (A_t_now_lower, .inl (cy 1, 24, .inl t_now_lower)), (A_t_now_limits, .inl (cy 1, 24, .inl t_now_limits)), (A_t_now_stricts, .inl (cy 1, 24, .inl t_now_stricts)), (A_t_now_upper, .inl (cy 1, 24, .inl t_now_upper))] sz) := by
  refine Met.ofW (cc := cX7_high) (maxL := 5) (ret := (some .long)) (by decide) rfl ?_
  intro p e s m args below meth c s₁ B hml hv
  obtain ⟨rfl, hsz, hP, hK, hD0⟩ := hv
  have hx := B.exec
  have hb := B.bytes
  have hr := B.returns
  have hts := atoms_spec (ws := wsX7_high) B.pre
  have hown : s.vm.findClass RX7 = some m.cls := findClass_of_methodNamed B.named
  have hlocks := B.notSynchronized
  have CF : CallFix p m c cX7_high 5 s ([.ref A_t, .int x1, .int x2] : List Value).toArray wsX7_high RX7 := ⟨hx, hb, hml, hown, hts⟩
  have f0 := hts (.constantLong RX7 211 (-1)) (by decide +kernel)
  have f1 := hts (.fieldLink RX7 34 "GapBounds" "rows" "LGapBounds$Rows;") (by decide +kernel)
  have f2 := hts (.fieldLink RX7 10 "GapBounds" "now" "LGapBounds$Store;") (by decide +kernel)
  have iX7 : ∀ w ∈ u_ws RX7 TX7 10, w ∈ wsX7_high := by decide +kernel
  subst hsz
  obtain ⟨A, hAe⟩ : ∃ A, A = va_A [(A_t, .inr (7, [.ref A_t_tape, .ref A_t_now, .ref A_t_images, .ref A_t_imageMade, .ref A_t_sheets, .ref A_t_rows, .ref A_t_clash, .ref A_t_span, .ref A_t_reader, .int t_latestTorn])), (A_t_now, .inr (5, [.ref A_t_now_upper, .ref A_t_now_lower, .ref A_t_now_limits, .ref A_t_now_stricts, .ref A_t_now_marks, .int t_now_size, .int t_now_marked, .int t_now_wholeness])), (A_t_rows, .inr (2, [.ref A_t_rows_least, .ref A_t_rows_table])), (A_t_rows_least, .inl (cy 2, 10, .inr (.inl t_rows_least))), (A_t_now_lower, .inl (cy 1, 24, .inl t_now_lower)), (A_t_now_limits, .inl (cy 1, 24, .inl t_now_limits)), (A_t_now_stricts, .inl (cy 1, 24, .inl t_now_stricts)), (A_t_now_upper, .inl (cy 1, 24, .inl t_now_upper))] s.heap.size := ⟨_, rfl⟩
  have hD : va_D A [(A_t, .inr (7, [.ref A_t_tape, .ref A_t_now, .ref A_t_images, .ref A_t_imageMade, .ref A_t_sheets, .ref A_t_rows, .ref A_t_clash, .ref A_t_span, .ref A_t_reader, .int t_latestTorn])), (A_t_now, .inr (5, [.ref A_t_now_upper, .ref A_t_now_lower, .ref A_t_now_limits, .ref A_t_now_stricts, .ref A_t_now_marks, .int t_now_size, .int t_now_marked, .int t_now_wholeness])), (A_t_rows, .inr (2, [.ref A_t_rows_least, .ref A_t_rows_table])), (A_t_rows_least, .inl (cy 2, 10, .inr (.inl t_rows_least))), (A_t_now_lower, .inl (cy 1, 24, .inl t_now_lower)), (A_t_now_limits, .inl (cy 1, 24, .inl t_now_limits)), (A_t_now_stricts, .inl (cy 1, 24, .inl t_now_stricts)), (A_t_now_upper, .inl (cy 1, 24, .inl t_now_upper))] := by rw [hAe]; exact hD0.self
  have hA : ∀ q : Nat, s.heap.size ≤ q → A q := fun q hq => by rw [hAe]; exact Or.inr hq
  have hS : va_S A s.heap s.heap [] := va_S.rf
  have hl := lv_entry [.ref A_t, .int x1, .int x2] (n := 5) (Nat.le_of_ble_eq_true rfl)
  rw [lg_entry_eq]
  generalize (lg_sl [.ref A_t, .int x1, .int x2] ++ List.replicate (5 - (lg_sl [.ref A_t, .int x1, .int x2]).length) Slot.unset).toArray = ls at hl ⊢
  have hl : lv_has ls 5 [(0, .ref A_t), (1, .int x1), (2, .int x2)] := hl
  refine W.gen (fun Q0 hQ => ?_)
  unfold P_X7_high at h
  refine lv_iload_n hx hb dX7_high_0 rfl (lv_at hl 1 rfl) ?_
  refine vp_callSi (W.runS (As := [.int x1]) (rest := []) CF (c_X7_isThing l x1 _ h) (va_cwS 1 hts gX7_high_X7_isThing rfl rfl rfl qX7_isThing.2 ⟨Nat.le_of_ble_eq_true rfl, Nat.le_of_ble_eq_true rfl⟩) mpSN rfl rfl hl.1 rfl (lv_room (Nat.le_of_ble_eq_true rfl)) dX7_high_1 ⟨Nat.zero_le _, Nat.zero_le _⟩) (fun r1 h => ?_)
  refine lv_if_eq (tgt := 14) hx hb dX7_high_4 (by decide) (fun hc => ?_) (fun hc => ?_)
  · replace h := h.1 hc
    refine lv_ldc2 (v := -1) hx hb hown f0 dX7_high_14 ?_
    subst hQ
    subst hAe
    exact W.lret (v := (-1 : Int64)) hx hb hr (fun t ht _ => ⟨⟨(-1 : Int64), t_rows_least, rfl, h, by rw [ht]; exact hP, hD⟩, hS.F ht⟩) hS.2.2 dX7_high_17
  · replace h := h.2 hc
    refine lv_iload_n hx hb dX7_high_7 rfl (lv_at hl 2 rfl) ?_
    refine vp_callSi (W.runS (As := [.int x2]) (rest := []) CF (c_X7_isBit l x2 _ h) (va_cwS 1 hts gX7_high_X7_isBit rfl rfl rfl qX7_isBit.2 ⟨Nat.le_of_ble_eq_true rfl, Nat.le_of_ble_eq_true rfl⟩) mpSN rfl rfl hl.1 rfl (lv_room (Nat.le_of_ble_eq_true rfl)) dX7_high_8 ⟨Nat.zero_le _, Nat.zero_le _⟩) (fun r2 h => ?_)
    refine lv_if_ne (tgt := 18) hx hb dX7_high_11 (by decide) (fun hc => ?_) (fun hc => ?_)
    · replace h := h.1 hc
      refine lv_aload_n hx hb dX7_high_18 rfl (lv_at hl 0 rfl) ?_
      refine va_get (D := D) (ci := 7) (v := .ref A_t_rows) (C := RX7) (T := TX7) (N := 10) hx hb hts iX7 hown hK.1 hP 0 rfl rfl 5 (by decide) f1 (fun _ h9 => h9) rfl dX7_high_19 ?_
      refine lv_aload_n hx hb dX7_high_22 rfl (lv_at hl 0 rfl) ?_
      refine va_get (D := D) (ci := 7) (v := .ref A_t_now) (C := RX7) (T := TX7) (N := 10) hx hb hts iX7 hown hK.1 hP 0 rfl rfl 1 (by decide) f2 (fun _ h9 => h9) rfl dX7_high_23 ?_
      refine lv_iload_n hx hb dX7_high_26 rfl (lv_at hl 1 rfl) ?_
      have hPn : va_P D vwCl ([(A_t, .inr (7, [.ref A_t_tape, .ref A_t_now, .ref A_t_images, .ref A_t_imageMade, .ref A_t_sheets, .ref A_t_rows, .ref A_t_clash, .ref A_t_span, .ref A_t_reader, .int t_latestTorn]))] ++ [(A_t_now, .inr (5, [.ref A_t_now_upper, .ref A_t_now_lower, .ref A_t_now_limits, .ref A_t_now_stricts, .ref A_t_now_marks, .int t_now_size, .int t_now_marked, .int t_now_wholeness])), (A_t_rows, .inr (2, [.ref A_t_rows_least, .ref A_t_rows_table])), (A_t_rows_least, .inl (cy 2, 10, .inr (.inl t_rows_least))), (A_t_now_lower, .inl (cy 1, 24, .inl t_now_lower)), (A_t_now_limits, .inl (cy 1, 24, .inl t_now_limits)), (A_t_now_stricts, .inl (cy 1, 24, .inl t_now_stricts)), (A_t_now_upper, .inl (cy 1, 24, .inl t_now_upper))]) s.heap := hP.sub [0, 1, 2, 3, 4, 5, 6, 7] rfl
      have hDn : va_D A ([(A_t, .inr (7, [.ref A_t_tape, .ref A_t_now, .ref A_t_images, .ref A_t_imageMade, .ref A_t_sheets, .ref A_t_rows, .ref A_t_clash, .ref A_t_span, .ref A_t_reader, .int t_latestTorn]))] ++ [(A_t_now, .inr (5, [.ref A_t_now_upper, .ref A_t_now_lower, .ref A_t_now_limits, .ref A_t_now_stricts, .ref A_t_now_marks, .int t_now_size, .int t_now_marked, .int t_now_wholeness])), (A_t_rows, .inr (2, [.ref A_t_rows_least, .ref A_t_rows_table])), (A_t_rows_least, .inl (cy 2, 10, .inr (.inl t_rows_least))), (A_t_now_lower, .inl (cy 1, 24, .inl t_now_lower)), (A_t_now_limits, .inl (cy 1, 24, .inl t_now_limits)), (A_t_now_stricts, .inl (cy 1, 24, .inl t_now_stricts)), (A_t_now_upper, .inl (cy 1, 24, .inl t_now_upper))]) := hD.sub [0, 1, 2, 3, 4, 5, 6, 7] (by decide) rfl
      have hPc := gPR hPn
      have hDc := gDR hDn
      refine mw_l (va_runV (As := [.ref A_t_now, .int x1]) (rest := []) CF (c_X2_highOf l D cy s.heap.size A_t_now A_t_now_upper A_t_now_lower A_t_now_limits A_t_now_stricts A_t_now_marks A_t_rows A_t_rows_least A_t_rows_table t_now_size t_now_marked t_now_wholeness t_rows_least t_now_lower t_now_limits t_now_stricts t_now_upper x1 _ h) (cwV 2 hts gX7_high_X2_highOf rfl rfl rfl qX2_highOf ⟨Nat.le_of_ble_eq_true rfl, Nat.le_of_ble_eq_true rfl⟩) (mpVW hK hPc hDc (ci := 2) (q := (RX2, TX2, 2)) (q0 := 1) rfl rfl) rfl rfl hl.1 rfl (lv_room (Nat.le_of_ble_eq_true rfl)) dX7_high_27 ⟨Nat.zero_le _, Nat.zero_le _⟩) hPn hDn hS hA (fun r3 t_rows_least_v3 H locs h hP hD hS => ?_)
      have hP : va_P D vwCl [(A_t, .inr (7, [.ref A_t_tape, .ref A_t_now, .ref A_t_images, .ref A_t_imageMade, .ref A_t_sheets, .ref A_t_rows, .ref A_t_clash, .ref A_t_span, .ref A_t_reader, .int t_latestTorn])), (A_t_now, .inr (5, [.ref A_t_now_upper, .ref A_t_now_lower, .ref A_t_now_limits, .ref A_t_now_stricts, .ref A_t_now_marks, .int t_now_size, .int t_now_marked, .int t_now_wholeness])), (A_t_rows, .inr (2, [.ref A_t_rows_least, .ref A_t_rows_table])), (A_t_rows_least, .inl (cy 2, 10, .inr (.inl t_rows_least_v3))), (A_t_now_lower, .inl (cy 1, 24, .inl t_now_lower)), (A_t_now_limits, .inl (cy 1, 24, .inl t_now_limits)), (A_t_now_stricts, .inl (cy 1, 24, .inl t_now_stricts)), (A_t_now_upper, .inl (cy 1, 24, .inl t_now_upper))] H := hP.sub [0, 1, 2, 3, 4, 5, 6, 7] rfl
      have hD : va_D A [(A_t, .inr (7, [.ref A_t_tape, .ref A_t_now, .ref A_t_images, .ref A_t_imageMade, .ref A_t_sheets, .ref A_t_rows, .ref A_t_clash, .ref A_t_span, .ref A_t_reader, .int t_latestTorn])), (A_t_now, .inr (5, [.ref A_t_now_upper, .ref A_t_now_lower, .ref A_t_now_limits, .ref A_t_now_stricts, .ref A_t_now_marks, .int t_now_size, .int t_now_marked, .int t_now_wholeness])), (A_t_rows, .inr (2, [.ref A_t_rows_least, .ref A_t_rows_table])), (A_t_rows_least, .inl (cy 2, 10, .inr (.inl t_rows_least_v3))), (A_t_now_lower, .inl (cy 1, 24, .inl t_now_lower)), (A_t_now_limits, .inl (cy 1, 24, .inl t_now_limits)), (A_t_now_stricts, .inl (cy 1, 24, .inl t_now_stricts)), (A_t_now_upper, .inl (cy 1, 24, .inl t_now_upper))] := hD.sub [0, 1, 2, 3, 4, 5, 6, 7] (by decide) rfl
      refine lv_lstore_n (lv' := [(3, .long r3), (0, .ref A_t), (1, .int x1), (2, .int x2)]) hx hb dX7_high_30 rfl hl (by decide) rfl (fun ls hl => ?_)
      refine lv_iload_n hx hb dX7_high_31 rfl (lv_at hl 3 rfl) ?_
      refine lv_if_ne (tgt := 42) hx hb dX7_high_32 (by decide) (fun hc => ?_) (fun hc => ?_)
      · replace h := h.1 hc
        refine lv_lload_n hx hb dX7_high_42 rfl (lv_at hl 0 rfl) ?_
        refine vp_callSl (W.runS (As := [.long r3]) (rest := []) CF (c_X7_edgesOf l r3 _ h) (va_cwS 1 hts gX7_high_X7_edgesOf rfl rfl rfl qX7_edgesOf.2 ⟨Nat.le_of_ble_eq_true rfl, Nat.le_of_ble_eq_true rfl⟩) mpSN rfl rfl hl.1 rfl (lv_room (Nat.le_of_ble_eq_true rfl)) dX7_high_43 ⟨Nat.zero_le _, Nat.zero_le _⟩) (fun r4 h => ?_)
        subst hQ
        subst hAe
        exact W.lret (v := r4) hx hb hr (fun t ht _ => ⟨⟨r4, t_rows_least_v3, rfl, h, by rw [ht]; exact hP, hD⟩, hS.F ht⟩) hS.2.2 dX7_high_46
      · replace h := h.2 hc
        refine lv_lload_n hx hb dX7_high_35 rfl (lv_at hl 0 rfl) ?_
        refine vp_callSl (W.runS (As := [.long r3]) (rest := []) CF (c_X7_amountOf l r3 _ h) (va_cwS 1 hts gX7_high_X7_amountOf rfl rfl rfl qX7_amountOf.2 ⟨Nat.le_of_ble_eq_true rfl, Nat.le_of_ble_eq_true rfl⟩) mpSN rfl rfl hl.1 rfl (lv_room (Nat.le_of_ble_eq_true rfl)) dX7_high_36 ⟨Nat.zero_le _, Nat.zero_le _⟩) (fun r5 h => ?_)
        refine lv_goto (tgt := 46) hx hb dX7_high_39 (by decide) ?_
        subst hQ
        subst hAe
        exact W.lret (v := r5) hx hb hr (fun t ht _ => ⟨⟨r5, t_rows_least_v3, rfl, h, by rw [ht]; exact hP, hD⟩, hS.F ht⟩) hS.2.2 dX7_high_46
    · replace h := h.2 hc
      refine lv_ldc2 (v := -1) hx hb hown f0 dX7_high_14 ?_
      subst hQ
      subst hAe
      exact W.lret (v := (-1 : Int64)) hx hb hr (fun t ht _ => ⟨⟨(-1 : Int64), t_rows_least, rfl, h, by rw [ht]; exact hP, hD⟩, hS.F ht⟩) hS.2.2 dX7_high_17
theorem qX7_reach : yX7_reach.cls = RX7 ∧ yX7_reach.cls ≠ "java/lang/invoke/MethodHandle" ∧ yX7_reach.cls ≠ "java/lang/invoke/VarHandle" ∧ (parseMethodDescriptor yX7_reach.desc).map (fun d => d.parameters.length) = some 4 := by decide +kernel
def B_X7_reach_83 (post : Int64 → (Nat → Int64) → Prop) (t_rows_least : Nat → Int64) (l0 : Int64) (x3 : Int32) (x4 : Int32) (x5 : Int32) : Prop :=
  ((¬ l0 = (4611686018427387904 : Int64) → ((x4 < (2 : Int32) → ((x5 = 0 → P_X7_amountOf (fun (r4 : Int64) => post (x3.toInt64 - r4) t_rows_least) l0) ∧ (¬ x5 = 0 → P_X7_amountOf (fun (r5 : Int64) => post (x3.toInt64 + r5) t_rows_least) l0))) ∧ (¬ x4 < (2 : Int32) → P_X7_edgesOf (fun (r6 : Int64) => post r6 t_rows_least) l0))) ∧ (l0 = (4611686018427387904 : Int64) → post (1000000000000 : Int64) t_rows_least))
def B_X7_reach_45 (post : Int64 → (Nat → Int64) → Prop) (t_rows_least : Nat → Int64) (t_now_size : Int32) (t_now_wholeness : Int32) (t_now_lower : Nat → Int32) (t_now_limits : Nat → Int32) (t_now_stricts : Nat → Int32) (t_now_upper : Nat → Int32) (k0 : Int32) (x1 : Int32) (x2 : Int32) (x3 : Int32) (x4 : Int32) : Prop :=
  ((k0 = 0 → P_X2_between (fun (r3 : Int64) (t_rows_least_v3 : Nat → Int64) => B_X7_reach_83 post t_rows_least_v3 r3 x3 x4 k0) t_rows_least t_now_size t_now_wholeness t_now_lower t_now_limits t_now_stricts t_now_upper x1 x2 (-1 : Int32)) ∧ (¬ k0 = 0 → P_X2_between (fun (r7 : Int64) (t_rows_least_v7 : Nat → Int64) => B_X7_reach_83 post t_rows_least_v7 r7 x3 x4 k0) t_rows_least t_now_size t_now_wholeness t_now_lower t_now_limits t_now_stricts t_now_upper x2 x1 (-1 : Int32)))
def B_X7_reach_40 (post : Int64 → (Nat → Int64) → Prop) (t_rows_least : Nat → Int64) (t_now_size : Int32) (t_now_wholeness : Int32) (t_now_lower : Nat → Int32) (t_now_limits : Nat → Int32) (t_now_stricts : Nat → Int32) (t_now_upper : Nat → Int32) (x1 : Int32) (x2 : Int32) (x3 : Int32) (x4 : Int32) : Prop :=
  B_X7_reach_45 post t_rows_least t_now_size t_now_wholeness t_now_lower t_now_limits t_now_stricts t_now_upper (1 : Int32) x1 x2 x3 x4
def P_X7_reach (post : Int64 → (Nat → Int64) → Prop) (t_rows_least : Nat → Int64) (t_now_size : Int32) (t_now_wholeness : Int32) (t_now_lower : Nat → Int32) (t_now_limits : Nat → Int32) (t_now_stricts : Nat → Int32) (t_now_upper : Nat → Int32) (x1 : Int32) (x2 : Int32) (x3 : Int32) (x4 : Int32) : Prop :=
  P_X7_isThing (fun (r1 : Int32) => ((r1 = 0 → post (-1 : Int64) t_rows_least) ∧ (¬ r1 = 0 → P_X7_isThing (fun (r2 : Int32) => ((r2 = 0 → post (-1 : Int64) t_rows_least) ∧ (¬ r2 = 0 → ((x4 < 0 → post (-1 : Int64) t_rows_least) ∧ (¬ x4 < 0 → ((x4 ≤ (3 : Int32) → ((x4 = 0 → B_X7_reach_40 post t_rows_least t_now_size t_now_wholeness t_now_lower t_now_limits t_now_stricts t_now_upper x1 x2 x3 x4) ∧ (¬ x4 = 0 → ((¬ x4 = (2 : Int32) → B_X7_reach_45 post t_rows_least t_now_size t_now_wholeness t_now_lower t_now_limits t_now_stricts t_now_upper (0 : Int32) x1 x2 x3 x4) ∧ (x4 = (2 : Int32) → B_X7_reach_40 post t_rows_least t_now_size t_now_wholeness t_now_lower t_now_limits t_now_stricts t_now_upper x1 x2 x3 x4))))) ∧ (¬ x4 ≤ (3 : Int32) → post (-1 : Int64) t_rows_least))))))) x2))) x1
set_option maxHeartbeats 4000000 in
set_option maxRecDepth 100000 in
theorem c_X7_reach (l : Launch) (D : va_G) (cy : Nat → ClassId) (sz : Nat) (A_t A_t_tape A_t_now A_t_images A_t_imageMade A_t_sheets A_t_rows A_t_clash A_t_span A_t_reader A_t_rows_least A_t_rows_table A_t_now_upper A_t_now_lower A_t_now_limits A_t_now_stricts A_t_now_marks : Nat) (t_latestTorn : Int32) (t_rows_least : Nat → Int64) (t_now_size : Int32) (t_now_marked : Int32) (t_now_wholeness : Int32) (t_now_lower : Nat → Int32) (t_now_limits : Nat → Int32) (t_now_stricts : Nat → Int32) (t_now_upper : Nat → Int32) (x1 : Int32) (x2 : Int32) (x3 : Int32) (x4 : Int32) (post : Int64 → (Nat → Int64) → Prop) (h : P_X7_reach post t_rows_least t_now_size t_now_wholeness t_now_lower t_now_limits t_now_stricts t_now_upper x1 x2 x3 x4) : Met l yX7_reach wsX7_reach { frames := 3, cells := 0, slots := 0, locals := 77 } (pcW D cy [(A_t, .inr (7, [.ref A_t_tape, .ref A_t_now, .ref A_t_images, .ref A_t_imageMade, .ref A_t_sheets, .ref A_t_rows, .ref A_t_clash, .ref A_t_span, .ref A_t_reader, .int t_latestTorn])), (A_t_rows, .inr (2, [.ref A_t_rows_least, .ref A_t_rows_table])), (A_t_rows_least, .inl (cy 2, 10, .inr (.inl t_rows_least))), (A_t_now, .inr (5, [.ref A_t_now_upper, .ref A_t_now_lower, .ref A_t_now_limits, .ref A_t_now_stricts, .ref A_t_now_marks, .int t_now_size, .int t_now_marked, .int t_now_wholeness])), (A_t_now_lower, .inl (cy 1, 24, .inl t_now_lower)), (A_t_now_limits, .inl (cy 1, 24, .inl t_now_limits)), (A_t_now_stricts, .inl (cy 1, 24, .inl t_now_stricts)), (A_t_now_upper, .inl (cy 1, 24, .inl t_now_upper))] sz [.ref A_t, .int x1, .int x2, .int x3, .int x4]) (va_Ql (fun r (u : (Nat → Int64)) => post r u) (bW D [(A_t, .inr (7, [.ref A_t_tape, .ref A_t_now, .ref A_t_images, .ref A_t_imageMade, .ref A_t_sheets, .ref A_t_rows, .ref A_t_clash, .ref A_t_span, .ref A_t_reader, .int t_latestTorn])), (A_t_rows, .inr (2, [.ref A_t_rows_least, .ref A_t_rows_table])), (A_t_rows_least, .inl (cy 2, 10, .inr (.inl t_rows_least))), (A_t_now, .inr (5, [.ref A_t_now_upper, .ref A_t_now_lower, .ref A_t_now_limits, .ref A_t_now_stricts, .ref A_t_now_marks, .int t_now_size, .int t_now_marked, .int t_now_wholeness])), (A_t_now_lower, .inl (cy 1, 24, .inl t_now_lower)), (A_t_now_limits, .inl (cy 1, 24, .inl t_now_limits)), (A_t_now_stricts, .inl (cy 1, 24, .inl t_now_stricts)), (A_t_now_upper, .inl (cy 1, 24, .inl t_now_upper))] sz (fun u => [(A_t, .inr (7, [.ref A_t_tape, .ref A_t_now, .ref A_t_images, .ref A_t_imageMade, .ref A_t_sheets, .ref A_t_rows, .ref A_t_clash, .ref A_t_span, .ref A_t_reader, .int t_latestTorn])), (A_t_rows, .inr (2, [.ref A_t_rows_least, .ref A_t_rows_table])), (A_t_rows_least, .inl (cy 2, 10, .inr (.inl u))), (A_t_now, .inr (5, [.ref A_t_now_upper, .ref A_t_now_lower, .ref A_t_now_limits, .ref A_t_now_stricts, .ref A_t_now_marks, .int t_now_size, .int t_now_marked, .int t_now_wholeness])), (A_t_now_lower, .inl (cy 1, 24, .inl t_now_lower)), (A_t_now_limits, .inl (cy 1, 24, .inl t_now_limits)), (A_t_now_stricts, .inl (cy 1, 24, .inl t_now_stricts)), (A_t_now_upper, .inl (cy 1, 24, .inl t_now_upper))])) (va_A [(A_t, .inr (7, [.ref A_t_tape, .ref A_t_now, .ref A_t_images, .ref A_t_imageMade, .ref A_t_sheets, .ref A_t_rows, .ref A_t_clash, .ref A_t_span, .ref A_t_reader, .int t_latestTorn])), (A_t_rows, .inr (2, [.ref A_t_rows_least, .ref A_t_rows_table])), (A_t_rows_least, .inl (cy 2, 10, .inr (.inl t_rows_least))), (A_t_now, .inr (5, [.ref A_t_now_upper, .ref A_t_now_lower, .ref A_t_now_limits, .ref A_t_now_stricts, .ref A_t_now_marks, .int t_now_size, .int t_now_marked, .int t_now_wholeness])), (A_t_now_lower, .inl (cy 1, 24, .inl t_now_lower)), (A_t_now_limits, .inl (cy 1, 24, .inl t_now_limits)), (A_t_now_stricts, .inl (cy 1, 24, .inl t_now_stricts)), (A_t_now_upper, .inl (cy 1, 24, .inl t_now_upper))] sz)) 0 0 (va_A [(A_t, .inr (7, [.ref A_t_tape, .ref A_t_now, .ref A_t_images, .ref A_t_imageMade, .ref A_t_sheets, .ref A_t_rows, .ref A_t_clash, .ref A_t_span, .ref A_t_reader, .int t_latestTorn])), (A_t_rows, .inr (2, [.ref A_t_rows_least, .ref A_t_rows_table])), (A_t_rows_least, .inl (cy 2, 10, .inr (.inl t_rows_least))), (A_t_now, .inr (5, [.ref A_t_now_upper, .ref A_t_now_lower, .ref A_t_now_limits, .ref A_t_now_stricts, .ref A_t_now_marks, .int t_now_size, .int t_now_marked, .int t_now_wholeness])), (A_t_now_lower, .inl (cy 1, 24, .inl t_now_lower)), (A_t_now_limits, .inl (cy 1, 24, .inl t_now_limits)), (A_t_now_stricts, .inl (cy 1, 24, .inl t_now_stricts)), (A_t_now_upper, .inl (cy 1, 24, .inl t_now_upper))] sz) := by
  refine Met.ofW (cc := cX7_reach) (maxL := 8) (ret := (some .long)) (by decide) rfl ?_
  intro p e s m args below meth c s₁ B hml hv
  obtain ⟨rfl, hsz, hP, hK, hD0⟩ := hv
  have hx := B.exec
  have hb := B.bytes
  have hr := B.returns
  have hts := atoms_spec (ws := wsX7_reach) B.pre
  have hown : s.vm.findClass RX7 = some m.cls := findClass_of_methodNamed B.named
  have hlocks := B.notSynchronized
  have CF : CallFix p m c cX7_reach 8 s ([.ref A_t, .int x1, .int x2, .int x3, .int x4] : List Value).toArray wsX7_reach RX7 := ⟨hx, hb, hml, hown, hts⟩
  have f0 := hts (.constantLong RX7 211 (-1)) (by decide +kernel)
  have f1 := hts (.fieldLink RX7 34 "GapBounds" "rows" "LGapBounds$Rows;") (by decide +kernel)
  have f2 := hts (.fieldLink RX7 10 "GapBounds" "now" "LGapBounds$Store;") (by decide +kernel)
  have f3 := hts (.constantLong RX7 156 (4611686018427387904)) (by decide +kernel)
  have f4 := hts (.constantLong RX7 150 (1000000000000)) (by decide +kernel)
  have iX7 : ∀ w ∈ u_ws RX7 TX7 10, w ∈ wsX7_reach := by decide +kernel
  subst hsz
  obtain ⟨A, hAe⟩ : ∃ A, A = va_A [(A_t, .inr (7, [.ref A_t_tape, .ref A_t_now, .ref A_t_images, .ref A_t_imageMade, .ref A_t_sheets, .ref A_t_rows, .ref A_t_clash, .ref A_t_span, .ref A_t_reader, .int t_latestTorn])), (A_t_rows, .inr (2, [.ref A_t_rows_least, .ref A_t_rows_table])), (A_t_rows_least, .inl (cy 2, 10, .inr (.inl t_rows_least))), (A_t_now, .inr (5, [.ref A_t_now_upper, .ref A_t_now_lower, .ref A_t_now_limits, .ref A_t_now_stricts, .ref A_t_now_marks, .int t_now_size, .int t_now_marked, .int t_now_wholeness])), (A_t_now_lower, .inl (cy 1, 24, .inl t_now_lower)), (A_t_now_limits, .inl (cy 1, 24, .inl t_now_limits)), (A_t_now_stricts, .inl (cy 1, 24, .inl t_now_stricts)), (A_t_now_upper, .inl (cy 1, 24, .inl t_now_upper))] s.heap.size := ⟨_, rfl⟩
  have hD : va_D A [(A_t, .inr (7, [.ref A_t_tape, .ref A_t_now, .ref A_t_images, .ref A_t_imageMade, .ref A_t_sheets, .ref A_t_rows, .ref A_t_clash, .ref A_t_span, .ref A_t_reader, .int t_latestTorn])), (A_t_rows, .inr (2, [.ref A_t_rows_least, .ref A_t_rows_table])), (A_t_rows_least, .inl (cy 2, 10, .inr (.inl t_rows_least))), (A_t_now, .inr (5, [.ref A_t_now_upper, .ref A_t_now_lower, .ref A_t_now_limits, .ref A_t_now_stricts, .ref A_t_now_marks, .int t_now_size, .int t_now_marked, .int t_now_wholeness])), (A_t_now_lower, .inl (cy 1, 24, .inl t_now_lower)), (A_t_now_limits, .inl (cy 1, 24, .inl t_now_limits)), (A_t_now_stricts, .inl (cy 1, 24, .inl t_now_stricts)), (A_t_now_upper, .inl (cy 1, 24, .inl t_now_upper))] := by rw [hAe]; exact hD0.self
  have hA : ∀ q : Nat, s.heap.size ≤ q → A q := fun q hq => by rw [hAe]; exact Or.inr hq
  have hS : va_S A s.heap s.heap [] := va_S.rf
  have hl := lv_entry [.ref A_t, .int x1, .int x2, .int x3, .int x4] (n := 8) (Nat.le_of_ble_eq_true rfl)
  rw [lg_entry_eq]
  generalize (lg_sl [.ref A_t, .int x1, .int x2, .int x3, .int x4] ++ List.replicate (8 - (lg_sl [.ref A_t, .int x1, .int x2, .int x3, .int x4]).length) Slot.unset).toArray = ls at hl ⊢
  have hl : lv_has ls 8 [(0, .ref A_t), (1, .int x1), (2, .int x2), (3, .int x3), (4, .int x4)] := hl
  refine W.gen (fun Q0 hQ => ?_)
  have J83 : ∀ (t_rows_least : Nat → Int64) (x5 : Int32) (l0 : Int64) (H : Heap) (locs : List Loc) (ls : Array Slot), B_X7_reach_83 post t_rows_least l0 x3 x4 x5 → va_P D vwCl [(A_t, .inr (7, [.ref A_t_tape, .ref A_t_now, .ref A_t_images, .ref A_t_imageMade, .ref A_t_sheets, .ref A_t_rows, .ref A_t_clash, .ref A_t_span, .ref A_t_reader, .int t_latestTorn])), (A_t_rows, .inr (2, [.ref A_t_rows_least, .ref A_t_rows_table])), (A_t_rows_least, .inl (cy 2, 10, .inr (.inl t_rows_least))), (A_t_now, .inr (5, [.ref A_t_now_upper, .ref A_t_now_lower, .ref A_t_now_limits, .ref A_t_now_stricts, .ref A_t_now_marks, .int t_now_size, .int t_now_marked, .int t_now_wholeness])), (A_t_now_lower, .inl (cy 1, 24, .inl t_now_lower)), (A_t_now_limits, .inl (cy 1, 24, .inl t_now_limits)), (A_t_now_stricts, .inl (cy 1, 24, .inl t_now_stricts)), (A_t_now_upper, .inl (cy 1, 24, .inl t_now_upper))] H → va_D A [(A_t, .inr (7, [.ref A_t_tape, .ref A_t_now, .ref A_t_images, .ref A_t_imageMade, .ref A_t_sheets, .ref A_t_rows, .ref A_t_clash, .ref A_t_span, .ref A_t_reader, .int t_latestTorn])), (A_t_rows, .inr (2, [.ref A_t_rows_least, .ref A_t_rows_table])), (A_t_rows_least, .inl (cy 2, 10, .inr (.inl t_rows_least))), (A_t_now, .inr (5, [.ref A_t_now_upper, .ref A_t_now_lower, .ref A_t_now_limits, .ref A_t_now_stricts, .ref A_t_now_marks, .int t_now_size, .int t_now_marked, .int t_now_wholeness])), (A_t_now_lower, .inl (cy 1, 24, .inl t_now_lower)), (A_t_now_limits, .inl (cy 1, 24, .inl t_now_limits)), (A_t_now_stricts, .inl (cy 1, 24, .inl t_now_stricts)), (A_t_now_upper, .inl (cy 1, 24, .inl t_now_upper))] → va_S A s.heap H locs → lv_has ls 8 [(3, .int x3), (4, .int x4), (5, .int x5)] → W p l e (headSpec wsX7_reach { frames := 3, cells := 0, slots := 0, locals := 77 }).room s m ([.ref A_t, .int x1, .int x2, .int x3, .int x4] : List Value).toArray below meth c H locs 0 0 Q0 (F0 m 83 ls [.long l0]) := by
    intro t_rows_least x5 l0 H locs ls h hP hD hS hl
    unfold B_X7_reach_83 at h
    refine lv_lstore (lv' := [(6, .long l0), (3, .int x3), (4, .int x4), (5, .int x5)]) hx hb dX7_reach_83 hl (by decide) rfl (fun ls hl => ?_)
    refine lv_lload hx hb dX7_reach_85 (lv_at hl 0 rfl) ?_
    refine lv_ldc2 (v := 4611686018427387904) hx hb hown f3 dX7_reach_87 ?_
    refine lx_ne (tgt := 98) hx hb dX7_reach_90 dX7_reach_91 (by decide) (fun hc => ?_) (fun hc => ?_)
    · replace h := h.1 hc
      refine lv_iload hx hb dX7_reach_98 (lv_at hl 2 rfl) ?_
      refine lv_iconst (v := 2) hx hb dX7_reach_100 (by decide) ?_
      refine lv_icmp_lt (tgt := 110) hx hb dX7_reach_101 (by decide) (fun hc => ?_) (fun hc => ?_)
      · replace h := h.1 hc
        refine lv_iload hx hb dX7_reach_110 (lv_at hl 3 rfl) ?_
        refine lv_if_eq (tgt := 126) hx hb dX7_reach_112 (by decide) (fun hc => ?_) (fun hc => ?_)
        · replace h := h.1 hc
          refine lv_iload_n hx hb dX7_reach_126 rfl (lv_at hl 1 rfl) ?_
          refine lv_i2l (v := x3.toInt64) hx hb dX7_reach_127 rfl ?_
          refine lv_lload hx hb dX7_reach_128 (lv_at hl 0 rfl) ?_
          refine vp_callSl (W.runS (As := [.long l0]) (rest := [.long x3.toInt64]) CF (c_X7_amountOf l l0 _ h) (va_cwS 1 hts gX7_reach_X7_amountOf rfl rfl rfl qX7_amountOf.2 ⟨Nat.le_of_ble_eq_true rfl, Nat.le_of_ble_eq_true rfl⟩) mpSN rfl rfl hl.1 rfl (lv_room (Nat.le_of_ble_eq_true rfl)) dX7_reach_130 ⟨Nat.zero_le _, Nat.zero_le _⟩) (fun r4 h => ?_)
          refine lv_lsub hx hb dX7_reach_133 ?_
          subst hQ
          subst hAe
          exact W.lret (v := x3.toInt64 - r4) hx hb hr (fun t ht _ => ⟨⟨x3.toInt64 - r4, t_rows_least, rfl, h, by rw [ht]; exact hP, hD⟩, hS.F ht⟩) hS.2.2 dX7_reach_134
        · replace h := h.2 hc
          refine lv_iload_n hx hb dX7_reach_115 rfl (lv_at hl 1 rfl) ?_
          refine lv_i2l (v := x3.toInt64) hx hb dX7_reach_116 rfl ?_
          refine lv_lload hx hb dX7_reach_117 (lv_at hl 0 rfl) ?_
          refine vp_callSl (W.runS (As := [.long l0]) (rest := [.long x3.toInt64]) CF (c_X7_amountOf l l0 _ h) (va_cwS 1 hts gX7_reach_X7_amountOf rfl rfl rfl qX7_amountOf.2 ⟨Nat.le_of_ble_eq_true rfl, Nat.le_of_ble_eq_true rfl⟩) mpSN rfl rfl hl.1 rfl (lv_room (Nat.le_of_ble_eq_true rfl)) dX7_reach_119 ⟨Nat.zero_le _, Nat.zero_le _⟩) (fun r5 h => ?_)
          refine lv_ladd hx hb dX7_reach_122 ?_
          refine lv_goto (tgt := 134) hx hb dX7_reach_123 (by decide) ?_
          subst hQ
          subst hAe
          exact W.lret (v := x3.toInt64 + r5) hx hb hr (fun t ht _ => ⟨⟨x3.toInt64 + r5, t_rows_least, rfl, h, by rw [ht]; exact hP, hD⟩, hS.F ht⟩) hS.2.2 dX7_reach_134
      · replace h := h.2 hc
        refine lv_lload hx hb dX7_reach_104 (lv_at hl 0 rfl) ?_
        refine vp_callSl (W.runS (As := [.long l0]) (rest := []) CF (c_X7_edgesOf l l0 _ h) (va_cwS 1 hts gX7_reach_X7_edgesOf rfl rfl rfl qX7_edgesOf.2 ⟨Nat.le_of_ble_eq_true rfl, Nat.le_of_ble_eq_true rfl⟩) mpSN rfl rfl hl.1 rfl (lv_room (Nat.le_of_ble_eq_true rfl)) dX7_reach_106 ⟨Nat.zero_le _, Nat.zero_le _⟩) (fun r6 h => ?_)
        subst hQ
        subst hAe
        exact W.lret (v := r6) hx hb hr (fun t ht _ => ⟨⟨r6, t_rows_least, rfl, h, by rw [ht]; exact hP, hD⟩, hS.F ht⟩) hS.2.2 dX7_reach_109
    · replace h := h.2 hc
      refine lv_ldc2 (v := 1000000000000) hx hb hown f4 dX7_reach_94 ?_
      subst hQ
      subst hAe
      exact W.lret (v := (1000000000000 : Int64)) hx hb hr (fun t ht _ => ⟨⟨(1000000000000 : Int64), t_rows_least, rfl, h, by rw [ht]; exact hP, hD⟩, hS.F ht⟩) hS.2.2 dX7_reach_97
  have J45 : ∀ (t_rows_least : Nat → Int64) (k0 : Int32) (H : Heap) (locs : List Loc) (ls : Array Slot), B_X7_reach_45 post t_rows_least t_now_size t_now_wholeness t_now_lower t_now_limits t_now_stricts t_now_upper k0 x1 x2 x3 x4 → va_P D vwCl [(A_t, .inr (7, [.ref A_t_tape, .ref A_t_now, .ref A_t_images, .ref A_t_imageMade, .ref A_t_sheets, .ref A_t_rows, .ref A_t_clash, .ref A_t_span, .ref A_t_reader, .int t_latestTorn])), (A_t_rows, .inr (2, [.ref A_t_rows_least, .ref A_t_rows_table])), (A_t_rows_least, .inl (cy 2, 10, .inr (.inl t_rows_least))), (A_t_now, .inr (5, [.ref A_t_now_upper, .ref A_t_now_lower, .ref A_t_now_limits, .ref A_t_now_stricts, .ref A_t_now_marks, .int t_now_size, .int t_now_marked, .int t_now_wholeness])), (A_t_now_lower, .inl (cy 1, 24, .inl t_now_lower)), (A_t_now_limits, .inl (cy 1, 24, .inl t_now_limits)), (A_t_now_stricts, .inl (cy 1, 24, .inl t_now_stricts)), (A_t_now_upper, .inl (cy 1, 24, .inl t_now_upper))] H → va_D A [(A_t, .inr (7, [.ref A_t_tape, .ref A_t_now, .ref A_t_images, .ref A_t_imageMade, .ref A_t_sheets, .ref A_t_rows, .ref A_t_clash, .ref A_t_span, .ref A_t_reader, .int t_latestTorn])), (A_t_rows, .inr (2, [.ref A_t_rows_least, .ref A_t_rows_table])), (A_t_rows_least, .inl (cy 2, 10, .inr (.inl t_rows_least))), (A_t_now, .inr (5, [.ref A_t_now_upper, .ref A_t_now_lower, .ref A_t_now_limits, .ref A_t_now_stricts, .ref A_t_now_marks, .int t_now_size, .int t_now_marked, .int t_now_wholeness])), (A_t_now_lower, .inl (cy 1, 24, .inl t_now_lower)), (A_t_now_limits, .inl (cy 1, 24, .inl t_now_limits)), (A_t_now_stricts, .inl (cy 1, 24, .inl t_now_stricts)), (A_t_now_upper, .inl (cy 1, 24, .inl t_now_upper))] → va_S A s.heap H locs → lv_has ls 8 [(0, .ref A_t), (1, .int x1), (2, .int x2), (3, .int x3), (4, .int x4)] → W p l e (headSpec wsX7_reach { frames := 3, cells := 0, slots := 0, locals := 77 }).room s m ([.ref A_t, .int x1, .int x2, .int x3, .int x4] : List Value).toArray below meth c H locs 0 0 Q0 (F0 m 45 ls [.int k0]) := by
    intro t_rows_least k0 H locs ls h hP hD hS hl
    unfold B_X7_reach_45 at h
    refine lv_istore (lv' := [(5, .int k0), (0, .ref A_t), (1, .int x1), (2, .int x2), (3, .int x3), (4, .int x4)]) hx hb dX7_reach_45 hl (by decide) rfl (fun ls hl => ?_)
    refine lv_iload hx hb dX7_reach_47 (lv_at hl 0 rfl) ?_
    refine lv_if_eq (tgt := 69) hx hb dX7_reach_49 (by decide) (fun hc => ?_) (fun hc => ?_)
    · replace h := h.1 hc
      refine lv_aload_n hx hb dX7_reach_69 rfl (lv_at hl 1 rfl) ?_
      refine va_get (D := D) (ci := 7) (v := .ref A_t_rows) (C := RX7) (T := TX7) (N := 10) hx hb hts iX7 hown hK.1 hP 0 rfl rfl 5 (by decide) f1 (fun _ h9 => h9) rfl dX7_reach_70 ?_
      refine lv_aload_n hx hb dX7_reach_73 rfl (lv_at hl 1 rfl) ?_
      refine va_get (D := D) (ci := 7) (v := .ref A_t_now) (C := RX7) (T := TX7) (N := 10) hx hb hts iX7 hown hK.1 hP 0 rfl rfl 1 (by decide) f2 (fun _ h9 => h9) rfl dX7_reach_74 ?_
      refine lv_iload_n hx hb dX7_reach_77 rfl (lv_at hl 2 rfl) ?_
      refine lv_iload_n hx hb dX7_reach_78 rfl (lv_at hl 3 rfl) ?_
      refine lv_iconst (v := -1) hx hb dX7_reach_79 (by decide) ?_
      have hPn : va_P D vwCl ([(A_t, .inr (7, [.ref A_t_tape, .ref A_t_now, .ref A_t_images, .ref A_t_imageMade, .ref A_t_sheets, .ref A_t_rows, .ref A_t_clash, .ref A_t_span, .ref A_t_reader, .int t_latestTorn]))] ++ [(A_t_rows, .inr (2, [.ref A_t_rows_least, .ref A_t_rows_table])), (A_t_rows_least, .inl (cy 2, 10, .inr (.inl t_rows_least))), (A_t_now, .inr (5, [.ref A_t_now_upper, .ref A_t_now_lower, .ref A_t_now_limits, .ref A_t_now_stricts, .ref A_t_now_marks, .int t_now_size, .int t_now_marked, .int t_now_wholeness])), (A_t_now_lower, .inl (cy 1, 24, .inl t_now_lower)), (A_t_now_limits, .inl (cy 1, 24, .inl t_now_limits)), (A_t_now_stricts, .inl (cy 1, 24, .inl t_now_stricts)), (A_t_now_upper, .inl (cy 1, 24, .inl t_now_upper))]) H := hP.sub [0, 1, 2, 3, 4, 5, 6, 7] rfl
      have hDn : va_D A ([(A_t, .inr (7, [.ref A_t_tape, .ref A_t_now, .ref A_t_images, .ref A_t_imageMade, .ref A_t_sheets, .ref A_t_rows, .ref A_t_clash, .ref A_t_span, .ref A_t_reader, .int t_latestTorn]))] ++ [(A_t_rows, .inr (2, [.ref A_t_rows_least, .ref A_t_rows_table])), (A_t_rows_least, .inl (cy 2, 10, .inr (.inl t_rows_least))), (A_t_now, .inr (5, [.ref A_t_now_upper, .ref A_t_now_lower, .ref A_t_now_limits, .ref A_t_now_stricts, .ref A_t_now_marks, .int t_now_size, .int t_now_marked, .int t_now_wholeness])), (A_t_now_lower, .inl (cy 1, 24, .inl t_now_lower)), (A_t_now_limits, .inl (cy 1, 24, .inl t_now_limits)), (A_t_now_stricts, .inl (cy 1, 24, .inl t_now_stricts)), (A_t_now_upper, .inl (cy 1, 24, .inl t_now_upper))]) := hD.sub [0, 1, 2, 3, 4, 5, 6, 7] (by decide) rfl
      have hPc := gPR hPn
      have hDc := gDR hDn
      refine mw_l (va_runV (As := [.ref A_t_now, .int x1, .int x2, .int (-1 : Int32)]) (rest := []) CF (c_X2_between l D cy H.size A_t_rows A_t_rows_least A_t_rows_table A_t_now A_t_now_upper A_t_now_lower A_t_now_limits A_t_now_stricts A_t_now_marks t_rows_least t_now_size t_now_marked t_now_wholeness t_now_lower t_now_limits t_now_stricts t_now_upper x1 x2 (-1 : Int32) _ h) (cwV 4 hts gX7_reach_X2_between rfl rfl rfl qX2_between ⟨Nat.le_of_ble_eq_true rfl, Nat.le_of_ble_eq_true rfl⟩) (mpVW hK hPc hDc (ci := 2) (q := (RX2, TX2, 2)) (q0 := 0) rfl rfl) rfl rfl hl.1 rfl (lv_room (Nat.le_of_ble_eq_true rfl)) dX7_reach_80 ⟨Nat.zero_le _, Nat.zero_le _⟩) hPn hDn hS hA (fun r3 t_rows_least_v3 H locs h hP hD hS => ?_)
      have hP : va_P D vwCl [(A_t, .inr (7, [.ref A_t_tape, .ref A_t_now, .ref A_t_images, .ref A_t_imageMade, .ref A_t_sheets, .ref A_t_rows, .ref A_t_clash, .ref A_t_span, .ref A_t_reader, .int t_latestTorn])), (A_t_rows, .inr (2, [.ref A_t_rows_least, .ref A_t_rows_table])), (A_t_rows_least, .inl (cy 2, 10, .inr (.inl t_rows_least_v3))), (A_t_now, .inr (5, [.ref A_t_now_upper, .ref A_t_now_lower, .ref A_t_now_limits, .ref A_t_now_stricts, .ref A_t_now_marks, .int t_now_size, .int t_now_marked, .int t_now_wholeness])), (A_t_now_lower, .inl (cy 1, 24, .inl t_now_lower)), (A_t_now_limits, .inl (cy 1, 24, .inl t_now_limits)), (A_t_now_stricts, .inl (cy 1, 24, .inl t_now_stricts)), (A_t_now_upper, .inl (cy 1, 24, .inl t_now_upper))] H := hP.sub [0, 1, 2, 3, 4, 5, 6, 7] rfl
      have hD : va_D A [(A_t, .inr (7, [.ref A_t_tape, .ref A_t_now, .ref A_t_images, .ref A_t_imageMade, .ref A_t_sheets, .ref A_t_rows, .ref A_t_clash, .ref A_t_span, .ref A_t_reader, .int t_latestTorn])), (A_t_rows, .inr (2, [.ref A_t_rows_least, .ref A_t_rows_table])), (A_t_rows_least, .inl (cy 2, 10, .inr (.inl t_rows_least_v3))), (A_t_now, .inr (5, [.ref A_t_now_upper, .ref A_t_now_lower, .ref A_t_now_limits, .ref A_t_now_stricts, .ref A_t_now_marks, .int t_now_size, .int t_now_marked, .int t_now_wholeness])), (A_t_now_lower, .inl (cy 1, 24, .inl t_now_lower)), (A_t_now_limits, .inl (cy 1, 24, .inl t_now_limits)), (A_t_now_stricts, .inl (cy 1, 24, .inl t_now_stricts)), (A_t_now_upper, .inl (cy 1, 24, .inl t_now_upper))] := hD.sub [0, 1, 2, 3, 4, 5, 6, 7] (by decide) rfl
      exact J83 t_rows_least_v3 k0 r3 H locs ls h hP hD hS (lv_sub hl [4, 5, 0] rfl)
    · replace h := h.2 hc
      refine lv_aload_n hx hb dX7_reach_52 rfl (lv_at hl 1 rfl) ?_
      refine va_get (D := D) (ci := 7) (v := .ref A_t_rows) (C := RX7) (T := TX7) (N := 10) hx hb hts iX7 hown hK.1 hP 0 rfl rfl 5 (by decide) f1 (fun _ h9 => h9) rfl dX7_reach_53 ?_
      refine lv_aload_n hx hb dX7_reach_56 rfl (lv_at hl 1 rfl) ?_
      refine va_get (D := D) (ci := 7) (v := .ref A_t_now) (C := RX7) (T := TX7) (N := 10) hx hb hts iX7 hown hK.1 hP 0 rfl rfl 1 (by decide) f2 (fun _ h9 => h9) rfl dX7_reach_57 ?_
      refine lv_iload_n hx hb dX7_reach_60 rfl (lv_at hl 3 rfl) ?_
      refine lv_iload_n hx hb dX7_reach_61 rfl (lv_at hl 2 rfl) ?_
      refine lv_iconst (v := -1) hx hb dX7_reach_62 (by decide) ?_
      have hPn : va_P D vwCl ([(A_t, .inr (7, [.ref A_t_tape, .ref A_t_now, .ref A_t_images, .ref A_t_imageMade, .ref A_t_sheets, .ref A_t_rows, .ref A_t_clash, .ref A_t_span, .ref A_t_reader, .int t_latestTorn]))] ++ [(A_t_rows, .inr (2, [.ref A_t_rows_least, .ref A_t_rows_table])), (A_t_rows_least, .inl (cy 2, 10, .inr (.inl t_rows_least))), (A_t_now, .inr (5, [.ref A_t_now_upper, .ref A_t_now_lower, .ref A_t_now_limits, .ref A_t_now_stricts, .ref A_t_now_marks, .int t_now_size, .int t_now_marked, .int t_now_wholeness])), (A_t_now_lower, .inl (cy 1, 24, .inl t_now_lower)), (A_t_now_limits, .inl (cy 1, 24, .inl t_now_limits)), (A_t_now_stricts, .inl (cy 1, 24, .inl t_now_stricts)), (A_t_now_upper, .inl (cy 1, 24, .inl t_now_upper))]) H := hP.sub [0, 1, 2, 3, 4, 5, 6, 7] rfl
      have hDn : va_D A ([(A_t, .inr (7, [.ref A_t_tape, .ref A_t_now, .ref A_t_images, .ref A_t_imageMade, .ref A_t_sheets, .ref A_t_rows, .ref A_t_clash, .ref A_t_span, .ref A_t_reader, .int t_latestTorn]))] ++ [(A_t_rows, .inr (2, [.ref A_t_rows_least, .ref A_t_rows_table])), (A_t_rows_least, .inl (cy 2, 10, .inr (.inl t_rows_least))), (A_t_now, .inr (5, [.ref A_t_now_upper, .ref A_t_now_lower, .ref A_t_now_limits, .ref A_t_now_stricts, .ref A_t_now_marks, .int t_now_size, .int t_now_marked, .int t_now_wholeness])), (A_t_now_lower, .inl (cy 1, 24, .inl t_now_lower)), (A_t_now_limits, .inl (cy 1, 24, .inl t_now_limits)), (A_t_now_stricts, .inl (cy 1, 24, .inl t_now_stricts)), (A_t_now_upper, .inl (cy 1, 24, .inl t_now_upper))]) := hD.sub [0, 1, 2, 3, 4, 5, 6, 7] (by decide) rfl
      have hPc := gPR hPn
      have hDc := gDR hDn
      refine mw_l (va_runV (As := [.ref A_t_now, .int x2, .int x1, .int (-1 : Int32)]) (rest := []) CF (c_X2_between l D cy H.size A_t_rows A_t_rows_least A_t_rows_table A_t_now A_t_now_upper A_t_now_lower A_t_now_limits A_t_now_stricts A_t_now_marks t_rows_least t_now_size t_now_marked t_now_wholeness t_now_lower t_now_limits t_now_stricts t_now_upper x2 x1 (-1 : Int32) _ h) (cwV 4 hts gX7_reach_X2_between rfl rfl rfl qX2_between ⟨Nat.le_of_ble_eq_true rfl, Nat.le_of_ble_eq_true rfl⟩) (mpVW hK hPc hDc (ci := 2) (q := (RX2, TX2, 2)) (q0 := 0) rfl rfl) rfl rfl hl.1 rfl (lv_room (Nat.le_of_ble_eq_true rfl)) dX7_reach_63 ⟨Nat.zero_le _, Nat.zero_le _⟩) hPn hDn hS hA (fun r7 t_rows_least_v7 H locs h hP hD hS => ?_)
      have hP : va_P D vwCl [(A_t, .inr (7, [.ref A_t_tape, .ref A_t_now, .ref A_t_images, .ref A_t_imageMade, .ref A_t_sheets, .ref A_t_rows, .ref A_t_clash, .ref A_t_span, .ref A_t_reader, .int t_latestTorn])), (A_t_rows, .inr (2, [.ref A_t_rows_least, .ref A_t_rows_table])), (A_t_rows_least, .inl (cy 2, 10, .inr (.inl t_rows_least_v7))), (A_t_now, .inr (5, [.ref A_t_now_upper, .ref A_t_now_lower, .ref A_t_now_limits, .ref A_t_now_stricts, .ref A_t_now_marks, .int t_now_size, .int t_now_marked, .int t_now_wholeness])), (A_t_now_lower, .inl (cy 1, 24, .inl t_now_lower)), (A_t_now_limits, .inl (cy 1, 24, .inl t_now_limits)), (A_t_now_stricts, .inl (cy 1, 24, .inl t_now_stricts)), (A_t_now_upper, .inl (cy 1, 24, .inl t_now_upper))] H := hP.sub [0, 1, 2, 3, 4, 5, 6, 7] rfl
      have hD : va_D A [(A_t, .inr (7, [.ref A_t_tape, .ref A_t_now, .ref A_t_images, .ref A_t_imageMade, .ref A_t_sheets, .ref A_t_rows, .ref A_t_clash, .ref A_t_span, .ref A_t_reader, .int t_latestTorn])), (A_t_rows, .inr (2, [.ref A_t_rows_least, .ref A_t_rows_table])), (A_t_rows_least, .inl (cy 2, 10, .inr (.inl t_rows_least_v7))), (A_t_now, .inr (5, [.ref A_t_now_upper, .ref A_t_now_lower, .ref A_t_now_limits, .ref A_t_now_stricts, .ref A_t_now_marks, .int t_now_size, .int t_now_marked, .int t_now_wholeness])), (A_t_now_lower, .inl (cy 1, 24, .inl t_now_lower)), (A_t_now_limits, .inl (cy 1, 24, .inl t_now_limits)), (A_t_now_stricts, .inl (cy 1, 24, .inl t_now_stricts)), (A_t_now_upper, .inl (cy 1, 24, .inl t_now_upper))] := hD.sub [0, 1, 2, 3, 4, 5, 6, 7] (by decide) rfl
      refine lv_goto (tgt := 83) hx hb dX7_reach_66 (by decide) ?_
      exact J83 t_rows_least_v7 k0 r7 H locs ls h hP hD hS (lv_sub hl [4, 5, 0] rfl)
  have J40 : ∀ (t_rows_least : Nat → Int64) (H : Heap) (locs : List Loc) (ls : Array Slot), B_X7_reach_40 post t_rows_least t_now_size t_now_wholeness t_now_lower t_now_limits t_now_stricts t_now_upper x1 x2 x3 x4 → va_P D vwCl [(A_t, .inr (7, [.ref A_t_tape, .ref A_t_now, .ref A_t_images, .ref A_t_imageMade, .ref A_t_sheets, .ref A_t_rows, .ref A_t_clash, .ref A_t_span, .ref A_t_reader, .int t_latestTorn])), (A_t_rows, .inr (2, [.ref A_t_rows_least, .ref A_t_rows_table])), (A_t_rows_least, .inl (cy 2, 10, .inr (.inl t_rows_least))), (A_t_now, .inr (5, [.ref A_t_now_upper, .ref A_t_now_lower, .ref A_t_now_limits, .ref A_t_now_stricts, .ref A_t_now_marks, .int t_now_size, .int t_now_marked, .int t_now_wholeness])), (A_t_now_lower, .inl (cy 1, 24, .inl t_now_lower)), (A_t_now_limits, .inl (cy 1, 24, .inl t_now_limits)), (A_t_now_stricts, .inl (cy 1, 24, .inl t_now_stricts)), (A_t_now_upper, .inl (cy 1, 24, .inl t_now_upper))] H → va_D A [(A_t, .inr (7, [.ref A_t_tape, .ref A_t_now, .ref A_t_images, .ref A_t_imageMade, .ref A_t_sheets, .ref A_t_rows, .ref A_t_clash, .ref A_t_span, .ref A_t_reader, .int t_latestTorn])), (A_t_rows, .inr (2, [.ref A_t_rows_least, .ref A_t_rows_table])), (A_t_rows_least, .inl (cy 2, 10, .inr (.inl t_rows_least))), (A_t_now, .inr (5, [.ref A_t_now_upper, .ref A_t_now_lower, .ref A_t_now_limits, .ref A_t_now_stricts, .ref A_t_now_marks, .int t_now_size, .int t_now_marked, .int t_now_wholeness])), (A_t_now_lower, .inl (cy 1, 24, .inl t_now_lower)), (A_t_now_limits, .inl (cy 1, 24, .inl t_now_limits)), (A_t_now_stricts, .inl (cy 1, 24, .inl t_now_stricts)), (A_t_now_upper, .inl (cy 1, 24, .inl t_now_upper))] → va_S A s.heap H locs → lv_has ls 8 [(0, .ref A_t), (1, .int x1), (2, .int x2), (3, .int x3), (4, .int x4)] → W p l e (headSpec wsX7_reach { frames := 3, cells := 0, slots := 0, locals := 77 }).room s m ([.ref A_t, .int x1, .int x2, .int x3, .int x4] : List Value).toArray below meth c H locs 0 0 Q0 (F0 m 40 ls []) := by
    intro t_rows_least H locs ls h hP hD hS hl
    unfold B_X7_reach_40 at h
    refine lv_iconst (v := 1) hx hb dX7_reach_40 (by decide) ?_
    refine lv_goto (tgt := 45) hx hb dX7_reach_41 (by decide) ?_
    exact J45 t_rows_least (1 : Int32) H locs ls h hP hD hS (lv_sub hl [0, 1, 2, 3, 4] rfl)
  unfold P_X7_reach at h
  refine lv_iload_n hx hb dX7_reach_0 rfl (lv_at hl 1 rfl) ?_
  refine vp_callSi (W.runS (As := [.int x1]) (rest := []) CF (c_X7_isThing l x1 _ h) (va_cwS 1 hts gX7_reach_X7_isThing rfl rfl rfl qX7_isThing.2 ⟨Nat.le_of_ble_eq_true rfl, Nat.le_of_ble_eq_true rfl⟩) mpSN rfl rfl hl.1 rfl (lv_room (Nat.le_of_ble_eq_true rfl)) dX7_reach_1 ⟨Nat.zero_le _, Nat.zero_le _⟩) (fun r1 h => ?_)
  refine lv_if_eq (tgt := 25) hx hb dX7_reach_4 (by decide) (fun hc => ?_) (fun hc => ?_)
  · replace h := h.1 hc
    refine lv_ldc2 (v := -1) hx hb hown f0 dX7_reach_25 ?_
    subst hQ
    subst hAe
    exact W.lret (v := (-1 : Int64)) hx hb hr (fun t ht _ => ⟨⟨(-1 : Int64), t_rows_least, rfl, h, by rw [ht]; exact hP, hD⟩, hS.F ht⟩) hS.2.2 dX7_reach_28
  · replace h := h.2 hc
    refine lv_iload_n hx hb dX7_reach_7 rfl (lv_at hl 2 rfl) ?_
    refine vp_callSi (W.runS (As := [.int x2]) (rest := []) CF (c_X7_isThing l x2 _ h) (va_cwS 1 hts gX7_reach_X7_isThing rfl rfl rfl qX7_isThing.2 ⟨Nat.le_of_ble_eq_true rfl, Nat.le_of_ble_eq_true rfl⟩) mpSN rfl rfl hl.1 rfl (lv_room (Nat.le_of_ble_eq_true rfl)) dX7_reach_8 ⟨Nat.zero_le _, Nat.zero_le _⟩) (fun r2 h => ?_)
    refine lv_if_eq (tgt := 25) hx hb dX7_reach_11 (by decide) (fun hc => ?_) (fun hc => ?_)
    · replace h := h.1 hc
      refine lv_ldc2 (v := -1) hx hb hown f0 dX7_reach_25 ?_
      subst hQ
      subst hAe
      exact W.lret (v := (-1 : Int64)) hx hb hr (fun t ht _ => ⟨⟨(-1 : Int64), t_rows_least, rfl, h, by rw [ht]; exact hP, hD⟩, hS.F ht⟩) hS.2.2 dX7_reach_28
    · replace h := h.2 hc
      refine lv_iload hx hb dX7_reach_14 (lv_at hl 4 rfl) ?_
      refine lv_if_lt (tgt := 25) hx hb dX7_reach_16 (by decide) (fun hc => ?_) (fun hc => ?_)
      · replace h := h.1 hc
        refine lv_ldc2 (v := -1) hx hb hown f0 dX7_reach_25 ?_
        subst hQ
        subst hAe
        exact W.lret (v := (-1 : Int64)) hx hb hr (fun t ht _ => ⟨⟨(-1 : Int64), t_rows_least, rfl, h, by rw [ht]; exact hP, hD⟩, hS.F ht⟩) hS.2.2 dX7_reach_28
      · replace h := h.2 hc
        refine lv_iload hx hb dX7_reach_19 (lv_at hl 4 rfl) ?_
        refine lv_iconst (v := 3) hx hb dX7_reach_21 (by decide) ?_
        refine lv_icmp_le (tgt := 29) hx hb dX7_reach_22 (by decide) (fun hc => ?_) (fun hc => ?_)
        · replace h := h.1 hc
          refine lv_iload hx hb dX7_reach_29 (lv_at hl 4 rfl) ?_
          refine lv_if_eq (tgt := 40) hx hb dX7_reach_31 (by decide) (fun hc => ?_) (fun hc => ?_)
          · replace h := h.1 hc
            exact J40 t_rows_least s.heap [] ls h hP hD hS (lv_sub hl [0, 1, 2, 3, 4] rfl)
          · replace h := h.2 hc
            refine lv_iload hx hb dX7_reach_34 (lv_at hl 4 rfl) ?_
            refine lv_iconst (v := 2) hx hb dX7_reach_36 (by decide) ?_
            refine lv_icmp_ne (tgt := 44) hx hb dX7_reach_37 (by decide) (fun hc => ?_) (fun hc => ?_)
            · replace h := h.1 hc
              refine lv_iconst (v := 0) hx hb dX7_reach_44 (by decide) ?_
              exact J45 t_rows_least (0 : Int32) s.heap [] ls h hP hD hS (lv_sub hl [0, 1, 2, 3, 4] rfl)
            · replace h := h.2 hc
              exact J40 t_rows_least s.heap [] ls h hP hD hS (lv_sub hl [0, 1, 2, 3, 4] rfl)
        · replace h := h.2 hc
          refine lv_ldc2 (v := -1) hx hb hown f0 dX7_reach_25 ?_
          subst hQ
          subst hAe
          exact W.lret (v := (-1 : Int64)) hx hb hr (fun t ht _ => ⟨⟨(-1 : Int64), t_rows_least, rfl, h, by rw [ht]; exact hP, hD⟩, hS.F ht⟩) hS.2.2 dX7_reach_28
theorem qX7_room : yX7_room.cls = RX7 ∧ yX7_room.cls ≠ "java/lang/invoke/MethodHandle" ∧ yX7_room.cls ≠ "java/lang/invoke/VarHandle" ∧ (parseMethodDescriptor yX7_room.desc).map (fun d => d.parameters.length) = some 3 := by decide +kernel
def P_X7_room (post : Int64 → (Nat → Int64) → Prop) (t_rows_least : Nat → Int64) (t_now_size : Int32) (t_now_wholeness : Int32) (t_now_lower : Nat → Int32) (t_now_limits : Nat → Int32) (t_now_stricts : Nat → Int32) (t_now_upper : Nat → Int32) (x1 : Int32) (x2 : Int32) (x3 : Int32) : Prop :=
  P_X7_arePair (fun (r1 : Int32) => ((r1 = 0 → post (-1 : Int64) t_rows_least) ∧ (¬ r1 = 0 → P_X7_isBit (fun (r2 : Int32) => ((¬ r2 = 0 → P_X2_between (fun (r3 : Int64) (t_rows_least_v3 : Nat → Int64) => ((¬ r3 = (4611686018427387904 : Int64) → ((¬ x3 = 0 → P_X7_edgesOf (fun (r4 : Int64) => ((r4 ≤ (0 : Int64) → post (0 : Int64) t_rows_least_v3) ∧ (¬ r4 ≤ (0 : Int64) → post (1 : Int64) t_rows_least_v3))) r3) ∧ (x3 = 0 → P_X7_amountOf (fun (r5 : Int64) => post (-r5) t_rows_least_v3) r3))) ∧ (r3 = (4611686018427387904 : Int64) → post (1000000000000 : Int64) t_rows_least_v3))) t_rows_least t_now_size t_now_wholeness t_now_lower t_now_limits t_now_stricts t_now_upper x1 x2 (-1 : Int32)) ∧ (r2 = 0 → post (-1 : Int64) t_rows_least))) x3))) x1 x2
set_option maxHeartbeats 4000000 in
set_option maxRecDepth 100000 in
theorem c_X7_room (l : Launch) (D : va_G) (cy : Nat → ClassId) (sz : Nat) (A_t A_t_tape A_t_now A_t_images A_t_imageMade A_t_sheets A_t_rows A_t_clash A_t_span A_t_reader A_t_rows_least A_t_rows_table A_t_now_upper A_t_now_lower A_t_now_limits A_t_now_stricts A_t_now_marks : Nat) (t_latestTorn : Int32) (t_rows_least : Nat → Int64) (t_now_size : Int32) (t_now_marked : Int32) (t_now_wholeness : Int32) (t_now_lower : Nat → Int32) (t_now_limits : Nat → Int32) (t_now_stricts : Nat → Int32) (t_now_upper : Nat → Int32) (x1 : Int32) (x2 : Int32) (x3 : Int32) (post : Int64 → (Nat → Int64) → Prop) (h : P_X7_room post t_rows_least t_now_size t_now_wholeness t_now_lower t_now_limits t_now_stricts t_now_upper x1 x2 x3) : Met l yX7_room wsX7_room { frames := 3, cells := 0, slots := 0, locals := 77 } (pcW D cy [(A_t, .inr (7, [.ref A_t_tape, .ref A_t_now, .ref A_t_images, .ref A_t_imageMade, .ref A_t_sheets, .ref A_t_rows, .ref A_t_clash, .ref A_t_span, .ref A_t_reader, .int t_latestTorn])), (A_t_rows, .inr (2, [.ref A_t_rows_least, .ref A_t_rows_table])), (A_t_rows_least, .inl (cy 2, 10, .inr (.inl t_rows_least))), (A_t_now, .inr (5, [.ref A_t_now_upper, .ref A_t_now_lower, .ref A_t_now_limits, .ref A_t_now_stricts, .ref A_t_now_marks, .int t_now_size, .int t_now_marked, .int t_now_wholeness])), (A_t_now_lower, .inl (cy 1, 24, .inl t_now_lower)), (A_t_now_limits, .inl (cy 1, 24, .inl t_now_limits)), (A_t_now_stricts, .inl (cy 1, 24, .inl t_now_stricts)), (A_t_now_upper, .inl (cy 1, 24, .inl t_now_upper))] sz [.ref A_t, .int x1, .int x2, .int x3]) (va_Ql (fun r (u : (Nat → Int64)) => post r u) (bW D [(A_t, .inr (7, [.ref A_t_tape, .ref A_t_now, .ref A_t_images, .ref A_t_imageMade, .ref A_t_sheets, .ref A_t_rows, .ref A_t_clash, .ref A_t_span, .ref A_t_reader, .int t_latestTorn])), (A_t_rows, .inr (2, [.ref A_t_rows_least, .ref A_t_rows_table])), (A_t_rows_least, .inl (cy 2, 10, .inr (.inl t_rows_least))), (A_t_now, .inr (5, [.ref A_t_now_upper, .ref A_t_now_lower, .ref A_t_now_limits, .ref A_t_now_stricts, .ref A_t_now_marks, .int t_now_size, .int t_now_marked, .int t_now_wholeness])), (A_t_now_lower, .inl (cy 1, 24, .inl t_now_lower)), (A_t_now_limits, .inl (cy 1, 24, .inl t_now_limits)), (A_t_now_stricts, .inl (cy 1, 24, .inl t_now_stricts)), (A_t_now_upper, .inl (cy 1, 24, .inl t_now_upper))] sz (fun u => [(A_t, .inr (7, [.ref A_t_tape, .ref A_t_now, .ref A_t_images, .ref A_t_imageMade, .ref A_t_sheets, .ref A_t_rows, .ref A_t_clash, .ref A_t_span, .ref A_t_reader, .int t_latestTorn])), (A_t_rows, .inr (2, [.ref A_t_rows_least, .ref A_t_rows_table])), (A_t_rows_least, .inl (cy 2, 10, .inr (.inl u))), (A_t_now, .inr (5, [.ref A_t_now_upper, .ref A_t_now_lower, .ref A_t_now_limits, .ref A_t_now_stricts, .ref A_t_now_marks, .int t_now_size, .int t_now_marked, .int t_now_wholeness])), (A_t_now_lower, .inl (cy 1, 24, .inl t_now_lower)), (A_t_now_limits, .inl (cy 1, 24, .inl t_now_limits)), (A_t_now_stricts, .inl (cy 1, 24, .inl t_now_stricts)), (A_t_now_upper, .inl (cy 1, 24, .inl t_now_upper))])) (va_A [(A_t, .inr (7, [.ref A_t_tape, .ref A_t_now, .ref A_t_images, .ref A_t_imageMade, .ref A_t_sheets, .ref A_t_rows, .ref A_t_clash, .ref A_t_span, .ref A_t_reader, .int t_latestTorn])), (A_t_rows, .inr (2, [.ref A_t_rows_least, .ref A_t_rows_table])), (A_t_rows_least, .inl (cy 2, 10, .inr (.inl t_rows_least))), (A_t_now, .inr (5, [.ref A_t_now_upper, .ref A_t_now_lower, .ref A_t_now_limits, .ref A_t_now_stricts, .ref A_t_now_marks, .int t_now_size, .int t_now_marked, .int t_now_wholeness])), (A_t_now_lower, .inl (cy 1, 24, .inl t_now_lower)), (A_t_now_limits, .inl (cy 1, 24, .inl t_now_limits)), (A_t_now_stricts, .inl (cy 1, 24, .inl t_now_stricts)), (A_t_now_upper, .inl (cy 1, 24, .inl t_now_upper))] sz)) 0 0 (va_A [(A_t, .inr (7, [.ref A_t_tape, .ref A_t_now, .ref A_t_images, .ref A_t_imageMade, .ref A_t_sheets, .ref A_t_rows, .ref A_t_clash, .ref A_t_span, .ref A_t_reader, .int t_latestTorn])), (A_t_rows, .inr (2, [.ref A_t_rows_least, .ref A_t_rows_table])), (A_t_rows_least, .inl (cy 2, 10, .inr (.inl t_rows_least))), (A_t_now, .inr (5, [.ref A_t_now_upper, .ref A_t_now_lower, .ref A_t_now_limits, .ref A_t_now_stricts, .ref A_t_now_marks, .int t_now_size, .int t_now_marked, .int t_now_wholeness])), (A_t_now_lower, .inl (cy 1, 24, .inl t_now_lower)), (A_t_now_limits, .inl (cy 1, 24, .inl t_now_limits)), (A_t_now_stricts, .inl (cy 1, 24, .inl t_now_stricts)), (A_t_now_upper, .inl (cy 1, 24, .inl t_now_upper))] sz) := by
  refine Met.ofW (cc := cX7_room) (maxL := 6) (ret := (some .long)) (by decide) rfl ?_
  intro p e s m args below meth c s₁ B hml hv
  obtain ⟨rfl, hsz, hP, hK, hD0⟩ := hv
  have hx := B.exec
  have hb := B.bytes
  have hr := B.returns
  have hts := atoms_spec (ws := wsX7_room) B.pre
  have hown : s.vm.findClass RX7 = some m.cls := findClass_of_methodNamed B.named
  have hlocks := B.notSynchronized
  have CF : CallFix p m c cX7_room 6 s ([.ref A_t, .int x1, .int x2, .int x3] : List Value).toArray wsX7_room RX7 := ⟨hx, hb, hml, hown, hts⟩
  have f0 := hts (.constantLong RX7 211 (-1)) (by decide +kernel)
  have f1 := hts (.fieldLink RX7 34 "GapBounds" "rows" "LGapBounds$Rows;") (by decide +kernel)
  have f2 := hts (.fieldLink RX7 10 "GapBounds" "now" "LGapBounds$Store;") (by decide +kernel)
  have f3 := hts (.constantLong RX7 156 (4611686018427387904)) (by decide +kernel)
  have f4 := hts (.constantLong RX7 150 (1000000000000)) (by decide +kernel)
  have iX7 : ∀ w ∈ u_ws RX7 TX7 10, w ∈ wsX7_room := by decide +kernel
  subst hsz
  obtain ⟨A, hAe⟩ : ∃ A, A = va_A [(A_t, .inr (7, [.ref A_t_tape, .ref A_t_now, .ref A_t_images, .ref A_t_imageMade, .ref A_t_sheets, .ref A_t_rows, .ref A_t_clash, .ref A_t_span, .ref A_t_reader, .int t_latestTorn])), (A_t_rows, .inr (2, [.ref A_t_rows_least, .ref A_t_rows_table])), (A_t_rows_least, .inl (cy 2, 10, .inr (.inl t_rows_least))), (A_t_now, .inr (5, [.ref A_t_now_upper, .ref A_t_now_lower, .ref A_t_now_limits, .ref A_t_now_stricts, .ref A_t_now_marks, .int t_now_size, .int t_now_marked, .int t_now_wholeness])), (A_t_now_lower, .inl (cy 1, 24, .inl t_now_lower)), (A_t_now_limits, .inl (cy 1, 24, .inl t_now_limits)), (A_t_now_stricts, .inl (cy 1, 24, .inl t_now_stricts)), (A_t_now_upper, .inl (cy 1, 24, .inl t_now_upper))] s.heap.size := ⟨_, rfl⟩
  have hD : va_D A [(A_t, .inr (7, [.ref A_t_tape, .ref A_t_now, .ref A_t_images, .ref A_t_imageMade, .ref A_t_sheets, .ref A_t_rows, .ref A_t_clash, .ref A_t_span, .ref A_t_reader, .int t_latestTorn])), (A_t_rows, .inr (2, [.ref A_t_rows_least, .ref A_t_rows_table])), (A_t_rows_least, .inl (cy 2, 10, .inr (.inl t_rows_least))), (A_t_now, .inr (5, [.ref A_t_now_upper, .ref A_t_now_lower, .ref A_t_now_limits, .ref A_t_now_stricts, .ref A_t_now_marks, .int t_now_size, .int t_now_marked, .int t_now_wholeness])), (A_t_now_lower, .inl (cy 1, 24, .inl t_now_lower)), (A_t_now_limits, .inl (cy 1, 24, .inl t_now_limits)), (A_t_now_stricts, .inl (cy 1, 24, .inl t_now_stricts)), (A_t_now_upper, .inl (cy 1, 24, .inl t_now_upper))] := by rw [hAe]; exact hD0.self
  have hA : ∀ q : Nat, s.heap.size ≤ q → A q := fun q hq => by rw [hAe]; exact Or.inr hq
  have hS : va_S A s.heap s.heap [] := va_S.rf
  have hl := lv_entry [.ref A_t, .int x1, .int x2, .int x3] (n := 6) (Nat.le_of_ble_eq_true rfl)
  rw [lg_entry_eq]
  generalize (lg_sl [.ref A_t, .int x1, .int x2, .int x3] ++ List.replicate (6 - (lg_sl [.ref A_t, .int x1, .int x2, .int x3]).length) Slot.unset).toArray = ls at hl ⊢
  have hl : lv_has ls 6 [(0, .ref A_t), (1, .int x1), (2, .int x2), (3, .int x3)] := hl
  refine W.gen (fun Q0 hQ => ?_)
  unfold P_X7_room at h
  refine lv_iload_n hx hb dX7_room_0 rfl (lv_at hl 1 rfl) ?_
  refine lv_iload_n hx hb dX7_room_1 rfl (lv_at hl 2 rfl) ?_
  refine vp_callSi (W.runS (As := [.int x1, .int x2]) (rest := []) CF (c_X7_arePair l x1 x2 _ h) (va_cwS 2 hts gX7_room_X7_arePair rfl rfl rfl qX7_arePair.2 ⟨Nat.le_of_ble_eq_true rfl, Nat.le_of_ble_eq_true rfl⟩) mpSN rfl rfl hl.1 rfl (lv_room (Nat.le_of_ble_eq_true rfl)) dX7_room_2 ⟨Nat.zero_le _, Nat.zero_le _⟩) (fun r1 h => ?_)
  refine lv_if_eq (tgt := 15) hx hb dX7_room_5 (by decide) (fun hc => ?_) (fun hc => ?_)
  · replace h := h.1 hc
    refine lv_ldc2 (v := -1) hx hb hown f0 dX7_room_15 ?_
    subst hQ
    subst hAe
    exact W.lret (v := (-1 : Int64)) hx hb hr (fun t ht _ => ⟨⟨(-1 : Int64), t_rows_least, rfl, h, by rw [ht]; exact hP, hD⟩, hS.F ht⟩) hS.2.2 dX7_room_18
  · replace h := h.2 hc
    refine lv_iload_n hx hb dX7_room_8 rfl (lv_at hl 3 rfl) ?_
    refine vp_callSi (W.runS (As := [.int x3]) (rest := []) CF (c_X7_isBit l x3 _ h) (va_cwS 1 hts gX7_room_X7_isBit rfl rfl rfl qX7_isBit.2 ⟨Nat.le_of_ble_eq_true rfl, Nat.le_of_ble_eq_true rfl⟩) mpSN rfl rfl hl.1 rfl (lv_room (Nat.le_of_ble_eq_true rfl)) dX7_room_9 ⟨Nat.zero_le _, Nat.zero_le _⟩) (fun r2 h => ?_)
    refine lv_if_ne (tgt := 19) hx hb dX7_room_12 (by decide) (fun hc => ?_) (fun hc => ?_)
    · replace h := h.1 hc
      refine lv_aload_n hx hb dX7_room_19 rfl (lv_at hl 0 rfl) ?_
      refine va_get (D := D) (ci := 7) (v := .ref A_t_rows) (C := RX7) (T := TX7) (N := 10) hx hb hts iX7 hown hK.1 hP 0 rfl rfl 5 (by decide) f1 (fun _ h9 => h9) rfl dX7_room_20 ?_
      refine lv_aload_n hx hb dX7_room_23 rfl (lv_at hl 0 rfl) ?_
      refine va_get (D := D) (ci := 7) (v := .ref A_t_now) (C := RX7) (T := TX7) (N := 10) hx hb hts iX7 hown hK.1 hP 0 rfl rfl 1 (by decide) f2 (fun _ h9 => h9) rfl dX7_room_24 ?_
      refine lv_iload_n hx hb dX7_room_27 rfl (lv_at hl 1 rfl) ?_
      refine lv_iload_n hx hb dX7_room_28 rfl (lv_at hl 2 rfl) ?_
      refine lv_iconst (v := -1) hx hb dX7_room_29 (by decide) ?_
      have hPn : va_P D vwCl ([(A_t, .inr (7, [.ref A_t_tape, .ref A_t_now, .ref A_t_images, .ref A_t_imageMade, .ref A_t_sheets, .ref A_t_rows, .ref A_t_clash, .ref A_t_span, .ref A_t_reader, .int t_latestTorn]))] ++ [(A_t_rows, .inr (2, [.ref A_t_rows_least, .ref A_t_rows_table])), (A_t_rows_least, .inl (cy 2, 10, .inr (.inl t_rows_least))), (A_t_now, .inr (5, [.ref A_t_now_upper, .ref A_t_now_lower, .ref A_t_now_limits, .ref A_t_now_stricts, .ref A_t_now_marks, .int t_now_size, .int t_now_marked, .int t_now_wholeness])), (A_t_now_lower, .inl (cy 1, 24, .inl t_now_lower)), (A_t_now_limits, .inl (cy 1, 24, .inl t_now_limits)), (A_t_now_stricts, .inl (cy 1, 24, .inl t_now_stricts)), (A_t_now_upper, .inl (cy 1, 24, .inl t_now_upper))]) s.heap := hP.sub [0, 1, 2, 3, 4, 5, 6, 7] rfl
      have hDn : va_D A ([(A_t, .inr (7, [.ref A_t_tape, .ref A_t_now, .ref A_t_images, .ref A_t_imageMade, .ref A_t_sheets, .ref A_t_rows, .ref A_t_clash, .ref A_t_span, .ref A_t_reader, .int t_latestTorn]))] ++ [(A_t_rows, .inr (2, [.ref A_t_rows_least, .ref A_t_rows_table])), (A_t_rows_least, .inl (cy 2, 10, .inr (.inl t_rows_least))), (A_t_now, .inr (5, [.ref A_t_now_upper, .ref A_t_now_lower, .ref A_t_now_limits, .ref A_t_now_stricts, .ref A_t_now_marks, .int t_now_size, .int t_now_marked, .int t_now_wholeness])), (A_t_now_lower, .inl (cy 1, 24, .inl t_now_lower)), (A_t_now_limits, .inl (cy 1, 24, .inl t_now_limits)), (A_t_now_stricts, .inl (cy 1, 24, .inl t_now_stricts)), (A_t_now_upper, .inl (cy 1, 24, .inl t_now_upper))]) := hD.sub [0, 1, 2, 3, 4, 5, 6, 7] (by decide) rfl
      have hPc := gPR hPn
      have hDc := gDR hDn
      refine mw_l (va_runV (As := [.ref A_t_now, .int x1, .int x2, .int (-1 : Int32)]) (rest := []) CF (c_X2_between l D cy s.heap.size A_t_rows A_t_rows_least A_t_rows_table A_t_now A_t_now_upper A_t_now_lower A_t_now_limits A_t_now_stricts A_t_now_marks t_rows_least t_now_size t_now_marked t_now_wholeness t_now_lower t_now_limits t_now_stricts t_now_upper x1 x2 (-1 : Int32) _ h) (cwV 4 hts gX7_room_X2_between rfl rfl rfl qX2_between ⟨Nat.le_of_ble_eq_true rfl, Nat.le_of_ble_eq_true rfl⟩) (mpVW hK hPc hDc (ci := 2) (q := (RX2, TX2, 2)) (q0 := 0) rfl rfl) rfl rfl hl.1 rfl (lv_room (Nat.le_of_ble_eq_true rfl)) dX7_room_30 ⟨Nat.zero_le _, Nat.zero_le _⟩) hPn hDn hS hA (fun r3 t_rows_least_v3 H locs h hP hD hS => ?_)
      have hP : va_P D vwCl [(A_t, .inr (7, [.ref A_t_tape, .ref A_t_now, .ref A_t_images, .ref A_t_imageMade, .ref A_t_sheets, .ref A_t_rows, .ref A_t_clash, .ref A_t_span, .ref A_t_reader, .int t_latestTorn])), (A_t_rows, .inr (2, [.ref A_t_rows_least, .ref A_t_rows_table])), (A_t_rows_least, .inl (cy 2, 10, .inr (.inl t_rows_least_v3))), (A_t_now, .inr (5, [.ref A_t_now_upper, .ref A_t_now_lower, .ref A_t_now_limits, .ref A_t_now_stricts, .ref A_t_now_marks, .int t_now_size, .int t_now_marked, .int t_now_wholeness])), (A_t_now_lower, .inl (cy 1, 24, .inl t_now_lower)), (A_t_now_limits, .inl (cy 1, 24, .inl t_now_limits)), (A_t_now_stricts, .inl (cy 1, 24, .inl t_now_stricts)), (A_t_now_upper, .inl (cy 1, 24, .inl t_now_upper))] H := hP.sub [0, 1, 2, 3, 4, 5, 6, 7] rfl
      have hD : va_D A [(A_t, .inr (7, [.ref A_t_tape, .ref A_t_now, .ref A_t_images, .ref A_t_imageMade, .ref A_t_sheets, .ref A_t_rows, .ref A_t_clash, .ref A_t_span, .ref A_t_reader, .int t_latestTorn])), (A_t_rows, .inr (2, [.ref A_t_rows_least, .ref A_t_rows_table])), (A_t_rows_least, .inl (cy 2, 10, .inr (.inl t_rows_least_v3))), (A_t_now, .inr (5, [.ref A_t_now_upper, .ref A_t_now_lower, .ref A_t_now_limits, .ref A_t_now_stricts, .ref A_t_now_marks, .int t_now_size, .int t_now_marked, .int t_now_wholeness])), (A_t_now_lower, .inl (cy 1, 24, .inl t_now_lower)), (A_t_now_limits, .inl (cy 1, 24, .inl t_now_limits)), (A_t_now_stricts, .inl (cy 1, 24, .inl t_now_stricts)), (A_t_now_upper, .inl (cy 1, 24, .inl t_now_upper))] := hD.sub [0, 1, 2, 3, 4, 5, 6, 7] (by decide) rfl
      refine lv_lstore (lv' := [(4, .long r3), (0, .ref A_t), (1, .int x1), (2, .int x2), (3, .int x3)]) hx hb dX7_room_33 hl (by decide) rfl (fun ls hl => ?_)
      refine lv_lload hx hb dX7_room_35 (lv_at hl 0 rfl) ?_
      refine lv_ldc2 (v := 4611686018427387904) hx hb hown f3 dX7_room_37 ?_
      refine lx_ne (tgt := 48) hx hb dX7_room_40 dX7_room_41 (by decide) (fun hc => ?_) (fun hc => ?_)
      · replace h := h.1 hc
        refine lv_iload_n hx hb dX7_room_48 rfl (lv_at hl 4 rfl) ?_
        refine lv_if_ne (tgt := 59) hx hb dX7_room_49 (by decide) (fun hc => ?_) (fun hc => ?_)
        · replace h := h.1 hc
          refine lv_lload hx hb dX7_room_59 (lv_at hl 0 rfl) ?_
          refine vp_callSl (W.runS (As := [.long r3]) (rest := []) CF (c_X7_edgesOf l r3 _ h) (va_cwS 1 hts gX7_room_X7_edgesOf rfl rfl rfl qX7_edgesOf.2 ⟨Nat.le_of_ble_eq_true rfl, Nat.le_of_ble_eq_true rfl⟩) mpSN rfl rfl hl.1 rfl (lv_room (Nat.le_of_ble_eq_true rfl)) dX7_room_61 ⟨Nat.zero_le _, Nat.zero_le _⟩) (fun r4 h => ?_)
          refine lv_lconst (v := 0) hx hb dX7_room_64 (by decide) ?_
          refine lx_le (tgt := 73) hx hb dX7_room_65 dX7_room_66 (by decide) (fun hc => ?_) (fun hc => ?_)
          · replace h := h.1 hc
            refine lv_lconst (v := 0) hx hb dX7_room_73 (by decide) ?_
            subst hQ
            subst hAe
            exact W.lret (v := (0 : Int64)) hx hb hr (fun t ht _ => ⟨⟨(0 : Int64), t_rows_least_v3, rfl, h, by rw [ht]; exact hP, hD⟩, hS.F ht⟩) hS.2.2 dX7_room_74
          · replace h := h.2 hc
            refine lv_lconst (v := 1) hx hb dX7_room_69 (by decide) ?_
            refine lv_goto (tgt := 74) hx hb dX7_room_70 (by decide) ?_
            subst hQ
            subst hAe
            exact W.lret (v := (1 : Int64)) hx hb hr (fun t ht _ => ⟨⟨(1 : Int64), t_rows_least_v3, rfl, h, by rw [ht]; exact hP, hD⟩, hS.F ht⟩) hS.2.2 dX7_room_74
        · replace h := h.2 hc
          refine lv_lload hx hb dX7_room_52 (lv_at hl 0 rfl) ?_
          refine vp_callSl (W.runS (As := [.long r3]) (rest := []) CF (c_X7_amountOf l r3 _ h) (va_cwS 1 hts gX7_room_X7_amountOf rfl rfl rfl qX7_amountOf.2 ⟨Nat.le_of_ble_eq_true rfl, Nat.le_of_ble_eq_true rfl⟩) mpSN rfl rfl hl.1 rfl (lv_room (Nat.le_of_ble_eq_true rfl)) dX7_room_54 ⟨Nat.zero_le _, Nat.zero_le _⟩) (fun r5 h => ?_)
          refine lv_lneg hx hb dX7_room_57 ?_
          subst hQ
          subst hAe
          exact W.lret (v := -r5) hx hb hr (fun t ht _ => ⟨⟨-r5, t_rows_least_v3, rfl, h, by rw [ht]; exact hP, hD⟩, hS.F ht⟩) hS.2.2 dX7_room_58
      · replace h := h.2 hc
        refine lv_ldc2 (v := 1000000000000) hx hb hown f4 dX7_room_44 ?_
        subst hQ
        subst hAe
        exact W.lret (v := (1000000000000 : Int64)) hx hb hr (fun t ht _ => ⟨⟨(1000000000000 : Int64), t_rows_least_v3, rfl, h, by rw [ht]; exact hP, hD⟩, hS.F ht⟩) hS.2.2 dX7_room_47
    · replace h := h.2 hc
      refine lv_ldc2 (v := -1) hx hb hown f0 dX7_room_15 ?_
      subst hQ
      subst hAe
      exact W.lret (v := (-1 : Int64)) hx hb hr (fun t ht _ => ⟨⟨(-1 : Int64), t_rows_least, rfl, h, by rw [ht]; exact hP, hD⟩, hS.F ht⟩) hS.2.2 dX7_room_18
theorem qX7_grow : yX7_grow.cls = RX7 ∧ yX7_grow.cls ≠ "java/lang/invoke/MethodHandle" ∧ yX7_grow.cls ≠ "java/lang/invoke/VarHandle" ∧ (parseMethodDescriptor yX7_grow.desc).map (fun d => d.parameters.length) = some 2 := by decide +kernel
def B_X7_grow_163 (K_21 : Int32 → (Nat → Int64) → (Nat → Int32) → (Nat → Int32) → (Nat → Int32) → (Nat → Int32) → Int32 → Int32 → Int32 → Prop) (t_now_size : Int32) (t_rows_least : Nat → Int64) (t_now_lower : Nat → Int32) (t_now_limits : Nat → Int32) (t_now_stricts : Nat → Int32) (t_now_upper : Nat → Int32) (x3 : Int32) (x4 : Int32) (x5 : Int32) : Prop :=
  K_21 t_now_size t_rows_least t_now_lower t_now_limits t_now_stricts t_now_upper x3 x4 (x5 + (1 : Int32))
def B_X7_grow_88 (K_21 : Int32 → (Nat → Int64) → (Nat → Int32) → (Nat → Int32) → (Nat → Int32) → (Nat → Int32) → Int32 → Int32 → Int32 → Prop) (t_now_size : Int32) (t_now_wholeness : Int32) (t_rows_least : Nat → Int64) (t_now_lower : Nat → Int32) (t_now_limits : Nat → Int32) (t_now_stricts : Nat → Int32) (t_now_upper : Nat → Int32) (k0 : Int32) (x3 : Int32) (x4 : Int32) (x5 : Int32) (x7 : Int32) (x8 : Int32) (x9 : Int32) : Prop :=
  ((x8 = x9 → B_X7_grow_163 K_21 t_now_size t_rows_least t_now_lower t_now_limits t_now_stricts t_now_upper x3 x4 x5) ∧ (¬ x8 = x9 → (((24 : Int32) ≤ t_now_size → B_X7_grow_163 K_21 t_now_size t_rows_least t_now_lower t_now_limits t_now_stricts t_now_upper x3 x4 x5) ∧ (¬ (24 : Int32) ≤ t_now_size → P_X7_weigh (fun (r5 : Int64) => P_X7_fits (fun (r6 : Int32) (t_rows_least_v6 : Nat → Int64) => ((r6 = 0 → B_X7_grow_163 K_21 t_now_size t_rows_least_v6 t_now_lower t_now_limits t_now_stricts t_now_upper x3 x4 x5) ∧ (¬ r6 = 0 → P_X5_append (fun (t_now_size_v7 : Int32) (t_now_upper_v7 : Nat → Int32) (t_now_lower_v7 : Nat → Int32) (t_now_limits_v7 : Nat → Int32) (t_now_stricts_v7 : Nat → Int32) => B_X7_grow_163 K_21 t_now_size_v7 t_rows_least_v6 t_now_lower_v7 t_now_limits_v7 t_now_stricts_v7 t_now_upper_v7 (x3 + (1 : Int32)) x4 x5) t_now_size t_now_upper t_now_lower t_now_limits t_now_stricts x8 x9 ((x7 - x7 / (41 : Int32) * (41 : Int32)) - (12 : Int32)) k0))) t_rows_least t_now_size t_now_wholeness t_now_lower t_now_limits t_now_stricts t_now_upper x8 x9 (-1 : Int32) r5) ((x7 - x7 / (41 : Int32) * (41 : Int32)) - (12 : Int32)) k0 t_now_wholeness))))
def LB_X7_grow_21 (post : Int32 → Int32 → (Nat → Int64) → (Nat → Int32) → (Nat → Int32) → (Nat → Int32) → (Nat → Int32) → Prop) (t_now_wholeness : Int32) (x2 : Int32) (K_21 : Int32 → (Nat → Int64) → (Nat → Int32) → (Nat → Int32) → (Nat → Int32) → (Nat → Int32) → Int32 → Int32 → Int32 → Prop) (t_now_size : Int32) (t_rows_least : Nat → Int64) (t_now_lower : Nat → Int32) (t_now_limits : Nat → Int32) (t_now_stricts : Nat → Int32) (t_now_upper : Nat → Int32) (x3 : Int32) (x4 : Int32) (x5 : Int32) : Prop :=
  ((x2 ≤ x5 → post x3 t_now_size t_rows_least t_now_lower t_now_limits t_now_stricts t_now_upper) ∧ (¬ x2 ≤ x5 → P_X7_nextSeed (fun (r1 : Int32) => P_X7_seedBits (fun (r2 : Int32) => P_X7_nextSeed (fun (r3 : Int32) => P_X7_seedBits (fun (r4 : Int32) => ((¬ (r2 / (256 : Int32)) - (r2 / (256 : Int32)) / (4 : Int32) * (4 : Int32) = 0 → B_X7_grow_88 K_21 t_now_size t_now_wholeness t_rows_least t_now_lower t_now_limits t_now_stricts t_now_upper (0 : Int32) x3 r3 x5 r4 (r2 - r2 / (10 : Int32) * (10 : Int32)) ((r2 / (16 : Int32)) - (r2 / (16 : Int32)) / (10 : Int32) * (10 : Int32))) ∧ ((r2 / (256 : Int32)) - (r2 / (256 : Int32)) / (4 : Int32) * (4 : Int32) = 0 → B_X7_grow_88 K_21 t_now_size t_now_wholeness t_rows_least t_now_lower t_now_limits t_now_stricts t_now_upper (1 : Int32) x3 r3 x5 r4 (r2 - r2 / (10 : Int32) * (10 : Int32)) ((r2 / (16 : Int32)) - (r2 / (16 : Int32)) / (10 : Int32) * (10 : Int32))))) r3) r1) r1) x4))
noncomputable def L_X7_grow_21 (post : Int32 → Int32 → (Nat → Int64) → (Nat → Int32) → (Nat → Int32) → (Nat → Int32) → (Nat → Int32) → Prop) (t_now_wholeness : Int32) (x2 : Int32) (n : Nat) : Int32 → (Nat → Int64) → (Nat → Int32) → (Nat → Int32) → (Nat → Int32) → (Nat → Int32) → Int32 → Int32 → Int32 → Prop := Nat.rec (motive := fun _ => Int32 → (Nat → Int64) → (Nat → Int32) → (Nat → Int32) → (Nat → Int32) → (Nat → Int32) → Int32 → Int32 → Int32 → Prop) (fun _ _ _ _ _ _ _ _ _ => False) (fun _ K => LB_X7_grow_21 post t_now_wholeness x2 K) n
def P_X7_grow (post : Int32 → Int32 → (Nat → Int64) → (Nat → Int32) → (Nat → Int32) → (Nat → Int32) → (Nat → Int32) → Prop) (t_now_size : Int32) (t_now_wholeness : Int32) (t_rows_least : Nat → Int64) (t_now_lower : Nat → Int32) (t_now_limits : Nat → Int32) (t_now_stricts : Nat → Int32) (t_now_upper : Nat → Int32) (x1 : Int32) (x2 : Int32) : Prop :=
  ((x2 < (1 : Int32) → post (-1 : Int32) t_now_size t_rows_least t_now_lower t_now_limits t_now_stricts t_now_upper) ∧ (¬ x2 < (1 : Int32) → ((x2 ≤ (20 : Int32) → ∃ n : Nat, L_X7_grow_21 post t_now_wholeness x2 n t_now_size t_rows_least t_now_lower t_now_limits t_now_stricts t_now_upper (0 : Int32) x1 (0 : Int32)) ∧ (¬ x2 ≤ (20 : Int32) → post (-1 : Int32) t_now_size t_rows_least t_now_lower t_now_limits t_now_stricts t_now_upper))))
set_option maxHeartbeats 4000000 in
set_option maxRecDepth 100000 in
theorem c_X7_grow (l : Launch) (D : va_G) (cy : Nat → ClassId) (sz : Nat) (A_t A_t_tape A_t_now A_t_images A_t_imageMade A_t_sheets A_t_rows A_t_clash A_t_span A_t_reader A_t_now_upper A_t_now_lower A_t_now_limits A_t_now_stricts A_t_now_marks A_t_rows_least A_t_rows_table : Nat) (t_latestTorn : Int32) (t_now_size : Int32) (t_now_marked : Int32) (t_now_wholeness : Int32) (t_rows_least : Nat → Int64) (t_now_lower : Nat → Int32) (t_now_limits : Nat → Int32) (t_now_stricts : Nat → Int32) (t_now_upper : Nat → Int32) (x1 : Int32) (x2 : Int32) (post : Int32 → Int32 → (Nat → Int64) → (Nat → Int32) → (Nat → Int32) → (Nat → Int32) → (Nat → Int32) → Prop) (h : P_X7_grow post t_now_size t_now_wholeness t_rows_least t_now_lower t_now_limits t_now_stricts t_now_upper x1 x2) : Met l yX7_grow wsX7_grow { frames := 4, cells := 0, slots := 0, locals := 104 } (pcW D cy [(A_t, .inr (7, [.ref A_t_tape, .ref A_t_now, .ref A_t_images, .ref A_t_imageMade, .ref A_t_sheets, .ref A_t_rows, .ref A_t_clash, .ref A_t_span, .ref A_t_reader, .int t_latestTorn])), (A_t_now, .inr (5, [.ref A_t_now_upper, .ref A_t_now_lower, .ref A_t_now_limits, .ref A_t_now_stricts, .ref A_t_now_marks, .int t_now_size, .int t_now_marked, .int t_now_wholeness])), (A_t_rows, .inr (2, [.ref A_t_rows_least, .ref A_t_rows_table])), (A_t_rows_least, .inl (cy 2, 10, .inr (.inl t_rows_least))), (A_t_now_lower, .inl (cy 1, 24, .inl t_now_lower)), (A_t_now_limits, .inl (cy 1, 24, .inl t_now_limits)), (A_t_now_stricts, .inl (cy 1, 24, .inl t_now_stricts)), (A_t_now_upper, .inl (cy 1, 24, .inl t_now_upper))] sz [.ref A_t, .int x1, .int x2]) (va_Qi (fun r (u : Int32 × (Nat → Int64) × (Nat → Int32) × (Nat → Int32) × (Nat → Int32) × (Nat → Int32)) => post r u.1 u.2.1 u.2.2.1 u.2.2.2.1 u.2.2.2.2.1 u.2.2.2.2.2) (bW D [(A_t, .inr (7, [.ref A_t_tape, .ref A_t_now, .ref A_t_images, .ref A_t_imageMade, .ref A_t_sheets, .ref A_t_rows, .ref A_t_clash, .ref A_t_span, .ref A_t_reader, .int t_latestTorn])), (A_t_now, .inr (5, [.ref A_t_now_upper, .ref A_t_now_lower, .ref A_t_now_limits, .ref A_t_now_stricts, .ref A_t_now_marks, .int t_now_size, .int t_now_marked, .int t_now_wholeness])), (A_t_rows, .inr (2, [.ref A_t_rows_least, .ref A_t_rows_table])), (A_t_rows_least, .inl (cy 2, 10, .inr (.inl t_rows_least))), (A_t_now_lower, .inl (cy 1, 24, .inl t_now_lower)), (A_t_now_limits, .inl (cy 1, 24, .inl t_now_limits)), (A_t_now_stricts, .inl (cy 1, 24, .inl t_now_stricts)), (A_t_now_upper, .inl (cy 1, 24, .inl t_now_upper))] sz (fun u => [(A_t, .inr (7, [.ref A_t_tape, .ref A_t_now, .ref A_t_images, .ref A_t_imageMade, .ref A_t_sheets, .ref A_t_rows, .ref A_t_clash, .ref A_t_span, .ref A_t_reader, .int t_latestTorn])), (A_t_now, .inr (5, [.ref A_t_now_upper, .ref A_t_now_lower, .ref A_t_now_limits, .ref A_t_now_stricts, .ref A_t_now_marks, .int (u.1), .int t_now_marked, .int t_now_wholeness])), (A_t_rows, .inr (2, [.ref A_t_rows_least, .ref A_t_rows_table])), (A_t_rows_least, .inl (cy 2, 10, .inr (.inl u.2.1))), (A_t_now_lower, .inl (cy 1, 24, .inl u.2.2.1)), (A_t_now_limits, .inl (cy 1, 24, .inl u.2.2.2.1)), (A_t_now_stricts, .inl (cy 1, 24, .inl u.2.2.2.2.1)), (A_t_now_upper, .inl (cy 1, 24, .inl u.2.2.2.2.2))])) (va_A [(A_t, .inr (7, [.ref A_t_tape, .ref A_t_now, .ref A_t_images, .ref A_t_imageMade, .ref A_t_sheets, .ref A_t_rows, .ref A_t_clash, .ref A_t_span, .ref A_t_reader, .int t_latestTorn])), (A_t_now, .inr (5, [.ref A_t_now_upper, .ref A_t_now_lower, .ref A_t_now_limits, .ref A_t_now_stricts, .ref A_t_now_marks, .int t_now_size, .int t_now_marked, .int t_now_wholeness])), (A_t_rows, .inr (2, [.ref A_t_rows_least, .ref A_t_rows_table])), (A_t_rows_least, .inl (cy 2, 10, .inr (.inl t_rows_least))), (A_t_now_lower, .inl (cy 1, 24, .inl t_now_lower)), (A_t_now_limits, .inl (cy 1, 24, .inl t_now_limits)), (A_t_now_stricts, .inl (cy 1, 24, .inl t_now_stricts)), (A_t_now_upper, .inl (cy 1, 24, .inl t_now_upper))] sz)) 0 0 (va_A [(A_t, .inr (7, [.ref A_t_tape, .ref A_t_now, .ref A_t_images, .ref A_t_imageMade, .ref A_t_sheets, .ref A_t_rows, .ref A_t_clash, .ref A_t_span, .ref A_t_reader, .int t_latestTorn])), (A_t_now, .inr (5, [.ref A_t_now_upper, .ref A_t_now_lower, .ref A_t_now_limits, .ref A_t_now_stricts, .ref A_t_now_marks, .int t_now_size, .int t_now_marked, .int t_now_wholeness])), (A_t_rows, .inr (2, [.ref A_t_rows_least, .ref A_t_rows_table])), (A_t_rows_least, .inl (cy 2, 10, .inr (.inl t_rows_least))), (A_t_now_lower, .inl (cy 1, 24, .inl t_now_lower)), (A_t_now_limits, .inl (cy 1, 24, .inl t_now_limits)), (A_t_now_stricts, .inl (cy 1, 24, .inl t_now_stricts)), (A_t_now_upper, .inl (cy 1, 24, .inl t_now_upper))] sz) := by
  refine Met.ofW (cc := cX7_grow) (maxL := 12) (ret := (some .int)) (by decide) rfl ?_
  intro p e s m args below meth c s₁ B hml hv
  obtain ⟨rfl, hsz, hP, hK, hD0⟩ := hv
  have hx := B.exec
  have hb := B.bytes
  have hr := B.returns
  have hts := atoms_spec (ws := wsX7_grow) B.pre
  have hown : s.vm.findClass RX7 = some m.cls := findClass_of_methodNamed B.named
  have hlocks := B.notSynchronized
  have CF : CallFix p m c cX7_grow 12 s ([.ref A_t, .int x1, .int x2] : List Value).toArray wsX7_grow RX7 := ⟨hx, hb, hml, hown, hts⟩
  have f0 := hts (.fieldLink RX7 10 "GapBounds" "now" "LGapBounds$Store;") (by decide +kernel)
  have f1 := hts (.fieldLink RX7 108 "GapBounds$Store" "size" "I") (by decide +kernel)
  have f2 := hts (.fieldLink RX7 86 "GapBounds$Store" "wholeness" "I") (by decide +kernel)
  have iX5 : ∀ w ∈ u_ws RX5 TX5 8, w ∈ wsX7_grow := by decide +kernel
  have iX7 : ∀ w ∈ u_ws RX7 TX7 10, w ∈ wsX7_grow := by decide +kernel
  subst hsz
  obtain ⟨A, hAe⟩ : ∃ A, A = va_A [(A_t, .inr (7, [.ref A_t_tape, .ref A_t_now, .ref A_t_images, .ref A_t_imageMade, .ref A_t_sheets, .ref A_t_rows, .ref A_t_clash, .ref A_t_span, .ref A_t_reader, .int t_latestTorn])), (A_t_now, .inr (5, [.ref A_t_now_upper, .ref A_t_now_lower, .ref A_t_now_limits, .ref A_t_now_stricts, .ref A_t_now_marks, .int t_now_size, .int t_now_marked, .int t_now_wholeness])), (A_t_rows, .inr (2, [.ref A_t_rows_least, .ref A_t_rows_table])), (A_t_rows_least, .inl (cy 2, 10, .inr (.inl t_rows_least))), (A_t_now_lower, .inl (cy 1, 24, .inl t_now_lower)), (A_t_now_limits, .inl (cy 1, 24, .inl t_now_limits)), (A_t_now_stricts, .inl (cy 1, 24, .inl t_now_stricts)), (A_t_now_upper, .inl (cy 1, 24, .inl t_now_upper))] s.heap.size := ⟨_, rfl⟩
  have hD : va_D A [(A_t, .inr (7, [.ref A_t_tape, .ref A_t_now, .ref A_t_images, .ref A_t_imageMade, .ref A_t_sheets, .ref A_t_rows, .ref A_t_clash, .ref A_t_span, .ref A_t_reader, .int t_latestTorn])), (A_t_now, .inr (5, [.ref A_t_now_upper, .ref A_t_now_lower, .ref A_t_now_limits, .ref A_t_now_stricts, .ref A_t_now_marks, .int t_now_size, .int t_now_marked, .int t_now_wholeness])), (A_t_rows, .inr (2, [.ref A_t_rows_least, .ref A_t_rows_table])), (A_t_rows_least, .inl (cy 2, 10, .inr (.inl t_rows_least))), (A_t_now_lower, .inl (cy 1, 24, .inl t_now_lower)), (A_t_now_limits, .inl (cy 1, 24, .inl t_now_limits)), (A_t_now_stricts, .inl (cy 1, 24, .inl t_now_stricts)), (A_t_now_upper, .inl (cy 1, 24, .inl t_now_upper))] := by rw [hAe]; exact hD0.self
  have hA : ∀ q : Nat, s.heap.size ≤ q → A q := fun q hq => by rw [hAe]; exact Or.inr hq
  have hS : va_S A s.heap s.heap [] := va_S.rf
  have hl := lv_entry [.ref A_t, .int x1, .int x2] (n := 12) (Nat.le_of_ble_eq_true rfl)
  rw [lg_entry_eq]
  generalize (lg_sl [.ref A_t, .int x1, .int x2] ++ List.replicate (12 - (lg_sl [.ref A_t, .int x1, .int x2]).length) Slot.unset).toArray = ls at hl ⊢
  have hl : lv_has ls 12 [(0, .ref A_t), (1, .int x1), (2, .int x2)] := hl
  refine W.gen (fun Q0 hQ => ?_)
  have L21 : ∀ (n21 : Nat) (t_now_size : Int32) (t_rows_least : Nat → Int64) (t_now_lower : Nat → Int32) (t_now_limits : Nat → Int32) (t_now_stricts : Nat → Int32) (t_now_upper : Nat → Int32) (x3 : Int32) (x4 : Int32) (x5 : Int32) (H : Heap) (locs : List Loc) (ls : Array Slot), L_X7_grow_21 post t_now_wholeness x2 n21 t_now_size t_rows_least t_now_lower t_now_limits t_now_stricts t_now_upper x3 x4 x5 → va_P D vwCl [(A_t, .inr (7, [.ref A_t_tape, .ref A_t_now, .ref A_t_images, .ref A_t_imageMade, .ref A_t_sheets, .ref A_t_rows, .ref A_t_clash, .ref A_t_span, .ref A_t_reader, .int t_latestTorn])), (A_t_now, .inr (5, [.ref A_t_now_upper, .ref A_t_now_lower, .ref A_t_now_limits, .ref A_t_now_stricts, .ref A_t_now_marks, .int t_now_size, .int t_now_marked, .int t_now_wholeness])), (A_t_rows, .inr (2, [.ref A_t_rows_least, .ref A_t_rows_table])), (A_t_rows_least, .inl (cy 2, 10, .inr (.inl t_rows_least))), (A_t_now_lower, .inl (cy 1, 24, .inl t_now_lower)), (A_t_now_limits, .inl (cy 1, 24, .inl t_now_limits)), (A_t_now_stricts, .inl (cy 1, 24, .inl t_now_stricts)), (A_t_now_upper, .inl (cy 1, 24, .inl t_now_upper))] H → va_D A [(A_t, .inr (7, [.ref A_t_tape, .ref A_t_now, .ref A_t_images, .ref A_t_imageMade, .ref A_t_sheets, .ref A_t_rows, .ref A_t_clash, .ref A_t_span, .ref A_t_reader, .int t_latestTorn])), (A_t_now, .inr (5, [.ref A_t_now_upper, .ref A_t_now_lower, .ref A_t_now_limits, .ref A_t_now_stricts, .ref A_t_now_marks, .int t_now_size, .int t_now_marked, .int t_now_wholeness])), (A_t_rows, .inr (2, [.ref A_t_rows_least, .ref A_t_rows_table])), (A_t_rows_least, .inl (cy 2, 10, .inr (.inl t_rows_least))), (A_t_now_lower, .inl (cy 1, 24, .inl t_now_lower)), (A_t_now_limits, .inl (cy 1, 24, .inl t_now_limits)), (A_t_now_stricts, .inl (cy 1, 24, .inl t_now_stricts)), (A_t_now_upper, .inl (cy 1, 24, .inl t_now_upper))] → va_S A s.heap H locs → lv_has ls 12 [(0, .ref A_t), (2, .int x2), (3, .int x3), (4, .int x4), (5, .int x5)] → W p l e (headSpec wsX7_grow { frames := 4, cells := 0, slots := 0, locals := 104 }).room s m ([.ref A_t, .int x1, .int x2] : List Value).toArray below meth c H locs 0 0 Q0 (F0 m 21 ls []) := by
    intro n21
    induction n21 with
    | zero => intro t_now_size t_rows_least t_now_lower t_now_limits t_now_stricts t_now_upper x3 x4 x5 H locs ls h; exact False.elim h
    | succ n21 ih21 =>
      intro t_now_size t_rows_least t_now_lower t_now_limits t_now_stricts t_now_upper x3 x4 x5 H locs ls h hP hD hS hl
      have h : LB_X7_grow_21 post t_now_wholeness x2 (L_X7_grow_21 post t_now_wholeness x2 n21) t_now_size t_rows_least t_now_lower t_now_limits t_now_stricts t_now_upper x3 x4 x5 := h
      unfold LB_X7_grow_21 at h
      have J163 : ∀ (t_now_size : Int32) (t_rows_least : Nat → Int64) (t_now_lower : Nat → Int32) (t_now_limits : Nat → Int32) (t_now_stricts : Nat → Int32) (t_now_upper : Nat → Int32) (x3 : Int32) (x4 : Int32) (x5 : Int32) (H : Heap) (locs : List Loc) (ls : Array Slot), B_X7_grow_163 (L_X7_grow_21 post t_now_wholeness x2 n21) t_now_size t_rows_least t_now_lower t_now_limits t_now_stricts t_now_upper x3 x4 x5 → va_P D vwCl [(A_t, .inr (7, [.ref A_t_tape, .ref A_t_now, .ref A_t_images, .ref A_t_imageMade, .ref A_t_sheets, .ref A_t_rows, .ref A_t_clash, .ref A_t_span, .ref A_t_reader, .int t_latestTorn])), (A_t_now, .inr (5, [.ref A_t_now_upper, .ref A_t_now_lower, .ref A_t_now_limits, .ref A_t_now_stricts, .ref A_t_now_marks, .int t_now_size, .int t_now_marked, .int t_now_wholeness])), (A_t_rows, .inr (2, [.ref A_t_rows_least, .ref A_t_rows_table])), (A_t_rows_least, .inl (cy 2, 10, .inr (.inl t_rows_least))), (A_t_now_lower, .inl (cy 1, 24, .inl t_now_lower)), (A_t_now_limits, .inl (cy 1, 24, .inl t_now_limits)), (A_t_now_stricts, .inl (cy 1, 24, .inl t_now_stricts)), (A_t_now_upper, .inl (cy 1, 24, .inl t_now_upper))] H → va_D A [(A_t, .inr (7, [.ref A_t_tape, .ref A_t_now, .ref A_t_images, .ref A_t_imageMade, .ref A_t_sheets, .ref A_t_rows, .ref A_t_clash, .ref A_t_span, .ref A_t_reader, .int t_latestTorn])), (A_t_now, .inr (5, [.ref A_t_now_upper, .ref A_t_now_lower, .ref A_t_now_limits, .ref A_t_now_stricts, .ref A_t_now_marks, .int t_now_size, .int t_now_marked, .int t_now_wholeness])), (A_t_rows, .inr (2, [.ref A_t_rows_least, .ref A_t_rows_table])), (A_t_rows_least, .inl (cy 2, 10, .inr (.inl t_rows_least))), (A_t_now_lower, .inl (cy 1, 24, .inl t_now_lower)), (A_t_now_limits, .inl (cy 1, 24, .inl t_now_limits)), (A_t_now_stricts, .inl (cy 1, 24, .inl t_now_stricts)), (A_t_now_upper, .inl (cy 1, 24, .inl t_now_upper))] → va_S A s.heap H locs → lv_has ls 12 [(0, .ref A_t), (2, .int x2), (3, .int x3), (4, .int x4), (5, .int x5)] → W p l e (headSpec wsX7_grow { frames := 4, cells := 0, slots := 0, locals := 104 }).room s m ([.ref A_t, .int x1, .int x2] : List Value).toArray below meth c H locs 0 0 Q0 (F0 m 163 ls []) := by
        intro t_now_size t_rows_least t_now_lower t_now_limits t_now_stricts t_now_upper x3 x4 x5 H locs ls h hP hD hS hl
        unfold B_X7_grow_163 at h
        refine lv_iinc (v := x5 + (1 : Int32)) (lv' := [(5, .int (x5 + (1 : Int32))), (0, .ref A_t), (2, .int x2), (3, .int x3), (4, .int x4)]) hx hb dX7_grow_163 hl (k := 4) rfl rfl (by decide) rfl (fun ls hl => ?_)
        refine lv_goto (tgt := 21) hx hb dX7_grow_166 (by decide) ?_
        exact ih21 t_now_size t_rows_least t_now_lower t_now_limits t_now_stricts t_now_upper x3 x4 (x5 + (1 : Int32)) H locs ls h hP hD hS (lv_sub hl [1, 2, 3, 4, 0] rfl)
      have J88 : ∀ (t_now_size : Int32) (t_rows_least : Nat → Int64) (t_now_lower : Nat → Int32) (t_now_limits : Nat → Int32) (t_now_stricts : Nat → Int32) (t_now_upper : Nat → Int32) (x3 : Int32) (x4 : Int32) (x5 : Int32) (x7 : Int32) (x8 : Int32) (x9 : Int32) (k0 : Int32) (H : Heap) (locs : List Loc) (ls : Array Slot), B_X7_grow_88 (L_X7_grow_21 post t_now_wholeness x2 n21) t_now_size t_now_wholeness t_rows_least t_now_lower t_now_limits t_now_stricts t_now_upper k0 x3 x4 x5 x7 x8 x9 → va_P D vwCl [(A_t, .inr (7, [.ref A_t_tape, .ref A_t_now, .ref A_t_images, .ref A_t_imageMade, .ref A_t_sheets, .ref A_t_rows, .ref A_t_clash, .ref A_t_span, .ref A_t_reader, .int t_latestTorn])), (A_t_now, .inr (5, [.ref A_t_now_upper, .ref A_t_now_lower, .ref A_t_now_limits, .ref A_t_now_stricts, .ref A_t_now_marks, .int t_now_size, .int t_now_marked, .int t_now_wholeness])), (A_t_rows, .inr (2, [.ref A_t_rows_least, .ref A_t_rows_table])), (A_t_rows_least, .inl (cy 2, 10, .inr (.inl t_rows_least))), (A_t_now_lower, .inl (cy 1, 24, .inl t_now_lower)), (A_t_now_limits, .inl (cy 1, 24, .inl t_now_limits)), (A_t_now_stricts, .inl (cy 1, 24, .inl t_now_stricts)), (A_t_now_upper, .inl (cy 1, 24, .inl t_now_upper))] H → va_D A [(A_t, .inr (7, [.ref A_t_tape, .ref A_t_now, .ref A_t_images, .ref A_t_imageMade, .ref A_t_sheets, .ref A_t_rows, .ref A_t_clash, .ref A_t_span, .ref A_t_reader, .int t_latestTorn])), (A_t_now, .inr (5, [.ref A_t_now_upper, .ref A_t_now_lower, .ref A_t_now_limits, .ref A_t_now_stricts, .ref A_t_now_marks, .int t_now_size, .int t_now_marked, .int t_now_wholeness])), (A_t_rows, .inr (2, [.ref A_t_rows_least, .ref A_t_rows_table])), (A_t_rows_least, .inl (cy 2, 10, .inr (.inl t_rows_least))), (A_t_now_lower, .inl (cy 1, 24, .inl t_now_lower)), (A_t_now_limits, .inl (cy 1, 24, .inl t_now_limits)), (A_t_now_stricts, .inl (cy 1, 24, .inl t_now_stricts)), (A_t_now_upper, .inl (cy 1, 24, .inl t_now_upper))] → va_S A s.heap H locs → lv_has ls 12 [(0, .ref A_t), (2, .int x2), (3, .int x3), (4, .int x4), (5, .int x5), (7, .int x7), (8, .int x8), (9, .int x9)] → W p l e (headSpec wsX7_grow { frames := 4, cells := 0, slots := 0, locals := 104 }).room s m ([.ref A_t, .int x1, .int x2] : List Value).toArray below meth c H locs 0 0 Q0 (F0 m 88 ls [.int k0]) := by
        intro t_now_size t_rows_least t_now_lower t_now_limits t_now_stricts t_now_upper x3 x4 x5 x7 x8 x9 k0 H locs ls h hP hD hS hl
        unfold B_X7_grow_88 at h
        refine lv_istore (lv' := [(10, .int k0), (0, .ref A_t), (2, .int x2), (3, .int x3), (4, .int x4), (5, .int x5), (7, .int x7), (8, .int x8), (9, .int x9)]) hx hb dX7_grow_88 hl (by decide) rfl (fun ls hl => ?_)
        refine lv_iload hx hb dX7_grow_90 (lv_at hl 6 rfl) ?_
        refine lv_bipush (v := 41) hx hb dX7_grow_92 (by decide) ?_
        refine lv_irem hx hb dX7_grow_94 (by decide) ?_
        refine lv_bipush (v := 12) hx hb dX7_grow_95 (by decide) ?_
        refine lv_isub hx hb dX7_grow_97 ?_
        refine lv_istore (lv' := [(11, .int ((x7 - x7 / (41 : Int32) * (41 : Int32)) - (12 : Int32))), (10, .int k0), (0, .ref A_t), (2, .int x2), (3, .int x3), (4, .int x4), (5, .int x5), (7, .int x7), (8, .int x8), (9, .int x9)]) hx hb dX7_grow_98 hl (by decide) rfl (fun ls hl => ?_)
        refine lv_iload hx hb dX7_grow_100 (lv_at hl 8 rfl) ?_
        refine lv_iload hx hb dX7_grow_102 (lv_at hl 9 rfl) ?_
        refine lv_icmp_eq (tgt := 163) hx hb dX7_grow_104 (by decide) (fun hc => ?_) (fun hc => ?_)
        · replace h := h.1 hc
          exact J163 t_now_size t_rows_least t_now_lower t_now_limits t_now_stricts t_now_upper x3 x4 x5 H locs ls h hP hD hS (lv_sub hl [2, 3, 4, 5, 6] rfl)
        · replace h := h.2 hc
          refine lv_aload_n hx hb dX7_grow_107 rfl (lv_at hl 2 rfl) ?_
          refine va_get (D := D) (ci := 7) (v := .ref A_t_now) (C := RX7) (T := TX7) (N := 10) hx hb hts iX7 hown hK.1 hP 0 rfl rfl 1 (by decide) f0 (fun _ h9 => h9) rfl dX7_grow_108 ?_
          refine va_get (D := D) (ci := 5) (v := .int t_now_size) (C := RX5) (T := TX5) (N := 8) hx hb hts iX5 hown hK.1 hP 1 rfl rfl 5 (by decide) f1 (fun _ h9 => h9) rfl dX7_grow_111 ?_
          refine lv_bipush (v := 24) hx hb dX7_grow_114 (by decide) ?_
          refine lv_icmp_ge (tgt := 163) hx hb dX7_grow_116 (by decide) (fun hc => ?_) (fun hc => ?_)
          · replace h := h.1 hc
            exact J163 t_now_size t_rows_least t_now_lower t_now_limits t_now_stricts t_now_upper x3 x4 x5 H locs ls h hP hD hS (lv_sub hl [2, 3, 4, 5, 6] rfl)
          · replace h := h.2 hc
            refine lv_aload_n hx hb dX7_grow_119 rfl (lv_at hl 2 rfl) ?_
            refine lv_iload hx hb dX7_grow_120 (lv_at hl 8 rfl) ?_
            refine lv_iload hx hb dX7_grow_122 (lv_at hl 9 rfl) ?_
            refine lv_iload hx hb dX7_grow_124 (lv_at hl 0 rfl) ?_
            refine lv_iload hx hb dX7_grow_126 (lv_at hl 1 rfl) ?_
            refine lv_aload_n hx hb dX7_grow_128 rfl (lv_at hl 2 rfl) ?_
            refine va_get (D := D) (ci := 7) (v := .ref A_t_now) (C := RX7) (T := TX7) (N := 10) hx hb hts iX7 hown hK.1 hP 0 rfl rfl 1 (by decide) f0 (fun _ h9 => h9) rfl dX7_grow_129 ?_
            refine va_get (D := D) (ci := 5) (v := .int t_now_wholeness) (C := RX5) (T := TX5) (N := 8) hx hb hts iX5 hown hK.1 hP 1 rfl rfl 7 (by decide) f2 (fun _ h9 => h9) rfl dX7_grow_132 ?_
            refine vp_callSl (W.runS (As := [.int ((x7 - x7 / (41 : Int32) * (41 : Int32)) - (12 : Int32)), .int k0, .int t_now_wholeness]) (rest := [.int x9, .int x8, .ref A_t]) CF (c_X7_weigh l ((x7 - x7 / (41 : Int32) * (41 : Int32)) - (12 : Int32)) k0 t_now_wholeness _ h) (va_cwS 3 hts gX7_grow_X7_weigh rfl rfl rfl qX7_weigh.2 ⟨Nat.le_of_ble_eq_true rfl, Nat.le_of_ble_eq_true rfl⟩) mpSN rfl rfl hl.1 rfl (lv_room (Nat.le_of_ble_eq_true rfl)) dX7_grow_135 ⟨Nat.zero_le _, Nat.zero_le _⟩) (fun r5 h => ?_)
            refine lv_iconst (v := -1) hx hb dX7_grow_138 (by decide) ?_
            have hPn : va_P D vwCl ([] ++ [(A_t, .inr (7, [.ref A_t_tape, .ref A_t_now, .ref A_t_images, .ref A_t_imageMade, .ref A_t_sheets, .ref A_t_rows, .ref A_t_clash, .ref A_t_span, .ref A_t_reader, .int t_latestTorn])), (A_t_rows, .inr (2, [.ref A_t_rows_least, .ref A_t_rows_table])), (A_t_rows_least, .inl (cy 2, 10, .inr (.inl t_rows_least))), (A_t_now, .inr (5, [.ref A_t_now_upper, .ref A_t_now_lower, .ref A_t_now_limits, .ref A_t_now_stricts, .ref A_t_now_marks, .int t_now_size, .int t_now_marked, .int t_now_wholeness])), (A_t_now_lower, .inl (cy 1, 24, .inl t_now_lower)), (A_t_now_limits, .inl (cy 1, 24, .inl t_now_limits)), (A_t_now_stricts, .inl (cy 1, 24, .inl t_now_stricts)), (A_t_now_upper, .inl (cy 1, 24, .inl t_now_upper))]) H := hP.sub [0, 2, 3, 1, 4, 5, 6, 7] rfl
            have hDn : va_D A ([] ++ [(A_t, .inr (7, [.ref A_t_tape, .ref A_t_now, .ref A_t_images, .ref A_t_imageMade, .ref A_t_sheets, .ref A_t_rows, .ref A_t_clash, .ref A_t_span, .ref A_t_reader, .int t_latestTorn])), (A_t_rows, .inr (2, [.ref A_t_rows_least, .ref A_t_rows_table])), (A_t_rows_least, .inl (cy 2, 10, .inr (.inl t_rows_least))), (A_t_now, .inr (5, [.ref A_t_now_upper, .ref A_t_now_lower, .ref A_t_now_limits, .ref A_t_now_stricts, .ref A_t_now_marks, .int t_now_size, .int t_now_marked, .int t_now_wholeness])), (A_t_now_lower, .inl (cy 1, 24, .inl t_now_lower)), (A_t_now_limits, .inl (cy 1, 24, .inl t_now_limits)), (A_t_now_stricts, .inl (cy 1, 24, .inl t_now_stricts)), (A_t_now_upper, .inl (cy 1, 24, .inl t_now_upper))]) := hD.sub [0, 2, 3, 1, 4, 5, 6, 7] (by decide) rfl
            have hPc := gPR hPn
            have hDc := gDR hDn
            refine mw_i (va_runV (As := [.int x8, .int x9, .long r5, .int (-1 : Int32)]) (rest := []) CF (c_X7_fits l D cy H.size A_t A_t_tape A_t_now A_t_images A_t_imageMade A_t_sheets A_t_rows A_t_clash A_t_span A_t_reader A_t_rows_least A_t_rows_table A_t_now_upper A_t_now_lower A_t_now_limits A_t_now_stricts A_t_now_marks t_latestTorn t_rows_least t_now_size t_now_marked t_now_wholeness t_now_lower t_now_limits t_now_stricts t_now_upper x8 x9 r5 (-1 : Int32) _ h) (cwV 4 hts gX7_grow_X7_fits rfl rfl rfl qX7_fits ⟨Nat.le_of_ble_eq_true rfl, Nat.le_of_ble_eq_true rfl⟩) (mpVW hK hPc hDc (ci := 7) (q := (RX7, TX7, 10)) (q0 := 0) rfl rfl) rfl rfl hl.1 rfl (lv_room (Nat.le_of_ble_eq_true rfl)) dX7_grow_139 ⟨Nat.zero_le _, Nat.zero_le _⟩) hPn hDn hS hA (fun r6 t_rows_least_v6 H locs h hP hD hS => ?_)
            have hP : va_P D vwCl [(A_t, .inr (7, [.ref A_t_tape, .ref A_t_now, .ref A_t_images, .ref A_t_imageMade, .ref A_t_sheets, .ref A_t_rows, .ref A_t_clash, .ref A_t_span, .ref A_t_reader, .int t_latestTorn])), (A_t_now, .inr (5, [.ref A_t_now_upper, .ref A_t_now_lower, .ref A_t_now_limits, .ref A_t_now_stricts, .ref A_t_now_marks, .int t_now_size, .int t_now_marked, .int t_now_wholeness])), (A_t_rows, .inr (2, [.ref A_t_rows_least, .ref A_t_rows_table])), (A_t_rows_least, .inl (cy 2, 10, .inr (.inl t_rows_least_v6))), (A_t_now_lower, .inl (cy 1, 24, .inl t_now_lower)), (A_t_now_limits, .inl (cy 1, 24, .inl t_now_limits)), (A_t_now_stricts, .inl (cy 1, 24, .inl t_now_stricts)), (A_t_now_upper, .inl (cy 1, 24, .inl t_now_upper))] H := hP.sub [0, 3, 1, 2, 4, 5, 6, 7] rfl
            have hD : va_D A [(A_t, .inr (7, [.ref A_t_tape, .ref A_t_now, .ref A_t_images, .ref A_t_imageMade, .ref A_t_sheets, .ref A_t_rows, .ref A_t_clash, .ref A_t_span, .ref A_t_reader, .int t_latestTorn])), (A_t_now, .inr (5, [.ref A_t_now_upper, .ref A_t_now_lower, .ref A_t_now_limits, .ref A_t_now_stricts, .ref A_t_now_marks, .int t_now_size, .int t_now_marked, .int t_now_wholeness])), (A_t_rows, .inr (2, [.ref A_t_rows_least, .ref A_t_rows_table])), (A_t_rows_least, .inl (cy 2, 10, .inr (.inl t_rows_least_v6))), (A_t_now_lower, .inl (cy 1, 24, .inl t_now_lower)), (A_t_now_limits, .inl (cy 1, 24, .inl t_now_limits)), (A_t_now_stricts, .inl (cy 1, 24, .inl t_now_stricts)), (A_t_now_upper, .inl (cy 1, 24, .inl t_now_upper))] := hD.sub [0, 3, 1, 2, 4, 5, 6, 7] (by decide) rfl
            refine lv_if_eq (tgt := 163) hx hb dX7_grow_142 (by decide) (fun hc => ?_) (fun hc => ?_)
            · replace h := h.1 hc
              exact J163 t_now_size t_rows_least_v6 t_now_lower t_now_limits t_now_stricts t_now_upper x3 x4 x5 H locs ls h hP hD hS (lv_sub hl [2, 3, 4, 5, 6] rfl)
            · replace h := h.2 hc
              refine lv_aload_n hx hb dX7_grow_145 rfl (lv_at hl 2 rfl) ?_
              refine va_get (D := D) (ci := 7) (v := .ref A_t_now) (C := RX7) (T := TX7) (N := 10) hx hb hts iX7 hown hK.1 hP 0 rfl rfl 1 (by decide) f0 (fun _ h9 => h9) rfl dX7_grow_146 ?_
              refine lv_iload hx hb dX7_grow_149 (lv_at hl 8 rfl) ?_
              refine lv_iload hx hb dX7_grow_151 (lv_at hl 9 rfl) ?_
              refine lv_iload hx hb dX7_grow_153 (lv_at hl 0 rfl) ?_
              refine lv_iload hx hb dX7_grow_155 (lv_at hl 1 rfl) ?_
              have hPn : va_P D vwCl ([(A_t, .inr (7, [.ref A_t_tape, .ref A_t_now, .ref A_t_images, .ref A_t_imageMade, .ref A_t_sheets, .ref A_t_rows, .ref A_t_clash, .ref A_t_span, .ref A_t_reader, .int t_latestTorn])), (A_t_rows, .inr (2, [.ref A_t_rows_least, .ref A_t_rows_table])), (A_t_rows_least, .inl (cy 2, 10, .inr (.inl t_rows_least_v6)))] ++ [(A_t_now, .inr (5, [.ref A_t_now_upper, .ref A_t_now_lower, .ref A_t_now_limits, .ref A_t_now_stricts, .ref A_t_now_marks, .int t_now_size, .int t_now_marked, .int t_now_wholeness])), (A_t_now_upper, .inl (cy 1, 24, .inl t_now_upper)), (A_t_now_lower, .inl (cy 1, 24, .inl t_now_lower)), (A_t_now_limits, .inl (cy 1, 24, .inl t_now_limits)), (A_t_now_stricts, .inl (cy 1, 24, .inl t_now_stricts))]) H := hP.sub [0, 2, 3, 1, 7, 4, 5, 6] rfl
              have hDn : va_D A ([(A_t, .inr (7, [.ref A_t_tape, .ref A_t_now, .ref A_t_images, .ref A_t_imageMade, .ref A_t_sheets, .ref A_t_rows, .ref A_t_clash, .ref A_t_span, .ref A_t_reader, .int t_latestTorn])), (A_t_rows, .inr (2, [.ref A_t_rows_least, .ref A_t_rows_table])), (A_t_rows_least, .inl (cy 2, 10, .inr (.inl t_rows_least_v6)))] ++ [(A_t_now, .inr (5, [.ref A_t_now_upper, .ref A_t_now_lower, .ref A_t_now_limits, .ref A_t_now_stricts, .ref A_t_now_marks, .int t_now_size, .int t_now_marked, .int t_now_wholeness])), (A_t_now_upper, .inl (cy 1, 24, .inl t_now_upper)), (A_t_now_lower, .inl (cy 1, 24, .inl t_now_lower)), (A_t_now_limits, .inl (cy 1, 24, .inl t_now_limits)), (A_t_now_stricts, .inl (cy 1, 24, .inl t_now_stricts))]) := hD.sub [0, 2, 3, 1, 7, 4, 5, 6] (by decide) rfl
              have hPc := gPR hPn
              have hDc := gDR hDn
              refine mw_v (va_runV (As := [.int x8, .int x9, .int ((x7 - x7 / (41 : Int32) * (41 : Int32)) - (12 : Int32)), .int k0]) (rest := []) CF (c_X5_append l D cy H.size A_t_now A_t_now_upper A_t_now_lower A_t_now_limits A_t_now_stricts A_t_now_marks t_now_size t_now_marked t_now_wholeness t_now_upper t_now_lower t_now_limits t_now_stricts x8 x9 ((x7 - x7 / (41 : Int32) * (41 : Int32)) - (12 : Int32)) k0 _ h) (cwV 4 hts gX7_grow_X5_append rfl rfl rfl qX5_append ⟨Nat.le_of_ble_eq_true rfl, Nat.le_of_ble_eq_true rfl⟩) (mpVW hK hPc hDc (ci := 5) (q := (RX5, TX5, 8)) (q0 := 0) rfl rfl) rfl rfl hl.1 rfl (lv_room (Nat.le_of_ble_eq_true rfl)) dX7_grow_157 ⟨Nat.zero_le _, Nat.zero_le _⟩) hPn hDn hS hA (fun u H locs h hP hD hS => ?_)
              obtain ⟨t_now_size_v7, t_now_upper_v7, t_now_lower_v7, t_now_limits_v7, t_now_stricts_v7⟩ := u
              have hP : va_P D vwCl [(A_t, .inr (7, [.ref A_t_tape, .ref A_t_now, .ref A_t_images, .ref A_t_imageMade, .ref A_t_sheets, .ref A_t_rows, .ref A_t_clash, .ref A_t_span, .ref A_t_reader, .int t_latestTorn])), (A_t_now, .inr (5, [.ref A_t_now_upper, .ref A_t_now_lower, .ref A_t_now_limits, .ref A_t_now_stricts, .ref A_t_now_marks, .int t_now_size_v7, .int t_now_marked, .int t_now_wholeness])), (A_t_rows, .inr (2, [.ref A_t_rows_least, .ref A_t_rows_table])), (A_t_rows_least, .inl (cy 2, 10, .inr (.inl t_rows_least_v6))), (A_t_now_lower, .inl (cy 1, 24, .inl t_now_lower_v7)), (A_t_now_limits, .inl (cy 1, 24, .inl t_now_limits_v7)), (A_t_now_stricts, .inl (cy 1, 24, .inl t_now_stricts_v7)), (A_t_now_upper, .inl (cy 1, 24, .inl t_now_upper_v7))] H := hP.sub [0, 3, 1, 2, 5, 6, 7, 4] rfl
              have hD : va_D A [(A_t, .inr (7, [.ref A_t_tape, .ref A_t_now, .ref A_t_images, .ref A_t_imageMade, .ref A_t_sheets, .ref A_t_rows, .ref A_t_clash, .ref A_t_span, .ref A_t_reader, .int t_latestTorn])), (A_t_now, .inr (5, [.ref A_t_now_upper, .ref A_t_now_lower, .ref A_t_now_limits, .ref A_t_now_stricts, .ref A_t_now_marks, .int t_now_size_v7, .int t_now_marked, .int t_now_wholeness])), (A_t_rows, .inr (2, [.ref A_t_rows_least, .ref A_t_rows_table])), (A_t_rows_least, .inl (cy 2, 10, .inr (.inl t_rows_least_v6))), (A_t_now_lower, .inl (cy 1, 24, .inl t_now_lower_v7)), (A_t_now_limits, .inl (cy 1, 24, .inl t_now_limits_v7)), (A_t_now_stricts, .inl (cy 1, 24, .inl t_now_stricts_v7)), (A_t_now_upper, .inl (cy 1, 24, .inl t_now_upper_v7))] := hD.sub [0, 3, 1, 2, 5, 6, 7, 4] (by decide) rfl
              try dsimp only at h
              refine lv_iinc (v := x3 + (1 : Int32)) (lv' := [(3, .int (x3 + (1 : Int32))), (11, .int ((x7 - x7 / (41 : Int32) * (41 : Int32)) - (12 : Int32))), (10, .int k0), (0, .ref A_t), (2, .int x2), (4, .int x4), (5, .int x5), (7, .int x7), (8, .int x8), (9, .int x9)]) hx hb dX7_grow_160 hl (k := 4) rfl rfl (by decide) rfl (fun ls hl => ?_)
              exact J163 t_now_size_v7 t_rows_least_v6 t_now_lower_v7 t_now_limits_v7 t_now_stricts_v7 t_now_upper_v7 (x3 + (1 : Int32)) x4 x5 H locs ls h hP hD hS (lv_sub hl [3, 4, 0, 5, 6] rfl)
      refine lv_iload hx hb dX7_grow_21 (lv_at hl 4 rfl) ?_
      refine lv_iload_n hx hb dX7_grow_23 rfl (lv_at hl 1 rfl) ?_
      refine lv_icmp_ge (tgt := 169) hx hb dX7_grow_24 (by decide) (fun hc => ?_) (fun hc => ?_)
      · replace h := h.1 hc
        refine lv_iload_n hx hb dX7_grow_169 rfl (lv_at hl 2 rfl) ?_
        subst hQ
        subst hAe
        exact W.iret (v := x3) hx hb hr (fun t ht _ => ⟨⟨x3, (t_now_size, t_rows_least, t_now_lower, t_now_limits, t_now_stricts, t_now_upper), rfl, h, by rw [ht]; exact hP, hD⟩, hS.F ht⟩) hS.2.2 dX7_grow_170
      · replace h := h.2 hc
        refine lv_iload hx hb dX7_grow_27 (lv_at hl 3 rfl) ?_
        refine vp_callSi (W.runS (As := [.int x4]) (rest := []) CF (c_X7_nextSeed l x4 _ h) (va_cwS 1 hts gX7_grow_X7_nextSeed rfl rfl rfl qX7_nextSeed.2 ⟨Nat.le_of_ble_eq_true rfl, Nat.le_of_ble_eq_true rfl⟩) mpSN rfl rfl hl.1 rfl (lv_room (Nat.le_of_ble_eq_true rfl)) dX7_grow_29 ⟨Nat.zero_le _, Nat.zero_le _⟩) (fun r1 h => ?_)
        refine lv_istore (lv' := [(4, .int r1), (0, .ref A_t), (2, .int x2), (3, .int x3), (5, .int x5)]) hx hb dX7_grow_32 hl (by decide) rfl (fun ls hl => ?_)
        refine lv_iload hx hb dX7_grow_34 (lv_at hl 0 rfl) ?_
        refine vp_callSi (W.runS (As := [.int r1]) (rest := []) CF (c_X7_seedBits l r1 _ h) (va_cwS 1 hts gX7_grow_X7_seedBits rfl rfl rfl qX7_seedBits.2 ⟨Nat.le_of_ble_eq_true rfl, Nat.le_of_ble_eq_true rfl⟩) mpSN rfl rfl hl.1 rfl (lv_room (Nat.le_of_ble_eq_true rfl)) dX7_grow_36 ⟨Nat.zero_le _, Nat.zero_le _⟩) (fun r2 h => ?_)
        refine lv_istore (lv' := [(6, .int r2), (4, .int r1), (0, .ref A_t), (2, .int x2), (3, .int x3), (5, .int x5)]) hx hb dX7_grow_39 hl (by decide) rfl (fun ls hl => ?_)
        refine lv_iload hx hb dX7_grow_41 (lv_at hl 1 rfl) ?_
        refine vp_callSi (W.runS (As := [.int r1]) (rest := []) CF (c_X7_nextSeed l r1 _ h) (va_cwS 1 hts gX7_grow_X7_nextSeed rfl rfl rfl qX7_nextSeed.2 ⟨Nat.le_of_ble_eq_true rfl, Nat.le_of_ble_eq_true rfl⟩) mpSN rfl rfl hl.1 rfl (lv_room (Nat.le_of_ble_eq_true rfl)) dX7_grow_43 ⟨Nat.zero_le _, Nat.zero_le _⟩) (fun r3 h => ?_)
        refine lv_istore (lv' := [(4, .int r3), (6, .int r2), (0, .ref A_t), (2, .int x2), (3, .int x3), (5, .int x5)]) hx hb dX7_grow_46 hl (by decide) rfl (fun ls hl => ?_)
        refine lv_iload hx hb dX7_grow_48 (lv_at hl 0 rfl) ?_
        refine vp_callSi (W.runS (As := [.int r3]) (rest := []) CF (c_X7_seedBits l r3 _ h) (va_cwS 1 hts gX7_grow_X7_seedBits rfl rfl rfl qX7_seedBits.2 ⟨Nat.le_of_ble_eq_true rfl, Nat.le_of_ble_eq_true rfl⟩) mpSN rfl rfl hl.1 rfl (lv_room (Nat.le_of_ble_eq_true rfl)) dX7_grow_50 ⟨Nat.zero_le _, Nat.zero_le _⟩) (fun r4 h => ?_)
        refine lv_istore (lv' := [(7, .int r4), (4, .int r3), (6, .int r2), (0, .ref A_t), (2, .int x2), (3, .int x3), (5, .int x5)]) hx hb dX7_grow_53 hl (by decide) rfl (fun ls hl => ?_)
        refine lv_iload hx hb dX7_grow_55 (lv_at hl 2 rfl) ?_
        refine lv_bipush (v := 10) hx hb dX7_grow_57 (by decide) ?_
        refine lv_irem hx hb dX7_grow_59 (by decide) ?_
        refine lv_istore (lv' := [(8, .int (r2 - r2 / (10 : Int32) * (10 : Int32))), (7, .int r4), (4, .int r3), (6, .int r2), (0, .ref A_t), (2, .int x2), (3, .int x3), (5, .int x5)]) hx hb dX7_grow_60 hl (by decide) rfl (fun ls hl => ?_)
        refine lv_iload hx hb dX7_grow_62 (lv_at hl 3 rfl) ?_
        refine lv_bipush (v := 16) hx hb dX7_grow_64 (by decide) ?_
        refine lv_idiv hx hb dX7_grow_66 (by decide) ?_
        refine lv_bipush (v := 10) hx hb dX7_grow_67 (by decide) ?_
        refine lv_irem hx hb dX7_grow_69 (by decide) ?_
        refine lv_istore (lv' := [(9, .int ((r2 / (16 : Int32)) - (r2 / (16 : Int32)) / (10 : Int32) * (10 : Int32))), (8, .int (r2 - r2 / (10 : Int32) * (10 : Int32))), (7, .int r4), (4, .int r3), (6, .int r2), (0, .ref A_t), (2, .int x2), (3, .int x3), (5, .int x5)]) hx hb dX7_grow_70 hl (by decide) rfl (fun ls hl => ?_)
        refine lv_iload hx hb dX7_grow_72 (lv_at hl 4 rfl) ?_
        refine lv_sipush (v := 256) hx hb dX7_grow_74 (by decide) ?_
        refine lv_idiv hx hb dX7_grow_77 (by decide) ?_
        refine lv_iconst (v := 4) hx hb dX7_grow_78 (by decide) ?_
        refine lv_irem hx hb dX7_grow_79 (by decide) ?_
        refine lv_if_ne (tgt := 87) hx hb dX7_grow_80 (by decide) (fun hc => ?_) (fun hc => ?_)
        · replace h := h.1 hc
          refine lv_iconst (v := 0) hx hb dX7_grow_87 (by decide) ?_
          exact J88 t_now_size t_rows_least t_now_lower t_now_limits t_now_stricts t_now_upper x3 r3 x5 r4 (r2 - r2 / (10 : Int32) * (10 : Int32)) ((r2 / (16 : Int32)) - (r2 / (16 : Int32)) / (10 : Int32) * (10 : Int32)) (0 : Int32) H locs ls h hP hD hS (lv_sub hl [5, 6, 7, 3, 8, 2, 1, 0] rfl)
        · replace h := h.2 hc
          refine lv_iconst (v := 1) hx hb dX7_grow_83 (by decide) ?_
          refine lv_goto (tgt := 88) hx hb dX7_grow_84 (by decide) ?_
          exact J88 t_now_size t_rows_least t_now_lower t_now_limits t_now_stricts t_now_upper x3 r3 x5 r4 (r2 - r2 / (10 : Int32) * (10 : Int32)) ((r2 / (16 : Int32)) - (r2 / (16 : Int32)) / (10 : Int32) * (10 : Int32)) (1 : Int32) H locs ls h hP hD hS (lv_sub hl [5, 6, 7, 3, 8, 2, 1, 0] rfl)
  unfold P_X7_grow at h
  refine lv_iload_n hx hb dX7_grow_0 rfl (lv_at hl 2 rfl) ?_
  refine lv_iconst (v := 1) hx hb dX7_grow_1 (by decide) ?_
  refine lv_icmp_lt (tgt := 11) hx hb dX7_grow_2 (by decide) (fun hc => ?_) (fun hc => ?_)
  · replace h := h.1 hc
    refine lv_iconst (v := -1) hx hb dX7_grow_11 (by decide) ?_
    subst hQ
    subst hAe
    exact W.iret (v := (-1 : Int32)) hx hb hr (fun t ht _ => ⟨⟨(-1 : Int32), (t_now_size, t_rows_least, t_now_lower, t_now_limits, t_now_stricts, t_now_upper), rfl, h, by rw [ht]; exact hP, hD⟩, hS.F ht⟩) hS.2.2 dX7_grow_12
  · replace h := h.2 hc
    refine lv_iload_n hx hb dX7_grow_5 rfl (lv_at hl 2 rfl) ?_
    refine lv_bipush (v := 20) hx hb dX7_grow_6 (by decide) ?_
    refine lv_icmp_le (tgt := 13) hx hb dX7_grow_8 (by decide) (fun hc => ?_) (fun hc => ?_)
    · replace h := h.1 hc
      refine lv_iconst (v := 0) hx hb dX7_grow_13 (by decide) ?_
      refine lv_istore_n (lv' := [(3, .int (0 : Int32)), (0, .ref A_t), (1, .int x1), (2, .int x2)]) hx hb dX7_grow_14 rfl hl (by decide) rfl (fun ls hl => ?_)
      refine lv_iload_n hx hb dX7_grow_15 rfl (lv_at hl 2 rfl) ?_
      refine lv_istore (lv' := [(4, .int x1), (3, .int (0 : Int32)), (0, .ref A_t), (1, .int x1), (2, .int x2)]) hx hb dX7_grow_16 hl (by decide) rfl (fun ls hl => ?_)
      refine lv_iconst (v := 0) hx hb dX7_grow_18 (by decide) ?_
      refine lv_istore (lv' := [(5, .int (0 : Int32)), (4, .int x1), (3, .int (0 : Int32)), (0, .ref A_t), (1, .int x1), (2, .int x2)]) hx hb dX7_grow_19 hl (by decide) rfl (fun ls hl => ?_)
      obtain ⟨nn, h⟩ := h
      exact L21 nn t_now_size t_rows_least t_now_lower t_now_limits t_now_stricts t_now_upper (0 : Int32) x1 (0 : Int32) s.heap [] ls h hP hD hS (lv_sub hl [3, 5, 2, 1, 0] rfl)
    · replace h := h.2 hc
      refine lv_iconst (v := -1) hx hb dX7_grow_11 (by decide) ?_
      subst hQ
      subst hAe
      exact W.iret (v := (-1 : Int32)) hx hb hr (fun t ht _ => ⟨⟨(-1 : Int32), (t_now_size, t_rows_least, t_now_lower, t_now_limits, t_now_stricts, t_now_upper), rfl, h, by rw [ht]; exact hP, hD⟩, hS.F ht⟩) hS.2.2 dX7_grow_12
theorem qX7_torn : yX7_torn.cls = RX7 ∧ yX7_torn.cls ≠ "java/lang/invoke/MethodHandle" ∧ yX7_torn.cls ≠ "java/lang/invoke/VarHandle" ∧ (parseMethodDescriptor yX7_torn.desc).map (fun d => d.parameters.length) = some 0 := by decide +kernel
def P_X7_torn (post : Int32 → Prop) (t_latestTorn : Int32) : Prop :=
  post t_latestTorn
set_option maxHeartbeats 4000000 in
set_option maxRecDepth 100000 in
theorem c_X7_torn (l : Launch) (D : va_G) (cy : Nat → ClassId) (A_t A_t_tape A_t_now A_t_images A_t_imageMade A_t_sheets A_t_rows A_t_clash A_t_span A_t_reader : Nat) (t_latestTorn : Int32) (post : Int32 → Prop) (h : P_X7_torn post t_latestTorn) : Met l yX7_torn wsX7_torn { frames := 0, cells := 0, slots := 0, locals := 0 } (pcR D cy [(A_t, .inr (7, [.ref A_t_tape, .ref A_t_now, .ref A_t_images, .ref A_t_imageMade, .ref A_t_sheets, .ref A_t_rows, .ref A_t_clash, .ref A_t_span, .ref A_t_reader, .int t_latestTorn]))] [.ref A_t]) (vp_Si post) 0 0 (fun _ => False) := by
  refine Met.ofW (cc := cX7_torn) (maxL := 1) (ret := (some .int)) (by decide) rfl ?_
  intro p e s m args below meth c s₁ B hml hv
  obtain ⟨rfl, hP, hK⟩ := hv
  have hx := B.exec
  have hb := B.bytes
  have hr := B.returns
  have hts := atoms_spec (ws := wsX7_torn) B.pre
  have hown : s.vm.findClass RX7 = some m.cls := findClass_of_methodNamed B.named
  have hlocks := B.notSynchronized
  have CF : CallFix p m c cX7_torn 1 s ([.ref A_t] : List Value).toArray wsX7_torn RX7 := ⟨hx, hb, hml, hown, hts⟩
  have f0 := hts (.fieldLink RX7 64 "GapBounds" "latestTorn" "I") (by decide +kernel)
  have iX7 : ∀ w ∈ u_ws RX7 TX7 10, w ∈ wsX7_torn := by decide +kernel
  have hl := lv_entry [.ref A_t] (n := 1) (Nat.le_of_ble_eq_true rfl)
  rw [lg_entry_eq]
  generalize (lg_sl [.ref A_t] ++ List.replicate (1 - (lg_sl [.ref A_t]).length) Slot.unset).toArray = ls at hl ⊢
  have hl : lv_has ls 1 [(0, .ref A_t)] := hl
  refine W.gen (fun Q0 hQ => ?_)
  unfold P_X7_torn at h
  refine lv_aload_n hx hb dX7_torn_0 rfl (lv_at hl 0 rfl) ?_
  refine va_get (D := D) (ci := 7) (v := .int t_latestTorn) (C := RX7) (T := TX7) (N := 10) hx hb hts iX7 hown hK.1 hP 0 rfl rfl 9 (by decide) f0 (fun _ h9 => h9) rfl dX7_torn_1 ?_
  subst hQ
  exact W.iret (v := t_latestTorn) hx hb hr (fun t ht _ => ⟨t_latestTorn, rfl, h, ht⟩) (fun _ hq => absurd hq List.not_mem_nil) dX7_torn_4
theorem qX7_needlessBounds : yX7_needlessBounds.cls = RX7 ∧ yX7_needlessBounds.cls ≠ "java/lang/invoke/MethodHandle" ∧ yX7_needlessBounds.cls ≠ "java/lang/invoke/VarHandle" ∧ (parseMethodDescriptor yX7_needlessBounds.desc).map (fun d => d.parameters.length) = some 0 := by decide +kernel
def B_X7_needlessBounds_26 (K_4 : (Nat → Int64) → Int32 → Int32 → Prop) (t_rows_least : Nat → Int64) (x1 : Int32) (x2 : Int32) : Prop :=
  K_4 t_rows_least x1 (x2 + (1 : Int32))
def LB_X7_needlessBounds_4 (post : Int32 → (Nat → Int64) → Prop) (t_now_size : Int32) (t_now_wholeness : Int32) (t_now_lower : Nat → Int32) (t_now_upper : Nat → Int32) (t_now_limits : Nat → Int32) (t_now_stricts : Nat → Int32) (K_4 : (Nat → Int64) → Int32 → Int32 → Prop) (t_rows_least : Nat → Int64) (x1 : Int32) (x2 : Int32) : Prop :=
  ((t_now_size ≤ x2 → post x1 t_rows_least) ∧ (¬ t_now_size ≤ x2 → P_X7_isNeedless (fun (r1 : Int32) (t_rows_least_v1 : Nat → Int64) => ((r1 = 0 → B_X7_needlessBounds_26 K_4 t_rows_least_v1 x1 x2) ∧ (¬ r1 = 0 → B_X7_needlessBounds_26 K_4 t_rows_least_v1 (x1 + (1 : Int32)) x2))) t_now_size t_now_wholeness t_now_lower t_now_upper t_rows_least t_now_limits t_now_stricts x2))
noncomputable def L_X7_needlessBounds_4 (post : Int32 → (Nat → Int64) → Prop) (t_now_size : Int32) (t_now_wholeness : Int32) (t_now_lower : Nat → Int32) (t_now_upper : Nat → Int32) (t_now_limits : Nat → Int32) (t_now_stricts : Nat → Int32) (n : Nat) : (Nat → Int64) → Int32 → Int32 → Prop := Nat.rec (motive := fun _ => (Nat → Int64) → Int32 → Int32 → Prop) (fun _ _ _ => False) (fun _ K => LB_X7_needlessBounds_4 post t_now_size t_now_wholeness t_now_lower t_now_upper t_now_limits t_now_stricts K) n
def P_X7_needlessBounds (post : Int32 → (Nat → Int64) → Prop) (t_now_size : Int32) (t_now_wholeness : Int32) (t_now_lower : Nat → Int32) (t_now_upper : Nat → Int32) (t_rows_least : Nat → Int64) (t_now_limits : Nat → Int32) (t_now_stricts : Nat → Int32) : Prop :=
  ∃ n : Nat, L_X7_needlessBounds_4 post t_now_size t_now_wholeness t_now_lower t_now_upper t_now_limits t_now_stricts n t_rows_least (0 : Int32) (0 : Int32)
set_option maxHeartbeats 4000000 in
set_option maxRecDepth 100000 in
theorem c_X7_needlessBounds (l : Launch) (D : va_G) (cy : Nat → ClassId) (sz : Nat) (A_t A_t_tape A_t_now A_t_images A_t_imageMade A_t_sheets A_t_rows A_t_clash A_t_span A_t_reader A_t_now_upper A_t_now_lower A_t_now_limits A_t_now_stricts A_t_now_marks A_t_rows_least A_t_rows_table : Nat) (t_latestTorn : Int32) (t_now_size : Int32) (t_now_marked : Int32) (t_now_wholeness : Int32) (t_now_lower : Nat → Int32) (t_now_upper : Nat → Int32) (t_rows_least : Nat → Int64) (t_now_limits : Nat → Int32) (t_now_stricts : Nat → Int32) (post : Int32 → (Nat → Int64) → Prop) (h : P_X7_needlessBounds post t_now_size t_now_wholeness t_now_lower t_now_upper t_rows_least t_now_limits t_now_stricts) : Met l yX7_needlessBounds wsX7_needlessBounds { frames := 4, cells := 0, slots := 0, locals := 98 } (pcW D cy [(A_t, .inr (7, [.ref A_t_tape, .ref A_t_now, .ref A_t_images, .ref A_t_imageMade, .ref A_t_sheets, .ref A_t_rows, .ref A_t_clash, .ref A_t_span, .ref A_t_reader, .int t_latestTorn])), (A_t_now, .inr (5, [.ref A_t_now_upper, .ref A_t_now_lower, .ref A_t_now_limits, .ref A_t_now_stricts, .ref A_t_now_marks, .int t_now_size, .int t_now_marked, .int t_now_wholeness])), (A_t_now_lower, .inl (cy 1, 24, .inl t_now_lower)), (A_t_now_upper, .inl (cy 1, 24, .inl t_now_upper)), (A_t_rows, .inr (2, [.ref A_t_rows_least, .ref A_t_rows_table])), (A_t_rows_least, .inl (cy 2, 10, .inr (.inl t_rows_least))), (A_t_now_limits, .inl (cy 1, 24, .inl t_now_limits)), (A_t_now_stricts, .inl (cy 1, 24, .inl t_now_stricts))] sz [.ref A_t]) (va_Qi (fun r (u : (Nat → Int64)) => post r u) (bW D [(A_t, .inr (7, [.ref A_t_tape, .ref A_t_now, .ref A_t_images, .ref A_t_imageMade, .ref A_t_sheets, .ref A_t_rows, .ref A_t_clash, .ref A_t_span, .ref A_t_reader, .int t_latestTorn])), (A_t_now, .inr (5, [.ref A_t_now_upper, .ref A_t_now_lower, .ref A_t_now_limits, .ref A_t_now_stricts, .ref A_t_now_marks, .int t_now_size, .int t_now_marked, .int t_now_wholeness])), (A_t_now_lower, .inl (cy 1, 24, .inl t_now_lower)), (A_t_now_upper, .inl (cy 1, 24, .inl t_now_upper)), (A_t_rows, .inr (2, [.ref A_t_rows_least, .ref A_t_rows_table])), (A_t_rows_least, .inl (cy 2, 10, .inr (.inl t_rows_least))), (A_t_now_limits, .inl (cy 1, 24, .inl t_now_limits)), (A_t_now_stricts, .inl (cy 1, 24, .inl t_now_stricts))] sz (fun u => [(A_t, .inr (7, [.ref A_t_tape, .ref A_t_now, .ref A_t_images, .ref A_t_imageMade, .ref A_t_sheets, .ref A_t_rows, .ref A_t_clash, .ref A_t_span, .ref A_t_reader, .int t_latestTorn])), (A_t_now, .inr (5, [.ref A_t_now_upper, .ref A_t_now_lower, .ref A_t_now_limits, .ref A_t_now_stricts, .ref A_t_now_marks, .int t_now_size, .int t_now_marked, .int t_now_wholeness])), (A_t_now_lower, .inl (cy 1, 24, .inl t_now_lower)), (A_t_now_upper, .inl (cy 1, 24, .inl t_now_upper)), (A_t_rows, .inr (2, [.ref A_t_rows_least, .ref A_t_rows_table])), (A_t_rows_least, .inl (cy 2, 10, .inr (.inl u))), (A_t_now_limits, .inl (cy 1, 24, .inl t_now_limits)), (A_t_now_stricts, .inl (cy 1, 24, .inl t_now_stricts))])) (va_A [(A_t, .inr (7, [.ref A_t_tape, .ref A_t_now, .ref A_t_images, .ref A_t_imageMade, .ref A_t_sheets, .ref A_t_rows, .ref A_t_clash, .ref A_t_span, .ref A_t_reader, .int t_latestTorn])), (A_t_now, .inr (5, [.ref A_t_now_upper, .ref A_t_now_lower, .ref A_t_now_limits, .ref A_t_now_stricts, .ref A_t_now_marks, .int t_now_size, .int t_now_marked, .int t_now_wholeness])), (A_t_now_lower, .inl (cy 1, 24, .inl t_now_lower)), (A_t_now_upper, .inl (cy 1, 24, .inl t_now_upper)), (A_t_rows, .inr (2, [.ref A_t_rows_least, .ref A_t_rows_table])), (A_t_rows_least, .inl (cy 2, 10, .inr (.inl t_rows_least))), (A_t_now_limits, .inl (cy 1, 24, .inl t_now_limits)), (A_t_now_stricts, .inl (cy 1, 24, .inl t_now_stricts))] sz)) 0 0 (va_A [(A_t, .inr (7, [.ref A_t_tape, .ref A_t_now, .ref A_t_images, .ref A_t_imageMade, .ref A_t_sheets, .ref A_t_rows, .ref A_t_clash, .ref A_t_span, .ref A_t_reader, .int t_latestTorn])), (A_t_now, .inr (5, [.ref A_t_now_upper, .ref A_t_now_lower, .ref A_t_now_limits, .ref A_t_now_stricts, .ref A_t_now_marks, .int t_now_size, .int t_now_marked, .int t_now_wholeness])), (A_t_now_lower, .inl (cy 1, 24, .inl t_now_lower)), (A_t_now_upper, .inl (cy 1, 24, .inl t_now_upper)), (A_t_rows, .inr (2, [.ref A_t_rows_least, .ref A_t_rows_table])), (A_t_rows_least, .inl (cy 2, 10, .inr (.inl t_rows_least))), (A_t_now_limits, .inl (cy 1, 24, .inl t_now_limits)), (A_t_now_stricts, .inl (cy 1, 24, .inl t_now_stricts))] sz) := by
  refine Met.ofW (cc := cX7_needlessBounds) (maxL := 3) (ret := (some .int)) (by decide) rfl ?_
  intro p e s m args below meth c s₁ B hml hv
  obtain ⟨rfl, hsz, hP, hK, hD0⟩ := hv
  have hx := B.exec
  have hb := B.bytes
  have hr := B.returns
  have hts := atoms_spec (ws := wsX7_needlessBounds) B.pre
  have hown : s.vm.findClass RX7 = some m.cls := findClass_of_methodNamed B.named
  have hlocks := B.notSynchronized
  have CF : CallFix p m c cX7_needlessBounds 3 s ([.ref A_t] : List Value).toArray wsX7_needlessBounds RX7 := ⟨hx, hb, hml, hown, hts⟩
  have f0 := hts (.fieldLink RX7 10 "GapBounds" "now" "LGapBounds$Store;") (by decide +kernel)
  have f1 := hts (.fieldLink RX7 108 "GapBounds$Store" "size" "I") (by decide +kernel)
  have iX5 : ∀ w ∈ u_ws RX5 TX5 8, w ∈ wsX7_needlessBounds := by decide +kernel
  have iX7 : ∀ w ∈ u_ws RX7 TX7 10, w ∈ wsX7_needlessBounds := by decide +kernel
  subst hsz
  obtain ⟨A, hAe⟩ : ∃ A, A = va_A [(A_t, .inr (7, [.ref A_t_tape, .ref A_t_now, .ref A_t_images, .ref A_t_imageMade, .ref A_t_sheets, .ref A_t_rows, .ref A_t_clash, .ref A_t_span, .ref A_t_reader, .int t_latestTorn])), (A_t_now, .inr (5, [.ref A_t_now_upper, .ref A_t_now_lower, .ref A_t_now_limits, .ref A_t_now_stricts, .ref A_t_now_marks, .int t_now_size, .int t_now_marked, .int t_now_wholeness])), (A_t_now_lower, .inl (cy 1, 24, .inl t_now_lower)), (A_t_now_upper, .inl (cy 1, 24, .inl t_now_upper)), (A_t_rows, .inr (2, [.ref A_t_rows_least, .ref A_t_rows_table])), (A_t_rows_least, .inl (cy 2, 10, .inr (.inl t_rows_least))), (A_t_now_limits, .inl (cy 1, 24, .inl t_now_limits)), (A_t_now_stricts, .inl (cy 1, 24, .inl t_now_stricts))] s.heap.size := ⟨_, rfl⟩
  have hD : va_D A [(A_t, .inr (7, [.ref A_t_tape, .ref A_t_now, .ref A_t_images, .ref A_t_imageMade, .ref A_t_sheets, .ref A_t_rows, .ref A_t_clash, .ref A_t_span, .ref A_t_reader, .int t_latestTorn])), (A_t_now, .inr (5, [.ref A_t_now_upper, .ref A_t_now_lower, .ref A_t_now_limits, .ref A_t_now_stricts, .ref A_t_now_marks, .int t_now_size, .int t_now_marked, .int t_now_wholeness])), (A_t_now_lower, .inl (cy 1, 24, .inl t_now_lower)), (A_t_now_upper, .inl (cy 1, 24, .inl t_now_upper)), (A_t_rows, .inr (2, [.ref A_t_rows_least, .ref A_t_rows_table])), (A_t_rows_least, .inl (cy 2, 10, .inr (.inl t_rows_least))), (A_t_now_limits, .inl (cy 1, 24, .inl t_now_limits)), (A_t_now_stricts, .inl (cy 1, 24, .inl t_now_stricts))] := by rw [hAe]; exact hD0.self
  have hA : ∀ q : Nat, s.heap.size ≤ q → A q := fun q hq => by rw [hAe]; exact Or.inr hq
  have hS : va_S A s.heap s.heap [] := va_S.rf
  have hl := lv_entry [.ref A_t] (n := 3) (Nat.le_of_ble_eq_true rfl)
  rw [lg_entry_eq]
  generalize (lg_sl [.ref A_t] ++ List.replicate (3 - (lg_sl [.ref A_t]).length) Slot.unset).toArray = ls at hl ⊢
  have hl : lv_has ls 3 [(0, .ref A_t)] := hl
  refine W.gen (fun Q0 hQ => ?_)
  have L4 : ∀ (n4 : Nat) (t_rows_least : Nat → Int64) (x1 : Int32) (x2 : Int32) (H : Heap) (locs : List Loc) (ls : Array Slot), L_X7_needlessBounds_4 post t_now_size t_now_wholeness t_now_lower t_now_upper t_now_limits t_now_stricts n4 t_rows_least x1 x2 → va_P D vwCl [(A_t, .inr (7, [.ref A_t_tape, .ref A_t_now, .ref A_t_images, .ref A_t_imageMade, .ref A_t_sheets, .ref A_t_rows, .ref A_t_clash, .ref A_t_span, .ref A_t_reader, .int t_latestTorn])), (A_t_now, .inr (5, [.ref A_t_now_upper, .ref A_t_now_lower, .ref A_t_now_limits, .ref A_t_now_stricts, .ref A_t_now_marks, .int t_now_size, .int t_now_marked, .int t_now_wholeness])), (A_t_now_lower, .inl (cy 1, 24, .inl t_now_lower)), (A_t_now_upper, .inl (cy 1, 24, .inl t_now_upper)), (A_t_rows, .inr (2, [.ref A_t_rows_least, .ref A_t_rows_table])), (A_t_rows_least, .inl (cy 2, 10, .inr (.inl t_rows_least))), (A_t_now_limits, .inl (cy 1, 24, .inl t_now_limits)), (A_t_now_stricts, .inl (cy 1, 24, .inl t_now_stricts))] H → va_D A [(A_t, .inr (7, [.ref A_t_tape, .ref A_t_now, .ref A_t_images, .ref A_t_imageMade, .ref A_t_sheets, .ref A_t_rows, .ref A_t_clash, .ref A_t_span, .ref A_t_reader, .int t_latestTorn])), (A_t_now, .inr (5, [.ref A_t_now_upper, .ref A_t_now_lower, .ref A_t_now_limits, .ref A_t_now_stricts, .ref A_t_now_marks, .int t_now_size, .int t_now_marked, .int t_now_wholeness])), (A_t_now_lower, .inl (cy 1, 24, .inl t_now_lower)), (A_t_now_upper, .inl (cy 1, 24, .inl t_now_upper)), (A_t_rows, .inr (2, [.ref A_t_rows_least, .ref A_t_rows_table])), (A_t_rows_least, .inl (cy 2, 10, .inr (.inl t_rows_least))), (A_t_now_limits, .inl (cy 1, 24, .inl t_now_limits)), (A_t_now_stricts, .inl (cy 1, 24, .inl t_now_stricts))] → va_S A s.heap H locs → lv_has ls 3 [(0, .ref A_t), (1, .int x1), (2, .int x2)] → W p l e (headSpec wsX7_needlessBounds { frames := 4, cells := 0, slots := 0, locals := 98 }).room s m ([.ref A_t] : List Value).toArray below meth c H locs 0 0 Q0 (F0 m 4 ls []) := by
    intro n4
    induction n4 with
    | zero => intro t_rows_least x1 x2 H locs ls h; exact False.elim h
    | succ n4 ih4 =>
      intro t_rows_least x1 x2 H locs ls h hP hD hS hl
      have h : LB_X7_needlessBounds_4 post t_now_size t_now_wholeness t_now_lower t_now_upper t_now_limits t_now_stricts (L_X7_needlessBounds_4 post t_now_size t_now_wholeness t_now_lower t_now_upper t_now_limits t_now_stricts n4) t_rows_least x1 x2 := h
      unfold LB_X7_needlessBounds_4 at h
      have J26 : ∀ (t_rows_least : Nat → Int64) (x1 : Int32) (x2 : Int32) (H : Heap) (locs : List Loc) (ls : Array Slot), B_X7_needlessBounds_26 (L_X7_needlessBounds_4 post t_now_size t_now_wholeness t_now_lower t_now_upper t_now_limits t_now_stricts n4) t_rows_least x1 x2 → va_P D vwCl [(A_t, .inr (7, [.ref A_t_tape, .ref A_t_now, .ref A_t_images, .ref A_t_imageMade, .ref A_t_sheets, .ref A_t_rows, .ref A_t_clash, .ref A_t_span, .ref A_t_reader, .int t_latestTorn])), (A_t_now, .inr (5, [.ref A_t_now_upper, .ref A_t_now_lower, .ref A_t_now_limits, .ref A_t_now_stricts, .ref A_t_now_marks, .int t_now_size, .int t_now_marked, .int t_now_wholeness])), (A_t_now_lower, .inl (cy 1, 24, .inl t_now_lower)), (A_t_now_upper, .inl (cy 1, 24, .inl t_now_upper)), (A_t_rows, .inr (2, [.ref A_t_rows_least, .ref A_t_rows_table])), (A_t_rows_least, .inl (cy 2, 10, .inr (.inl t_rows_least))), (A_t_now_limits, .inl (cy 1, 24, .inl t_now_limits)), (A_t_now_stricts, .inl (cy 1, 24, .inl t_now_stricts))] H → va_D A [(A_t, .inr (7, [.ref A_t_tape, .ref A_t_now, .ref A_t_images, .ref A_t_imageMade, .ref A_t_sheets, .ref A_t_rows, .ref A_t_clash, .ref A_t_span, .ref A_t_reader, .int t_latestTorn])), (A_t_now, .inr (5, [.ref A_t_now_upper, .ref A_t_now_lower, .ref A_t_now_limits, .ref A_t_now_stricts, .ref A_t_now_marks, .int t_now_size, .int t_now_marked, .int t_now_wholeness])), (A_t_now_lower, .inl (cy 1, 24, .inl t_now_lower)), (A_t_now_upper, .inl (cy 1, 24, .inl t_now_upper)), (A_t_rows, .inr (2, [.ref A_t_rows_least, .ref A_t_rows_table])), (A_t_rows_least, .inl (cy 2, 10, .inr (.inl t_rows_least))), (A_t_now_limits, .inl (cy 1, 24, .inl t_now_limits)), (A_t_now_stricts, .inl (cy 1, 24, .inl t_now_stricts))] → va_S A s.heap H locs → lv_has ls 3 [(0, .ref A_t), (1, .int x1), (2, .int x2)] → W p l e (headSpec wsX7_needlessBounds { frames := 4, cells := 0, slots := 0, locals := 98 }).room s m ([.ref A_t] : List Value).toArray below meth c H locs 0 0 Q0 (F0 m 26 ls []) := by
        intro t_rows_least x1 x2 H locs ls h hP hD hS hl
        unfold B_X7_needlessBounds_26 at h
        refine lv_iinc (v := x2 + (1 : Int32)) (lv' := [(2, .int (x2 + (1 : Int32))), (0, .ref A_t), (1, .int x1)]) hx hb dX7_needlessBounds_26 hl (k := 2) rfl rfl (by decide) rfl (fun ls hl => ?_)
        refine lv_goto (tgt := 4) hx hb dX7_needlessBounds_29 (by decide) ?_
        exact ih4 t_rows_least x1 (x2 + (1 : Int32)) H locs ls h hP hD hS (lv_sub hl [1, 2, 0] rfl)
      refine lv_iload_n hx hb dX7_needlessBounds_4 rfl (lv_at hl 2 rfl) ?_
      refine lv_aload_n hx hb dX7_needlessBounds_5 rfl (lv_at hl 0 rfl) ?_
      refine va_get (D := D) (ci := 7) (v := .ref A_t_now) (C := RX7) (T := TX7) (N := 10) hx hb hts iX7 hown hK.1 hP 0 rfl rfl 1 (by decide) f0 (fun _ h9 => h9) rfl dX7_needlessBounds_6 ?_
      refine va_get (D := D) (ci := 5) (v := .int t_now_size) (C := RX5) (T := TX5) (N := 8) hx hb hts iX5 hown hK.1 hP 1 rfl rfl 5 (by decide) f1 (fun _ h9 => h9) rfl dX7_needlessBounds_9 ?_
      refine lv_icmp_ge (tgt := 32) hx hb dX7_needlessBounds_12 (by decide) (fun hc => ?_) (fun hc => ?_)
      · replace h := h.1 hc
        refine lv_iload_n hx hb dX7_needlessBounds_32 rfl (lv_at hl 1 rfl) ?_
        subst hQ
        subst hAe
        exact W.iret (v := x1) hx hb hr (fun t ht _ => ⟨⟨x1, t_rows_least, rfl, h, by rw [ht]; exact hP, hD⟩, hS.F ht⟩) hS.2.2 dX7_needlessBounds_33
      · replace h := h.2 hc
        refine lv_aload_n hx hb dX7_needlessBounds_15 rfl (lv_at hl 0 rfl) ?_
        refine lv_iload_n hx hb dX7_needlessBounds_16 rfl (lv_at hl 2 rfl) ?_
        have hPn : va_P D vwCl ([] ++ [(A_t, .inr (7, [.ref A_t_tape, .ref A_t_now, .ref A_t_images, .ref A_t_imageMade, .ref A_t_sheets, .ref A_t_rows, .ref A_t_clash, .ref A_t_span, .ref A_t_reader, .int t_latestTorn])), (A_t_now, .inr (5, [.ref A_t_now_upper, .ref A_t_now_lower, .ref A_t_now_limits, .ref A_t_now_stricts, .ref A_t_now_marks, .int t_now_size, .int t_now_marked, .int t_now_wholeness])), (A_t_now_lower, .inl (cy 1, 24, .inl t_now_lower)), (A_t_now_upper, .inl (cy 1, 24, .inl t_now_upper)), (A_t_rows, .inr (2, [.ref A_t_rows_least, .ref A_t_rows_table])), (A_t_rows_least, .inl (cy 2, 10, .inr (.inl t_rows_least))), (A_t_now_limits, .inl (cy 1, 24, .inl t_now_limits)), (A_t_now_stricts, .inl (cy 1, 24, .inl t_now_stricts))]) H := hP.sub [0, 1, 2, 3, 4, 5, 6, 7] rfl
        have hDn : va_D A ([] ++ [(A_t, .inr (7, [.ref A_t_tape, .ref A_t_now, .ref A_t_images, .ref A_t_imageMade, .ref A_t_sheets, .ref A_t_rows, .ref A_t_clash, .ref A_t_span, .ref A_t_reader, .int t_latestTorn])), (A_t_now, .inr (5, [.ref A_t_now_upper, .ref A_t_now_lower, .ref A_t_now_limits, .ref A_t_now_stricts, .ref A_t_now_marks, .int t_now_size, .int t_now_marked, .int t_now_wholeness])), (A_t_now_lower, .inl (cy 1, 24, .inl t_now_lower)), (A_t_now_upper, .inl (cy 1, 24, .inl t_now_upper)), (A_t_rows, .inr (2, [.ref A_t_rows_least, .ref A_t_rows_table])), (A_t_rows_least, .inl (cy 2, 10, .inr (.inl t_rows_least))), (A_t_now_limits, .inl (cy 1, 24, .inl t_now_limits)), (A_t_now_stricts, .inl (cy 1, 24, .inl t_now_stricts))]) := hD.sub [0, 1, 2, 3, 4, 5, 6, 7] (by decide) rfl
        have hPc := gPR hPn
        have hDc := gDR hDn
        refine mw_i (va_runV (As := [.int x2]) (rest := []) CF (c_X7_isNeedless l D cy H.size A_t A_t_tape A_t_now A_t_images A_t_imageMade A_t_sheets A_t_rows A_t_clash A_t_span A_t_reader A_t_now_upper A_t_now_lower A_t_now_limits A_t_now_stricts A_t_now_marks A_t_rows_least A_t_rows_table t_latestTorn t_now_size t_now_marked t_now_wholeness t_now_lower t_now_upper t_rows_least t_now_limits t_now_stricts x2 _ h) (cwV 1 hts gX7_needlessBounds_X7_isNeedless rfl rfl rfl qX7_isNeedless ⟨Nat.le_of_ble_eq_true rfl, Nat.le_of_ble_eq_true rfl⟩) (mpVW hK hPc hDc (ci := 7) (q := (RX7, TX7, 10)) (q0 := 0) rfl rfl) rfl rfl hl.1 rfl (lv_room (Nat.le_of_ble_eq_true rfl)) dX7_needlessBounds_17 ⟨Nat.zero_le _, Nat.zero_le _⟩) hPn hDn hS hA (fun r1 t_rows_least_v1 H locs h hP hD hS => ?_)
        have hP : va_P D vwCl [(A_t, .inr (7, [.ref A_t_tape, .ref A_t_now, .ref A_t_images, .ref A_t_imageMade, .ref A_t_sheets, .ref A_t_rows, .ref A_t_clash, .ref A_t_span, .ref A_t_reader, .int t_latestTorn])), (A_t_now, .inr (5, [.ref A_t_now_upper, .ref A_t_now_lower, .ref A_t_now_limits, .ref A_t_now_stricts, .ref A_t_now_marks, .int t_now_size, .int t_now_marked, .int t_now_wholeness])), (A_t_now_lower, .inl (cy 1, 24, .inl t_now_lower)), (A_t_now_upper, .inl (cy 1, 24, .inl t_now_upper)), (A_t_rows, .inr (2, [.ref A_t_rows_least, .ref A_t_rows_table])), (A_t_rows_least, .inl (cy 2, 10, .inr (.inl t_rows_least_v1))), (A_t_now_limits, .inl (cy 1, 24, .inl t_now_limits)), (A_t_now_stricts, .inl (cy 1, 24, .inl t_now_stricts))] H := hP.sub [0, 1, 2, 3, 4, 5, 6, 7] rfl
        have hD : va_D A [(A_t, .inr (7, [.ref A_t_tape, .ref A_t_now, .ref A_t_images, .ref A_t_imageMade, .ref A_t_sheets, .ref A_t_rows, .ref A_t_clash, .ref A_t_span, .ref A_t_reader, .int t_latestTorn])), (A_t_now, .inr (5, [.ref A_t_now_upper, .ref A_t_now_lower, .ref A_t_now_limits, .ref A_t_now_stricts, .ref A_t_now_marks, .int t_now_size, .int t_now_marked, .int t_now_wholeness])), (A_t_now_lower, .inl (cy 1, 24, .inl t_now_lower)), (A_t_now_upper, .inl (cy 1, 24, .inl t_now_upper)), (A_t_rows, .inr (2, [.ref A_t_rows_least, .ref A_t_rows_table])), (A_t_rows_least, .inl (cy 2, 10, .inr (.inl t_rows_least_v1))), (A_t_now_limits, .inl (cy 1, 24, .inl t_now_limits)), (A_t_now_stricts, .inl (cy 1, 24, .inl t_now_stricts))] := hD.sub [0, 1, 2, 3, 4, 5, 6, 7] (by decide) rfl
        refine lv_if_eq (tgt := 26) hx hb dX7_needlessBounds_20 (by decide) (fun hc => ?_) (fun hc => ?_)
        · replace h := h.1 hc
          exact J26 t_rows_least_v1 x1 x2 H locs ls h hP hD hS (lv_sub hl [0, 1, 2] rfl)
        · replace h := h.2 hc
          refine lv_iinc (v := x1 + (1 : Int32)) (lv' := [(1, .int (x1 + (1 : Int32))), (0, .ref A_t), (2, .int x2)]) hx hb dX7_needlessBounds_23 hl (k := 1) rfl rfl (by decide) rfl (fun ls hl => ?_)
          exact J26 t_rows_least_v1 (x1 + (1 : Int32)) x2 H locs ls h hP hD hS (lv_sub hl [1, 0, 2] rfl)
  unfold P_X7_needlessBounds at h
  refine lv_iconst (v := 0) hx hb dX7_needlessBounds_0 (by decide) ?_
  refine lv_istore_n (lv' := [(1, .int (0 : Int32)), (0, .ref A_t)]) hx hb dX7_needlessBounds_1 rfl hl (by decide) rfl (fun ls hl => ?_)
  refine lv_iconst (v := 0) hx hb dX7_needlessBounds_2 (by decide) ?_
  refine lv_istore_n (lv' := [(2, .int (0 : Int32)), (1, .int (0 : Int32)), (0, .ref A_t)]) hx hb dX7_needlessBounds_3 rfl hl (by decide) rfl (fun ls hl => ?_)
  obtain ⟨nn, h⟩ := h
  exact L4 nn t_rows_least (0 : Int32) (0 : Int32) s.heap [] ls h hP hD hS (lv_sub hl [2, 1, 0] rfl)
theorem qX7_imagesMade : yX7_imagesMade.cls = RX7 ∧ yX7_imagesMade.cls ≠ "java/lang/invoke/MethodHandle" ∧ yX7_imagesMade.cls ≠ "java/lang/invoke/VarHandle" ∧ (parseMethodDescriptor yX7_imagesMade.desc).map (fun d => d.parameters.length) = some 0 := by decide +kernel
def B_X7_imagesMade_21 (K_4 : Int32 → Int32 → Prop) (x1 : Int32) (x2 : Int32) : Prop :=
  K_4 x1 (x2 + (1 : Int32))
def LB_X7_imagesMade_4 (post : Int32 → Prop) (t_imageMade : Nat → Int32) (K_4 : Int32 → Int32 → Prop) (x1 : Int32) (x2 : Int32) : Prop :=
  (((2 : Int32) ≤ x2 → post x1) ∧ (¬ (2 : Int32) ≤ x2 → (vp_in x2 2 ∧ ((t_imageMade x2.toNatClampNeg = 0 → B_X7_imagesMade_21 K_4 x1 x2) ∧ (¬ t_imageMade x2.toNatClampNeg = 0 → B_X7_imagesMade_21 K_4 (x1 + (1 : Int32)) x2)))))
noncomputable def L_X7_imagesMade_4 (post : Int32 → Prop) (t_imageMade : Nat → Int32) (n : Nat) : Int32 → Int32 → Prop := Nat.rec (motive := fun _ => Int32 → Int32 → Prop) (fun _ _ => False) (fun _ K => LB_X7_imagesMade_4 post t_imageMade K) n
def P_X7_imagesMade (post : Int32 → Prop) (t_imageMade : Nat → Int32) : Prop :=
  ∃ n : Nat, L_X7_imagesMade_4 post t_imageMade n (0 : Int32) (0 : Int32)
set_option maxHeartbeats 4000000 in
set_option maxRecDepth 100000 in
theorem c_X7_imagesMade (l : Launch) (D : va_G) (cy : Nat → ClassId) (A_t A_t_tape A_t_now A_t_images A_t_imageMade A_t_sheets A_t_rows A_t_clash A_t_span A_t_reader : Nat) (t_latestTorn : Int32) (t_imageMade : Nat → Int32) (post : Int32 → Prop) (h : P_X7_imagesMade post t_imageMade) : Met l yX7_imagesMade wsX7_imagesMade { frames := 0, cells := 0, slots := 0, locals := 0 } (pcR D cy [(A_t, .inr (7, [.ref A_t_tape, .ref A_t_now, .ref A_t_images, .ref A_t_imageMade, .ref A_t_sheets, .ref A_t_rows, .ref A_t_clash, .ref A_t_span, .ref A_t_reader, .int t_latestTorn])), (A_t_imageMade, .inl (cy 3, 2, .inl t_imageMade))] [.ref A_t]) (vp_Si post) 0 0 (fun _ => False) := by
  refine Met.ofW (cc := cX7_imagesMade) (maxL := 3) (ret := (some .int)) (by decide) rfl ?_
  intro p e s m args below meth c s₁ B hml hv
  obtain ⟨rfl, hP, hK⟩ := hv
  have hx := B.exec
  have hb := B.bytes
  have hr := B.returns
  have hts := atoms_spec (ws := wsX7_imagesMade) B.pre
  have hown : s.vm.findClass RX7 = some m.cls := findClass_of_methodNamed B.named
  have hlocks := B.notSynchronized
  have CF : CallFix p m c cX7_imagesMade 3 s ([.ref A_t] : List Value).toArray wsX7_imagesMade RX7 := ⟨hx, hb, hml, hown, hts⟩
  have f0 := hts (.fieldLink RX7 20 "GapBounds" "imageMade" "[Z") (by decide +kernel)
  have iX7 : ∀ w ∈ u_ws RX7 TX7 10, w ∈ wsX7_imagesMade := by decide +kernel
  have hl := lv_entry [.ref A_t] (n := 3) (Nat.le_of_ble_eq_true rfl)
  rw [lg_entry_eq]
  generalize (lg_sl [.ref A_t] ++ List.replicate (3 - (lg_sl [.ref A_t]).length) Slot.unset).toArray = ls at hl ⊢
  have hl : lv_has ls 3 [(0, .ref A_t)] := hl
  refine W.gen (fun Q0 hQ => ?_)
  have L4 : ∀ (n4 : Nat) (x1 : Int32) (x2 : Int32) (ls : Array Slot), L_X7_imagesMade_4 post t_imageMade n4 x1 x2 → lv_has ls 3 [(0, .ref A_t), (1, .int x1), (2, .int x2)] → W p l e (headSpec wsX7_imagesMade { frames := 0, cells := 0, slots := 0, locals := 0 }).room s m ([.ref A_t] : List Value).toArray below meth c s.heap [] 0 0 Q0 (F0 m 4 ls []) := by
    intro n4
    induction n4 with
    | zero => intro x1 x2 ls h; exact False.elim h
    | succ n4 ih4 =>
      intro x1 x2 ls h hl
      have h : LB_X7_imagesMade_4 post t_imageMade (L_X7_imagesMade_4 post t_imageMade n4) x1 x2 := h
      unfold LB_X7_imagesMade_4 at h
      have J21 : ∀ (x1 : Int32) (x2 : Int32) (ls : Array Slot), B_X7_imagesMade_21 (L_X7_imagesMade_4 post t_imageMade n4) x1 x2 → lv_has ls 3 [(0, .ref A_t), (1, .int x1), (2, .int x2)] → W p l e (headSpec wsX7_imagesMade { frames := 0, cells := 0, slots := 0, locals := 0 }).room s m ([.ref A_t] : List Value).toArray below meth c s.heap [] 0 0 Q0 (F0 m 21 ls []) := by
        intro x1 x2 ls h hl
        unfold B_X7_imagesMade_21 at h
        refine lv_iinc (v := x2 + (1 : Int32)) (lv' := [(2, .int (x2 + (1 : Int32))), (0, .ref A_t), (1, .int x1)]) hx hb dX7_imagesMade_21 hl (k := 2) rfl rfl (by decide) rfl (fun ls hl => ?_)
        refine lv_goto (tgt := 4) hx hb dX7_imagesMade_24 (by decide) ?_
        exact ih4 x1 (x2 + (1 : Int32)) ls h (lv_sub hl [1, 2, 0] rfl)
      refine lv_iload_n hx hb dX7_imagesMade_4 rfl (lv_at hl 2 rfl) ?_
      refine lv_iconst (v := 2) hx hb dX7_imagesMade_5 (by decide) ?_
      refine lv_icmp_ge (tgt := 27) hx hb dX7_imagesMade_6 (by decide) (fun hc => ?_) (fun hc => ?_)
      · replace h := h.1 hc
        refine lv_iload_n hx hb dX7_imagesMade_27 rfl (lv_at hl 1 rfl) ?_
        subst hQ
        exact W.iret (v := x1) hx hb hr (fun t ht _ => ⟨x1, rfl, h, ht⟩) (fun _ hq => absurd hq List.not_mem_nil) dX7_imagesMade_28
      · replace h := h.2 hc
        refine lv_aload_n hx hb dX7_imagesMade_9 rfl (lv_at hl 0 rfl) ?_
        refine va_get (D := D) (ci := 7) (v := .ref A_t_imageMade) (C := RX7) (T := TX7) (N := 10) hx hb hts iX7 hown hK.1 hP 0 rfl rfl 3 (by decide) f0 (fun _ h9 => h9) rfl dX7_imagesMade_10 ?_
        refine lv_iload_n hx hb dX7_imagesMade_13 rfl (lv_at hl 2 rfl) ?_
        refine va_zald hx hb hK.1 hP 1 3 rfl rfl h.1 dX7_imagesMade_14 ?_
        replace h := h.2
        refine lv_if_eq (tgt := 21) hx hb dX7_imagesMade_15 (by decide) (fun hc => ?_) (fun hc => ?_)
        · replace h := h.1 hc
          exact J21 x1 x2 ls h (lv_sub hl [0, 1, 2] rfl)
        · replace h := h.2 hc
          refine lv_iinc (v := x1 + (1 : Int32)) (lv' := [(1, .int (x1 + (1 : Int32))), (0, .ref A_t), (2, .int x2)]) hx hb dX7_imagesMade_18 hl (k := 1) rfl rfl (by decide) rfl (fun ls hl => ?_)
          exact J21 (x1 + (1 : Int32)) x2 ls h (lv_sub hl [1, 0, 2] rfl)
  unfold P_X7_imagesMade at h
  refine lv_iconst (v := 0) hx hb dX7_imagesMade_0 (by decide) ?_
  refine lv_istore_n (lv' := [(1, .int (0 : Int32)), (0, .ref A_t)]) hx hb dX7_imagesMade_1 rfl hl (by decide) rfl (fun ls hl => ?_)
  refine lv_iconst (v := 0) hx hb dX7_imagesMade_2 (by decide) ?_
  refine lv_istore_n (lv' := [(2, .int (0 : Int32)), (1, .int (0 : Int32)), (0, .ref A_t)]) hx hb dX7_imagesMade_3 rfl hl (by decide) rfl (fun ls hl => ?_)
  obtain ⟨nn, h⟩ := h
  exact L4 nn (0 : Int32) (0 : Int32) ls h (lv_sub hl [2, 1, 0] rfl)
