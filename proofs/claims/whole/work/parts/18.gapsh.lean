theorem qX7_sheet : yX7_sheet.cls = RX7 ∧ yX7_sheet.cls ≠ "java/lang/invoke/MethodHandle" ∧ yX7_sheet.cls ≠ "java/lang/invoke/VarHandle" ∧ (parseMethodDescriptor yX7_sheet.desc).map (fun d => d.parameters.length) = some 3 := by decide +kernel
def P_X7_sheet (post : Int32 → Int32 → Int32 → (Nat → Int32) → Int32 → Int32 → (Nat → Int32) → Int32 → Int32 → (Nat → Int32) → Int32 → Int32 → (Nat → Int32) → Prop) (t_sheets0_laneOf : Int32) (t_sheets0_size : Int32) (t_sheets0_cells : Nat → Int32) (t_sheets1_laneOf : Int32) (t_sheets1_size : Int32) (t_sheets1_cells : Nat → Int32) (t_sheets2_laneOf : Int32) (t_sheets2_size : Int32) (t_sheets2_cells : Nat → Int32) (t_sheets3_laneOf : Int32) (t_sheets3_size : Int32) (t_sheets3_cells : Nat → Int32) (x1 : Int32) (x2 : Int32) (x3 : Int32) : Prop :=
  ((x1 < 0 → post (-1 : Int32) t_sheets0_laneOf t_sheets0_size t_sheets0_cells t_sheets1_laneOf t_sheets1_size t_sheets1_cells t_sheets2_laneOf t_sheets2_size t_sheets2_cells t_sheets3_laneOf t_sheets3_size t_sheets3_cells) ∧ (¬ x1 < 0 → (((4 : Int32) ≤ x1 → post (-1 : Int32) t_sheets0_laneOf t_sheets0_size t_sheets0_cells t_sheets1_laneOf t_sheets1_size t_sheets1_cells t_sheets2_laneOf t_sheets2_size t_sheets2_cells t_sheets3_laneOf t_sheets3_size t_sheets3_cells) ∧ (¬ (4 : Int32) ≤ x1 → ((x2 < 0 → post (-1 : Int32) t_sheets0_laneOf t_sheets0_size t_sheets0_cells t_sheets1_laneOf t_sheets1_size t_sheets1_cells t_sheets2_laneOf t_sheets2_size t_sheets2_cells t_sheets3_laneOf t_sheets3_size t_sheets3_cells) ∧ (¬ x2 < 0 → (((3 : Int32) ≤ x2 → post (-1 : Int32) t_sheets0_laneOf t_sheets0_size t_sheets0_cells t_sheets1_laneOf t_sheets1_size t_sheets1_cells t_sheets2_laneOf t_sheets2_size t_sheets2_cells t_sheets3_laneOf t_sheets3_size t_sheets3_cells) ∧ (¬ (3 : Int32) ≤ x2 → ((x3 ≤ (40 : Int32) → ((0 ≤ x3 → (vp_in x1 4 ∧ ((x1 = (0 : Int32) → P_X3_renew (fun (t_sheets0_laneOf_v2 : Int32) (t_sheets0_size_v2 : Int32) (t_sheets0_cells_v2 : Nat → Int32) => post (1 : Int32) t_sheets0_laneOf_v2 t_sheets0_size_v2 t_sheets0_cells_v2 t_sheets1_laneOf t_sheets1_size t_sheets1_cells t_sheets2_laneOf t_sheets2_size t_sheets2_cells t_sheets3_laneOf t_sheets3_size t_sheets3_cells) t_sheets0_cells x2 x3) ∧ (¬ x1 = (0 : Int32) → ((x1 = (1 : Int32) → P_X3_renew (fun (t_sheets1_laneOf_v3 : Int32) (t_sheets1_size_v3 : Int32) (t_sheets1_cells_v3 : Nat → Int32) => post (1 : Int32) t_sheets0_laneOf t_sheets0_size t_sheets0_cells t_sheets1_laneOf_v3 t_sheets1_size_v3 t_sheets1_cells_v3 t_sheets2_laneOf t_sheets2_size t_sheets2_cells t_sheets3_laneOf t_sheets3_size t_sheets3_cells) t_sheets1_cells x2 x3) ∧ (¬ x1 = (1 : Int32) → ((x1 = (2 : Int32) → P_X3_renew (fun (t_sheets2_laneOf_v4 : Int32) (t_sheets2_size_v4 : Int32) (t_sheets2_cells_v4 : Nat → Int32) => post (1 : Int32) t_sheets0_laneOf t_sheets0_size t_sheets0_cells t_sheets1_laneOf t_sheets1_size t_sheets1_cells t_sheets2_laneOf_v4 t_sheets2_size_v4 t_sheets2_cells_v4 t_sheets3_laneOf t_sheets3_size t_sheets3_cells) t_sheets2_cells x2 x3) ∧ (¬ x1 = (2 : Int32) → P_X3_renew (fun (t_sheets3_laneOf_v5 : Int32) (t_sheets3_size_v5 : Int32) (t_sheets3_cells_v5 : Nat → Int32) => post (1 : Int32) t_sheets0_laneOf t_sheets0_size t_sheets0_cells t_sheets1_laneOf t_sheets1_size t_sheets1_cells t_sheets2_laneOf t_sheets2_size t_sheets2_cells t_sheets3_laneOf_v5 t_sheets3_size_v5 t_sheets3_cells_v5) t_sheets3_cells x2 x3)))))))) ∧ (¬ 0 ≤ x3 → post (-14 : Int32) t_sheets0_laneOf t_sheets0_size t_sheets0_cells t_sheets1_laneOf t_sheets1_size t_sheets1_cells t_sheets2_laneOf t_sheets2_size t_sheets2_cells t_sheets3_laneOf t_sheets3_size t_sheets3_cells))) ∧ (¬ x3 ≤ (40 : Int32) → post (-1 : Int32) t_sheets0_laneOf t_sheets0_size t_sheets0_cells t_sheets1_laneOf t_sheets1_size t_sheets1_cells t_sheets2_laneOf t_sheets2_size t_sheets2_cells t_sheets3_laneOf t_sheets3_size t_sheets3_cells))))))))))
set_option maxHeartbeats 4000000 in
set_option maxRecDepth 100000 in
theorem c_X7_sheet (l : Launch) (D : va_G) (cy : Nat → ClassId) (sz : Nat) (A_t A_t_tape A_t_now A_t_images A_t_imageMade A_t_sheets A_t_rows A_t_clash A_t_span A_t_reader A_t_sheets0 A_t_sheets1 A_t_sheets2 A_t_sheets3 A_t_sheets0_cells A_t_sheets1_cells A_t_sheets2_cells A_t_sheets3_cells : Nat) (t_latestTorn : Int32) (t_sheets0_laneOf : Int32) (t_sheets0_size : Int32) (t_sheets0_cells : Nat → Int32) (t_sheets1_laneOf : Int32) (t_sheets1_size : Int32) (t_sheets1_cells : Nat → Int32) (t_sheets2_laneOf : Int32) (t_sheets2_size : Int32) (t_sheets2_cells : Nat → Int32) (t_sheets3_laneOf : Int32) (t_sheets3_size : Int32) (t_sheets3_cells : Nat → Int32) (x1 : Int32) (x2 : Int32) (x3 : Int32) (post : Int32 → Int32 → Int32 → (Nat → Int32) → Int32 → Int32 → (Nat → Int32) → Int32 → Int32 → (Nat → Int32) → Int32 → Int32 → (Nat → Int32) → Prop) (h : P_X7_sheet post t_sheets0_laneOf t_sheets0_size t_sheets0_cells t_sheets1_laneOf t_sheets1_size t_sheets1_cells t_sheets2_laneOf t_sheets2_size t_sheets2_cells t_sheets3_laneOf t_sheets3_size t_sheets3_cells x1 x2 x3) : Met l yX7_sheet wsX7_sheet { frames := 2, cells := 0, slots := 0, locals := 45 } (pcW D cy [(A_t, .inr (7, [.ref A_t_tape, .ref A_t_now, .ref A_t_images, .ref A_t_imageMade, .ref A_t_sheets, .ref A_t_rows, .ref A_t_clash, .ref A_t_span, .ref A_t_reader, .int t_latestTorn])), (A_t_sheets, .inl (cy 6, 4, .inr (.inr (.inr (.inr (rx4 A_t_sheets0 A_t_sheets1 A_t_sheets2 A_t_sheets3)))))), (A_t_sheets0, .inr (3, [.ref A_t_sheets0_cells, .int t_sheets0_laneOf, .int t_sheets0_size])), (A_t_sheets0_cells, .inl (cy 1, 40, .inl t_sheets0_cells)), (A_t_sheets1, .inr (3, [.ref A_t_sheets1_cells, .int t_sheets1_laneOf, .int t_sheets1_size])), (A_t_sheets1_cells, .inl (cy 1, 40, .inl t_sheets1_cells)), (A_t_sheets2, .inr (3, [.ref A_t_sheets2_cells, .int t_sheets2_laneOf, .int t_sheets2_size])), (A_t_sheets2_cells, .inl (cy 1, 40, .inl t_sheets2_cells)), (A_t_sheets3, .inr (3, [.ref A_t_sheets3_cells, .int t_sheets3_laneOf, .int t_sheets3_size])), (A_t_sheets3_cells, .inl (cy 1, 40, .inl t_sheets3_cells))] sz [.ref A_t, .int x1, .int x2, .int x3]) (va_Qi (fun r (u : Int32 × Int32 × (Nat → Int32) × Int32 × Int32 × (Nat → Int32) × Int32 × Int32 × (Nat → Int32) × Int32 × Int32 × (Nat → Int32)) => post r u.1 u.2.1 u.2.2.1 u.2.2.2.1 u.2.2.2.2.1 u.2.2.2.2.2.1 u.2.2.2.2.2.2.1 u.2.2.2.2.2.2.2.1 u.2.2.2.2.2.2.2.2.1 u.2.2.2.2.2.2.2.2.2.1 u.2.2.2.2.2.2.2.2.2.2.1 u.2.2.2.2.2.2.2.2.2.2.2) (bW D [(A_t, .inr (7, [.ref A_t_tape, .ref A_t_now, .ref A_t_images, .ref A_t_imageMade, .ref A_t_sheets, .ref A_t_rows, .ref A_t_clash, .ref A_t_span, .ref A_t_reader, .int t_latestTorn])), (A_t_sheets, .inl (cy 6, 4, .inr (.inr (.inr (.inr (rx4 A_t_sheets0 A_t_sheets1 A_t_sheets2 A_t_sheets3)))))), (A_t_sheets0, .inr (3, [.ref A_t_sheets0_cells, .int t_sheets0_laneOf, .int t_sheets0_size])), (A_t_sheets0_cells, .inl (cy 1, 40, .inl t_sheets0_cells)), (A_t_sheets1, .inr (3, [.ref A_t_sheets1_cells, .int t_sheets1_laneOf, .int t_sheets1_size])), (A_t_sheets1_cells, .inl (cy 1, 40, .inl t_sheets1_cells)), (A_t_sheets2, .inr (3, [.ref A_t_sheets2_cells, .int t_sheets2_laneOf, .int t_sheets2_size])), (A_t_sheets2_cells, .inl (cy 1, 40, .inl t_sheets2_cells)), (A_t_sheets3, .inr (3, [.ref A_t_sheets3_cells, .int t_sheets3_laneOf, .int t_sheets3_size])), (A_t_sheets3_cells, .inl (cy 1, 40, .inl t_sheets3_cells))] sz (fun u => [(A_t, .inr (7, [.ref A_t_tape, .ref A_t_now, .ref A_t_images, .ref A_t_imageMade, .ref A_t_sheets, .ref A_t_rows, .ref A_t_clash, .ref A_t_span, .ref A_t_reader, .int t_latestTorn])), (A_t_sheets, .inl (cy 6, 4, .inr (.inr (.inr (.inr (rx4 A_t_sheets0 A_t_sheets1 A_t_sheets2 A_t_sheets3)))))), (A_t_sheets0, .inr (3, [.ref A_t_sheets0_cells, .int (u.1), .int (u.2.1)])), (A_t_sheets0_cells, .inl (cy 1, 40, .inl u.2.2.1)), (A_t_sheets1, .inr (3, [.ref A_t_sheets1_cells, .int (u.2.2.2.1), .int (u.2.2.2.2.1)])), (A_t_sheets1_cells, .inl (cy 1, 40, .inl u.2.2.2.2.2.1)), (A_t_sheets2, .inr (3, [.ref A_t_sheets2_cells, .int (u.2.2.2.2.2.2.1), .int (u.2.2.2.2.2.2.2.1)])), (A_t_sheets2_cells, .inl (cy 1, 40, .inl u.2.2.2.2.2.2.2.2.1)), (A_t_sheets3, .inr (3, [.ref A_t_sheets3_cells, .int (u.2.2.2.2.2.2.2.2.2.1), .int (u.2.2.2.2.2.2.2.2.2.2.1)])), (A_t_sheets3_cells, .inl (cy 1, 40, .inl u.2.2.2.2.2.2.2.2.2.2.2))])) (va_A [(A_t, .inr (7, [.ref A_t_tape, .ref A_t_now, .ref A_t_images, .ref A_t_imageMade, .ref A_t_sheets, .ref A_t_rows, .ref A_t_clash, .ref A_t_span, .ref A_t_reader, .int t_latestTorn])), (A_t_sheets, .inl (cy 6, 4, .inr (.inr (.inr (.inr (rx4 A_t_sheets0 A_t_sheets1 A_t_sheets2 A_t_sheets3)))))), (A_t_sheets0, .inr (3, [.ref A_t_sheets0_cells, .int t_sheets0_laneOf, .int t_sheets0_size])), (A_t_sheets0_cells, .inl (cy 1, 40, .inl t_sheets0_cells)), (A_t_sheets1, .inr (3, [.ref A_t_sheets1_cells, .int t_sheets1_laneOf, .int t_sheets1_size])), (A_t_sheets1_cells, .inl (cy 1, 40, .inl t_sheets1_cells)), (A_t_sheets2, .inr (3, [.ref A_t_sheets2_cells, .int t_sheets2_laneOf, .int t_sheets2_size])), (A_t_sheets2_cells, .inl (cy 1, 40, .inl t_sheets2_cells)), (A_t_sheets3, .inr (3, [.ref A_t_sheets3_cells, .int t_sheets3_laneOf, .int t_sheets3_size])), (A_t_sheets3_cells, .inl (cy 1, 40, .inl t_sheets3_cells))] sz)) 0 0 (va_A [(A_t, .inr (7, [.ref A_t_tape, .ref A_t_now, .ref A_t_images, .ref A_t_imageMade, .ref A_t_sheets, .ref A_t_rows, .ref A_t_clash, .ref A_t_span, .ref A_t_reader, .int t_latestTorn])), (A_t_sheets, .inl (cy 6, 4, .inr (.inr (.inr (.inr (rx4 A_t_sheets0 A_t_sheets1 A_t_sheets2 A_t_sheets3)))))), (A_t_sheets0, .inr (3, [.ref A_t_sheets0_cells, .int t_sheets0_laneOf, .int t_sheets0_size])), (A_t_sheets0_cells, .inl (cy 1, 40, .inl t_sheets0_cells)), (A_t_sheets1, .inr (3, [.ref A_t_sheets1_cells, .int t_sheets1_laneOf, .int t_sheets1_size])), (A_t_sheets1_cells, .inl (cy 1, 40, .inl t_sheets1_cells)), (A_t_sheets2, .inr (3, [.ref A_t_sheets2_cells, .int t_sheets2_laneOf, .int t_sheets2_size])), (A_t_sheets2_cells, .inl (cy 1, 40, .inl t_sheets2_cells)), (A_t_sheets3, .inr (3, [.ref A_t_sheets3_cells, .int t_sheets3_laneOf, .int t_sheets3_size])), (A_t_sheets3_cells, .inl (cy 1, 40, .inl t_sheets3_cells))] sz) := by
  refine Met.ofW (cc := cX7_sheet) (maxL := 4) (ret := (some .int)) (by decide) rfl ?_
  intro p e s m args below meth c s₁ B hml hv
  obtain ⟨rfl, hsz, hP, hK, hD0⟩ := hv
  have hx := B.exec
  have hb := B.bytes
  have hr := B.returns
  have hts := atoms_spec (ws := wsX7_sheet) B.pre
  have hown : s.vm.findClass RX7 = some m.cls := findClass_of_methodNamed B.named
  have hlocks := B.notSynchronized
  have CF : CallFix p m c cX7_sheet 4 s ([.ref A_t, .int x1, .int x2, .int x3] : List Value).toArray wsX7_sheet RX7 := ⟨hx, hb, hml, hown, hts⟩
  have f0 := hts (.fieldLink RX7 33 "GapBounds" "sheets" "[LGapBounds$Sheet;") (by decide +kernel)
  have iX7 : ∀ w ∈ u_ws RX7 TX7 10, w ∈ wsX7_sheet := by decide +kernel
  subst hsz
  obtain ⟨A, hAe⟩ : ∃ A, A = va_A [(A_t, .inr (7, [.ref A_t_tape, .ref A_t_now, .ref A_t_images, .ref A_t_imageMade, .ref A_t_sheets, .ref A_t_rows, .ref A_t_clash, .ref A_t_span, .ref A_t_reader, .int t_latestTorn])), (A_t_sheets, .inl (cy 6, 4, .inr (.inr (.inr (.inr (rx4 A_t_sheets0 A_t_sheets1 A_t_sheets2 A_t_sheets3)))))), (A_t_sheets0, .inr (3, [.ref A_t_sheets0_cells, .int t_sheets0_laneOf, .int t_sheets0_size])), (A_t_sheets0_cells, .inl (cy 1, 40, .inl t_sheets0_cells)), (A_t_sheets1, .inr (3, [.ref A_t_sheets1_cells, .int t_sheets1_laneOf, .int t_sheets1_size])), (A_t_sheets1_cells, .inl (cy 1, 40, .inl t_sheets1_cells)), (A_t_sheets2, .inr (3, [.ref A_t_sheets2_cells, .int t_sheets2_laneOf, .int t_sheets2_size])), (A_t_sheets2_cells, .inl (cy 1, 40, .inl t_sheets2_cells)), (A_t_sheets3, .inr (3, [.ref A_t_sheets3_cells, .int t_sheets3_laneOf, .int t_sheets3_size])), (A_t_sheets3_cells, .inl (cy 1, 40, .inl t_sheets3_cells))] s.heap.size := ⟨_, rfl⟩
  have hD : va_D A [(A_t, .inr (7, [.ref A_t_tape, .ref A_t_now, .ref A_t_images, .ref A_t_imageMade, .ref A_t_sheets, .ref A_t_rows, .ref A_t_clash, .ref A_t_span, .ref A_t_reader, .int t_latestTorn])), (A_t_sheets, .inl (cy 6, 4, .inr (.inr (.inr (.inr (rx4 A_t_sheets0 A_t_sheets1 A_t_sheets2 A_t_sheets3)))))), (A_t_sheets0, .inr (3, [.ref A_t_sheets0_cells, .int t_sheets0_laneOf, .int t_sheets0_size])), (A_t_sheets0_cells, .inl (cy 1, 40, .inl t_sheets0_cells)), (A_t_sheets1, .inr (3, [.ref A_t_sheets1_cells, .int t_sheets1_laneOf, .int t_sheets1_size])), (A_t_sheets1_cells, .inl (cy 1, 40, .inl t_sheets1_cells)), (A_t_sheets2, .inr (3, [.ref A_t_sheets2_cells, .int t_sheets2_laneOf, .int t_sheets2_size])), (A_t_sheets2_cells, .inl (cy 1, 40, .inl t_sheets2_cells)), (A_t_sheets3, .inr (3, [.ref A_t_sheets3_cells, .int t_sheets3_laneOf, .int t_sheets3_size])), (A_t_sheets3_cells, .inl (cy 1, 40, .inl t_sheets3_cells))] := by rw [hAe]; exact hD0.self
  have hA : ∀ q : Nat, s.heap.size ≤ q → A q := fun q hq => by rw [hAe]; exact Or.inr hq
  have hS : va_S A s.heap s.heap [] := va_S.rf
  have hl := lv_entry [.ref A_t, .int x1, .int x2, .int x3] (n := 4) (Nat.le_of_ble_eq_true rfl)
  rw [lg_entry_eq]
  generalize (lg_sl [.ref A_t, .int x1, .int x2, .int x3] ++ List.replicate (4 - (lg_sl [.ref A_t, .int x1, .int x2, .int x3]).length) Slot.unset).toArray = ls at hl ⊢
  have hl : lv_has ls 4 [(0, .ref A_t), (1, .int x1), (2, .int x2), (3, .int x3)] := hl
  refine W.gen (fun Q0 hQ => ?_)
  unfold P_X7_sheet at h
  refine lv_iload_n hx hb dX7_sheet_0 rfl (lv_at hl 1 rfl) ?_
  refine lv_if_lt (tgt := 24) hx hb dX7_sheet_1 (by decide) (fun hc => ?_) (fun hc => ?_)
  · replace h := h.1 hc
    refine lv_iconst (v := -1) hx hb dX7_sheet_24 (by decide) ?_
    subst hQ
    subst hAe
    exact W.iret (v := (-1 : Int32)) hx hb hr (fun t ht _ => ⟨⟨(-1 : Int32), (t_sheets0_laneOf, t_sheets0_size, t_sheets0_cells, t_sheets1_laneOf, t_sheets1_size, t_sheets1_cells, t_sheets2_laneOf, t_sheets2_size, t_sheets2_cells, t_sheets3_laneOf, t_sheets3_size, t_sheets3_cells), rfl, h, by rw [ht]; exact hP, hD⟩, hS.F ht⟩) hS.2.2 dX7_sheet_25
  · replace h := h.2 hc
    refine lv_iload_n hx hb dX7_sheet_4 rfl (lv_at hl 1 rfl) ?_
    refine lv_iconst (v := 4) hx hb dX7_sheet_5 (by decide) ?_
    refine lv_icmp_ge (tgt := 24) hx hb dX7_sheet_6 (by decide) (fun hc => ?_) (fun hc => ?_)
    · replace h := h.1 hc
      refine lv_iconst (v := -1) hx hb dX7_sheet_24 (by decide) ?_
      subst hQ
      subst hAe
      exact W.iret (v := (-1 : Int32)) hx hb hr (fun t ht _ => ⟨⟨(-1 : Int32), (t_sheets0_laneOf, t_sheets0_size, t_sheets0_cells, t_sheets1_laneOf, t_sheets1_size, t_sheets1_cells, t_sheets2_laneOf, t_sheets2_size, t_sheets2_cells, t_sheets3_laneOf, t_sheets3_size, t_sheets3_cells), rfl, h, by rw [ht]; exact hP, hD⟩, hS.F ht⟩) hS.2.2 dX7_sheet_25
    · replace h := h.2 hc
      refine lv_iload_n hx hb dX7_sheet_9 rfl (lv_at hl 2 rfl) ?_
      refine lv_if_lt (tgt := 24) hx hb dX7_sheet_10 (by decide) (fun hc => ?_) (fun hc => ?_)
      · replace h := h.1 hc
        refine lv_iconst (v := -1) hx hb dX7_sheet_24 (by decide) ?_
        subst hQ
        subst hAe
        exact W.iret (v := (-1 : Int32)) hx hb hr (fun t ht _ => ⟨⟨(-1 : Int32), (t_sheets0_laneOf, t_sheets0_size, t_sheets0_cells, t_sheets1_laneOf, t_sheets1_size, t_sheets1_cells, t_sheets2_laneOf, t_sheets2_size, t_sheets2_cells, t_sheets3_laneOf, t_sheets3_size, t_sheets3_cells), rfl, h, by rw [ht]; exact hP, hD⟩, hS.F ht⟩) hS.2.2 dX7_sheet_25
      · replace h := h.2 hc
        refine lv_iload_n hx hb dX7_sheet_13 rfl (lv_at hl 2 rfl) ?_
        refine lv_iconst (v := 3) hx hb dX7_sheet_14 (by decide) ?_
        refine lv_icmp_ge (tgt := 24) hx hb dX7_sheet_15 (by decide) (fun hc => ?_) (fun hc => ?_)
        · replace h := h.1 hc
          refine lv_iconst (v := -1) hx hb dX7_sheet_24 (by decide) ?_
          subst hQ
          subst hAe
          exact W.iret (v := (-1 : Int32)) hx hb hr (fun t ht _ => ⟨⟨(-1 : Int32), (t_sheets0_laneOf, t_sheets0_size, t_sheets0_cells, t_sheets1_laneOf, t_sheets1_size, t_sheets1_cells, t_sheets2_laneOf, t_sheets2_size, t_sheets2_cells, t_sheets3_laneOf, t_sheets3_size, t_sheets3_cells), rfl, h, by rw [ht]; exact hP, hD⟩, hS.F ht⟩) hS.2.2 dX7_sheet_25
        · replace h := h.2 hc
          refine lv_iload_n hx hb dX7_sheet_18 rfl (lv_at hl 3 rfl) ?_
          refine lv_bipush (v := 40) hx hb dX7_sheet_19 (by decide) ?_
          refine lv_icmp_le (tgt := 26) hx hb dX7_sheet_21 (by decide) (fun hc => ?_) (fun hc => ?_)
          · replace h := h.1 hc
            refine lv_iload_n hx hb dX7_sheet_26 rfl (lv_at hl 3 rfl) ?_
            refine lv_if_ge (tgt := 33) hx hb dX7_sheet_27 (by decide) (fun hc => ?_) (fun hc => ?_)
            · replace h := h.1 hc
              refine lv_aload_n hx hb dX7_sheet_33 rfl (lv_at hl 0 rfl) ?_
              refine va_get (D := D) (ci := 7) (v := .ref A_t_sheets) (C := RX7) (T := TX7) (N := 10) hx hb hts iX7 hown hK.1 hP 0 rfl rfl 4 (by decide) f0 (fun _ h9 => h9) rfl dX7_sheet_34 ?_
              refine lv_iload_n hx hb dX7_sheet_37 rfl (lv_at hl 1 rfl) ?_
              refine va_aldq hx hb hK.1 hP 1 6 rfl rfl h.1 dX7_sheet_38 ?_
              have hv1 := h.1
              replace h := h.2
              by_cases hc0 : x1 = (0 : Int32)
              · replace h := h.1 hc0
                refine W.eq (g2 := F0 m 39 ls [.ref A_t_sheets0]) (by rw [hc0]; rfl) ?_
                refine lv_iload_n hx hb dX7_sheet_39 rfl (lv_at hl 2 rfl) ?_
                refine lv_iload_n hx hb dX7_sheet_40 rfl (lv_at hl 3 rfl) ?_
                have hPc := hP.sub (ws' := [(A_t_sheets0, .inr (3, [.ref A_t_sheets0_cells, .int t_sheets0_laneOf, .int t_sheets0_size])), (A_t_sheets0_cells, .inl (cy 1, 40, .inl t_sheets0_cells))]) [2, 3] rfl
                have hDc := hD.sub (ws' := [(A_t_sheets0, .inr (3, [.ref A_t_sheets0_cells, .int t_sheets0_laneOf, .int t_sheets0_size])), (A_t_sheets0_cells, .inl (cy 1, 40, .inl t_sheets0_cells))]) [2, 3] (by decide) rfl
                refine mw_v (va_runV (As := [.int x2, .int x3]) (rest := []) CF (c_X3_renew l D cy s.heap.size A_t_sheets0 A_t_sheets0_cells t_sheets0_laneOf t_sheets0_size t_sheets0_cells x2 x3 _ h) (cwV 2 hts gX7_sheet_X3_renew rfl rfl rfl qX3_renew ⟨Nat.le_of_ble_eq_true rfl, Nat.le_of_ble_eq_true rfl⟩) (mpVW hK hPc hDc (ci := 3) (q := (RX3, TX3, 3)) (q0 := 0) rfl rfl) rfl rfl hl.1 rfl (lv_room (Nat.le_of_ble_eq_true rfl)) dX7_sheet_41 ⟨Nat.zero_le _, Nat.zero_le _⟩) hP hD hS hA [2, 3] [0, 1, 4, 5, 6, 7, 8, 9] rfl (wr := [(A_t, .inr (7, [.ref A_t_tape, .ref A_t_now, .ref A_t_images, .ref A_t_imageMade, .ref A_t_sheets, .ref A_t_rows, .ref A_t_clash, .ref A_t_span, .ref A_t_reader, .int t_latestTorn])), (A_t_sheets, .inl (cy 6, 4, .inr (.inr (.inr (.inr (rx4 A_t_sheets0 A_t_sheets1 A_t_sheets2 A_t_sheets3)))))), (A_t_sheets1, .inr (3, [.ref A_t_sheets1_cells, .int t_sheets1_laneOf, .int t_sheets1_size])), (A_t_sheets1_cells, .inl (cy 1, 40, .inl t_sheets1_cells)), (A_t_sheets2, .inr (3, [.ref A_t_sheets2_cells, .int t_sheets2_laneOf, .int t_sheets2_size])), (A_t_sheets2_cells, .inl (cy 1, 40, .inl t_sheets2_cells)), (A_t_sheets3, .inr (3, [.ref A_t_sheets3_cells, .int t_sheets3_laneOf, .int t_sheets3_size])), (A_t_sheets3_cells, .inl (cy 1, 40, .inl t_sheets3_cells))]) rfl rfl (by decide) (fun u H locs h hP hD hS => ?_)
                obtain ⟨t_sheets0_laneOf_v2, t_sheets0_size_v2, t_sheets0_cells_v2⟩ := u
                have hP : va_P D vwCl [(A_t, .inr (7, [.ref A_t_tape, .ref A_t_now, .ref A_t_images, .ref A_t_imageMade, .ref A_t_sheets, .ref A_t_rows, .ref A_t_clash, .ref A_t_span, .ref A_t_reader, .int t_latestTorn])), (A_t_sheets, .inl (cy 6, 4, .inr (.inr (.inr (.inr (rx4 A_t_sheets0 A_t_sheets1 A_t_sheets2 A_t_sheets3)))))), (A_t_sheets0, .inr (3, [.ref A_t_sheets0_cells, .int t_sheets0_laneOf_v2, .int t_sheets0_size_v2])), (A_t_sheets0_cells, .inl (cy 1, 40, .inl t_sheets0_cells_v2)), (A_t_sheets1, .inr (3, [.ref A_t_sheets1_cells, .int t_sheets1_laneOf, .int t_sheets1_size])), (A_t_sheets1_cells, .inl (cy 1, 40, .inl t_sheets1_cells)), (A_t_sheets2, .inr (3, [.ref A_t_sheets2_cells, .int t_sheets2_laneOf, .int t_sheets2_size])), (A_t_sheets2_cells, .inl (cy 1, 40, .inl t_sheets2_cells)), (A_t_sheets3, .inr (3, [.ref A_t_sheets3_cells, .int t_sheets3_laneOf, .int t_sheets3_size])), (A_t_sheets3_cells, .inl (cy 1, 40, .inl t_sheets3_cells))] H := hP.sub [0, 1, 8, 9, 2, 3, 4, 5, 6, 7] rfl
                have hD : va_D A [(A_t, .inr (7, [.ref A_t_tape, .ref A_t_now, .ref A_t_images, .ref A_t_imageMade, .ref A_t_sheets, .ref A_t_rows, .ref A_t_clash, .ref A_t_span, .ref A_t_reader, .int t_latestTorn])), (A_t_sheets, .inl (cy 6, 4, .inr (.inr (.inr (.inr (rx4 A_t_sheets0 A_t_sheets1 A_t_sheets2 A_t_sheets3)))))), (A_t_sheets0, .inr (3, [.ref A_t_sheets0_cells, .int t_sheets0_laneOf_v2, .int t_sheets0_size_v2])), (A_t_sheets0_cells, .inl (cy 1, 40, .inl t_sheets0_cells_v2)), (A_t_sheets1, .inr (3, [.ref A_t_sheets1_cells, .int t_sheets1_laneOf, .int t_sheets1_size])), (A_t_sheets1_cells, .inl (cy 1, 40, .inl t_sheets1_cells)), (A_t_sheets2, .inr (3, [.ref A_t_sheets2_cells, .int t_sheets2_laneOf, .int t_sheets2_size])), (A_t_sheets2_cells, .inl (cy 1, 40, .inl t_sheets2_cells)), (A_t_sheets3, .inr (3, [.ref A_t_sheets3_cells, .int t_sheets3_laneOf, .int t_sheets3_size])), (A_t_sheets3_cells, .inl (cy 1, 40, .inl t_sheets3_cells))] := hD.sub [0, 1, 8, 9, 2, 3, 4, 5, 6, 7] (by decide) rfl
                try dsimp only at h
                refine lv_iconst (v := 1) hx hb dX7_sheet_44 (by decide) ?_
                subst hQ
                subst hAe
                exact W.iret (v := (1 : Int32)) hx hb hr (fun t ht _ => ⟨⟨(1 : Int32), (t_sheets0_laneOf_v2, t_sheets0_size_v2, t_sheets0_cells_v2, t_sheets1_laneOf, t_sheets1_size, t_sheets1_cells, t_sheets2_laneOf, t_sheets2_size, t_sheets2_cells, t_sheets3_laneOf, t_sheets3_size, t_sheets3_cells), rfl, h, by rw [ht]; exact hP, hD⟩, hS.F ht⟩) hS.2.2 dX7_sheet_45
              · replace h := h.2 hc0
                by_cases hc1 : x1 = (1 : Int32)
                · replace h := h.1 hc1
                  refine W.eq (g2 := F0 m 39 ls [.ref A_t_sheets1]) (by rw [hc1]; rfl) ?_
                  refine lv_iload_n hx hb dX7_sheet_39 rfl (lv_at hl 2 rfl) ?_
                  refine lv_iload_n hx hb dX7_sheet_40 rfl (lv_at hl 3 rfl) ?_
                  have hPc := hP.sub (ws' := [(A_t_sheets1, .inr (3, [.ref A_t_sheets1_cells, .int t_sheets1_laneOf, .int t_sheets1_size])), (A_t_sheets1_cells, .inl (cy 1, 40, .inl t_sheets1_cells))]) [4, 5] rfl
                  have hDc := hD.sub (ws' := [(A_t_sheets1, .inr (3, [.ref A_t_sheets1_cells, .int t_sheets1_laneOf, .int t_sheets1_size])), (A_t_sheets1_cells, .inl (cy 1, 40, .inl t_sheets1_cells))]) [4, 5] (by decide) rfl
                  refine mw_v (va_runV (As := [.int x2, .int x3]) (rest := []) CF (c_X3_renew l D cy s.heap.size A_t_sheets1 A_t_sheets1_cells t_sheets1_laneOf t_sheets1_size t_sheets1_cells x2 x3 _ h) (cwV 2 hts gX7_sheet_X3_renew rfl rfl rfl qX3_renew ⟨Nat.le_of_ble_eq_true rfl, Nat.le_of_ble_eq_true rfl⟩) (mpVW hK hPc hDc (ci := 3) (q := (RX3, TX3, 3)) (q0 := 0) rfl rfl) rfl rfl hl.1 rfl (lv_room (Nat.le_of_ble_eq_true rfl)) dX7_sheet_41 ⟨Nat.zero_le _, Nat.zero_le _⟩) hP hD hS hA [4, 5] [0, 1, 2, 3, 6, 7, 8, 9] rfl (wr := [(A_t, .inr (7, [.ref A_t_tape, .ref A_t_now, .ref A_t_images, .ref A_t_imageMade, .ref A_t_sheets, .ref A_t_rows, .ref A_t_clash, .ref A_t_span, .ref A_t_reader, .int t_latestTorn])), (A_t_sheets, .inl (cy 6, 4, .inr (.inr (.inr (.inr (rx4 A_t_sheets0 A_t_sheets1 A_t_sheets2 A_t_sheets3)))))), (A_t_sheets0, .inr (3, [.ref A_t_sheets0_cells, .int t_sheets0_laneOf, .int t_sheets0_size])), (A_t_sheets0_cells, .inl (cy 1, 40, .inl t_sheets0_cells)), (A_t_sheets2, .inr (3, [.ref A_t_sheets2_cells, .int t_sheets2_laneOf, .int t_sheets2_size])), (A_t_sheets2_cells, .inl (cy 1, 40, .inl t_sheets2_cells)), (A_t_sheets3, .inr (3, [.ref A_t_sheets3_cells, .int t_sheets3_laneOf, .int t_sheets3_size])), (A_t_sheets3_cells, .inl (cy 1, 40, .inl t_sheets3_cells))]) rfl rfl (by decide) (fun u H locs h hP hD hS => ?_)
                  obtain ⟨t_sheets1_laneOf_v3, t_sheets1_size_v3, t_sheets1_cells_v3⟩ := u
                  have hP : va_P D vwCl [(A_t, .inr (7, [.ref A_t_tape, .ref A_t_now, .ref A_t_images, .ref A_t_imageMade, .ref A_t_sheets, .ref A_t_rows, .ref A_t_clash, .ref A_t_span, .ref A_t_reader, .int t_latestTorn])), (A_t_sheets, .inl (cy 6, 4, .inr (.inr (.inr (.inr (rx4 A_t_sheets0 A_t_sheets1 A_t_sheets2 A_t_sheets3)))))), (A_t_sheets0, .inr (3, [.ref A_t_sheets0_cells, .int t_sheets0_laneOf, .int t_sheets0_size])), (A_t_sheets0_cells, .inl (cy 1, 40, .inl t_sheets0_cells)), (A_t_sheets1, .inr (3, [.ref A_t_sheets1_cells, .int t_sheets1_laneOf_v3, .int t_sheets1_size_v3])), (A_t_sheets1_cells, .inl (cy 1, 40, .inl t_sheets1_cells_v3)), (A_t_sheets2, .inr (3, [.ref A_t_sheets2_cells, .int t_sheets2_laneOf, .int t_sheets2_size])), (A_t_sheets2_cells, .inl (cy 1, 40, .inl t_sheets2_cells)), (A_t_sheets3, .inr (3, [.ref A_t_sheets3_cells, .int t_sheets3_laneOf, .int t_sheets3_size])), (A_t_sheets3_cells, .inl (cy 1, 40, .inl t_sheets3_cells))] H := hP.sub [0, 1, 2, 3, 8, 9, 4, 5, 6, 7] rfl
                  have hD : va_D A [(A_t, .inr (7, [.ref A_t_tape, .ref A_t_now, .ref A_t_images, .ref A_t_imageMade, .ref A_t_sheets, .ref A_t_rows, .ref A_t_clash, .ref A_t_span, .ref A_t_reader, .int t_latestTorn])), (A_t_sheets, .inl (cy 6, 4, .inr (.inr (.inr (.inr (rx4 A_t_sheets0 A_t_sheets1 A_t_sheets2 A_t_sheets3)))))), (A_t_sheets0, .inr (3, [.ref A_t_sheets0_cells, .int t_sheets0_laneOf, .int t_sheets0_size])), (A_t_sheets0_cells, .inl (cy 1, 40, .inl t_sheets0_cells)), (A_t_sheets1, .inr (3, [.ref A_t_sheets1_cells, .int t_sheets1_laneOf_v3, .int t_sheets1_size_v3])), (A_t_sheets1_cells, .inl (cy 1, 40, .inl t_sheets1_cells_v3)), (A_t_sheets2, .inr (3, [.ref A_t_sheets2_cells, .int t_sheets2_laneOf, .int t_sheets2_size])), (A_t_sheets2_cells, .inl (cy 1, 40, .inl t_sheets2_cells)), (A_t_sheets3, .inr (3, [.ref A_t_sheets3_cells, .int t_sheets3_laneOf, .int t_sheets3_size])), (A_t_sheets3_cells, .inl (cy 1, 40, .inl t_sheets3_cells))] := hD.sub [0, 1, 2, 3, 8, 9, 4, 5, 6, 7] (by decide) rfl
                  try dsimp only at h
                  refine lv_iconst (v := 1) hx hb dX7_sheet_44 (by decide) ?_
                  subst hQ
                  subst hAe
                  exact W.iret (v := (1 : Int32)) hx hb hr (fun t ht _ => ⟨⟨(1 : Int32), (t_sheets0_laneOf, t_sheets0_size, t_sheets0_cells, t_sheets1_laneOf_v3, t_sheets1_size_v3, t_sheets1_cells_v3, t_sheets2_laneOf, t_sheets2_size, t_sheets2_cells, t_sheets3_laneOf, t_sheets3_size, t_sheets3_cells), rfl, h, by rw [ht]; exact hP, hD⟩, hS.F ht⟩) hS.2.2 dX7_sheet_45
                · replace h := h.2 hc1
                  by_cases hc2 : x1 = (2 : Int32)
                  · replace h := h.1 hc2
                    refine W.eq (g2 := F0 m 39 ls [.ref A_t_sheets2]) (by rw [hc2]; rfl) ?_
                    refine lv_iload_n hx hb dX7_sheet_39 rfl (lv_at hl 2 rfl) ?_
                    refine lv_iload_n hx hb dX7_sheet_40 rfl (lv_at hl 3 rfl) ?_
                    have hPc := hP.sub (ws' := [(A_t_sheets2, .inr (3, [.ref A_t_sheets2_cells, .int t_sheets2_laneOf, .int t_sheets2_size])), (A_t_sheets2_cells, .inl (cy 1, 40, .inl t_sheets2_cells))]) [6, 7] rfl
                    have hDc := hD.sub (ws' := [(A_t_sheets2, .inr (3, [.ref A_t_sheets2_cells, .int t_sheets2_laneOf, .int t_sheets2_size])), (A_t_sheets2_cells, .inl (cy 1, 40, .inl t_sheets2_cells))]) [6, 7] (by decide) rfl
                    refine mw_v (va_runV (As := [.int x2, .int x3]) (rest := []) CF (c_X3_renew l D cy s.heap.size A_t_sheets2 A_t_sheets2_cells t_sheets2_laneOf t_sheets2_size t_sheets2_cells x2 x3 _ h) (cwV 2 hts gX7_sheet_X3_renew rfl rfl rfl qX3_renew ⟨Nat.le_of_ble_eq_true rfl, Nat.le_of_ble_eq_true rfl⟩) (mpVW hK hPc hDc (ci := 3) (q := (RX3, TX3, 3)) (q0 := 0) rfl rfl) rfl rfl hl.1 rfl (lv_room (Nat.le_of_ble_eq_true rfl)) dX7_sheet_41 ⟨Nat.zero_le _, Nat.zero_le _⟩) hP hD hS hA [6, 7] [0, 1, 2, 3, 4, 5, 8, 9] rfl (wr := [(A_t, .inr (7, [.ref A_t_tape, .ref A_t_now, .ref A_t_images, .ref A_t_imageMade, .ref A_t_sheets, .ref A_t_rows, .ref A_t_clash, .ref A_t_span, .ref A_t_reader, .int t_latestTorn])), (A_t_sheets, .inl (cy 6, 4, .inr (.inr (.inr (.inr (rx4 A_t_sheets0 A_t_sheets1 A_t_sheets2 A_t_sheets3)))))), (A_t_sheets0, .inr (3, [.ref A_t_sheets0_cells, .int t_sheets0_laneOf, .int t_sheets0_size])), (A_t_sheets0_cells, .inl (cy 1, 40, .inl t_sheets0_cells)), (A_t_sheets1, .inr (3, [.ref A_t_sheets1_cells, .int t_sheets1_laneOf, .int t_sheets1_size])), (A_t_sheets1_cells, .inl (cy 1, 40, .inl t_sheets1_cells)), (A_t_sheets3, .inr (3, [.ref A_t_sheets3_cells, .int t_sheets3_laneOf, .int t_sheets3_size])), (A_t_sheets3_cells, .inl (cy 1, 40, .inl t_sheets3_cells))]) rfl rfl (by decide) (fun u H locs h hP hD hS => ?_)
                    obtain ⟨t_sheets2_laneOf_v4, t_sheets2_size_v4, t_sheets2_cells_v4⟩ := u
                    have hP : va_P D vwCl [(A_t, .inr (7, [.ref A_t_tape, .ref A_t_now, .ref A_t_images, .ref A_t_imageMade, .ref A_t_sheets, .ref A_t_rows, .ref A_t_clash, .ref A_t_span, .ref A_t_reader, .int t_latestTorn])), (A_t_sheets, .inl (cy 6, 4, .inr (.inr (.inr (.inr (rx4 A_t_sheets0 A_t_sheets1 A_t_sheets2 A_t_sheets3)))))), (A_t_sheets0, .inr (3, [.ref A_t_sheets0_cells, .int t_sheets0_laneOf, .int t_sheets0_size])), (A_t_sheets0_cells, .inl (cy 1, 40, .inl t_sheets0_cells)), (A_t_sheets1, .inr (3, [.ref A_t_sheets1_cells, .int t_sheets1_laneOf, .int t_sheets1_size])), (A_t_sheets1_cells, .inl (cy 1, 40, .inl t_sheets1_cells)), (A_t_sheets2, .inr (3, [.ref A_t_sheets2_cells, .int t_sheets2_laneOf_v4, .int t_sheets2_size_v4])), (A_t_sheets2_cells, .inl (cy 1, 40, .inl t_sheets2_cells_v4)), (A_t_sheets3, .inr (3, [.ref A_t_sheets3_cells, .int t_sheets3_laneOf, .int t_sheets3_size])), (A_t_sheets3_cells, .inl (cy 1, 40, .inl t_sheets3_cells))] H := hP.sub [0, 1, 2, 3, 4, 5, 8, 9, 6, 7] rfl
                    have hD : va_D A [(A_t, .inr (7, [.ref A_t_tape, .ref A_t_now, .ref A_t_images, .ref A_t_imageMade, .ref A_t_sheets, .ref A_t_rows, .ref A_t_clash, .ref A_t_span, .ref A_t_reader, .int t_latestTorn])), (A_t_sheets, .inl (cy 6, 4, .inr (.inr (.inr (.inr (rx4 A_t_sheets0 A_t_sheets1 A_t_sheets2 A_t_sheets3)))))), (A_t_sheets0, .inr (3, [.ref A_t_sheets0_cells, .int t_sheets0_laneOf, .int t_sheets0_size])), (A_t_sheets0_cells, .inl (cy 1, 40, .inl t_sheets0_cells)), (A_t_sheets1, .inr (3, [.ref A_t_sheets1_cells, .int t_sheets1_laneOf, .int t_sheets1_size])), (A_t_sheets1_cells, .inl (cy 1, 40, .inl t_sheets1_cells)), (A_t_sheets2, .inr (3, [.ref A_t_sheets2_cells, .int t_sheets2_laneOf_v4, .int t_sheets2_size_v4])), (A_t_sheets2_cells, .inl (cy 1, 40, .inl t_sheets2_cells_v4)), (A_t_sheets3, .inr (3, [.ref A_t_sheets3_cells, .int t_sheets3_laneOf, .int t_sheets3_size])), (A_t_sheets3_cells, .inl (cy 1, 40, .inl t_sheets3_cells))] := hD.sub [0, 1, 2, 3, 4, 5, 8, 9, 6, 7] (by decide) rfl
                    try dsimp only at h
                    refine lv_iconst (v := 1) hx hb dX7_sheet_44 (by decide) ?_
                    subst hQ
                    subst hAe
                    exact W.iret (v := (1 : Int32)) hx hb hr (fun t ht _ => ⟨⟨(1 : Int32), (t_sheets0_laneOf, t_sheets0_size, t_sheets0_cells, t_sheets1_laneOf, t_sheets1_size, t_sheets1_cells, t_sheets2_laneOf_v4, t_sheets2_size_v4, t_sheets2_cells_v4, t_sheets3_laneOf, t_sheets3_size, t_sheets3_cells), rfl, h, by rw [ht]; exact hP, hD⟩, hS.F ht⟩) hS.2.2 dX7_sheet_45
                  · replace h := h.2 hc2
                    have hc3 : x1 = (3 : Int32) := rx_last4 (by assumption) hc0 hc1 hc2
                    refine W.eq (g2 := F0 m 39 ls [.ref A_t_sheets3]) (by rw [hc3]; rfl) ?_
                    refine lv_iload_n hx hb dX7_sheet_39 rfl (lv_at hl 2 rfl) ?_
                    refine lv_iload_n hx hb dX7_sheet_40 rfl (lv_at hl 3 rfl) ?_
                    have hPc := hP.sub (ws' := [(A_t_sheets3, .inr (3, [.ref A_t_sheets3_cells, .int t_sheets3_laneOf, .int t_sheets3_size])), (A_t_sheets3_cells, .inl (cy 1, 40, .inl t_sheets3_cells))]) [8, 9] rfl
                    have hDc := hD.sub (ws' := [(A_t_sheets3, .inr (3, [.ref A_t_sheets3_cells, .int t_sheets3_laneOf, .int t_sheets3_size])), (A_t_sheets3_cells, .inl (cy 1, 40, .inl t_sheets3_cells))]) [8, 9] (by decide) rfl
                    refine mw_v (va_runV (As := [.int x2, .int x3]) (rest := []) CF (c_X3_renew l D cy s.heap.size A_t_sheets3 A_t_sheets3_cells t_sheets3_laneOf t_sheets3_size t_sheets3_cells x2 x3 _ h) (cwV 2 hts gX7_sheet_X3_renew rfl rfl rfl qX3_renew ⟨Nat.le_of_ble_eq_true rfl, Nat.le_of_ble_eq_true rfl⟩) (mpVW hK hPc hDc (ci := 3) (q := (RX3, TX3, 3)) (q0 := 0) rfl rfl) rfl rfl hl.1 rfl (lv_room (Nat.le_of_ble_eq_true rfl)) dX7_sheet_41 ⟨Nat.zero_le _, Nat.zero_le _⟩) hP hD hS hA [8, 9] [0, 1, 2, 3, 4, 5, 6, 7] rfl (wr := [(A_t, .inr (7, [.ref A_t_tape, .ref A_t_now, .ref A_t_images, .ref A_t_imageMade, .ref A_t_sheets, .ref A_t_rows, .ref A_t_clash, .ref A_t_span, .ref A_t_reader, .int t_latestTorn])), (A_t_sheets, .inl (cy 6, 4, .inr (.inr (.inr (.inr (rx4 A_t_sheets0 A_t_sheets1 A_t_sheets2 A_t_sheets3)))))), (A_t_sheets0, .inr (3, [.ref A_t_sheets0_cells, .int t_sheets0_laneOf, .int t_sheets0_size])), (A_t_sheets0_cells, .inl (cy 1, 40, .inl t_sheets0_cells)), (A_t_sheets1, .inr (3, [.ref A_t_sheets1_cells, .int t_sheets1_laneOf, .int t_sheets1_size])), (A_t_sheets1_cells, .inl (cy 1, 40, .inl t_sheets1_cells)), (A_t_sheets2, .inr (3, [.ref A_t_sheets2_cells, .int t_sheets2_laneOf, .int t_sheets2_size])), (A_t_sheets2_cells, .inl (cy 1, 40, .inl t_sheets2_cells))]) rfl rfl (by decide) (fun u H locs h hP hD hS => ?_)
                    obtain ⟨t_sheets3_laneOf_v5, t_sheets3_size_v5, t_sheets3_cells_v5⟩ := u
                    have hP : va_P D vwCl [(A_t, .inr (7, [.ref A_t_tape, .ref A_t_now, .ref A_t_images, .ref A_t_imageMade, .ref A_t_sheets, .ref A_t_rows, .ref A_t_clash, .ref A_t_span, .ref A_t_reader, .int t_latestTorn])), (A_t_sheets, .inl (cy 6, 4, .inr (.inr (.inr (.inr (rx4 A_t_sheets0 A_t_sheets1 A_t_sheets2 A_t_sheets3)))))), (A_t_sheets0, .inr (3, [.ref A_t_sheets0_cells, .int t_sheets0_laneOf, .int t_sheets0_size])), (A_t_sheets0_cells, .inl (cy 1, 40, .inl t_sheets0_cells)), (A_t_sheets1, .inr (3, [.ref A_t_sheets1_cells, .int t_sheets1_laneOf, .int t_sheets1_size])), (A_t_sheets1_cells, .inl (cy 1, 40, .inl t_sheets1_cells)), (A_t_sheets2, .inr (3, [.ref A_t_sheets2_cells, .int t_sheets2_laneOf, .int t_sheets2_size])), (A_t_sheets2_cells, .inl (cy 1, 40, .inl t_sheets2_cells)), (A_t_sheets3, .inr (3, [.ref A_t_sheets3_cells, .int t_sheets3_laneOf_v5, .int t_sheets3_size_v5])), (A_t_sheets3_cells, .inl (cy 1, 40, .inl t_sheets3_cells_v5))] H := hP.sub [0, 1, 2, 3, 4, 5, 6, 7, 8, 9] rfl
                    have hD : va_D A [(A_t, .inr (7, [.ref A_t_tape, .ref A_t_now, .ref A_t_images, .ref A_t_imageMade, .ref A_t_sheets, .ref A_t_rows, .ref A_t_clash, .ref A_t_span, .ref A_t_reader, .int t_latestTorn])), (A_t_sheets, .inl (cy 6, 4, .inr (.inr (.inr (.inr (rx4 A_t_sheets0 A_t_sheets1 A_t_sheets2 A_t_sheets3)))))), (A_t_sheets0, .inr (3, [.ref A_t_sheets0_cells, .int t_sheets0_laneOf, .int t_sheets0_size])), (A_t_sheets0_cells, .inl (cy 1, 40, .inl t_sheets0_cells)), (A_t_sheets1, .inr (3, [.ref A_t_sheets1_cells, .int t_sheets1_laneOf, .int t_sheets1_size])), (A_t_sheets1_cells, .inl (cy 1, 40, .inl t_sheets1_cells)), (A_t_sheets2, .inr (3, [.ref A_t_sheets2_cells, .int t_sheets2_laneOf, .int t_sheets2_size])), (A_t_sheets2_cells, .inl (cy 1, 40, .inl t_sheets2_cells)), (A_t_sheets3, .inr (3, [.ref A_t_sheets3_cells, .int t_sheets3_laneOf_v5, .int t_sheets3_size_v5])), (A_t_sheets3_cells, .inl (cy 1, 40, .inl t_sheets3_cells_v5))] := hD.sub [0, 1, 2, 3, 4, 5, 6, 7, 8, 9] (by decide) rfl
                    try dsimp only at h
                    refine lv_iconst (v := 1) hx hb dX7_sheet_44 (by decide) ?_
                    subst hQ
                    subst hAe
                    exact W.iret (v := (1 : Int32)) hx hb hr (fun t ht _ => ⟨⟨(1 : Int32), (t_sheets0_laneOf, t_sheets0_size, t_sheets0_cells, t_sheets1_laneOf, t_sheets1_size, t_sheets1_cells, t_sheets2_laneOf, t_sheets2_size, t_sheets2_cells, t_sheets3_laneOf_v5, t_sheets3_size_v5, t_sheets3_cells_v5), rfl, h, by rw [ht]; exact hP, hD⟩, hS.F ht⟩) hS.2.2 dX7_sheet_45
            · replace h := h.2 hc
              refine lv_bipush (v := -14) hx hb dX7_sheet_30 (by decide) ?_
              subst hQ
              subst hAe
              exact W.iret (v := (-14 : Int32)) hx hb hr (fun t ht _ => ⟨⟨(-14 : Int32), (t_sheets0_laneOf, t_sheets0_size, t_sheets0_cells, t_sheets1_laneOf, t_sheets1_size, t_sheets1_cells, t_sheets2_laneOf, t_sheets2_size, t_sheets2_cells, t_sheets3_laneOf, t_sheets3_size, t_sheets3_cells), rfl, h, by rw [ht]; exact hP, hD⟩, hS.F ht⟩) hS.2.2 dX7_sheet_32
          · replace h := h.2 hc
            refine lv_iconst (v := -1) hx hb dX7_sheet_24 (by decide) ?_
            subst hQ
            subst hAe
            exact W.iret (v := (-1 : Int32)) hx hb hr (fun t ht _ => ⟨⟨(-1 : Int32), (t_sheets0_laneOf, t_sheets0_size, t_sheets0_cells, t_sheets1_laneOf, t_sheets1_size, t_sheets1_cells, t_sheets2_laneOf, t_sheets2_size, t_sheets2_cells, t_sheets3_laneOf, t_sheets3_size, t_sheets3_cells), rfl, h, by rw [ht]; exact hP, hD⟩, hS.F ht⟩) hS.2.2 dX7_sheet_25
theorem qX7_lay : yX7_lay.cls = RX7 ∧ yX7_lay.cls ≠ "java/lang/invoke/MethodHandle" ∧ yX7_lay.cls ≠ "java/lang/invoke/VarHandle" ∧ (parseMethodDescriptor yX7_lay.desc).map (fun d => d.parameters.length) = some 3 := by decide +kernel
def P_X7_lay (post : Int32 → (Nat → Int32) → (Nat → Int32) → (Nat → Int32) → (Nat → Int32) → Prop) (t_sheets0_laneOf : Int32) (t_sheets0_size : Int32) (t_sheets1_laneOf : Int32) (t_sheets1_size : Int32) (t_sheets2_laneOf : Int32) (t_sheets2_size : Int32) (t_sheets3_laneOf : Int32) (t_sheets3_size : Int32) (t_sheets0_cells : Nat → Int32) (t_sheets1_cells : Nat → Int32) (t_sheets2_cells : Nat → Int32) (t_sheets3_cells : Nat → Int32) (x1 : Int32) (x2 : Int32) (x3 : Int32) : Prop :=
  ((x1 < 0 → post (-1 : Int32) t_sheets0_cells t_sheets1_cells t_sheets2_cells t_sheets3_cells) ∧ (¬ x1 < 0 → ((x1 < (4 : Int32) → (vp_in x1 4 ∧ ((x1 = (0 : Int32) → P_X3_faultAt (fun (r2 : Int32) => ((r2 = 0 → P_X3_put (fun (t_sheets0_cells_v3 : Nat → Int32) => post (1 : Int32) t_sheets0_cells_v3 t_sheets1_cells t_sheets2_cells t_sheets3_cells) t_sheets0_laneOf t_sheets0_cells x2 x3) ∧ (¬ r2 = 0 → post ((-10 : Int32) - r2) t_sheets0_cells t_sheets1_cells t_sheets2_cells t_sheets3_cells))) t_sheets0_laneOf t_sheets0_size t_sheets0_laneOf (1 : Int32) x2.toInt64) ∧ (¬ x1 = (0 : Int32) → ((x1 = (1 : Int32) → P_X3_faultAt (fun (r4 : Int32) => ((r4 = 0 → P_X3_put (fun (t_sheets1_cells_v5 : Nat → Int32) => post (1 : Int32) t_sheets0_cells t_sheets1_cells_v5 t_sheets2_cells t_sheets3_cells) t_sheets1_laneOf t_sheets1_cells x2 x3) ∧ (¬ r4 = 0 → post ((-10 : Int32) - r4) t_sheets0_cells t_sheets1_cells t_sheets2_cells t_sheets3_cells))) t_sheets1_laneOf t_sheets1_size t_sheets1_laneOf (1 : Int32) x2.toInt64) ∧ (¬ x1 = (1 : Int32) → ((x1 = (2 : Int32) → P_X3_faultAt (fun (r6 : Int32) => ((r6 = 0 → P_X3_put (fun (t_sheets2_cells_v7 : Nat → Int32) => post (1 : Int32) t_sheets0_cells t_sheets1_cells t_sheets2_cells_v7 t_sheets3_cells) t_sheets2_laneOf t_sheets2_cells x2 x3) ∧ (¬ r6 = 0 → post ((-10 : Int32) - r6) t_sheets0_cells t_sheets1_cells t_sheets2_cells t_sheets3_cells))) t_sheets2_laneOf t_sheets2_size t_sheets2_laneOf (1 : Int32) x2.toInt64) ∧ (¬ x1 = (2 : Int32) → P_X3_faultAt (fun (r8 : Int32) => ((r8 = 0 → P_X3_put (fun (t_sheets3_cells_v9 : Nat → Int32) => post (1 : Int32) t_sheets0_cells t_sheets1_cells t_sheets2_cells t_sheets3_cells_v9) t_sheets3_laneOf t_sheets3_cells x2 x3) ∧ (¬ r8 = 0 → post ((-10 : Int32) - r8) t_sheets0_cells t_sheets1_cells t_sheets2_cells t_sheets3_cells))) t_sheets3_laneOf t_sheets3_size t_sheets3_laneOf (1 : Int32) x2.toInt64)))))))) ∧ (¬ x1 < (4 : Int32) → post (-1 : Int32) t_sheets0_cells t_sheets1_cells t_sheets2_cells t_sheets3_cells))))
set_option maxHeartbeats 4000000 in
set_option maxRecDepth 100000 in
theorem c_X7_lay (l : Launch) (D : va_G) (cy : Nat → ClassId) (sz : Nat) (A_t A_t_tape A_t_now A_t_images A_t_imageMade A_t_sheets A_t_rows A_t_clash A_t_span A_t_reader A_t_sheets0 A_t_sheets1 A_t_sheets2 A_t_sheets3 A_t_sheets0_cells A_t_sheets1_cells A_t_sheets2_cells A_t_sheets3_cells : Nat) (t_latestTorn : Int32) (t_sheets0_laneOf : Int32) (t_sheets0_size : Int32) (t_sheets1_laneOf : Int32) (t_sheets1_size : Int32) (t_sheets2_laneOf : Int32) (t_sheets2_size : Int32) (t_sheets3_laneOf : Int32) (t_sheets3_size : Int32) (t_sheets0_cells : Nat → Int32) (t_sheets1_cells : Nat → Int32) (t_sheets2_cells : Nat → Int32) (t_sheets3_cells : Nat → Int32) (x1 : Int32) (x2 : Int32) (x3 : Int32) (post : Int32 → (Nat → Int32) → (Nat → Int32) → (Nat → Int32) → (Nat → Int32) → Prop) (h : P_X7_lay post t_sheets0_laneOf t_sheets0_size t_sheets1_laneOf t_sheets1_size t_sheets2_laneOf t_sheets2_size t_sheets3_laneOf t_sheets3_size t_sheets0_cells t_sheets1_cells t_sheets2_cells t_sheets3_cells x1 x2 x3) : Met l yX7_lay wsX7_lay { frames := 1, cells := 0, slots := 0, locals := 24 } (pcW D cy [(A_t, .inr (7, [.ref A_t_tape, .ref A_t_now, .ref A_t_images, .ref A_t_imageMade, .ref A_t_sheets, .ref A_t_rows, .ref A_t_clash, .ref A_t_span, .ref A_t_reader, .int t_latestTorn])), (A_t_sheets, .inl (cy 6, 4, .inr (.inr (.inr (.inr (rx4 A_t_sheets0 A_t_sheets1 A_t_sheets2 A_t_sheets3)))))), (A_t_sheets0, .inr (3, [.ref A_t_sheets0_cells, .int t_sheets0_laneOf, .int t_sheets0_size])), (A_t_sheets1, .inr (3, [.ref A_t_sheets1_cells, .int t_sheets1_laneOf, .int t_sheets1_size])), (A_t_sheets2, .inr (3, [.ref A_t_sheets2_cells, .int t_sheets2_laneOf, .int t_sheets2_size])), (A_t_sheets3, .inr (3, [.ref A_t_sheets3_cells, .int t_sheets3_laneOf, .int t_sheets3_size])), (A_t_sheets0_cells, .inl (cy 1, 40, .inl t_sheets0_cells)), (A_t_sheets1_cells, .inl (cy 1, 40, .inl t_sheets1_cells)), (A_t_sheets2_cells, .inl (cy 1, 40, .inl t_sheets2_cells)), (A_t_sheets3_cells, .inl (cy 1, 40, .inl t_sheets3_cells))] sz [.ref A_t, .int x1, .int x2, .int x3]) (va_Qi (fun r (u : (Nat → Int32) × (Nat → Int32) × (Nat → Int32) × (Nat → Int32)) => post r u.1 u.2.1 u.2.2.1 u.2.2.2) (bW D [(A_t, .inr (7, [.ref A_t_tape, .ref A_t_now, .ref A_t_images, .ref A_t_imageMade, .ref A_t_sheets, .ref A_t_rows, .ref A_t_clash, .ref A_t_span, .ref A_t_reader, .int t_latestTorn])), (A_t_sheets, .inl (cy 6, 4, .inr (.inr (.inr (.inr (rx4 A_t_sheets0 A_t_sheets1 A_t_sheets2 A_t_sheets3)))))), (A_t_sheets0, .inr (3, [.ref A_t_sheets0_cells, .int t_sheets0_laneOf, .int t_sheets0_size])), (A_t_sheets1, .inr (3, [.ref A_t_sheets1_cells, .int t_sheets1_laneOf, .int t_sheets1_size])), (A_t_sheets2, .inr (3, [.ref A_t_sheets2_cells, .int t_sheets2_laneOf, .int t_sheets2_size])), (A_t_sheets3, .inr (3, [.ref A_t_sheets3_cells, .int t_sheets3_laneOf, .int t_sheets3_size])), (A_t_sheets0_cells, .inl (cy 1, 40, .inl t_sheets0_cells)), (A_t_sheets1_cells, .inl (cy 1, 40, .inl t_sheets1_cells)), (A_t_sheets2_cells, .inl (cy 1, 40, .inl t_sheets2_cells)), (A_t_sheets3_cells, .inl (cy 1, 40, .inl t_sheets3_cells))] sz (fun u => [(A_t, .inr (7, [.ref A_t_tape, .ref A_t_now, .ref A_t_images, .ref A_t_imageMade, .ref A_t_sheets, .ref A_t_rows, .ref A_t_clash, .ref A_t_span, .ref A_t_reader, .int t_latestTorn])), (A_t_sheets, .inl (cy 6, 4, .inr (.inr (.inr (.inr (rx4 A_t_sheets0 A_t_sheets1 A_t_sheets2 A_t_sheets3)))))), (A_t_sheets0, .inr (3, [.ref A_t_sheets0_cells, .int t_sheets0_laneOf, .int t_sheets0_size])), (A_t_sheets1, .inr (3, [.ref A_t_sheets1_cells, .int t_sheets1_laneOf, .int t_sheets1_size])), (A_t_sheets2, .inr (3, [.ref A_t_sheets2_cells, .int t_sheets2_laneOf, .int t_sheets2_size])), (A_t_sheets3, .inr (3, [.ref A_t_sheets3_cells, .int t_sheets3_laneOf, .int t_sheets3_size])), (A_t_sheets0_cells, .inl (cy 1, 40, .inl u.1)), (A_t_sheets1_cells, .inl (cy 1, 40, .inl u.2.1)), (A_t_sheets2_cells, .inl (cy 1, 40, .inl u.2.2.1)), (A_t_sheets3_cells, .inl (cy 1, 40, .inl u.2.2.2))])) (va_A [(A_t, .inr (7, [.ref A_t_tape, .ref A_t_now, .ref A_t_images, .ref A_t_imageMade, .ref A_t_sheets, .ref A_t_rows, .ref A_t_clash, .ref A_t_span, .ref A_t_reader, .int t_latestTorn])), (A_t_sheets, .inl (cy 6, 4, .inr (.inr (.inr (.inr (rx4 A_t_sheets0 A_t_sheets1 A_t_sheets2 A_t_sheets3)))))), (A_t_sheets0, .inr (3, [.ref A_t_sheets0_cells, .int t_sheets0_laneOf, .int t_sheets0_size])), (A_t_sheets1, .inr (3, [.ref A_t_sheets1_cells, .int t_sheets1_laneOf, .int t_sheets1_size])), (A_t_sheets2, .inr (3, [.ref A_t_sheets2_cells, .int t_sheets2_laneOf, .int t_sheets2_size])), (A_t_sheets3, .inr (3, [.ref A_t_sheets3_cells, .int t_sheets3_laneOf, .int t_sheets3_size])), (A_t_sheets0_cells, .inl (cy 1, 40, .inl t_sheets0_cells)), (A_t_sheets1_cells, .inl (cy 1, 40, .inl t_sheets1_cells)), (A_t_sheets2_cells, .inl (cy 1, 40, .inl t_sheets2_cells)), (A_t_sheets3_cells, .inl (cy 1, 40, .inl t_sheets3_cells))] sz)) 0 0 (va_A [(A_t, .inr (7, [.ref A_t_tape, .ref A_t_now, .ref A_t_images, .ref A_t_imageMade, .ref A_t_sheets, .ref A_t_rows, .ref A_t_clash, .ref A_t_span, .ref A_t_reader, .int t_latestTorn])), (A_t_sheets, .inl (cy 6, 4, .inr (.inr (.inr (.inr (rx4 A_t_sheets0 A_t_sheets1 A_t_sheets2 A_t_sheets3)))))), (A_t_sheets0, .inr (3, [.ref A_t_sheets0_cells, .int t_sheets0_laneOf, .int t_sheets0_size])), (A_t_sheets1, .inr (3, [.ref A_t_sheets1_cells, .int t_sheets1_laneOf, .int t_sheets1_size])), (A_t_sheets2, .inr (3, [.ref A_t_sheets2_cells, .int t_sheets2_laneOf, .int t_sheets2_size])), (A_t_sheets3, .inr (3, [.ref A_t_sheets3_cells, .int t_sheets3_laneOf, .int t_sheets3_size])), (A_t_sheets0_cells, .inl (cy 1, 40, .inl t_sheets0_cells)), (A_t_sheets1_cells, .inl (cy 1, 40, .inl t_sheets1_cells)), (A_t_sheets2_cells, .inl (cy 1, 40, .inl t_sheets2_cells)), (A_t_sheets3_cells, .inl (cy 1, 40, .inl t_sheets3_cells))] sz) := by
  refine Met.ofW (cc := cX7_lay) (maxL := 6) (ret := (some .int)) (by decide) rfl ?_
  intro p e s m args below meth c s₁ B hml hv
  obtain ⟨rfl, hsz, hP, hK, hD0⟩ := hv
  have hx := B.exec
  have hb := B.bytes
  have hr := B.returns
  have hts := atoms_spec (ws := wsX7_lay) B.pre
  have hown : s.vm.findClass RX7 = some m.cls := findClass_of_methodNamed B.named
  have hlocks := B.notSynchronized
  have CF : CallFix p m c cX7_lay 6 s ([.ref A_t, .int x1, .int x2, .int x3] : List Value).toArray wsX7_lay RX7 := ⟨hx, hb, hml, hown, hts⟩
  have f0 := hts (.fieldLink RX7 33 "GapBounds" "sheets" "[LGapBounds$Sheet;") (by decide +kernel)
  have f1 := hts (.fieldLink RX7 256 "GapBounds$Sheet" "laneOf" "I") (by decide +kernel)
  have iX3 : ∀ w ∈ u_ws RX3 TX3 3, w ∈ wsX7_lay := by decide +kernel
  have iX7 : ∀ w ∈ u_ws RX7 TX7 10, w ∈ wsX7_lay := by decide +kernel
  subst hsz
  obtain ⟨A, hAe⟩ : ∃ A, A = va_A [(A_t, .inr (7, [.ref A_t_tape, .ref A_t_now, .ref A_t_images, .ref A_t_imageMade, .ref A_t_sheets, .ref A_t_rows, .ref A_t_clash, .ref A_t_span, .ref A_t_reader, .int t_latestTorn])), (A_t_sheets, .inl (cy 6, 4, .inr (.inr (.inr (.inr (rx4 A_t_sheets0 A_t_sheets1 A_t_sheets2 A_t_sheets3)))))), (A_t_sheets0, .inr (3, [.ref A_t_sheets0_cells, .int t_sheets0_laneOf, .int t_sheets0_size])), (A_t_sheets1, .inr (3, [.ref A_t_sheets1_cells, .int t_sheets1_laneOf, .int t_sheets1_size])), (A_t_sheets2, .inr (3, [.ref A_t_sheets2_cells, .int t_sheets2_laneOf, .int t_sheets2_size])), (A_t_sheets3, .inr (3, [.ref A_t_sheets3_cells, .int t_sheets3_laneOf, .int t_sheets3_size])), (A_t_sheets0_cells, .inl (cy 1, 40, .inl t_sheets0_cells)), (A_t_sheets1_cells, .inl (cy 1, 40, .inl t_sheets1_cells)), (A_t_sheets2_cells, .inl (cy 1, 40, .inl t_sheets2_cells)), (A_t_sheets3_cells, .inl (cy 1, 40, .inl t_sheets3_cells))] s.heap.size := ⟨_, rfl⟩
  have hD : va_D A [(A_t, .inr (7, [.ref A_t_tape, .ref A_t_now, .ref A_t_images, .ref A_t_imageMade, .ref A_t_sheets, .ref A_t_rows, .ref A_t_clash, .ref A_t_span, .ref A_t_reader, .int t_latestTorn])), (A_t_sheets, .inl (cy 6, 4, .inr (.inr (.inr (.inr (rx4 A_t_sheets0 A_t_sheets1 A_t_sheets2 A_t_sheets3)))))), (A_t_sheets0, .inr (3, [.ref A_t_sheets0_cells, .int t_sheets0_laneOf, .int t_sheets0_size])), (A_t_sheets1, .inr (3, [.ref A_t_sheets1_cells, .int t_sheets1_laneOf, .int t_sheets1_size])), (A_t_sheets2, .inr (3, [.ref A_t_sheets2_cells, .int t_sheets2_laneOf, .int t_sheets2_size])), (A_t_sheets3, .inr (3, [.ref A_t_sheets3_cells, .int t_sheets3_laneOf, .int t_sheets3_size])), (A_t_sheets0_cells, .inl (cy 1, 40, .inl t_sheets0_cells)), (A_t_sheets1_cells, .inl (cy 1, 40, .inl t_sheets1_cells)), (A_t_sheets2_cells, .inl (cy 1, 40, .inl t_sheets2_cells)), (A_t_sheets3_cells, .inl (cy 1, 40, .inl t_sheets3_cells))] := by rw [hAe]; exact hD0.self
  have hA : ∀ q : Nat, s.heap.size ≤ q → A q := fun q hq => by rw [hAe]; exact Or.inr hq
  have hS : va_S A s.heap s.heap [] := va_S.rf
  have hl := lv_entry [.ref A_t, .int x1, .int x2, .int x3] (n := 6) (Nat.le_of_ble_eq_true rfl)
  rw [lg_entry_eq]
  generalize (lg_sl [.ref A_t, .int x1, .int x2, .int x3] ++ List.replicate (6 - (lg_sl [.ref A_t, .int x1, .int x2, .int x3]).length) Slot.unset).toArray = ls at hl ⊢
  have hl : lv_has ls 6 [(0, .ref A_t), (1, .int x1), (2, .int x2), (3, .int x3)] := hl
  refine W.gen (fun Q0 hQ => ?_)
  unfold P_X7_lay at h
  refine lv_iload_n hx hb dX7_lay_0 rfl (lv_at hl 1 rfl) ?_
  refine lv_if_lt (tgt := 9) hx hb dX7_lay_1 (by decide) (fun hc => ?_) (fun hc => ?_)
  · replace h := h.1 hc
    refine lv_iconst (v := -1) hx hb dX7_lay_9 (by decide) ?_
    subst hQ
    subst hAe
    exact W.iret (v := (-1 : Int32)) hx hb hr (fun t ht _ => ⟨⟨(-1 : Int32), (t_sheets0_cells, t_sheets1_cells, t_sheets2_cells, t_sheets3_cells), rfl, h, by rw [ht]; exact hP, hD⟩, hS.F ht⟩) hS.2.2 dX7_lay_10
  · replace h := h.2 hc
    refine lv_iload_n hx hb dX7_lay_4 rfl (lv_at hl 1 rfl) ?_
    refine lv_iconst (v := 4) hx hb dX7_lay_5 (by decide) ?_
    refine lv_icmp_lt (tgt := 11) hx hb dX7_lay_6 (by decide) (fun hc => ?_) (fun hc => ?_)
    · replace h := h.1 hc
      refine lv_aload_n hx hb dX7_lay_11 rfl (lv_at hl 0 rfl) ?_
      refine va_get (D := D) (ci := 7) (v := .ref A_t_sheets) (C := RX7) (T := TX7) (N := 10) hx hb hts iX7 hown hK.1 hP 0 rfl rfl 4 (by decide) f0 (fun _ h9 => h9) rfl dX7_lay_12 ?_
      refine lv_iload_n hx hb dX7_lay_15 rfl (lv_at hl 1 rfl) ?_
      refine va_aldq hx hb hK.1 hP 1 6 rfl rfl h.1 dX7_lay_16 ?_
      have hv1 := h.1
      replace h := h.2
      by_cases hc0 : x1 = (0 : Int32)
      · replace h := h.1 hc0
        refine W.eq (g2 := F0 m 17 ls [.ref A_t_sheets0]) (by rw [hc0]; rfl) ?_
        refine lv_astore (lv' := [(4, .ref A_t_sheets0), (0, .ref A_t), (1, .int x1), (2, .int x2), (3, .int x3)]) hx hb dX7_lay_17 hl (by decide) rfl (fun ls hl => ?_)
        refine lv_aload hx hb dX7_lay_19 (lv_at hl 0 rfl) ?_
        refine lv_aload hx hb dX7_lay_21 (lv_at hl 0 rfl) ?_
        refine va_get (D := D) (ci := 3) (v := .int t_sheets0_laneOf) (C := RX3) (T := TX3) (N := 3) hx hb hts iX3 hown hK.1 hP 2 rfl rfl 1 (by decide) f1 (fun _ h9 => h9) rfl dX7_lay_23 ?_
        refine lv_iload_n hx hb dX7_lay_26 rfl (lv_at hl 3 rfl) ?_
        refine lv_i2l (v := x2.toInt64) hx hb dX7_lay_27 rfl ?_
        refine lv_iconst (v := 1) hx hb dX7_lay_28 (by decide) ?_
        have hPc := hP.sub (ws' := [(A_t_sheets0, .inr (3, [.ref A_t_sheets0_cells, .int t_sheets0_laneOf, .int t_sheets0_size]))]) [2] rfl
        refine vp_callSi (W.runV (As := [.int t_sheets0_laneOf, .long x2.toInt64, .int (1 : Int32)]) (rest := []) CF (c_X3_faultAt l D cy A_t_sheets0 A_t_sheets0_cells t_sheets0_laneOf t_sheets0_size t_sheets0_laneOf x2.toInt64 (1 : Int32) _ h) (cwV 3 hts gX7_lay_X3_faultAt rfl rfl rfl qX3_faultAt ⟨Nat.le_of_ble_eq_true rfl, Nat.le_of_ble_eq_true rfl⟩) (mpVR hK hPc (ci := 3) (q := (RX3, TX3, 3)) (q0 := 0) rfl rfl) rfl rfl hl.1 rfl (lv_room (Nat.le_of_ble_eq_true rfl)) dX7_lay_29 ⟨Nat.zero_le _, Nat.zero_le _⟩) (fun r2 h => ?_)
        refine lv_istore (lv' := [(5, .int r2), (4, .ref A_t_sheets0), (0, .ref A_t), (1, .int x1), (2, .int x2), (3, .int x3)]) hx hb dX7_lay_32 hl (by decide) rfl (fun ls hl => ?_)
        refine lv_iload hx hb dX7_lay_34 (lv_at hl 0 rfl) ?_
        refine lv_if_eq (tgt := 45) hx hb dX7_lay_36 (by decide) (fun hc => ?_) (fun hc => ?_)
        · replace h := h.1 hc
          refine lv_aload hx hb dX7_lay_45 (lv_at hl 1 rfl) ?_
          refine lv_iload_n hx hb dX7_lay_47 rfl (lv_at hl 4 rfl) ?_
          refine lv_iload_n hx hb dX7_lay_48 rfl (lv_at hl 5 rfl) ?_
          have hPc := hP.sub (ws' := [(A_t_sheets0, .inr (3, [.ref A_t_sheets0_cells, .int t_sheets0_laneOf, .int t_sheets0_size])), (A_t_sheets0_cells, .inl (cy 1, 40, .inl t_sheets0_cells))]) [2, 6] rfl
          have hDc := hD.sub (ws' := [(A_t_sheets0, .inr (3, [.ref A_t_sheets0_cells, .int t_sheets0_laneOf, .int t_sheets0_size])), (A_t_sheets0_cells, .inl (cy 1, 40, .inl t_sheets0_cells))]) [2, 6] (by decide) rfl
          refine mw_v (va_runV (As := [.int x2, .int x3]) (rest := []) CF (c_X3_put l D cy s.heap.size A_t_sheets0 A_t_sheets0_cells t_sheets0_laneOf t_sheets0_size t_sheets0_cells x2 x3 _ h) (cwV 2 hts gX7_lay_X3_put rfl rfl rfl qX3_put ⟨Nat.le_of_ble_eq_true rfl, Nat.le_of_ble_eq_true rfl⟩) (mpVW hK hPc hDc (ci := 3) (q := (RX3, TX3, 3)) (q0 := 0) rfl rfl) rfl rfl hl.1 rfl (lv_room (Nat.le_of_ble_eq_true rfl)) dX7_lay_49 ⟨Nat.zero_le _, Nat.zero_le _⟩) hP hD hS hA [2, 6] [0, 1, 3, 4, 5, 7, 8, 9] rfl (wr := [(A_t, .inr (7, [.ref A_t_tape, .ref A_t_now, .ref A_t_images, .ref A_t_imageMade, .ref A_t_sheets, .ref A_t_rows, .ref A_t_clash, .ref A_t_span, .ref A_t_reader, .int t_latestTorn])), (A_t_sheets, .inl (cy 6, 4, .inr (.inr (.inr (.inr (rx4 A_t_sheets0 A_t_sheets1 A_t_sheets2 A_t_sheets3)))))), (A_t_sheets1, .inr (3, [.ref A_t_sheets1_cells, .int t_sheets1_laneOf, .int t_sheets1_size])), (A_t_sheets2, .inr (3, [.ref A_t_sheets2_cells, .int t_sheets2_laneOf, .int t_sheets2_size])), (A_t_sheets3, .inr (3, [.ref A_t_sheets3_cells, .int t_sheets3_laneOf, .int t_sheets3_size])), (A_t_sheets1_cells, .inl (cy 1, 40, .inl t_sheets1_cells)), (A_t_sheets2_cells, .inl (cy 1, 40, .inl t_sheets2_cells)), (A_t_sheets3_cells, .inl (cy 1, 40, .inl t_sheets3_cells))]) rfl rfl (by decide) (fun t_sheets0_cells_v3 H locs h hP hD hS => ?_)
          have hP : va_P D vwCl [(A_t, .inr (7, [.ref A_t_tape, .ref A_t_now, .ref A_t_images, .ref A_t_imageMade, .ref A_t_sheets, .ref A_t_rows, .ref A_t_clash, .ref A_t_span, .ref A_t_reader, .int t_latestTorn])), (A_t_sheets, .inl (cy 6, 4, .inr (.inr (.inr (.inr (rx4 A_t_sheets0 A_t_sheets1 A_t_sheets2 A_t_sheets3)))))), (A_t_sheets0, .inr (3, [.ref A_t_sheets0_cells, .int t_sheets0_laneOf, .int t_sheets0_size])), (A_t_sheets1, .inr (3, [.ref A_t_sheets1_cells, .int t_sheets1_laneOf, .int t_sheets1_size])), (A_t_sheets2, .inr (3, [.ref A_t_sheets2_cells, .int t_sheets2_laneOf, .int t_sheets2_size])), (A_t_sheets3, .inr (3, [.ref A_t_sheets3_cells, .int t_sheets3_laneOf, .int t_sheets3_size])), (A_t_sheets0_cells, .inl (cy 1, 40, .inl t_sheets0_cells_v3)), (A_t_sheets1_cells, .inl (cy 1, 40, .inl t_sheets1_cells)), (A_t_sheets2_cells, .inl (cy 1, 40, .inl t_sheets2_cells)), (A_t_sheets3_cells, .inl (cy 1, 40, .inl t_sheets3_cells))] H := hP.sub [0, 1, 8, 2, 3, 4, 9, 5, 6, 7] rfl
          have hD : va_D A [(A_t, .inr (7, [.ref A_t_tape, .ref A_t_now, .ref A_t_images, .ref A_t_imageMade, .ref A_t_sheets, .ref A_t_rows, .ref A_t_clash, .ref A_t_span, .ref A_t_reader, .int t_latestTorn])), (A_t_sheets, .inl (cy 6, 4, .inr (.inr (.inr (.inr (rx4 A_t_sheets0 A_t_sheets1 A_t_sheets2 A_t_sheets3)))))), (A_t_sheets0, .inr (3, [.ref A_t_sheets0_cells, .int t_sheets0_laneOf, .int t_sheets0_size])), (A_t_sheets1, .inr (3, [.ref A_t_sheets1_cells, .int t_sheets1_laneOf, .int t_sheets1_size])), (A_t_sheets2, .inr (3, [.ref A_t_sheets2_cells, .int t_sheets2_laneOf, .int t_sheets2_size])), (A_t_sheets3, .inr (3, [.ref A_t_sheets3_cells, .int t_sheets3_laneOf, .int t_sheets3_size])), (A_t_sheets0_cells, .inl (cy 1, 40, .inl t_sheets0_cells_v3)), (A_t_sheets1_cells, .inl (cy 1, 40, .inl t_sheets1_cells)), (A_t_sheets2_cells, .inl (cy 1, 40, .inl t_sheets2_cells)), (A_t_sheets3_cells, .inl (cy 1, 40, .inl t_sheets3_cells))] := hD.sub [0, 1, 8, 2, 3, 4, 9, 5, 6, 7] (by decide) rfl
          refine lv_iconst (v := 1) hx hb dX7_lay_52 (by decide) ?_
          subst hQ
          subst hAe
          exact W.iret (v := (1 : Int32)) hx hb hr (fun t ht _ => ⟨⟨(1 : Int32), (t_sheets0_cells_v3, t_sheets1_cells, t_sheets2_cells, t_sheets3_cells), rfl, h, by rw [ht]; exact hP, hD⟩, hS.F ht⟩) hS.2.2 dX7_lay_53
        · replace h := h.2 hc
          refine lv_bipush (v := -10) hx hb dX7_lay_39 (by decide) ?_
          refine lv_iload hx hb dX7_lay_41 (lv_at hl 0 rfl) ?_
          refine lv_isub hx hb dX7_lay_43 ?_
          subst hQ
          subst hAe
          exact W.iret (v := (-10 : Int32) - r2) hx hb hr (fun t ht _ => ⟨⟨(-10 : Int32) - r2, (t_sheets0_cells, t_sheets1_cells, t_sheets2_cells, t_sheets3_cells), rfl, h, by rw [ht]; exact hP, hD⟩, hS.F ht⟩) hS.2.2 dX7_lay_44
      · replace h := h.2 hc0
        by_cases hc1 : x1 = (1 : Int32)
        · replace h := h.1 hc1
          refine W.eq (g2 := F0 m 17 ls [.ref A_t_sheets1]) (by rw [hc1]; rfl) ?_
          refine lv_astore (lv' := [(4, .ref A_t_sheets1), (0, .ref A_t), (1, .int x1), (2, .int x2), (3, .int x3)]) hx hb dX7_lay_17 hl (by decide) rfl (fun ls hl => ?_)
          refine lv_aload hx hb dX7_lay_19 (lv_at hl 0 rfl) ?_
          refine lv_aload hx hb dX7_lay_21 (lv_at hl 0 rfl) ?_
          refine va_get (D := D) (ci := 3) (v := .int t_sheets1_laneOf) (C := RX3) (T := TX3) (N := 3) hx hb hts iX3 hown hK.1 hP 3 rfl rfl 1 (by decide) f1 (fun _ h9 => h9) rfl dX7_lay_23 ?_
          refine lv_iload_n hx hb dX7_lay_26 rfl (lv_at hl 3 rfl) ?_
          refine lv_i2l (v := x2.toInt64) hx hb dX7_lay_27 rfl ?_
          refine lv_iconst (v := 1) hx hb dX7_lay_28 (by decide) ?_
          have hPc := hP.sub (ws' := [(A_t_sheets1, .inr (3, [.ref A_t_sheets1_cells, .int t_sheets1_laneOf, .int t_sheets1_size]))]) [3] rfl
          refine vp_callSi (W.runV (As := [.int t_sheets1_laneOf, .long x2.toInt64, .int (1 : Int32)]) (rest := []) CF (c_X3_faultAt l D cy A_t_sheets1 A_t_sheets1_cells t_sheets1_laneOf t_sheets1_size t_sheets1_laneOf x2.toInt64 (1 : Int32) _ h) (cwV 3 hts gX7_lay_X3_faultAt rfl rfl rfl qX3_faultAt ⟨Nat.le_of_ble_eq_true rfl, Nat.le_of_ble_eq_true rfl⟩) (mpVR hK hPc (ci := 3) (q := (RX3, TX3, 3)) (q0 := 0) rfl rfl) rfl rfl hl.1 rfl (lv_room (Nat.le_of_ble_eq_true rfl)) dX7_lay_29 ⟨Nat.zero_le _, Nat.zero_le _⟩) (fun r4 h => ?_)
          refine lv_istore (lv' := [(5, .int r4), (4, .ref A_t_sheets1), (0, .ref A_t), (1, .int x1), (2, .int x2), (3, .int x3)]) hx hb dX7_lay_32 hl (by decide) rfl (fun ls hl => ?_)
          refine lv_iload hx hb dX7_lay_34 (lv_at hl 0 rfl) ?_
          refine lv_if_eq (tgt := 45) hx hb dX7_lay_36 (by decide) (fun hc => ?_) (fun hc => ?_)
          · replace h := h.1 hc
            refine lv_aload hx hb dX7_lay_45 (lv_at hl 1 rfl) ?_
            refine lv_iload_n hx hb dX7_lay_47 rfl (lv_at hl 4 rfl) ?_
            refine lv_iload_n hx hb dX7_lay_48 rfl (lv_at hl 5 rfl) ?_
            have hPc := hP.sub (ws' := [(A_t_sheets1, .inr (3, [.ref A_t_sheets1_cells, .int t_sheets1_laneOf, .int t_sheets1_size])), (A_t_sheets1_cells, .inl (cy 1, 40, .inl t_sheets1_cells))]) [3, 7] rfl
            have hDc := hD.sub (ws' := [(A_t_sheets1, .inr (3, [.ref A_t_sheets1_cells, .int t_sheets1_laneOf, .int t_sheets1_size])), (A_t_sheets1_cells, .inl (cy 1, 40, .inl t_sheets1_cells))]) [3, 7] (by decide) rfl
            refine mw_v (va_runV (As := [.int x2, .int x3]) (rest := []) CF (c_X3_put l D cy s.heap.size A_t_sheets1 A_t_sheets1_cells t_sheets1_laneOf t_sheets1_size t_sheets1_cells x2 x3 _ h) (cwV 2 hts gX7_lay_X3_put rfl rfl rfl qX3_put ⟨Nat.le_of_ble_eq_true rfl, Nat.le_of_ble_eq_true rfl⟩) (mpVW hK hPc hDc (ci := 3) (q := (RX3, TX3, 3)) (q0 := 0) rfl rfl) rfl rfl hl.1 rfl (lv_room (Nat.le_of_ble_eq_true rfl)) dX7_lay_49 ⟨Nat.zero_le _, Nat.zero_le _⟩) hP hD hS hA [3, 7] [0, 1, 2, 4, 5, 6, 8, 9] rfl (wr := [(A_t, .inr (7, [.ref A_t_tape, .ref A_t_now, .ref A_t_images, .ref A_t_imageMade, .ref A_t_sheets, .ref A_t_rows, .ref A_t_clash, .ref A_t_span, .ref A_t_reader, .int t_latestTorn])), (A_t_sheets, .inl (cy 6, 4, .inr (.inr (.inr (.inr (rx4 A_t_sheets0 A_t_sheets1 A_t_sheets2 A_t_sheets3)))))), (A_t_sheets0, .inr (3, [.ref A_t_sheets0_cells, .int t_sheets0_laneOf, .int t_sheets0_size])), (A_t_sheets2, .inr (3, [.ref A_t_sheets2_cells, .int t_sheets2_laneOf, .int t_sheets2_size])), (A_t_sheets3, .inr (3, [.ref A_t_sheets3_cells, .int t_sheets3_laneOf, .int t_sheets3_size])), (A_t_sheets0_cells, .inl (cy 1, 40, .inl t_sheets0_cells)), (A_t_sheets2_cells, .inl (cy 1, 40, .inl t_sheets2_cells)), (A_t_sheets3_cells, .inl (cy 1, 40, .inl t_sheets3_cells))]) rfl rfl (by decide) (fun t_sheets1_cells_v5 H locs h hP hD hS => ?_)
            have hP : va_P D vwCl [(A_t, .inr (7, [.ref A_t_tape, .ref A_t_now, .ref A_t_images, .ref A_t_imageMade, .ref A_t_sheets, .ref A_t_rows, .ref A_t_clash, .ref A_t_span, .ref A_t_reader, .int t_latestTorn])), (A_t_sheets, .inl (cy 6, 4, .inr (.inr (.inr (.inr (rx4 A_t_sheets0 A_t_sheets1 A_t_sheets2 A_t_sheets3)))))), (A_t_sheets0, .inr (3, [.ref A_t_sheets0_cells, .int t_sheets0_laneOf, .int t_sheets0_size])), (A_t_sheets1, .inr (3, [.ref A_t_sheets1_cells, .int t_sheets1_laneOf, .int t_sheets1_size])), (A_t_sheets2, .inr (3, [.ref A_t_sheets2_cells, .int t_sheets2_laneOf, .int t_sheets2_size])), (A_t_sheets3, .inr (3, [.ref A_t_sheets3_cells, .int t_sheets3_laneOf, .int t_sheets3_size])), (A_t_sheets0_cells, .inl (cy 1, 40, .inl t_sheets0_cells)), (A_t_sheets1_cells, .inl (cy 1, 40, .inl t_sheets1_cells_v5)), (A_t_sheets2_cells, .inl (cy 1, 40, .inl t_sheets2_cells)), (A_t_sheets3_cells, .inl (cy 1, 40, .inl t_sheets3_cells))] H := hP.sub [0, 1, 2, 8, 3, 4, 5, 9, 6, 7] rfl
            have hD : va_D A [(A_t, .inr (7, [.ref A_t_tape, .ref A_t_now, .ref A_t_images, .ref A_t_imageMade, .ref A_t_sheets, .ref A_t_rows, .ref A_t_clash, .ref A_t_span, .ref A_t_reader, .int t_latestTorn])), (A_t_sheets, .inl (cy 6, 4, .inr (.inr (.inr (.inr (rx4 A_t_sheets0 A_t_sheets1 A_t_sheets2 A_t_sheets3)))))), (A_t_sheets0, .inr (3, [.ref A_t_sheets0_cells, .int t_sheets0_laneOf, .int t_sheets0_size])), (A_t_sheets1, .inr (3, [.ref A_t_sheets1_cells, .int t_sheets1_laneOf, .int t_sheets1_size])), (A_t_sheets2, .inr (3, [.ref A_t_sheets2_cells, .int t_sheets2_laneOf, .int t_sheets2_size])), (A_t_sheets3, .inr (3, [.ref A_t_sheets3_cells, .int t_sheets3_laneOf, .int t_sheets3_size])), (A_t_sheets0_cells, .inl (cy 1, 40, .inl t_sheets0_cells)), (A_t_sheets1_cells, .inl (cy 1, 40, .inl t_sheets1_cells_v5)), (A_t_sheets2_cells, .inl (cy 1, 40, .inl t_sheets2_cells)), (A_t_sheets3_cells, .inl (cy 1, 40, .inl t_sheets3_cells))] := hD.sub [0, 1, 2, 8, 3, 4, 5, 9, 6, 7] (by decide) rfl
            refine lv_iconst (v := 1) hx hb dX7_lay_52 (by decide) ?_
            subst hQ
            subst hAe
            exact W.iret (v := (1 : Int32)) hx hb hr (fun t ht _ => ⟨⟨(1 : Int32), (t_sheets0_cells, t_sheets1_cells_v5, t_sheets2_cells, t_sheets3_cells), rfl, h, by rw [ht]; exact hP, hD⟩, hS.F ht⟩) hS.2.2 dX7_lay_53
          · replace h := h.2 hc
            refine lv_bipush (v := -10) hx hb dX7_lay_39 (by decide) ?_
            refine lv_iload hx hb dX7_lay_41 (lv_at hl 0 rfl) ?_
            refine lv_isub hx hb dX7_lay_43 ?_
            subst hQ
            subst hAe
            exact W.iret (v := (-10 : Int32) - r4) hx hb hr (fun t ht _ => ⟨⟨(-10 : Int32) - r4, (t_sheets0_cells, t_sheets1_cells, t_sheets2_cells, t_sheets3_cells), rfl, h, by rw [ht]; exact hP, hD⟩, hS.F ht⟩) hS.2.2 dX7_lay_44
        · replace h := h.2 hc1
          by_cases hc2 : x1 = (2 : Int32)
          · replace h := h.1 hc2
            refine W.eq (g2 := F0 m 17 ls [.ref A_t_sheets2]) (by rw [hc2]; rfl) ?_
            refine lv_astore (lv' := [(4, .ref A_t_sheets2), (0, .ref A_t), (1, .int x1), (2, .int x2), (3, .int x3)]) hx hb dX7_lay_17 hl (by decide) rfl (fun ls hl => ?_)
            refine lv_aload hx hb dX7_lay_19 (lv_at hl 0 rfl) ?_
            refine lv_aload hx hb dX7_lay_21 (lv_at hl 0 rfl) ?_
            refine va_get (D := D) (ci := 3) (v := .int t_sheets2_laneOf) (C := RX3) (T := TX3) (N := 3) hx hb hts iX3 hown hK.1 hP 4 rfl rfl 1 (by decide) f1 (fun _ h9 => h9) rfl dX7_lay_23 ?_
            refine lv_iload_n hx hb dX7_lay_26 rfl (lv_at hl 3 rfl) ?_
            refine lv_i2l (v := x2.toInt64) hx hb dX7_lay_27 rfl ?_
            refine lv_iconst (v := 1) hx hb dX7_lay_28 (by decide) ?_
            have hPc := hP.sub (ws' := [(A_t_sheets2, .inr (3, [.ref A_t_sheets2_cells, .int t_sheets2_laneOf, .int t_sheets2_size]))]) [4] rfl
            refine vp_callSi (W.runV (As := [.int t_sheets2_laneOf, .long x2.toInt64, .int (1 : Int32)]) (rest := []) CF (c_X3_faultAt l D cy A_t_sheets2 A_t_sheets2_cells t_sheets2_laneOf t_sheets2_size t_sheets2_laneOf x2.toInt64 (1 : Int32) _ h) (cwV 3 hts gX7_lay_X3_faultAt rfl rfl rfl qX3_faultAt ⟨Nat.le_of_ble_eq_true rfl, Nat.le_of_ble_eq_true rfl⟩) (mpVR hK hPc (ci := 3) (q := (RX3, TX3, 3)) (q0 := 0) rfl rfl) rfl rfl hl.1 rfl (lv_room (Nat.le_of_ble_eq_true rfl)) dX7_lay_29 ⟨Nat.zero_le _, Nat.zero_le _⟩) (fun r6 h => ?_)
            refine lv_istore (lv' := [(5, .int r6), (4, .ref A_t_sheets2), (0, .ref A_t), (1, .int x1), (2, .int x2), (3, .int x3)]) hx hb dX7_lay_32 hl (by decide) rfl (fun ls hl => ?_)
            refine lv_iload hx hb dX7_lay_34 (lv_at hl 0 rfl) ?_
            refine lv_if_eq (tgt := 45) hx hb dX7_lay_36 (by decide) (fun hc => ?_) (fun hc => ?_)
            · replace h := h.1 hc
              refine lv_aload hx hb dX7_lay_45 (lv_at hl 1 rfl) ?_
              refine lv_iload_n hx hb dX7_lay_47 rfl (lv_at hl 4 rfl) ?_
              refine lv_iload_n hx hb dX7_lay_48 rfl (lv_at hl 5 rfl) ?_
              have hPc := hP.sub (ws' := [(A_t_sheets2, .inr (3, [.ref A_t_sheets2_cells, .int t_sheets2_laneOf, .int t_sheets2_size])), (A_t_sheets2_cells, .inl (cy 1, 40, .inl t_sheets2_cells))]) [4, 8] rfl
              have hDc := hD.sub (ws' := [(A_t_sheets2, .inr (3, [.ref A_t_sheets2_cells, .int t_sheets2_laneOf, .int t_sheets2_size])), (A_t_sheets2_cells, .inl (cy 1, 40, .inl t_sheets2_cells))]) [4, 8] (by decide) rfl
              refine mw_v (va_runV (As := [.int x2, .int x3]) (rest := []) CF (c_X3_put l D cy s.heap.size A_t_sheets2 A_t_sheets2_cells t_sheets2_laneOf t_sheets2_size t_sheets2_cells x2 x3 _ h) (cwV 2 hts gX7_lay_X3_put rfl rfl rfl qX3_put ⟨Nat.le_of_ble_eq_true rfl, Nat.le_of_ble_eq_true rfl⟩) (mpVW hK hPc hDc (ci := 3) (q := (RX3, TX3, 3)) (q0 := 0) rfl rfl) rfl rfl hl.1 rfl (lv_room (Nat.le_of_ble_eq_true rfl)) dX7_lay_49 ⟨Nat.zero_le _, Nat.zero_le _⟩) hP hD hS hA [4, 8] [0, 1, 2, 3, 5, 6, 7, 9] rfl (wr := [(A_t, .inr (7, [.ref A_t_tape, .ref A_t_now, .ref A_t_images, .ref A_t_imageMade, .ref A_t_sheets, .ref A_t_rows, .ref A_t_clash, .ref A_t_span, .ref A_t_reader, .int t_latestTorn])), (A_t_sheets, .inl (cy 6, 4, .inr (.inr (.inr (.inr (rx4 A_t_sheets0 A_t_sheets1 A_t_sheets2 A_t_sheets3)))))), (A_t_sheets0, .inr (3, [.ref A_t_sheets0_cells, .int t_sheets0_laneOf, .int t_sheets0_size])), (A_t_sheets1, .inr (3, [.ref A_t_sheets1_cells, .int t_sheets1_laneOf, .int t_sheets1_size])), (A_t_sheets3, .inr (3, [.ref A_t_sheets3_cells, .int t_sheets3_laneOf, .int t_sheets3_size])), (A_t_sheets0_cells, .inl (cy 1, 40, .inl t_sheets0_cells)), (A_t_sheets1_cells, .inl (cy 1, 40, .inl t_sheets1_cells)), (A_t_sheets3_cells, .inl (cy 1, 40, .inl t_sheets3_cells))]) rfl rfl (by decide) (fun t_sheets2_cells_v7 H locs h hP hD hS => ?_)
              have hP : va_P D vwCl [(A_t, .inr (7, [.ref A_t_tape, .ref A_t_now, .ref A_t_images, .ref A_t_imageMade, .ref A_t_sheets, .ref A_t_rows, .ref A_t_clash, .ref A_t_span, .ref A_t_reader, .int t_latestTorn])), (A_t_sheets, .inl (cy 6, 4, .inr (.inr (.inr (.inr (rx4 A_t_sheets0 A_t_sheets1 A_t_sheets2 A_t_sheets3)))))), (A_t_sheets0, .inr (3, [.ref A_t_sheets0_cells, .int t_sheets0_laneOf, .int t_sheets0_size])), (A_t_sheets1, .inr (3, [.ref A_t_sheets1_cells, .int t_sheets1_laneOf, .int t_sheets1_size])), (A_t_sheets2, .inr (3, [.ref A_t_sheets2_cells, .int t_sheets2_laneOf, .int t_sheets2_size])), (A_t_sheets3, .inr (3, [.ref A_t_sheets3_cells, .int t_sheets3_laneOf, .int t_sheets3_size])), (A_t_sheets0_cells, .inl (cy 1, 40, .inl t_sheets0_cells)), (A_t_sheets1_cells, .inl (cy 1, 40, .inl t_sheets1_cells)), (A_t_sheets2_cells, .inl (cy 1, 40, .inl t_sheets2_cells_v7)), (A_t_sheets3_cells, .inl (cy 1, 40, .inl t_sheets3_cells))] H := hP.sub [0, 1, 2, 3, 8, 4, 5, 6, 9, 7] rfl
              have hD : va_D A [(A_t, .inr (7, [.ref A_t_tape, .ref A_t_now, .ref A_t_images, .ref A_t_imageMade, .ref A_t_sheets, .ref A_t_rows, .ref A_t_clash, .ref A_t_span, .ref A_t_reader, .int t_latestTorn])), (A_t_sheets, .inl (cy 6, 4, .inr (.inr (.inr (.inr (rx4 A_t_sheets0 A_t_sheets1 A_t_sheets2 A_t_sheets3)))))), (A_t_sheets0, .inr (3, [.ref A_t_sheets0_cells, .int t_sheets0_laneOf, .int t_sheets0_size])), (A_t_sheets1, .inr (3, [.ref A_t_sheets1_cells, .int t_sheets1_laneOf, .int t_sheets1_size])), (A_t_sheets2, .inr (3, [.ref A_t_sheets2_cells, .int t_sheets2_laneOf, .int t_sheets2_size])), (A_t_sheets3, .inr (3, [.ref A_t_sheets3_cells, .int t_sheets3_laneOf, .int t_sheets3_size])), (A_t_sheets0_cells, .inl (cy 1, 40, .inl t_sheets0_cells)), (A_t_sheets1_cells, .inl (cy 1, 40, .inl t_sheets1_cells)), (A_t_sheets2_cells, .inl (cy 1, 40, .inl t_sheets2_cells_v7)), (A_t_sheets3_cells, .inl (cy 1, 40, .inl t_sheets3_cells))] := hD.sub [0, 1, 2, 3, 8, 4, 5, 6, 9, 7] (by decide) rfl
              refine lv_iconst (v := 1) hx hb dX7_lay_52 (by decide) ?_
              subst hQ
              subst hAe
              exact W.iret (v := (1 : Int32)) hx hb hr (fun t ht _ => ⟨⟨(1 : Int32), (t_sheets0_cells, t_sheets1_cells, t_sheets2_cells_v7, t_sheets3_cells), rfl, h, by rw [ht]; exact hP, hD⟩, hS.F ht⟩) hS.2.2 dX7_lay_53
            · replace h := h.2 hc
              refine lv_bipush (v := -10) hx hb dX7_lay_39 (by decide) ?_
              refine lv_iload hx hb dX7_lay_41 (lv_at hl 0 rfl) ?_
              refine lv_isub hx hb dX7_lay_43 ?_
              subst hQ
              subst hAe
              exact W.iret (v := (-10 : Int32) - r6) hx hb hr (fun t ht _ => ⟨⟨(-10 : Int32) - r6, (t_sheets0_cells, t_sheets1_cells, t_sheets2_cells, t_sheets3_cells), rfl, h, by rw [ht]; exact hP, hD⟩, hS.F ht⟩) hS.2.2 dX7_lay_44
          · replace h := h.2 hc2
            have hc3 : x1 = (3 : Int32) := rx_last4 (by assumption) hc0 hc1 hc2
            refine W.eq (g2 := F0 m 17 ls [.ref A_t_sheets3]) (by rw [hc3]; rfl) ?_
            refine lv_astore (lv' := [(4, .ref A_t_sheets3), (0, .ref A_t), (1, .int x1), (2, .int x2), (3, .int x3)]) hx hb dX7_lay_17 hl (by decide) rfl (fun ls hl => ?_)
            refine lv_aload hx hb dX7_lay_19 (lv_at hl 0 rfl) ?_
            refine lv_aload hx hb dX7_lay_21 (lv_at hl 0 rfl) ?_
            refine va_get (D := D) (ci := 3) (v := .int t_sheets3_laneOf) (C := RX3) (T := TX3) (N := 3) hx hb hts iX3 hown hK.1 hP 5 rfl rfl 1 (by decide) f1 (fun _ h9 => h9) rfl dX7_lay_23 ?_
            refine lv_iload_n hx hb dX7_lay_26 rfl (lv_at hl 3 rfl) ?_
            refine lv_i2l (v := x2.toInt64) hx hb dX7_lay_27 rfl ?_
            refine lv_iconst (v := 1) hx hb dX7_lay_28 (by decide) ?_
            have hPc := hP.sub (ws' := [(A_t_sheets3, .inr (3, [.ref A_t_sheets3_cells, .int t_sheets3_laneOf, .int t_sheets3_size]))]) [5] rfl
            refine vp_callSi (W.runV (As := [.int t_sheets3_laneOf, .long x2.toInt64, .int (1 : Int32)]) (rest := []) CF (c_X3_faultAt l D cy A_t_sheets3 A_t_sheets3_cells t_sheets3_laneOf t_sheets3_size t_sheets3_laneOf x2.toInt64 (1 : Int32) _ h) (cwV 3 hts gX7_lay_X3_faultAt rfl rfl rfl qX3_faultAt ⟨Nat.le_of_ble_eq_true rfl, Nat.le_of_ble_eq_true rfl⟩) (mpVR hK hPc (ci := 3) (q := (RX3, TX3, 3)) (q0 := 0) rfl rfl) rfl rfl hl.1 rfl (lv_room (Nat.le_of_ble_eq_true rfl)) dX7_lay_29 ⟨Nat.zero_le _, Nat.zero_le _⟩) (fun r8 h => ?_)
            refine lv_istore (lv' := [(5, .int r8), (4, .ref A_t_sheets3), (0, .ref A_t), (1, .int x1), (2, .int x2), (3, .int x3)]) hx hb dX7_lay_32 hl (by decide) rfl (fun ls hl => ?_)
            refine lv_iload hx hb dX7_lay_34 (lv_at hl 0 rfl) ?_
            refine lv_if_eq (tgt := 45) hx hb dX7_lay_36 (by decide) (fun hc => ?_) (fun hc => ?_)
            · replace h := h.1 hc
              refine lv_aload hx hb dX7_lay_45 (lv_at hl 1 rfl) ?_
              refine lv_iload_n hx hb dX7_lay_47 rfl (lv_at hl 4 rfl) ?_
              refine lv_iload_n hx hb dX7_lay_48 rfl (lv_at hl 5 rfl) ?_
              have hPc := hP.sub (ws' := [(A_t_sheets3, .inr (3, [.ref A_t_sheets3_cells, .int t_sheets3_laneOf, .int t_sheets3_size])), (A_t_sheets3_cells, .inl (cy 1, 40, .inl t_sheets3_cells))]) [5, 9] rfl
              have hDc := hD.sub (ws' := [(A_t_sheets3, .inr (3, [.ref A_t_sheets3_cells, .int t_sheets3_laneOf, .int t_sheets3_size])), (A_t_sheets3_cells, .inl (cy 1, 40, .inl t_sheets3_cells))]) [5, 9] (by decide) rfl
              refine mw_v (va_runV (As := [.int x2, .int x3]) (rest := []) CF (c_X3_put l D cy s.heap.size A_t_sheets3 A_t_sheets3_cells t_sheets3_laneOf t_sheets3_size t_sheets3_cells x2 x3 _ h) (cwV 2 hts gX7_lay_X3_put rfl rfl rfl qX3_put ⟨Nat.le_of_ble_eq_true rfl, Nat.le_of_ble_eq_true rfl⟩) (mpVW hK hPc hDc (ci := 3) (q := (RX3, TX3, 3)) (q0 := 0) rfl rfl) rfl rfl hl.1 rfl (lv_room (Nat.le_of_ble_eq_true rfl)) dX7_lay_49 ⟨Nat.zero_le _, Nat.zero_le _⟩) hP hD hS hA [5, 9] [0, 1, 2, 3, 4, 6, 7, 8] rfl (wr := [(A_t, .inr (7, [.ref A_t_tape, .ref A_t_now, .ref A_t_images, .ref A_t_imageMade, .ref A_t_sheets, .ref A_t_rows, .ref A_t_clash, .ref A_t_span, .ref A_t_reader, .int t_latestTorn])), (A_t_sheets, .inl (cy 6, 4, .inr (.inr (.inr (.inr (rx4 A_t_sheets0 A_t_sheets1 A_t_sheets2 A_t_sheets3)))))), (A_t_sheets0, .inr (3, [.ref A_t_sheets0_cells, .int t_sheets0_laneOf, .int t_sheets0_size])), (A_t_sheets1, .inr (3, [.ref A_t_sheets1_cells, .int t_sheets1_laneOf, .int t_sheets1_size])), (A_t_sheets2, .inr (3, [.ref A_t_sheets2_cells, .int t_sheets2_laneOf, .int t_sheets2_size])), (A_t_sheets0_cells, .inl (cy 1, 40, .inl t_sheets0_cells)), (A_t_sheets1_cells, .inl (cy 1, 40, .inl t_sheets1_cells)), (A_t_sheets2_cells, .inl (cy 1, 40, .inl t_sheets2_cells))]) rfl rfl (by decide) (fun t_sheets3_cells_v9 H locs h hP hD hS => ?_)
              have hP : va_P D vwCl [(A_t, .inr (7, [.ref A_t_tape, .ref A_t_now, .ref A_t_images, .ref A_t_imageMade, .ref A_t_sheets, .ref A_t_rows, .ref A_t_clash, .ref A_t_span, .ref A_t_reader, .int t_latestTorn])), (A_t_sheets, .inl (cy 6, 4, .inr (.inr (.inr (.inr (rx4 A_t_sheets0 A_t_sheets1 A_t_sheets2 A_t_sheets3)))))), (A_t_sheets0, .inr (3, [.ref A_t_sheets0_cells, .int t_sheets0_laneOf, .int t_sheets0_size])), (A_t_sheets1, .inr (3, [.ref A_t_sheets1_cells, .int t_sheets1_laneOf, .int t_sheets1_size])), (A_t_sheets2, .inr (3, [.ref A_t_sheets2_cells, .int t_sheets2_laneOf, .int t_sheets2_size])), (A_t_sheets3, .inr (3, [.ref A_t_sheets3_cells, .int t_sheets3_laneOf, .int t_sheets3_size])), (A_t_sheets0_cells, .inl (cy 1, 40, .inl t_sheets0_cells)), (A_t_sheets1_cells, .inl (cy 1, 40, .inl t_sheets1_cells)), (A_t_sheets2_cells, .inl (cy 1, 40, .inl t_sheets2_cells)), (A_t_sheets3_cells, .inl (cy 1, 40, .inl t_sheets3_cells_v9))] H := hP.sub [0, 1, 2, 3, 4, 8, 5, 6, 7, 9] rfl
              have hD : va_D A [(A_t, .inr (7, [.ref A_t_tape, .ref A_t_now, .ref A_t_images, .ref A_t_imageMade, .ref A_t_sheets, .ref A_t_rows, .ref A_t_clash, .ref A_t_span, .ref A_t_reader, .int t_latestTorn])), (A_t_sheets, .inl (cy 6, 4, .inr (.inr (.inr (.inr (rx4 A_t_sheets0 A_t_sheets1 A_t_sheets2 A_t_sheets3)))))), (A_t_sheets0, .inr (3, [.ref A_t_sheets0_cells, .int t_sheets0_laneOf, .int t_sheets0_size])), (A_t_sheets1, .inr (3, [.ref A_t_sheets1_cells, .int t_sheets1_laneOf, .int t_sheets1_size])), (A_t_sheets2, .inr (3, [.ref A_t_sheets2_cells, .int t_sheets2_laneOf, .int t_sheets2_size])), (A_t_sheets3, .inr (3, [.ref A_t_sheets3_cells, .int t_sheets3_laneOf, .int t_sheets3_size])), (A_t_sheets0_cells, .inl (cy 1, 40, .inl t_sheets0_cells)), (A_t_sheets1_cells, .inl (cy 1, 40, .inl t_sheets1_cells)), (A_t_sheets2_cells, .inl (cy 1, 40, .inl t_sheets2_cells)), (A_t_sheets3_cells, .inl (cy 1, 40, .inl t_sheets3_cells_v9))] := hD.sub [0, 1, 2, 3, 4, 8, 5, 6, 7, 9] (by decide) rfl
              refine lv_iconst (v := 1) hx hb dX7_lay_52 (by decide) ?_
              subst hQ
              subst hAe
              exact W.iret (v := (1 : Int32)) hx hb hr (fun t ht _ => ⟨⟨(1 : Int32), (t_sheets0_cells, t_sheets1_cells, t_sheets2_cells, t_sheets3_cells_v9), rfl, h, by rw [ht]; exact hP, hD⟩, hS.F ht⟩) hS.2.2 dX7_lay_53
            · replace h := h.2 hc
              refine lv_bipush (v := -10) hx hb dX7_lay_39 (by decide) ?_
              refine lv_iload hx hb dX7_lay_41 (lv_at hl 0 rfl) ?_
              refine lv_isub hx hb dX7_lay_43 ?_
              subst hQ
              subst hAe
              exact W.iret (v := (-10 : Int32) - r8) hx hb hr (fun t ht _ => ⟨⟨(-10 : Int32) - r8, (t_sheets0_cells, t_sheets1_cells, t_sheets2_cells, t_sheets3_cells), rfl, h, by rw [ht]; exact hP, hD⟩, hS.F ht⟩) hS.2.2 dX7_lay_44
    · replace h := h.2 hc
      refine lv_iconst (v := -1) hx hb dX7_lay_9 (by decide) ?_
      subst hQ
      subst hAe
      exact W.iret (v := (-1 : Int32)) hx hb hr (fun t ht _ => ⟨⟨(-1 : Int32), (t_sheets0_cells, t_sheets1_cells, t_sheets2_cells, t_sheets3_cells), rfl, h, by rw [ht]; exact hP, hD⟩, hS.F ht⟩) hS.2.2 dX7_lay_10
theorem qX7_count : yX7_count.cls = RX7 ∧ yX7_count.cls ≠ "java/lang/invoke/MethodHandle" ∧ yX7_count.cls ≠ "java/lang/invoke/VarHandle" ∧ (parseMethodDescriptor yX7_count.desc).map (fun d => d.parameters.length) = some 1 := by decide +kernel
def P_X7_count (post : Int32 → Prop) (t_imageMade : Nat → Int32) (t_tape_size : Int32) (t_now_size : Int32) (t_now_stricts : Nat → Int32) (t_sheets0_laneOf : Int32) (t_sheets0_size : Int32) (x1 : Int32) : Prop :=
  ((x1 = (0 : Int32) → P_X7_imagesMade (fun (r1 : Int32) => post r1) t_imageMade) ∧ (¬ x1 = (0 : Int32) → ((x1 = (1 : Int32) → post t_tape_size) ∧ (¬ x1 = (1 : Int32) → ((x1 = (2 : Int32) → ((¬ t_sheets0_laneOf = (-1 : Int32) → post t_sheets0_size) ∧ (t_sheets0_laneOf = (-1 : Int32) → post (-4 : Int32)))) ∧ (¬ x1 = (2 : Int32) → ((x1 = (3 : Int32) → P_X5_strictBounds (fun (r2 : Int32) => post r2) t_now_size t_now_stricts) ∧ (¬ x1 = (3 : Int32) → post (-1 : Int32)))))))))
set_option maxHeartbeats 4000000 in
set_option maxRecDepth 100000 in
theorem c_X7_count (l : Launch) (D : va_G) (cy : Nat → ClassId) (A_t A_t_tape A_t_now A_t_images A_t_imageMade A_t_sheets A_t_rows A_t_clash A_t_span A_t_reader A_t_tape_bytes A_t_now_upper A_t_now_lower A_t_now_limits A_t_now_stricts A_t_now_marks A_t_sheets0 A_t_sheets1 A_t_sheets2 A_t_sheets3 A_t_sheets0_cells : Nat) (t_latestTorn : Int32) (t_imageMade : Nat → Int32) (t_tape_size : Int32) (t_now_size : Int32) (t_now_marked : Int32) (t_now_wholeness : Int32) (t_now_stricts : Nat → Int32) (t_sheets0_laneOf : Int32) (t_sheets0_size : Int32) (x1 : Int32) (post : Int32 → Prop) (h : P_X7_count post t_imageMade t_tape_size t_now_size t_now_stricts t_sheets0_laneOf t_sheets0_size x1) : Met l yX7_count wsX7_count { frames := 1, cells := 0, slots := 0, locals := 22 } (pcR D cy [(A_t, .inr (7, [.ref A_t_tape, .ref A_t_now, .ref A_t_images, .ref A_t_imageMade, .ref A_t_sheets, .ref A_t_rows, .ref A_t_clash, .ref A_t_span, .ref A_t_reader, .int t_latestTorn])), (A_t_imageMade, .inl (cy 3, 2, .inl t_imageMade)), (A_t_tape, .inr (6, [.ref A_t_tape_bytes, .int t_tape_size])), (A_t_now, .inr (5, [.ref A_t_now_upper, .ref A_t_now_lower, .ref A_t_now_limits, .ref A_t_now_stricts, .ref A_t_now_marks, .int t_now_size, .int t_now_marked, .int t_now_wholeness])), (A_t_now_stricts, .inl (cy 1, 24, .inl t_now_stricts)), (A_t_sheets, .inl (cy 6, 4, .inr (.inr (.inr (.inr (rx4 A_t_sheets0 A_t_sheets1 A_t_sheets2 A_t_sheets3)))))), (A_t_sheets0, .inr (3, [.ref A_t_sheets0_cells, .int t_sheets0_laneOf, .int t_sheets0_size]))] [.ref A_t, .int x1]) (vp_Si post) 0 0 (fun _ => False) := by
  refine Met.ofW (cc := cX7_count) (maxL := 2) (ret := (some .int)) (by decide) rfl ?_
  intro p e s m args below meth c s₁ B hml hv
  obtain ⟨rfl, hP, hK⟩ := hv
  have hx := B.exec
  have hb := B.bytes
  have hr := B.returns
  have hts := atoms_spec (ws := wsX7_count) B.pre
  have hown : s.vm.findClass RX7 = some m.cls := findClass_of_methodNamed B.named
  have hlocks := B.notSynchronized
  have CF : CallFix p m c cX7_count 2 s ([.ref A_t, .int x1] : List Value).toArray wsX7_count RX7 := ⟨hx, hb, hml, hown, hts⟩
  have f0 := hts (.fieldLink RX7 10 "GapBounds" "tape" "LGapBounds$Tape;") (by decide +kernel)
  have f1 := hts (.fieldLink RX7 72 "GapBounds$Tape" "size" "I") (by decide +kernel)
  have f2 := hts (.fieldLink RX7 33 "GapBounds" "sheets" "[LGapBounds$Sheet;") (by decide +kernel)
  have f3 := hts (.fieldLink RX7 256 "GapBounds$Sheet" "laneOf" "I") (by decide +kernel)
  have f4 := hts (.fieldLink RX7 277 "GapBounds$Sheet" "size" "I") (by decide +kernel)
  have f5 := hts (.fieldLink RX7 19 "GapBounds" "now" "LGapBounds$Store;") (by decide +kernel)
  have iX3 : ∀ w ∈ u_ws RX3 TX3 3, w ∈ wsX7_count := by decide +kernel
  have iX6 : ∀ w ∈ u_ws RX6 TX6 2, w ∈ wsX7_count := by decide +kernel
  have iX7 : ∀ w ∈ u_ws RX7 TX7 10, w ∈ wsX7_count := by decide +kernel
  have hl := lv_entry [.ref A_t, .int x1] (n := 2) (Nat.le_of_ble_eq_true rfl)
  rw [lg_entry_eq]
  generalize (lg_sl [.ref A_t, .int x1] ++ List.replicate (2 - (lg_sl [.ref A_t, .int x1]).length) Slot.unset).toArray = ls at hl ⊢
  have hl : lv_has ls 2 [(0, .ref A_t), (1, .int x1)] := hl
  refine W.gen (fun Q0 hQ => ?_)
  unfold P_X7_count at h
  refine lv_iload_n hx hb dX7_count_0 rfl (lv_at hl 1 rfl) ?_
  by_cases hc0 : x1 = (0 : Int32)
  · replace h := h.1 hc0
    refine lv_tableIn (tgt := 32) hx hb dX7_count_1 (by rw [hc0]; decide) (by rw [hc0]; decide) (by rw [hc0]; rfl) (by decide) ?_
    refine lv_aload_n hx hb dX7_count_32 rfl (lv_at hl 0 rfl) ?_
    have hPc := hP.sub (ws' := [(A_t, .inr (7, [.ref A_t_tape, .ref A_t_now, .ref A_t_images, .ref A_t_imageMade, .ref A_t_sheets, .ref A_t_rows, .ref A_t_clash, .ref A_t_span, .ref A_t_reader, .int t_latestTorn])), (A_t_imageMade, .inl (cy 3, 2, .inl t_imageMade))]) [0, 1] rfl
    refine vp_callSi (W.runV (As := []) (rest := []) CF (c_X7_imagesMade l D cy A_t A_t_tape A_t_now A_t_images A_t_imageMade A_t_sheets A_t_rows A_t_clash A_t_span A_t_reader t_latestTorn t_imageMade _ h) (cwV 0 hts gX7_count_X7_imagesMade rfl rfl rfl qX7_imagesMade ⟨Nat.le_of_ble_eq_true rfl, Nat.le_of_ble_eq_true rfl⟩) (mpVR hK hPc (ci := 7) (q := (RX7, TX7, 10)) (q0 := 0) rfl rfl) rfl rfl hl.1 rfl (lv_room (Nat.le_of_ble_eq_true rfl)) dX7_count_33 ⟨Nat.zero_le _, Nat.zero_le _⟩) (fun r1 h => ?_)
    subst hQ
    exact W.iret (v := r1) hx hb hr (fun t ht _ => ⟨r1, rfl, h, ht⟩) (fun _ hq => absurd hq List.not_mem_nil) dX7_count_36
  · replace h := h.2 hc0
    by_cases hc1 : x1 = (1 : Int32)
    · replace h := h.1 hc1
      refine lv_tableIn (tgt := 37) hx hb dX7_count_1 (by rw [hc1]; decide) (by rw [hc1]; decide) (by rw [hc1]; rfl) (by decide) ?_
      refine lv_aload_n hx hb dX7_count_37 rfl (lv_at hl 0 rfl) ?_
      refine va_get (D := D) (ci := 7) (v := .ref A_t_tape) (C := RX7) (T := TX7) (N := 10) hx hb hts iX7 hown hK.1 hP 0 rfl rfl 0 (by decide) f0 (fun _ h9 => h9) rfl dX7_count_38 ?_
      refine va_get (D := D) (ci := 6) (v := .int t_tape_size) (C := RX6) (T := TX6) (N := 2) hx hb hts iX6 hown hK.1 hP 2 rfl rfl 1 (by decide) f1 (fun _ h9 => h9) rfl dX7_count_41 ?_
      subst hQ
      exact W.iret (v := t_tape_size) hx hb hr (fun t ht _ => ⟨t_tape_size, rfl, h, ht⟩) (fun _ hq => absurd hq List.not_mem_nil) dX7_count_44
    · replace h := h.2 hc1
      by_cases hc2 : x1 = (2 : Int32)
      · replace h := h.1 hc2
        refine lv_tableIn (tgt := 45) hx hb dX7_count_1 (by rw [hc2]; decide) (by rw [hc2]; decide) (by rw [hc2]; rfl) (by decide) ?_
        refine lv_aload_n hx hb dX7_count_45 rfl (lv_at hl 0 rfl) ?_
        refine va_get (D := D) (ci := 7) (v := .ref A_t_sheets) (C := RX7) (T := TX7) (N := 10) hx hb hts iX7 hown hK.1 hP 0 rfl rfl 4 (by decide) f2 (fun _ h9 => h9) rfl dX7_count_46 ?_
        refine lv_iconst (v := 0) hx hb dX7_count_49 (by decide) ?_
        refine va_aldq hx hb hK.1 hP 5 6 rfl rfl (by decide) dX7_count_50 ?_
        refine W.eq (g2 := F0 m 51 ls [.ref A_t_sheets0]) rfl ?_
        refine va_get (D := D) (ci := 3) (v := .int t_sheets0_laneOf) (C := RX3) (T := TX3) (N := 3) hx hb hts iX3 hown hK.1 hP 6 rfl rfl 1 (by decide) f3 (fun _ h9 => h9) rfl dX7_count_51 ?_
        refine lv_iconst (v := -1) hx hb dX7_count_54 (by decide) ?_
        refine lv_icmp_ne (tgt := 63) hx hb dX7_count_55 (by decide) (fun hc => ?_) (fun hc => ?_)
        · replace h := h.1 hc
          refine lv_aload_n hx hb dX7_count_63 rfl (lv_at hl 0 rfl) ?_
          refine va_get (D := D) (ci := 7) (v := .ref A_t_sheets) (C := RX7) (T := TX7) (N := 10) hx hb hts iX7 hown hK.1 hP 0 rfl rfl 4 (by decide) f2 (fun _ h9 => h9) rfl dX7_count_64 ?_
          refine lv_iconst (v := 0) hx hb dX7_count_67 (by decide) ?_
          refine va_aldq hx hb hK.1 hP 5 6 rfl rfl (by decide) dX7_count_68 ?_
          refine W.eq (g2 := F0 m 69 ls [.ref A_t_sheets0]) rfl ?_
          refine va_get (D := D) (ci := 3) (v := .int t_sheets0_size) (C := RX3) (T := TX3) (N := 3) hx hb hts iX3 hown hK.1 hP 6 rfl rfl 2 (by decide) f4 (fun _ h9 => h9) rfl dX7_count_69 ?_
          subst hQ
          exact W.iret (v := t_sheets0_size) hx hb hr (fun t ht _ => ⟨t_sheets0_size, rfl, h, ht⟩) (fun _ hq => absurd hq List.not_mem_nil) dX7_count_72
        · replace h := h.2 hc
          refine lv_bipush (v := -4) hx hb dX7_count_58 (by decide) ?_
          refine lv_goto (tgt := 72) hx hb dX7_count_60 (by decide) ?_
          subst hQ
          exact W.iret (v := (-4 : Int32)) hx hb hr (fun t ht _ => ⟨(-4 : Int32), rfl, h, ht⟩) (fun _ hq => absurd hq List.not_mem_nil) dX7_count_72
      · replace h := h.2 hc2
        by_cases hc3 : x1 = (3 : Int32)
        · replace h := h.1 hc3
          refine lv_tableIn (tgt := 73) hx hb dX7_count_1 (by rw [hc3]; decide) (by rw [hc3]; decide) (by rw [hc3]; rfl) (by decide) ?_
          refine lv_aload_n hx hb dX7_count_73 rfl (lv_at hl 0 rfl) ?_
          refine va_get (D := D) (ci := 7) (v := .ref A_t_now) (C := RX7) (T := TX7) (N := 10) hx hb hts iX7 hown hK.1 hP 0 rfl rfl 1 (by decide) f5 (fun _ h9 => h9) rfl dX7_count_74 ?_
          have hPc := hP.sub (ws' := [(A_t_now, .inr (5, [.ref A_t_now_upper, .ref A_t_now_lower, .ref A_t_now_limits, .ref A_t_now_stricts, .ref A_t_now_marks, .int t_now_size, .int t_now_marked, .int t_now_wholeness])), (A_t_now_stricts, .inl (cy 1, 24, .inl t_now_stricts))]) [3, 4] rfl
          refine vp_callSi (W.runV (As := []) (rest := []) CF (c_X5_strictBounds l D cy A_t_now A_t_now_upper A_t_now_lower A_t_now_limits A_t_now_stricts A_t_now_marks t_now_size t_now_marked t_now_wholeness t_now_stricts _ h) (cwV 0 hts gX7_count_X5_strictBounds rfl rfl rfl qX5_strictBounds ⟨Nat.le_of_ble_eq_true rfl, Nat.le_of_ble_eq_true rfl⟩) (mpVR hK hPc (ci := 5) (q := (RX5, TX5, 8)) (q0 := 0) rfl rfl) rfl rfl hl.1 rfl (lv_room (Nat.le_of_ble_eq_true rfl)) dX7_count_77 ⟨Nat.zero_le _, Nat.zero_le _⟩) (fun r2 h => ?_)
          subst hQ
          exact W.iret (v := r2) hx hb hr (fun t ht _ => ⟨r2, rfl, h, ht⟩) (fun _ hq => absurd hq List.not_mem_nil) dX7_count_80
        · replace h := h.2 hc3
          refine lv_tableOut (tgt := 81) hx hb dX7_count_1 (tsw_out (n := 3) (by decide) (fun k hk => ?_)) (by decide) ?_
          · rcases (show k = 0 ∨ k = 1 ∨ k = 2 ∨ k = 3 by omega) with rfl | rfl | rfl | rfl
            · exact hc0
            · exact hc1
            · exact hc2
            · exact hc3
          · skip
            refine lv_iconst (v := -1) hx hb dX7_count_81 (by decide) ?_
            subst hQ
            exact W.iret (v := (-1 : Int32)) hx hb hr (fun t ht _ => ⟨(-1 : Int32), rfl, h, ht⟩) (fun _ hq => absurd hq List.not_mem_nil) dX7_count_82
