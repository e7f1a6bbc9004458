theorem qX2_goOver : yX2_goOver.cls = RX2 ∧ yX2_goOver.cls ≠ "java/lang/invoke/MethodHandle" ∧ yX2_goOver.cls ≠ "java/lang/invoke/VarHandle" ∧ (parseMethodDescriptor yX2_goOver.desc).map (fun d => d.parameters.length) = some 3 := by decide +kernel
def B_X2_goOver_102 (K_6 : (Nat → Int64) → Int32 → Int32 → Prop) (t_least : Nat → Int64) (x4 : Int32) (x5 : Int32) : Prop :=
  K_6 t_least x4 (x5 + (1 : Int32))
def LB_X2_goOver_6 (post : Int32 → (Nat → Int64) → Prop) (s_size : Int32) (s_lower : Nat → Int32) (s_limits : Nat → Int32) (s_stricts : Nat → Int32) (s_upper : Nat → Int32) (x2 : Int32) (x3 : Int32) (K_6 : (Nat → Int64) → Int32 → Int32 → Prop) (t_least : Nat → Int64) (x4 : Int32) (x5 : Int32) : Prop :=
  ((s_size ≤ x5 → (bz x4 ∧ post x4 t_least)) ∧ (¬ s_size ≤ x5 → (vp_in x5 24 ∧ (vp_in (s_lower x5.toNatClampNeg) 10 ∧ ((x5 = x3 → B_X2_goOver_102 K_6 t_least x4 x5) ∧ (¬ x5 = x3 → ((t_least (s_lower x5.toNatClampNeg).toNatClampNeg = (4611686018427387904 : Int64) → B_X2_goOver_102 K_6 t_least x4 x5) ∧ (¬ t_least (s_lower x5.toNatClampNeg).toNatClampNeg = (4611686018427387904 : Int64) → (vp_in x5 24 ∧ (vp_in x5 24 ∧ P_X7_weigh (fun (r1 : Int64) => (vp_in x5 24 ∧ (vp_in (s_upper x5.toNatClampNeg) 10 ∧ ((t_least (s_upper x5.toNatClampNeg).toNatClampNeg ≤ (t_least (s_lower x5.toNatClampNeg).toNatClampNeg) + r1 → B_X2_goOver_102 K_6 t_least x4 x5) ∧ (¬ t_least (s_upper x5.toNatClampNeg).toNatClampNeg ≤ (t_least (s_lower x5.toNatClampNeg).toNatClampNeg) + r1 → (vp_in x5 24 ∧ (vp_in (s_upper x5.toNatClampNeg) 10 ∧ B_X2_goOver_102 K_6 (vp_updL t_least (s_upper x5.toNatClampNeg).toNatClampNeg ((t_least (s_lower x5.toNatClampNeg).toNatClampNeg) + r1)) (1 : Int32) x5))))))) (s_limits x5.toNatClampNeg) (s_stricts x5.toNatClampNeg) x2))))))))))
noncomputable def L_X2_goOver_6 (post : Int32 → (Nat → Int64) → Prop) (s_size : Int32) (s_lower : Nat → Int32) (s_limits : Nat → Int32) (s_stricts : Nat → Int32) (s_upper : Nat → Int32) (x2 : Int32) (x3 : Int32) (n : Nat) : (Nat → Int64) → Int32 → Int32 → Prop := Nat.rec (motive := fun _ => (Nat → Int64) → Int32 → Int32 → Prop) (fun _ _ _ => False) (fun _ K => LB_X2_goOver_6 post s_size s_lower s_limits s_stricts s_upper x2 x3 K) n
def P_X2_goOver (post : Int32 → (Nat → Int64) → Prop) (s_size : Int32) (s_lower : Nat → Int32) (t_least : Nat → Int64) (s_limits : Nat → Int32) (s_stricts : Nat → Int32) (s_upper : Nat → Int32) (x2 : Int32) (x3 : Int32) : Prop :=
  ∃ n : Nat, L_X2_goOver_6 post s_size s_lower s_limits s_stricts s_upper x2 x3 n t_least (0 : Int32) (0 : Int32)
set_option maxHeartbeats 4000000 in
set_option maxRecDepth 100000 in
theorem c_X2_goOver (l : Launch) (D : va_G) (cy : Nat → ClassId) (sz : Nat) (A_s A_s_upper A_s_lower A_s_limits A_s_stricts A_s_marks A_t A_t_least A_t_table : Nat) (s_size : Int32) (s_marked : Int32) (s_wholeness : Int32) (s_lower : Nat → Int32) (t_least : Nat → Int64) (s_limits : Nat → Int32) (s_stricts : Nat → Int32) (s_upper : Nat → Int32) (x2 : Int32) (x3 : Int32) (post : Int32 → (Nat → Int64) → Prop) (h : P_X2_goOver post s_size s_lower t_least s_limits s_stricts s_upper x2 x3) : Met l yX2_goOver wsX2_goOver { frames := 1, cells := 0, slots := 0, locals := 22 } (pcW D cy [(A_s, .inr (5, [.ref A_s_upper, .ref A_s_lower, .ref A_s_limits, .ref A_s_stricts, .ref A_s_marks, .int s_size, .int s_marked, .int s_wholeness])), (A_t, .inr (2, [.ref A_t_least, .ref A_t_table])), (A_s_lower, .inl (cy 1, 24, .inl s_lower)), (A_t_least, .inl (cy 2, 10, .inr (.inl t_least))), (A_s_limits, .inl (cy 1, 24, .inl s_limits)), (A_s_stricts, .inl (cy 1, 24, .inl s_stricts)), (A_s_upper, .inl (cy 1, 24, .inl s_upper))] sz [.ref A_t, .ref A_s, .int x2, .int x3]) (va_Qi (fun r (u : (Nat → Int64)) => post r u) (bW D [(A_s, .inr (5, [.ref A_s_upper, .ref A_s_lower, .ref A_s_limits, .ref A_s_stricts, .ref A_s_marks, .int s_size, .int s_marked, .int s_wholeness])), (A_t, .inr (2, [.ref A_t_least, .ref A_t_table])), (A_s_lower, .inl (cy 1, 24, .inl s_lower)), (A_t_least, .inl (cy 2, 10, .inr (.inl t_least))), (A_s_limits, .inl (cy 1, 24, .inl s_limits)), (A_s_stricts, .inl (cy 1, 24, .inl s_stricts)), (A_s_upper, .inl (cy 1, 24, .inl s_upper))] sz (fun u => [(A_s, .inr (5, [.ref A_s_upper, .ref A_s_lower, .ref A_s_limits, .ref A_s_stricts, .ref A_s_marks, .int s_size, .int s_marked, .int s_wholeness])), (A_t, .inr (2, [.ref A_t_least, .ref A_t_table])), (A_s_lower, .inl (cy 1, 24, .inl s_lower)), (A_t_least, .inl (cy 2, 10, .inr (.inl u))), (A_s_limits, .inl (cy 1, 24, .inl s_limits)), (A_s_stricts, .inl (cy 1, 24, .inl s_stricts)), (A_s_upper, .inl (cy 1, 24, .inl s_upper))])) (va_A [(A_s, .inr (5, [.ref A_s_upper, .ref A_s_lower, .ref A_s_limits, .ref A_s_stricts, .ref A_s_marks, .int s_size, .int s_marked, .int s_wholeness])), (A_t, .inr (2, [.ref A_t_least, .ref A_t_table])), (A_s_lower, .inl (cy 1, 24, .inl s_lower)), (A_t_least, .inl (cy 2, 10, .inr (.inl t_least))), (A_s_limits, .inl (cy 1, 24, .inl s_limits)), (A_s_stricts, .inl (cy 1, 24, .inl s_stricts)), (A_s_upper, .inl (cy 1, 24, .inl s_upper))] sz)) 0 0 (va_A [(A_s, .inr (5, [.ref A_s_upper, .ref A_s_lower, .ref A_s_limits, .ref A_s_stricts, .ref A_s_marks, .int s_size, .int s_marked, .int s_wholeness])), (A_t, .inr (2, [.ref A_t_least, .ref A_t_table])), (A_s_lower, .inl (cy 1, 24, .inl s_lower)), (A_t_least, .inl (cy 2, 10, .inr (.inl t_least))), (A_s_limits, .inl (cy 1, 24, .inl s_limits)), (A_s_stricts, .inl (cy 1, 24, .inl s_stricts)), (A_s_upper, .inl (cy 1, 24, .inl s_upper))] sz) := by
  refine Met.ofW (cc := cX2_goOver) (maxL := 10) (ret := (some .boolean)) (by decide) rfl ?_
  intro p e s m args below meth c s₁ B hml hv
  obtain ⟨rfl, hsz, hP, hK, hD0⟩ := hv
  have hx := B.exec
  have hb := B.bytes
  have hr := B.returns
  have hts := atoms_spec (ws := wsX2_goOver) B.pre
  have hown : s.vm.findClass RX2 = some m.cls := findClass_of_methodNamed B.named
  have hlocks := B.notSynchronized
  have CF : CallFix p m c cX2_goOver 10 s ([.ref A_t, .ref A_s, .int x2, .int x3] : List Value).toArray wsX2_goOver RX2 := ⟨hx, hb, hml, hown, hts⟩
  have f0 := hts (.fieldLink RX2 60 "GapBounds$Store" "size" "I") (by decide +kernel)
  have f1 := hts (.fieldLink RX2 9 "GapBounds$Rows" "least" "[J") (by decide +kernel)
  have f2 := hts (.fieldLink RX2 63 "GapBounds$Store" "lower" "[I") (by decide +kernel)
  have f3 := hts (.constantLong RX2 20 (4611686018427387904)) (by decide +kernel)
  have f4 := hts (.fieldLink RX2 67 "GapBounds$Store" "limits" "[I") (by decide +kernel)
  have f5 := hts (.fieldLink RX2 70 "GapBounds$Store" "stricts" "[I") (by decide +kernel)
  have f6 := hts (.initialized RX7) (by decide +kernel)
  have f7 := hts (.static yX7_weigh) (by decide +kernel)
  have f8 := hts (.fieldLink RX2 77 "GapBounds$Store" "upper" "[I") (by decide +kernel)
  have iX2 : ∀ w ∈ u_ws RX2 TX2 2, w ∈ wsX2_goOver := by decide +kernel
  have iX5 : ∀ w ∈ u_ws RX5 TX5 8, w ∈ wsX2_goOver := by decide +kernel
  subst hsz
  obtain ⟨A, hAe⟩ : ∃ A, A = va_A [(A_s, .inr (5, [.ref A_s_upper, .ref A_s_lower, .ref A_s_limits, .ref A_s_stricts, .ref A_s_marks, .int s_size, .int s_marked, .int s_wholeness])), (A_t, .inr (2, [.ref A_t_least, .ref A_t_table])), (A_s_lower, .inl (cy 1, 24, .inl s_lower)), (A_t_least, .inl (cy 2, 10, .inr (.inl t_least))), (A_s_limits, .inl (cy 1, 24, .inl s_limits)), (A_s_stricts, .inl (cy 1, 24, .inl s_stricts)), (A_s_upper, .inl (cy 1, 24, .inl s_upper))] s.heap.size := ⟨_, rfl⟩
  have hD : va_D A [(A_s, .inr (5, [.ref A_s_upper, .ref A_s_lower, .ref A_s_limits, .ref A_s_stricts, .ref A_s_marks, .int s_size, .int s_marked, .int s_wholeness])), (A_t, .inr (2, [.ref A_t_least, .ref A_t_table])), (A_s_lower, .inl (cy 1, 24, .inl s_lower)), (A_t_least, .inl (cy 2, 10, .inr (.inl t_least))), (A_s_limits, .inl (cy 1, 24, .inl s_limits)), (A_s_stricts, .inl (cy 1, 24, .inl s_stricts)), (A_s_upper, .inl (cy 1, 24, .inl s_upper))] := by rw [hAe]; exact hD0.self
  have hA : ∀ q : Nat, s.heap.size ≤ q → A q := fun q hq => by rw [hAe]; exact Or.inr hq
  have hS : va_S A s.heap s.heap [] := va_S.rf
  have hl := lv_entry [.ref A_t, .ref A_s, .int x2, .int x3] (n := 10) (Nat.le_of_ble_eq_true rfl)
  rw [lg_entry_eq]
  generalize (lg_sl [.ref A_t, .ref A_s, .int x2, .int x3] ++ List.replicate (10 - (lg_sl [.ref A_t, .ref A_s, .int x2, .int x3]).length) Slot.unset).toArray = ls at hl ⊢
  have hl : lv_has ls 10 [(0, .ref A_t), (1, .ref A_s), (2, .int x2), (3, .int x3)] := hl
  refine W.gen (fun Q0 hQ => ?_)
  have L6 : ∀ (n6 : Nat) (t_least : Nat → Int64) (x4 : Int32) (x5 : Int32) (H : Heap) (locs : List Loc) (ls : Array Slot), L_X2_goOver_6 post s_size s_lower s_limits s_stricts s_upper x2 x3 n6 t_least x4 x5 → va_P D vwCl [(A_s, .inr (5, [.ref A_s_upper, .ref A_s_lower, .ref A_s_limits, .ref A_s_stricts, .ref A_s_marks, .int s_size, .int s_marked, .int s_wholeness])), (A_t, .inr (2, [.ref A_t_least, .ref A_t_table])), (A_s_lower, .inl (cy 1, 24, .inl s_lower)), (A_t_least, .inl (cy 2, 10, .inr (.inl t_least))), (A_s_limits, .inl (cy 1, 24, .inl s_limits)), (A_s_stricts, .inl (cy 1, 24, .inl s_stricts)), (A_s_upper, .inl (cy 1, 24, .inl s_upper))] H → va_D A [(A_s, .inr (5, [.ref A_s_upper, .ref A_s_lower, .ref A_s_limits, .ref A_s_stricts, .ref A_s_marks, .int s_size, .int s_marked, .int s_wholeness])), (A_t, .inr (2, [.ref A_t_least, .ref A_t_table])), (A_s_lower, .inl (cy 1, 24, .inl s_lower)), (A_t_least, .inl (cy 2, 10, .inr (.inl t_least))), (A_s_limits, .inl (cy 1, 24, .inl s_limits)), (A_s_stricts, .inl (cy 1, 24, .inl s_stricts)), (A_s_upper, .inl (cy 1, 24, .inl s_upper))] → va_S A s.heap H locs → lv_has ls 10 [(0, .ref A_t), (1, .ref A_s), (2, .int x2), (3, .int x3), (4, .int x4), (5, .int x5)] → W p l e (headSpec wsX2_goOver { frames := 1, cells := 0, slots := 0, locals := 22 }).room s m ([.ref A_t, .ref A_s, .int x2, .int x3] : List Value).toArray below meth c H locs 0 0 Q0 (F0 m 6 ls []) := by
    intro n6
    induction n6 with
    | zero => intro t_least x4 x5 H locs ls h; exact False.elim h
    | succ n6 ih6 =>
      intro t_least x4 x5 H locs ls h hP hD hS hl
      have h : LB_X2_goOver_6 post s_size s_lower s_limits s_stricts s_upper x2 x3 (L_X2_goOver_6 post s_size s_lower s_limits s_stricts s_upper x2 x3 n6) t_least x4 x5 := h
      unfold LB_X2_goOver_6 at h
      have J102 : ∀ (t_least : Nat → Int64) (x4 : Int32) (x5 : Int32) (H : Heap) (locs : List Loc) (ls : Array Slot), B_X2_goOver_102 (L_X2_goOver_6 post s_size s_lower s_limits s_stricts s_upper x2 x3 n6) t_least x4 x5 → va_P D vwCl [(A_s, .inr (5, [.ref A_s_upper, .ref A_s_lower, .ref A_s_limits, .ref A_s_stricts, .ref A_s_marks, .int s_size, .int s_marked, .int s_wholeness])), (A_t, .inr (2, [.ref A_t_least, .ref A_t_table])), (A_s_lower, .inl (cy 1, 24, .inl s_lower)), (A_t_least, .inl (cy 2, 10, .inr (.inl t_least))), (A_s_limits, .inl (cy 1, 24, .inl s_limits)), (A_s_stricts, .inl (cy 1, 24, .inl s_stricts)), (A_s_upper, .inl (cy 1, 24, .inl s_upper))] H → va_D A [(A_s, .inr (5, [.ref A_s_upper, .ref A_s_lower, .ref A_s_limits, .ref A_s_stricts, .ref A_s_marks, .int s_size, .int s_marked, .int s_wholeness])), (A_t, .inr (2, [.ref A_t_least, .ref A_t_table])), (A_s_lower, .inl (cy 1, 24, .inl s_lower)), (A_t_least, .inl (cy 2, 10, .inr (.inl t_least))), (A_s_limits, .inl (cy 1, 24, .inl s_limits)), (A_s_stricts, .inl (cy 1, 24, .inl s_stricts)), (A_s_upper, .inl (cy 1, 24, .inl s_upper))] → va_S A s.heap H locs → lv_has ls 10 [(0, .ref A_t), (1, .ref A_s), (2, .int x2), (3, .int x3), (4, .int x4), (5, .int x5)] → W p l e (headSpec wsX2_goOver { frames := 1, cells := 0, slots := 0, locals := 22 }).room s m ([.ref A_t, .ref A_s, .int x2, .int x3] : List Value).toArray below meth c H locs 0 0 Q0 (F0 m 102 ls []) := by
        intro t_least x4 x5 H locs ls h hP hD hS hl
        unfold B_X2_goOver_102 at h
        refine lv_iinc (v := x5 + (1 : Int32)) (lv' := [(5, .int (x5 + (1 : Int32))), (0, .ref A_t), (1, .ref A_s), (2, .int x2), (3, .int x3), (4, .int x4)]) hx hb dX2_goOver_102 hl (k := 5) rfl rfl (by decide) rfl (fun ls hl => ?_)
        refine lv_goto (tgt := 6) hx hb dX2_goOver_105 (by decide) ?_
        exact ih6 t_least x4 (x5 + (1 : Int32)) H locs ls h hP hD hS (lv_sub hl [1, 2, 3, 4, 5, 0] rfl)
      refine lv_iload hx hb dX2_goOver_6 (lv_at hl 5 rfl) ?_
      refine lv_aload_n hx hb dX2_goOver_8 rfl (lv_at hl 1 rfl) ?_
      refine va_get (D := D) (ci := 5) (v := .int s_size) (C := RX5) (T := TX5) (N := 8) hx hb hts iX5 hown hK.1 hP 0 rfl rfl 5 (by decide) f0 (fun _ h9 => h9) rfl dX2_goOver_9 ?_
      refine lv_icmp_ge (tgt := 108) hx hb dX2_goOver_12 (by decide) (fun hc => ?_) (fun hc => ?_)
      · replace h := h.1 hc
        refine lv_iload hx hb dX2_goOver_108 (lv_at hl 4 rfl) ?_
        subst hQ
        subst hAe
        exact W.zret (v := x4) hx hb hr h.1 (fun t ht _ => ⟨⟨x4, t_least, rfl, h.2, by rw [ht]; exact hP, hD⟩, hS.F ht⟩) hS.2.2 dX2_goOver_110
      · replace h := h.2 hc
        refine lv_aload_n hx hb dX2_goOver_15 rfl (lv_at hl 0 rfl) ?_
        refine va_get (D := D) (ci := 2) (v := .ref A_t_least) (C := RX2) (T := TX2) (N := 2) hx hb hts iX2 hown hK.1 hP 1 rfl rfl 0 (by decide) f1 (fun _ h9 => h9) rfl dX2_goOver_16 ?_
        refine lv_aload_n hx hb dX2_goOver_19 rfl (lv_at hl 1 rfl) ?_
        refine va_get (D := D) (ci := 5) (v := .ref A_s_lower) (C := RX5) (T := TX5) (N := 8) hx hb hts iX5 hown hK.1 hP 0 rfl rfl 1 (by decide) f2 (fun _ h9 => h9) rfl dX2_goOver_20 ?_
        refine lv_iload hx hb dX2_goOver_23 (lv_at hl 5 rfl) ?_
        refine va_iald hx hb hK.1 hP 2 1 rfl rfl h.1 dX2_goOver_25 ?_
        replace h := h.2
        refine va_lald hx hb hK.1 hP 3 2 rfl rfl h.1 dX2_goOver_26 ?_
        replace h := h.2
        refine lv_lstore (lv' := [(6, .long (t_least (s_lower x5.toNatClampNeg).toNatClampNeg)), (0, .ref A_t), (1, .ref A_s), (2, .int x2), (3, .int x3), (4, .int x4), (5, .int x5)]) hx hb dX2_goOver_27 hl (by decide) rfl (fun ls hl => ?_)
        refine lv_iload hx hb dX2_goOver_29 (lv_at hl 6 rfl) ?_
        refine lv_iload_n hx hb dX2_goOver_31 rfl (lv_at hl 4 rfl) ?_
        refine lv_icmp_eq (tgt := 102) hx hb dX2_goOver_32 (by decide) (fun hc => ?_) (fun hc => ?_)
        · replace h := h.1 hc
          exact J102 t_least x4 x5 H locs ls h hP hD hS (lv_sub hl [1, 2, 3, 4, 5, 6] rfl)
        · replace h := h.2 hc
          refine lv_lload hx hb dX2_goOver_35 (lv_at hl 0 rfl) ?_
          refine lv_ldc2 (v := 4611686018427387904) hx hb hown f3 dX2_goOver_37 ?_
          refine lx_eq (tgt := 102) hx hb dX2_goOver_40 dX2_goOver_41 (by decide) (fun hc => ?_) (fun hc => ?_)
          · replace h := h.1 hc
            exact J102 t_least x4 x5 H locs ls h hP hD hS (lv_sub hl [1, 2, 3, 4, 5, 6] rfl)
          · replace h := h.2 hc
            refine lv_lload hx hb dX2_goOver_44 (lv_at hl 0 rfl) ?_
            refine lv_aload_n hx hb dX2_goOver_46 rfl (lv_at hl 2 rfl) ?_
            refine va_get (D := D) (ci := 5) (v := .ref A_s_limits) (C := RX5) (T := TX5) (N := 8) hx hb hts iX5 hown hK.1 hP 0 rfl rfl 2 (by decide) f4 (fun _ h9 => h9) rfl dX2_goOver_47 ?_
            refine lv_iload hx hb dX2_goOver_50 (lv_at hl 6 rfl) ?_
            refine va_iald hx hb hK.1 hP 4 1 rfl rfl h.1 dX2_goOver_52 ?_
            replace h := h.2
            refine lv_aload_n hx hb dX2_goOver_53 rfl (lv_at hl 2 rfl) ?_
            refine va_get (D := D) (ci := 5) (v := .ref A_s_stricts) (C := RX5) (T := TX5) (N := 8) hx hb hts iX5 hown hK.1 hP 0 rfl rfl 3 (by decide) f5 (fun _ h9 => h9) rfl dX2_goOver_54 ?_
            refine lv_iload hx hb dX2_goOver_57 (lv_at hl 6 rfl) ?_
            refine va_iald hx hb hK.1 hP 5 1 rfl rfl h.1 dX2_goOver_59 ?_
            replace h := h.2
            refine lv_iload_n hx hb dX2_goOver_60 rfl (lv_at hl 3 rfl) ?_
            refine vp_callSl (va_Run.run (va_runSN (As := [.int (s_limits x5.toNatClampNeg), .int (s_stricts x5.toNatClampNeg), .int x2]) (rest := [.long (t_least (s_lower x5.toNatClampNeg).toNatClampNeg)]) CF (c_X7_weigh l (s_limits x5.toNatClampNeg) (s_stricts x5.toNatClampNeg) x2 _ h) ⟨va_cnB 3 hts gX2_goOver_X7_weigh_n73 rfl rfl rfl (hK.nest (w := .methodLinkNest RX2 73 yX7_weigh RX7) (List.mem_of_getElem? (i := 9) rfl)) f6 qX7_weigh.2 ⟨Nat.le_of_ble_eq_true rfl, Nat.le_of_ble_eq_true rfl⟩, f7, trivial⟩ mpSN rfl rfl hl.1 rfl (lv_room (Nat.le_of_ble_eq_true rfl)) dX2_goOver_61 ⟨Nat.zero_le _, Nat.zero_le _⟩)) (fun r1 h => ?_)
            refine lv_ladd hx hb dX2_goOver_64 ?_
            refine lv_lstore (lv' := [(8, .long ((t_least (s_lower x5.toNatClampNeg).toNatClampNeg) + r1)), (6, .long (t_least (s_lower x5.toNatClampNeg).toNatClampNeg)), (0, .ref A_t), (1, .ref A_s), (2, .int x2), (3, .int x3), (4, .int x4), (5, .int x5)]) hx hb dX2_goOver_65 hl (by decide) rfl (fun ls hl => ?_)
            refine lv_lload hx hb dX2_goOver_67 (lv_at hl 0 rfl) ?_
            refine lv_aload_n hx hb dX2_goOver_69 rfl (lv_at hl 2 rfl) ?_
            refine va_get (D := D) (ci := 2) (v := .ref A_t_least) (C := RX2) (T := TX2) (N := 2) hx hb hts iX2 hown hK.1 hP 1 rfl rfl 0 (by decide) f1 (fun _ h9 => h9) rfl dX2_goOver_70 ?_
            refine lv_aload_n hx hb dX2_goOver_73 rfl (lv_at hl 3 rfl) ?_
            refine va_get (D := D) (ci := 5) (v := .ref A_s_upper) (C := RX5) (T := TX5) (N := 8) hx hb hts iX5 hown hK.1 hP 0 rfl rfl 0 (by decide) f8 (fun _ h9 => h9) rfl dX2_goOver_74 ?_
            refine lv_iload hx hb dX2_goOver_77 (lv_at hl 7 rfl) ?_
            refine va_iald hx hb hK.1 hP 6 1 rfl rfl h.1 dX2_goOver_79 ?_
            replace h := h.2
            refine va_lald hx hb hK.1 hP 3 2 rfl rfl h.1 dX2_goOver_80 ?_
            replace h := h.2
            refine lx_ge (tgt := 102) hx hb dX2_goOver_81 dX2_goOver_82 (by decide) (fun hc => ?_) (fun hc => ?_)
            · replace h := h.1 hc
              exact J102 t_least x4 x5 H locs ls h hP hD hS (lv_sub hl [2, 3, 4, 5, 6, 7] rfl)
            · replace h := h.2 hc
              refine lv_aload_n hx hb dX2_goOver_85 rfl (lv_at hl 2 rfl) ?_
              refine va_get (D := D) (ci := 2) (v := .ref A_t_least) (C := RX2) (T := TX2) (N := 2) hx hb hts iX2 hown hK.1 hP 1 rfl rfl 0 (by decide) f1 (fun _ h9 => h9) rfl dX2_goOver_86 ?_
              refine lv_aload_n hx hb dX2_goOver_89 rfl (lv_at hl 3 rfl) ?_
              refine va_get (D := D) (ci := 5) (v := .ref A_s_upper) (C := RX5) (T := TX5) (N := 8) hx hb hts iX5 hown hK.1 hP 0 rfl rfl 0 (by decide) f8 (fun _ h9 => h9) rfl dX2_goOver_90 ?_
              refine lv_iload hx hb dX2_goOver_93 (lv_at hl 7 rfl) ?_
              refine va_iald hx hb hK.1 hP 6 1 rfl rfl h.1 dX2_goOver_95 ?_
              replace h := h.2
              refine lv_lload hx hb dX2_goOver_96 (lv_at hl 0 rfl) ?_
              refine va_last hx hb hK.1 hP hD hS 3 2 rfl rfl h.1 dX2_goOver_98 (fun H locs hP hD hS => ?_)
              replace h := h.2
              have hP : va_P D vwCl [(A_s, .inr (5, [.ref A_s_upper, .ref A_s_lower, .ref A_s_limits, .ref A_s_stricts, .ref A_s_marks, .int s_size, .int s_marked, .int s_wholeness])), (A_t, .inr (2, [.ref A_t_least, .ref A_t_table])), (A_s_lower, .inl (cy 1, 24, .inl s_lower)), (A_t_least, .inl (cy 2, 10, .inr (.inl (vp_updL t_least (s_upper x5.toNatClampNeg).toNatClampNeg ((t_least (s_lower x5.toNatClampNeg).toNatClampNeg) + r1))))), (A_s_limits, .inl (cy 1, 24, .inl s_limits)), (A_s_stricts, .inl (cy 1, 24, .inl s_stricts)), (A_s_upper, .inl (cy 1, 24, .inl s_upper))] H := hP
              have hD : va_D A [(A_s, .inr (5, [.ref A_s_upper, .ref A_s_lower, .ref A_s_limits, .ref A_s_stricts, .ref A_s_marks, .int s_size, .int s_marked, .int s_wholeness])), (A_t, .inr (2, [.ref A_t_least, .ref A_t_table])), (A_s_lower, .inl (cy 1, 24, .inl s_lower)), (A_t_least, .inl (cy 2, 10, .inr (.inl (vp_updL t_least (s_upper x5.toNatClampNeg).toNatClampNeg ((t_least (s_lower x5.toNatClampNeg).toNatClampNeg) + r1))))), (A_s_limits, .inl (cy 1, 24, .inl s_limits)), (A_s_stricts, .inl (cy 1, 24, .inl s_stricts)), (A_s_upper, .inl (cy 1, 24, .inl s_upper))] := hD
              refine lv_iconst (v := 1) hx hb dX2_goOver_99 (by decide) ?_
              refine lv_istore (lv' := [(4, .int (1 : Int32)), (8, .long ((t_least (s_lower x5.toNatClampNeg).toNatClampNeg) + r1)), (6, .long (t_least (s_lower x5.toNatClampNeg).toNatClampNeg)), (0, .ref A_t), (1, .ref A_s), (2, .int x2), (3, .int x3), (5, .int x5)]) hx hb dX2_goOver_100 hl (by decide) rfl (fun ls hl => ?_)
              exact J102 (vp_updL t_least (s_upper x5.toNatClampNeg).toNatClampNeg ((t_least (s_lower x5.toNatClampNeg).toNatClampNeg) + r1)) (1 : Int32) x5 H locs ls h hP hD hS (lv_sub hl [3, 4, 5, 6, 0, 7] rfl)
  unfold P_X2_goOver at h
  refine lv_iconst (v := 0) hx hb dX2_goOver_0 (by decide) ?_
  refine lv_istore (lv' := [(4, .int (0 : Int32)), (0, .ref A_t), (1, .ref A_s), (2, .int x2), (3, .int x3)]) hx hb dX2_goOver_1 hl (by decide) rfl (fun ls hl => ?_)
  refine lv_iconst (v := 0) hx hb dX2_goOver_3 (by decide) ?_
  refine lv_istore (lv' := [(5, .int (0 : Int32)), (4, .int (0 : Int32)), (0, .ref A_t), (1, .ref A_s), (2, .int x2), (3, .int x3)]) hx hb dX2_goOver_4 hl (by decide) rfl (fun ls hl => ?_)
  obtain ⟨nn, h⟩ := h
  exact L6 nn t_least (0 : Int32) (0 : Int32) s.heap [] ls h hP hD hS (lv_sub hl [2, 3, 4, 5, 1, 0] rfl)
theorem qX2_between : yX2_between.cls = RX2 ∧ yX2_between.cls ≠ "java/lang/invoke/MethodHandle" ∧ yX2_between.cls ≠ "java/lang/invoke/VarHandle" ∧ (parseMethodDescriptor yX2_between.desc).map (fun d => d.parameters.length) = some 4 := by decide +kernel
def LB_X2_between_23 (post : Int64 → (Nat → Int64) → Prop) (s_size : Int32) (s_wholeness : Int32) (s_lower : Nat → Int32) (s_limits : Nat → Int32) (s_stricts : Nat → Int32) (s_upper : Nat → Int32) (x3 : Int32) (x4 : Int32) (K_23 : (Nat → Int64) → Int32 → Int32 → Prop) (t_least : Nat → Int64) (x5 : Int32) (x6 : Int32) : Prop :=
  (((10 : Int32) ≤ x6 → (vp_in x3 10 ∧ post (t_least x3.toNatClampNeg) t_least)) ∧ (¬ (10 : Int32) ≤ x6 → ((x5 = 0 → (vp_in x3 10 ∧ post (t_least x3.toNatClampNeg) t_least)) ∧ (¬ x5 = 0 → P_X2_goOver (fun (r2 : Int32) (t_least_v2 : Nat → Int64) => K_23 t_least_v2 r2 (x6 + (1 : Int32))) s_size s_lower t_least s_limits s_stricts s_upper s_wholeness x4))))
noncomputable def L_X2_between_23 (post : Int64 → (Nat → Int64) → Prop) (s_size : Int32) (s_wholeness : Int32) (s_lower : Nat → Int32) (s_limits : Nat → Int32) (s_stricts : Nat → Int32) (s_upper : Nat → Int32) (x3 : Int32) (x4 : Int32) (n : Nat) : (Nat → Int64) → Int32 → Int32 → Prop := Nat.rec (motive := fun _ => (Nat → Int64) → Int32 → Int32 → Prop) (fun _ _ _ => False) (fun _ K => LB_X2_between_23 post s_size s_wholeness s_lower s_limits s_stricts s_upper x3 x4 K) n
def P_X2_between (post : Int64 → (Nat → Int64) → Prop) (t_least : Nat → Int64) (s_size : Int32) (s_wholeness : Int32) (s_lower : Nat → Int32) (s_limits : Nat → Int32) (s_stricts : Nat → Int32) (s_upper : Nat → Int32) (x2 : Int32) (x3 : Int32) (x4 : Int32) : Prop :=
  P_J7_fill_d0a16 (fun (t_least_v1 : Nat → Int64) => (vp_in x2 10 ∧ ∃ n : Nat, L_X2_between_23 post s_size s_wholeness s_lower s_limits s_stricts s_upper x3 x4 n (vp_updL t_least_v1 x2.toNatClampNeg (0 : Int64)) (1 : Int32) (0 : Int32))) 10 t_least (4611686018427387904 : Int64)
set_option maxHeartbeats 4000000 in
set_option maxRecDepth 100000 in
theorem c_X2_between (l : Launch) (D : va_G) (cy : Nat → ClassId) (sz : Nat) (A_t A_t_least A_t_table A_s A_s_upper A_s_lower A_s_limits A_s_stricts A_s_marks : Nat) (t_least : Nat → Int64) (s_size : Int32) (s_marked : Int32) (s_wholeness : Int32) (s_lower : Nat → Int32) (s_limits : Nat → Int32) (s_stricts : Nat → Int32) (s_upper : Nat → Int32) (x2 : Int32) (x3 : Int32) (x4 : Int32) (post : Int64 → (Nat → Int64) → Prop) (h : P_X2_between post t_least s_size s_wholeness s_lower s_limits s_stricts s_upper x2 x3 x4) : Met l yX2_between wsX2_between { frames := 2, cells := 0, slots := 0, locals := 51 } (pcW D cy [(A_t, .inr (2, [.ref A_t_least, .ref A_t_table])), (A_t_least, .inl (cy 2, 10, .inr (.inl t_least))), (A_s, .inr (5, [.ref A_s_upper, .ref A_s_lower, .ref A_s_limits, .ref A_s_stricts, .ref A_s_marks, .int s_size, .int s_marked, .int s_wholeness])), (A_s_lower, .inl (cy 1, 24, .inl s_lower)), (A_s_limits, .inl (cy 1, 24, .inl s_limits)), (A_s_stricts, .inl (cy 1, 24, .inl s_stricts)), (A_s_upper, .inl (cy 1, 24, .inl s_upper))] sz [.ref A_t, .ref A_s, .int x2, .int x3, .int x4]) (va_Ql (fun r (u : (Nat → Int64)) => post r u) (bW D [(A_t, .inr (2, [.ref A_t_least, .ref A_t_table])), (A_t_least, .inl (cy 2, 10, .inr (.inl t_least))), (A_s, .inr (5, [.ref A_s_upper, .ref A_s_lower, .ref A_s_limits, .ref A_s_stricts, .ref A_s_marks, .int s_size, .int s_marked, .int s_wholeness])), (A_s_lower, .inl (cy 1, 24, .inl s_lower)), (A_s_limits, .inl (cy 1, 24, .inl s_limits)), (A_s_stricts, .inl (cy 1, 24, .inl s_stricts)), (A_s_upper, .inl (cy 1, 24, .inl s_upper))] sz (fun u => [(A_t, .inr (2, [.ref A_t_least, .ref A_t_table])), (A_t_least, .inl (cy 2, 10, .inr (.inl u))), (A_s, .inr (5, [.ref A_s_upper, .ref A_s_lower, .ref A_s_limits, .ref A_s_stricts, .ref A_s_marks, .int s_size, .int s_marked, .int s_wholeness])), (A_s_lower, .inl (cy 1, 24, .inl s_lower)), (A_s_limits, .inl (cy 1, 24, .inl s_limits)), (A_s_stricts, .inl (cy 1, 24, .inl s_stricts)), (A_s_upper, .inl (cy 1, 24, .inl s_upper))])) (va_A [(A_t, .inr (2, [.ref A_t_least, .ref A_t_table])), (A_t_least, .inl (cy 2, 10, .inr (.inl t_least))), (A_s, .inr (5, [.ref A_s_upper, .ref A_s_lower, .ref A_s_limits, .ref A_s_stricts, .ref A_s_marks, .int s_size, .int s_marked, .int s_wholeness])), (A_s_lower, .inl (cy 1, 24, .inl s_lower)), (A_s_limits, .inl (cy 1, 24, .inl s_limits)), (A_s_stricts, .inl (cy 1, 24, .inl s_stricts)), (A_s_upper, .inl (cy 1, 24, .inl s_upper))] sz)) 0 0 (va_A [(A_t, .inr (2, [.ref A_t_least, .ref A_t_table])), (A_t_least, .inl (cy 2, 10, .inr (.inl t_least))), (A_s, .inr (5, [.ref A_s_upper, .ref A_s_lower, .ref A_s_limits, .ref A_s_stricts, .ref A_s_marks, .int s_size, .int s_marked, .int s_wholeness])), (A_s_lower, .inl (cy 1, 24, .inl s_lower)), (A_s_limits, .inl (cy 1, 24, .inl s_limits)), (A_s_stricts, .inl (cy 1, 24, .inl s_stricts)), (A_s_upper, .inl (cy 1, 24, .inl s_upper))] sz) := by
  refine Met.ofW (cc := cX2_between) (maxL := 7) (ret := (some .long)) (by decide) rfl ?_
  intro p e s m args below meth c s₁ B hml hv
  obtain ⟨rfl, hsz, hP, hK, hD0⟩ := hv
  have hx := B.exec
  have hb := B.bytes
  have hr := B.returns
  have hts := atoms_spec (ws := wsX2_between) B.pre
  have hown : s.vm.findClass RX2 = some m.cls := findClass_of_methodNamed B.named
  have hlocks := B.notSynchronized
  have CF : CallFix p m c cX2_between 7 s ([.ref A_t, .ref A_s, .int x2, .int x3, .int x4] : List Value).toArray wsX2_between RX2 := ⟨hx, hb, hml, hown, hts⟩
  have f0 := hts (.fieldLink RX2 9 "GapBounds$Rows" "least" "[J") (by decide +kernel)
  have f1 := hts (.constantLong RX2 20 (4611686018427387904)) (by decide +kernel)
  have f2 := hts (.fieldLink RX2 28 "GapBounds$Store" "wholeness" "I") (by decide +kernel)
  have iX2 : ∀ w ∈ u_ws RX2 TX2 2, w ∈ wsX2_between := by decide +kernel
  have iX5 : ∀ w ∈ u_ws RX5 TX5 8, w ∈ wsX2_between := by decide +kernel
  subst hsz
  obtain ⟨A, hAe⟩ : ∃ A, A = va_A [(A_t, .inr (2, [.ref A_t_least, .ref A_t_table])), (A_t_least, .inl (cy 2, 10, .inr (.inl t_least))), (A_s, .inr (5, [.ref A_s_upper, .ref A_s_lower, .ref A_s_limits, .ref A_s_stricts, .ref A_s_marks, .int s_size, .int s_marked, .int s_wholeness])), (A_s_lower, .inl (cy 1, 24, .inl s_lower)), (A_s_limits, .inl (cy 1, 24, .inl s_limits)), (A_s_stricts, .inl (cy 1, 24, .inl s_stricts)), (A_s_upper, .inl (cy 1, 24, .inl s_upper))] s.heap.size := ⟨_, rfl⟩
  have hD : va_D A [(A_t, .inr (2, [.ref A_t_least, .ref A_t_table])), (A_t_least, .inl (cy 2, 10, .inr (.inl t_least))), (A_s, .inr (5, [.ref A_s_upper, .ref A_s_lower, .ref A_s_limits, .ref A_s_stricts, .ref A_s_marks, .int s_size, .int s_marked, .int s_wholeness])), (A_s_lower, .inl (cy 1, 24, .inl s_lower)), (A_s_limits, .inl (cy 1, 24, .inl s_limits)), (A_s_stricts, .inl (cy 1, 24, .inl s_stricts)), (A_s_upper, .inl (cy 1, 24, .inl s_upper))] := by rw [hAe]; exact hD0.self
  have hA : ∀ q : Nat, s.heap.size ≤ q → A q := fun q hq => by rw [hAe]; exact Or.inr hq
  have hS : va_S A s.heap s.heap [] := va_S.rf
  have hl := lv_entry [.ref A_t, .ref A_s, .int x2, .int x3, .int x4] (n := 7) (Nat.le_of_ble_eq_true rfl)
  rw [lg_entry_eq]
  generalize (lg_sl [.ref A_t, .ref A_s, .int x2, .int x3, .int x4] ++ List.replicate (7 - (lg_sl [.ref A_t, .ref A_s, .int x2, .int x3, .int x4]).length) Slot.unset).toArray = ls at hl ⊢
  have hl : lv_has ls 7 [(0, .ref A_t), (1, .ref A_s), (2, .int x2), (3, .int x3), (4, .int x4)] := hl
  refine W.gen (fun Q0 hQ => ?_)
  have L23 : ∀ (n23 : Nat) (t_least : Nat → Int64) (x5 : Int32) (x6 : Int32) (H : Heap) (locs : List Loc) (ls : Array Slot), L_X2_between_23 post s_size s_wholeness s_lower s_limits s_stricts s_upper x3 x4 n23 t_least x5 x6 → va_P D vwCl [(A_t, .inr (2, [.ref A_t_least, .ref A_t_table])), (A_t_least, .inl (cy 2, 10, .inr (.inl t_least))), (A_s, .inr (5, [.ref A_s_upper, .ref A_s_lower, .ref A_s_limits, .ref A_s_stricts, .ref A_s_marks, .int s_size, .int s_marked, .int s_wholeness])), (A_s_lower, .inl (cy 1, 24, .inl s_lower)), (A_s_limits, .inl (cy 1, 24, .inl s_limits)), (A_s_stricts, .inl (cy 1, 24, .inl s_stricts)), (A_s_upper, .inl (cy 1, 24, .inl s_upper))] H → va_D A [(A_t, .inr (2, [.ref A_t_least, .ref A_t_table])), (A_t_least, .inl (cy 2, 10, .inr (.inl t_least))), (A_s, .inr (5, [.ref A_s_upper, .ref A_s_lower, .ref A_s_limits, .ref A_s_stricts, .ref A_s_marks, .int s_size, .int s_marked, .int s_wholeness])), (A_s_lower, .inl (cy 1, 24, .inl s_lower)), (A_s_limits, .inl (cy 1, 24, .inl s_limits)), (A_s_stricts, .inl (cy 1, 24, .inl s_stricts)), (A_s_upper, .inl (cy 1, 24, .inl s_upper))] → va_S A s.heap H locs → lv_has ls 7 [(0, .ref A_t), (1, .ref A_s), (3, .int x3), (4, .int x4), (5, .int x5), (6, .int x6)] → W p l e (headSpec wsX2_between { frames := 2, cells := 0, slots := 0, locals := 51 }).room s m ([.ref A_t, .ref A_s, .int x2, .int x3, .int x4] : List Value).toArray below meth c H locs 0 0 Q0 (F0 m 23 ls []) := by
    intro n23
    induction n23 with
    | zero => intro t_least x5 x6 H locs ls h; exact False.elim h
    | succ n23 ih23 =>
      intro t_least x5 x6 H locs ls h hP hD hS hl
      have h : LB_X2_between_23 post s_size s_wholeness s_lower s_limits s_stricts s_upper x3 x4 (L_X2_between_23 post s_size s_wholeness s_lower s_limits s_stricts s_upper x3 x4 n23) t_least x5 x6 := h
      unfold LB_X2_between_23 at h
      refine lv_iload hx hb dX2_between_23 (lv_at hl 5 rfl) ?_
      refine lv_bipush (v := 10) hx hb dX2_between_25 (by decide) ?_
      refine lv_icmp_ge (tgt := 54) hx hb dX2_between_27 (by decide) (fun hc => ?_) (fun hc => ?_)
      · replace h := h.1 hc
        refine lv_aload_n hx hb dX2_between_54 rfl (lv_at hl 0 rfl) ?_
        refine va_get (D := D) (ci := 2) (v := .ref A_t_least) (C := RX2) (T := TX2) (N := 2) hx hb hts iX2 hown hK.1 hP 0 rfl rfl 0 (by decide) f0 (fun _ h9 => h9) rfl dX2_between_55 ?_
        refine lv_iload_n hx hb dX2_between_58 rfl (lv_at hl 2 rfl) ?_
        refine va_lald hx hb hK.1 hP 1 2 rfl rfl h.1 dX2_between_59 ?_
        replace h := h.2
        subst hQ
        subst hAe
        exact W.lret (v := t_least x3.toNatClampNeg) hx hb hr (fun t ht _ => ⟨⟨t_least x3.toNatClampNeg, t_least, rfl, h, by rw [ht]; exact hP, hD⟩, hS.F ht⟩) hS.2.2 dX2_between_60
      · replace h := h.2 hc
        refine lv_iload hx hb dX2_between_30 (lv_at hl 4 rfl) ?_
        refine lv_if_eq (tgt := 54) hx hb dX2_between_32 (by decide) (fun hc => ?_) (fun hc => ?_)
        · replace h := h.1 hc
          refine lv_aload_n hx hb dX2_between_54 rfl (lv_at hl 0 rfl) ?_
          refine va_get (D := D) (ci := 2) (v := .ref A_t_least) (C := RX2) (T := TX2) (N := 2) hx hb hts iX2 hown hK.1 hP 0 rfl rfl 0 (by decide) f0 (fun _ h9 => h9) rfl dX2_between_55 ?_
          refine lv_iload_n hx hb dX2_between_58 rfl (lv_at hl 2 rfl) ?_
          refine va_lald hx hb hK.1 hP 1 2 rfl rfl h.1 dX2_between_59 ?_
          replace h := h.2
          subst hQ
          subst hAe
          exact W.lret (v := t_least x3.toNatClampNeg) hx hb hr (fun t ht _ => ⟨⟨t_least x3.toNatClampNeg, t_least, rfl, h, by rw [ht]; exact hP, hD⟩, hS.F ht⟩) hS.2.2 dX2_between_60
        · replace h := h.2 hc
          refine lv_aload_n hx hb dX2_between_35 rfl (lv_at hl 0 rfl) ?_
          refine lv_aload_n hx hb dX2_between_36 rfl (lv_at hl 1 rfl) ?_
          refine lv_aload_n hx hb dX2_between_37 rfl (lv_at hl 1 rfl) ?_
          refine va_get (D := D) (ci := 5) (v := .int s_wholeness) (C := RX5) (T := TX5) (N := 8) hx hb hts iX5 hown hK.1 hP 2 rfl rfl 7 (by decide) f2 (fun _ h9 => h9) rfl dX2_between_38 ?_
          refine lv_iload hx hb dX2_between_41 (lv_at hl 3 rfl) ?_
          have hPn : va_P D vwCl ([] ++ [(A_s, .inr (5, [.ref A_s_upper, .ref A_s_lower, .ref A_s_limits, .ref A_s_stricts, .ref A_s_marks, .int s_size, .int s_marked, .int s_wholeness])), (A_t, .inr (2, [.ref A_t_least, .ref A_t_table])), (A_s_lower, .inl (cy 1, 24, .inl s_lower)), (A_t_least, .inl (cy 2, 10, .inr (.inl t_least))), (A_s_limits, .inl (cy 1, 24, .inl s_limits)), (A_s_stricts, .inl (cy 1, 24, .inl s_stricts)), (A_s_upper, .inl (cy 1, 24, .inl s_upper))]) H := hP.sub [2, 0, 3, 1, 4, 5, 6] rfl
          have hDn : va_D A ([] ++ [(A_s, .inr (5, [.ref A_s_upper, .ref A_s_lower, .ref A_s_limits, .ref A_s_stricts, .ref A_s_marks, .int s_size, .int s_marked, .int s_wholeness])), (A_t, .inr (2, [.ref A_t_least, .ref A_t_table])), (A_s_lower, .inl (cy 1, 24, .inl s_lower)), (A_t_least, .inl (cy 2, 10, .inr (.inl t_least))), (A_s_limits, .inl (cy 1, 24, .inl s_limits)), (A_s_stricts, .inl (cy 1, 24, .inl s_stricts)), (A_s_upper, .inl (cy 1, 24, .inl s_upper))]) := hD.sub [2, 0, 3, 1, 4, 5, 6] (by decide) rfl
          have hPc := gPR hPn
          have hDc := gDR hDn
          refine mw_i (va_runV (As := [.ref A_s, .int s_wholeness, .int x4]) (rest := []) CF (c_X2_goOver l D cy H.size A_s A_s_upper A_s_lower A_s_limits A_s_stricts A_s_marks A_t A_t_least A_t_table s_size s_marked s_wholeness s_lower t_least s_limits s_stricts s_upper s_wholeness x4 _ h) (cwV 3 hts gX2_between_X2_goOver rfl rfl rfl qX2_goOver ⟨Nat.le_of_ble_eq_true rfl, Nat.le_of_ble_eq_true rfl⟩) (mpVW hK hPc hDc (ci := 2) (q := (RX2, TX2, 2)) (q0 := 1) rfl rfl) rfl rfl hl.1 rfl (lv_room (Nat.le_of_ble_eq_true rfl)) dX2_between_43 ⟨Nat.zero_le _, Nat.zero_le _⟩) hPn hDn hS hA (fun r2 t_least_v2 H locs h hP hD hS => ?_)
          have hP : va_P D vwCl [(A_t, .inr (2, [.ref A_t_least, .ref A_t_table])), (A_t_least, .inl (cy 2, 10, .inr (.inl t_least_v2))), (A_s, .inr (5, [.ref A_s_upper, .ref A_s_lower, .ref A_s_limits, .ref A_s_stricts, .ref A_s_marks, .int s_size, .int s_marked, .int s_wholeness])), (A_s_lower, .inl (cy 1, 24, .inl s_lower)), (A_s_limits, .inl (cy 1, 24, .inl s_limits)), (A_s_stricts, .inl (cy 1, 24, .inl s_stricts)), (A_s_upper, .inl (cy 1, 24, .inl s_upper))] H := hP.sub [1, 3, 0, 2, 4, 5, 6] rfl
          have hD : va_D A [(A_t, .inr (2, [.ref A_t_least, .ref A_t_table])), (A_t_least, .inl (cy 2, 10, .inr (.inl t_least_v2))), (A_s, .inr (5, [.ref A_s_upper, .ref A_s_lower, .ref A_s_limits, .ref A_s_stricts, .ref A_s_marks, .int s_size, .int s_marked, .int s_wholeness])), (A_s_lower, .inl (cy 1, 24, .inl s_lower)), (A_s_limits, .inl (cy 1, 24, .inl s_limits)), (A_s_stricts, .inl (cy 1, 24, .inl s_stricts)), (A_s_upper, .inl (cy 1, 24, .inl s_upper))] := hD.sub [1, 3, 0, 2, 4, 5, 6] (by decide) rfl
          refine lv_istore (lv' := [(5, .int r2), (0, .ref A_t), (1, .ref A_s), (3, .int x3), (4, .int x4), (6, .int x6)]) hx hb dX2_between_46 hl (by decide) rfl (fun ls hl => ?_)
          refine lv_iinc (v := x6 + (1 : Int32)) (lv' := [(6, .int (x6 + (1 : Int32))), (5, .int r2), (0, .ref A_t), (1, .ref A_s), (3, .int x3), (4, .int x4)]) hx hb dX2_between_48 hl (k := 5) rfl rfl (by decide) rfl (fun ls hl => ?_)
          refine lv_goto (tgt := 23) hx hb dX2_between_51 (by decide) ?_
          exact ih23 t_least_v2 r2 (x6 + (1 : Int32)) H locs ls h hP hD hS (lv_sub hl [2, 3, 4, 5, 1, 0] rfl)
  unfold P_X2_between at h
  refine lv_aload_n hx hb dX2_between_0 rfl (lv_at hl 0 rfl) ?_
  refine va_get (D := D) (ci := 2) (v := .ref A_t_least) (C := RX2) (T := TX2) (N := 2) hx hb hts iX2 hown hK.1 hP 0 rfl rfl 0 (by decide) f0 (fun _ h9 => h9) rfl dX2_between_1 ?_
  refine lv_ldc2 (v := 4611686018427387904) hx hb hown f1 dX2_between_4 ?_
  have hPn : va_P D vwCl ([(A_t, .inr (2, [.ref A_t_least, .ref A_t_table])), (A_s, .inr (5, [.ref A_s_upper, .ref A_s_lower, .ref A_s_limits, .ref A_s_stricts, .ref A_s_marks, .int s_size, .int s_marked, .int s_wholeness])), (A_s_lower, .inl (cy 1, 24, .inl s_lower)), (A_s_limits, .inl (cy 1, 24, .inl s_limits)), (A_s_stricts, .inl (cy 1, 24, .inl s_stricts)), (A_s_upper, .inl (cy 1, 24, .inl s_upper))] ++ [(A_t_least, .inl (cy 2, 10, .inr (.inl t_least)))]) s.heap := hP.sub [0, 2, 3, 4, 5, 6, 1] rfl
  have hDn : va_D A ([(A_t, .inr (2, [.ref A_t_least, .ref A_t_table])), (A_s, .inr (5, [.ref A_s_upper, .ref A_s_lower, .ref A_s_limits, .ref A_s_stricts, .ref A_s_marks, .int s_size, .int s_marked, .int s_wholeness])), (A_s_lower, .inl (cy 1, 24, .inl s_lower)), (A_s_limits, .inl (cy 1, 24, .inl s_limits)), (A_s_stricts, .inl (cy 1, 24, .inl s_stricts)), (A_s_upper, .inl (cy 1, 24, .inl s_upper))] ++ [(A_t_least, .inl (cy 2, 10, .inr (.inl t_least)))]) := hD.sub [0, 2, 3, 4, 5, 6, 1] (by decide) rfl
  have hPc := gPR hPn
  have hDc := gDR hDn
  refine mw_v (va_runS (As := [.ref A_t_least, .long (4611686018427387904 : Int64)]) (rest := []) CF (c_J7_fill_d0a16 l D cy s.heap.size A_t_least 10 t_least (4611686018427387904 : Int64) _ h) (va_cwS 2 hts gX2_between_J7_fill_d0a16 rfl rfl rfl qJ7_fill_d0a16.2 ⟨Nat.le_of_ble_eq_true rfl, Nat.le_of_ble_eq_true rfl⟩) (mpSW hK hPc hDc) rfl rfl hl.1 rfl (lv_room (Nat.le_of_ble_eq_true rfl)) dX2_between_7 ⟨Nat.zero_le _, Nat.zero_le _⟩) hPn hDn hS hA (fun t_least_v1 H locs h hP hD hS => ?_)
  have hP : va_P D vwCl [(A_t, .inr (2, [.ref A_t_least, .ref A_t_table])), (A_t_least, .inl (cy 2, 10, .inr (.inl t_least_v1))), (A_s, .inr (5, [.ref A_s_upper, .ref A_s_lower, .ref A_s_limits, .ref A_s_stricts, .ref A_s_marks, .int s_size, .int s_marked, .int s_wholeness])), (A_s_lower, .inl (cy 1, 24, .inl s_lower)), (A_s_limits, .inl (cy 1, 24, .inl s_limits)), (A_s_stricts, .inl (cy 1, 24, .inl s_stricts)), (A_s_upper, .inl (cy 1, 24, .inl s_upper))] H := hP.sub [0, 6, 1, 2, 3, 4, 5] rfl
  have hD : va_D A [(A_t, .inr (2, [.ref A_t_least, .ref A_t_table])), (A_t_least, .inl (cy 2, 10, .inr (.inl t_least_v1))), (A_s, .inr (5, [.ref A_s_upper, .ref A_s_lower, .ref A_s_limits, .ref A_s_stricts, .ref A_s_marks, .int s_size, .int s_marked, .int s_wholeness])), (A_s_lower, .inl (cy 1, 24, .inl s_lower)), (A_s_limits, .inl (cy 1, 24, .inl s_limits)), (A_s_stricts, .inl (cy 1, 24, .inl s_stricts)), (A_s_upper, .inl (cy 1, 24, .inl s_upper))] := hD.sub [0, 6, 1, 2, 3, 4, 5] (by decide) rfl
  refine lv_aload_n hx hb dX2_between_10 rfl (lv_at hl 0 rfl) ?_
  refine va_get (D := D) (ci := 2) (v := .ref A_t_least) (C := RX2) (T := TX2) (N := 2) hx hb hts iX2 hown hK.1 hP 0 rfl rfl 0 (by decide) f0 (fun _ h9 => h9) rfl dX2_between_11 ?_
  refine lv_iload_n hx hb dX2_between_14 rfl (lv_at hl 2 rfl) ?_
  refine lv_lconst (v := 0) hx hb dX2_between_15 (by decide) ?_
  refine va_last hx hb hK.1 hP hD hS 1 2 rfl rfl h.1 dX2_between_16 (fun H locs hP hD hS => ?_)
  replace h := h.2
  have hP : va_P D vwCl [(A_t, .inr (2, [.ref A_t_least, .ref A_t_table])), (A_t_least, .inl (cy 2, 10, .inr (.inl (vp_updL t_least_v1 x2.toNatClampNeg (0 : Int64))))), (A_s, .inr (5, [.ref A_s_upper, .ref A_s_lower, .ref A_s_limits, .ref A_s_stricts, .ref A_s_marks, .int s_size, .int s_marked, .int s_wholeness])), (A_s_lower, .inl (cy 1, 24, .inl s_lower)), (A_s_limits, .inl (cy 1, 24, .inl s_limits)), (A_s_stricts, .inl (cy 1, 24, .inl s_stricts)), (A_s_upper, .inl (cy 1, 24, .inl s_upper))] H := hP
  have hD : va_D A [(A_t, .inr (2, [.ref A_t_least, .ref A_t_table])), (A_t_least, .inl (cy 2, 10, .inr (.inl (vp_updL t_least_v1 x2.toNatClampNeg (0 : Int64))))), (A_s, .inr (5, [.ref A_s_upper, .ref A_s_lower, .ref A_s_limits, .ref A_s_stricts, .ref A_s_marks, .int s_size, .int s_marked, .int s_wholeness])), (A_s_lower, .inl (cy 1, 24, .inl s_lower)), (A_s_limits, .inl (cy 1, 24, .inl s_limits)), (A_s_stricts, .inl (cy 1, 24, .inl s_stricts)), (A_s_upper, .inl (cy 1, 24, .inl s_upper))] := hD
  refine lv_iconst (v := 1) hx hb dX2_between_17 (by decide) ?_
  refine lv_istore (lv' := [(5, .int (1 : Int32)), (0, .ref A_t), (1, .ref A_s), (2, .int x2), (3, .int x3), (4, .int x4)]) hx hb dX2_between_18 hl (by decide) rfl (fun ls hl => ?_)
  refine lv_iconst (v := 0) hx hb dX2_between_20 (by decide) ?_
  refine lv_istore (lv' := [(6, .int (0 : Int32)), (5, .int (1 : Int32)), (0, .ref A_t), (1, .ref A_s), (2, .int x2), (3, .int x3), (4, .int x4)]) hx hb dX2_between_21 hl (by decide) rfl (fun ls hl => ?_)
  obtain ⟨nn, h⟩ := h
  exact L23 nn (vp_updL t_least_v1 x2.toNatClampNeg (0 : Int64)) (1 : Int32) (0 : Int32) H locs ls h hP hD hS (lv_sub hl [2, 3, 5, 6, 1, 0] rfl)
theorem qX2_canHold : yX2_canHold.cls = RX2 ∧ yX2_canHold.cls ≠ "java/lang/invoke/MethodHandle" ∧ yX2_canHold.cls ≠ "java/lang/invoke/VarHandle" ∧ (parseMethodDescriptor yX2_canHold.desc).map (fun d => d.parameters.length) = some 2 := by decide +kernel
def B_X2_canHold_38 (post : Int32 → (Nat → Int64) → Prop) (t_least : Nat → Int64) (x3 : Int32) : Prop :=
  ((¬ x3 = 0 → post (0 : Int32) t_least) ∧ (x3 = 0 → post (1 : Int32) t_least))
def LB_X2_canHold_13 (post : Int32 → (Nat → Int64) → Prop) (s_size : Int32) (s_lower : Nat → Int32) (s_limits : Nat → Int32) (s_stricts : Nat → Int32) (s_upper : Nat → Int32) (x2 : Int32) (K_13 : (Nat → Int64) → Int32 → Int32 → Prop) (t_least : Nat → Int64) (x3 : Int32) (x4 : Int32) : Prop :=
  (((10 : Int32) ≤ x4 → B_X2_canHold_38 post t_least x3) ∧ (¬ (10 : Int32) ≤ x4 → ((x3 = 0 → B_X2_canHold_38 post t_least x3) ∧ (¬ x3 = 0 → P_X2_goOver (fun (r2 : Int32) (t_least_v2 : Nat → Int64) => K_13 t_least_v2 r2 (x4 + (1 : Int32))) s_size s_lower t_least s_limits s_stricts s_upper x2 (-1 : Int32)))))
noncomputable def L_X2_canHold_13 (post : Int32 → (Nat → Int64) → Prop) (s_size : Int32) (s_lower : Nat → Int32) (s_limits : Nat → Int32) (s_stricts : Nat → Int32) (s_upper : Nat → Int32) (x2 : Int32) (n : Nat) : (Nat → Int64) → Int32 → Int32 → Prop := Nat.rec (motive := fun _ => (Nat → Int64) → Int32 → Int32 → Prop) (fun _ _ _ => False) (fun _ K => LB_X2_canHold_13 post s_size s_lower s_limits s_stricts s_upper x2 K) n
def P_X2_canHold (post : Int32 → (Nat → Int64) → Prop) (t_least : Nat → Int64) (s_size : Int32) (s_lower : Nat → Int32) (s_limits : Nat → Int32) (s_stricts : Nat → Int32) (s_upper : Nat → Int32) (x2 : Int32) : Prop :=
  P_J7_fill_d0a16 (fun (t_least_v1 : Nat → Int64) => ∃ n : Nat, L_X2_canHold_13 post s_size s_lower s_limits s_stricts s_upper x2 n t_least_v1 (1 : Int32) (0 : Int32)) 10 t_least (0 : Int64)
set_option maxHeartbeats 4000000 in
set_option maxRecDepth 100000 in
theorem c_X2_canHold (l : Launch) (D : va_G) (cy : Nat → ClassId) (sz : Nat) (A_t A_t_least A_t_table A_s A_s_upper A_s_lower A_s_limits A_s_stricts A_s_marks : Nat) (t_least : Nat → Int64) (s_size : Int32) (s_marked : Int32) (s_wholeness : Int32) (s_lower : Nat → Int32) (s_limits : Nat → Int32) (s_stricts : Nat → Int32) (s_upper : Nat → Int32) (x2 : Int32) (post : Int32 → (Nat → Int64) → Prop) (h : P_X2_canHold post t_least s_size s_lower s_limits s_stricts s_upper x2) : Met l yX2_canHold wsX2_canHold { frames := 2, cells := 0, slots := 0, locals := 51 } (pcW D cy [(A_t, .inr (2, [.ref A_t_least, .ref A_t_table])), (A_t_least, .inl (cy 2, 10, .inr (.inl t_least))), (A_s, .inr (5, [.ref A_s_upper, .ref A_s_lower, .ref A_s_limits, .ref A_s_stricts, .ref A_s_marks, .int s_size, .int s_marked, .int s_wholeness])), (A_s_lower, .inl (cy 1, 24, .inl s_lower)), (A_s_limits, .inl (cy 1, 24, .inl s_limits)), (A_s_stricts, .inl (cy 1, 24, .inl s_stricts)), (A_s_upper, .inl (cy 1, 24, .inl s_upper))] sz [.ref A_t, .ref A_s, .int x2]) (va_Qi (fun r (u : (Nat → Int64)) => post r u) (bW D [(A_t, .inr (2, [.ref A_t_least, .ref A_t_table])), (A_t_least, .inl (cy 2, 10, .inr (.inl t_least))), (A_s, .inr (5, [.ref A_s_upper, .ref A_s_lower, .ref A_s_limits, .ref A_s_stricts, .ref A_s_marks, .int s_size, .int s_marked, .int s_wholeness])), (A_s_lower, .inl (cy 1, 24, .inl s_lower)), (A_s_limits, .inl (cy 1, 24, .inl s_limits)), (A_s_stricts, .inl (cy 1, 24, .inl s_stricts)), (A_s_upper, .inl (cy 1, 24, .inl s_upper))] sz (fun u => [(A_t, .inr (2, [.ref A_t_least, .ref A_t_table])), (A_t_least, .inl (cy 2, 10, .inr (.inl u))), (A_s, .inr (5, [.ref A_s_upper, .ref A_s_lower, .ref A_s_limits, .ref A_s_stricts, .ref A_s_marks, .int s_size, .int s_marked, .int s_wholeness])), (A_s_lower, .inl (cy 1, 24, .inl s_lower)), (A_s_limits, .inl (cy 1, 24, .inl s_limits)), (A_s_stricts, .inl (cy 1, 24, .inl s_stricts)), (A_s_upper, .inl (cy 1, 24, .inl s_upper))])) (va_A [(A_t, .inr (2, [.ref A_t_least, .ref A_t_table])), (A_t_least, .inl (cy 2, 10, .inr (.inl t_least))), (A_s, .inr (5, [.ref A_s_upper, .ref A_s_lower, .ref A_s_limits, .ref A_s_stricts, .ref A_s_marks, .int s_size, .int s_marked, .int s_wholeness])), (A_s_lower, .inl (cy 1, 24, .inl s_lower)), (A_s_limits, .inl (cy 1, 24, .inl s_limits)), (A_s_stricts, .inl (cy 1, 24, .inl s_stricts)), (A_s_upper, .inl (cy 1, 24, .inl s_upper))] sz)) 0 0 (va_A [(A_t, .inr (2, [.ref A_t_least, .ref A_t_table])), (A_t_least, .inl (cy 2, 10, .inr (.inl t_least))), (A_s, .inr (5, [.ref A_s_upper, .ref A_s_lower, .ref A_s_limits, .ref A_s_stricts, .ref A_s_marks, .int s_size, .int s_marked, .int s_wholeness])), (A_s_lower, .inl (cy 1, 24, .inl s_lower)), (A_s_limits, .inl (cy 1, 24, .inl s_limits)), (A_s_stricts, .inl (cy 1, 24, .inl s_stricts)), (A_s_upper, .inl (cy 1, 24, .inl s_upper))] sz) := by
  refine Met.ofW (cc := cX2_canHold) (maxL := 5) (ret := (some .boolean)) (by decide) rfl ?_
  intro p e s m args below meth c s₁ B hml hv
  obtain ⟨rfl, hsz, hP, hK, hD0⟩ := hv
  have hx := B.exec
  have hb := B.bytes
  have hr := B.returns
  have hts := atoms_spec (ws := wsX2_canHold) B.pre
  have hown : s.vm.findClass RX2 = some m.cls := findClass_of_methodNamed B.named
  have hlocks := B.notSynchronized
  have CF : CallFix p m c cX2_canHold 5 s ([.ref A_t, .ref A_s, .int x2] : List Value).toArray wsX2_canHold RX2 := ⟨hx, hb, hml, hown, hts⟩
  have f0 := hts (.fieldLink RX2 9 "GapBounds$Rows" "least" "[J") (by decide +kernel)
  have iX2 : ∀ w ∈ u_ws RX2 TX2 2, w ∈ wsX2_canHold := by decide +kernel
  subst hsz
  obtain ⟨A, hAe⟩ : ∃ A, A = va_A [(A_t, .inr (2, [.ref A_t_least, .ref A_t_table])), (A_t_least, .inl (cy 2, 10, .inr (.inl t_least))), (A_s, .inr (5, [.ref A_s_upper, .ref A_s_lower, .ref A_s_limits, .ref A_s_stricts, .ref A_s_marks, .int s_size, .int s_marked, .int s_wholeness])), (A_s_lower, .inl (cy 1, 24, .inl s_lower)), (A_s_limits, .inl (cy 1, 24, .inl s_limits)), (A_s_stricts, .inl (cy 1, 24, .inl s_stricts)), (A_s_upper, .inl (cy 1, 24, .inl s_upper))] s.heap.size := ⟨_, rfl⟩
  have hD : va_D A [(A_t, .inr (2, [.ref A_t_least, .ref A_t_table])), (A_t_least, .inl (cy 2, 10, .inr (.inl t_least))), (A_s, .inr (5, [.ref A_s_upper, .ref A_s_lower, .ref A_s_limits, .ref A_s_stricts, .ref A_s_marks, .int s_size, .int s_marked, .int s_wholeness])), (A_s_lower, .inl (cy 1, 24, .inl s_lower)), (A_s_limits, .inl (cy 1, 24, .inl s_limits)), (A_s_stricts, .inl (cy 1, 24, .inl s_stricts)), (A_s_upper, .inl (cy 1, 24, .inl s_upper))] := by rw [hAe]; exact hD0.self
  have hA : ∀ q : Nat, s.heap.size ≤ q → A q := fun q hq => by rw [hAe]; exact Or.inr hq
  have hS : va_S A s.heap s.heap [] := va_S.rf
  have hl := lv_entry [.ref A_t, .ref A_s, .int x2] (n := 5) (Nat.le_of_ble_eq_true rfl)
  rw [lg_entry_eq]
  generalize (lg_sl [.ref A_t, .ref A_s, .int x2] ++ List.replicate (5 - (lg_sl [.ref A_t, .ref A_s, .int x2]).length) Slot.unset).toArray = ls at hl ⊢
  have hl : lv_has ls 5 [(0, .ref A_t), (1, .ref A_s), (2, .int x2)] := hl
  refine W.gen (fun Q0 hQ => ?_)
  have J38 : ∀ (t_least : Nat → Int64) (x3 : Int32) (H : Heap) (locs : List Loc) (ls : Array Slot), B_X2_canHold_38 post t_least x3 → va_P D vwCl [(A_t, .inr (2, [.ref A_t_least, .ref A_t_table])), (A_t_least, .inl (cy 2, 10, .inr (.inl t_least))), (A_s, .inr (5, [.ref A_s_upper, .ref A_s_lower, .ref A_s_limits, .ref A_s_stricts, .ref A_s_marks, .int s_size, .int s_marked, .int s_wholeness])), (A_s_lower, .inl (cy 1, 24, .inl s_lower)), (A_s_limits, .inl (cy 1, 24, .inl s_limits)), (A_s_stricts, .inl (cy 1, 24, .inl s_stricts)), (A_s_upper, .inl (cy 1, 24, .inl s_upper))] H → va_D A [(A_t, .inr (2, [.ref A_t_least, .ref A_t_table])), (A_t_least, .inl (cy 2, 10, .inr (.inl t_least))), (A_s, .inr (5, [.ref A_s_upper, .ref A_s_lower, .ref A_s_limits, .ref A_s_stricts, .ref A_s_marks, .int s_size, .int s_marked, .int s_wholeness])), (A_s_lower, .inl (cy 1, 24, .inl s_lower)), (A_s_limits, .inl (cy 1, 24, .inl s_limits)), (A_s_stricts, .inl (cy 1, 24, .inl s_stricts)), (A_s_upper, .inl (cy 1, 24, .inl s_upper))] → va_S A s.heap H locs → lv_has ls 5 [(3, .int x3)] → W p l e (headSpec wsX2_canHold { frames := 2, cells := 0, slots := 0, locals := 51 }).room s m ([.ref A_t, .ref A_s, .int x2] : List Value).toArray below meth c H locs 0 0 Q0 (F0 m 38 ls []) := by
    intro t_least x3 H locs ls h hP hD hS hl
    unfold B_X2_canHold_38 at h
    refine lv_iload_n hx hb dX2_canHold_38 rfl (lv_at hl 0 rfl) ?_
    refine lv_if_ne (tgt := 46) hx hb dX2_canHold_39 (by decide) (fun hc => ?_) (fun hc => ?_)
    · replace h := h.1 hc
      refine lv_iconst (v := 0) hx hb dX2_canHold_46 (by decide) ?_
      subst hQ
      subst hAe
      exact W.zret (v := (0 : Int32)) hx hb hr bz0 (fun t ht _ => ⟨⟨(0 : Int32), t_least, rfl, h, by rw [ht]; exact hP, hD⟩, hS.F ht⟩) hS.2.2 dX2_canHold_47
    · replace h := h.2 hc
      refine lv_iconst (v := 1) hx hb dX2_canHold_42 (by decide) ?_
      refine lv_goto (tgt := 47) hx hb dX2_canHold_43 (by decide) ?_
      subst hQ
      subst hAe
      exact W.zret (v := (1 : Int32)) hx hb hr bz1 (fun t ht _ => ⟨⟨(1 : Int32), t_least, rfl, h, by rw [ht]; exact hP, hD⟩, hS.F ht⟩) hS.2.2 dX2_canHold_47
  have L13 : ∀ (n13 : Nat) (t_least : Nat → Int64) (x3 : Int32) (x4 : Int32) (H : Heap) (locs : List Loc) (ls : Array Slot), L_X2_canHold_13 post s_size s_lower s_limits s_stricts s_upper x2 n13 t_least x3 x4 → va_P D vwCl [(A_t, .inr (2, [.ref A_t_least, .ref A_t_table])), (A_t_least, .inl (cy 2, 10, .inr (.inl t_least))), (A_s, .inr (5, [.ref A_s_upper, .ref A_s_lower, .ref A_s_limits, .ref A_s_stricts, .ref A_s_marks, .int s_size, .int s_marked, .int s_wholeness])), (A_s_lower, .inl (cy 1, 24, .inl s_lower)), (A_s_limits, .inl (cy 1, 24, .inl s_limits)), (A_s_stricts, .inl (cy 1, 24, .inl s_stricts)), (A_s_upper, .inl (cy 1, 24, .inl s_upper))] H → va_D A [(A_t, .inr (2, [.ref A_t_least, .ref A_t_table])), (A_t_least, .inl (cy 2, 10, .inr (.inl t_least))), (A_s, .inr (5, [.ref A_s_upper, .ref A_s_lower, .ref A_s_limits, .ref A_s_stricts, .ref A_s_marks, .int s_size, .int s_marked, .int s_wholeness])), (A_s_lower, .inl (cy 1, 24, .inl s_lower)), (A_s_limits, .inl (cy 1, 24, .inl s_limits)), (A_s_stricts, .inl (cy 1, 24, .inl s_stricts)), (A_s_upper, .inl (cy 1, 24, .inl s_upper))] → va_S A s.heap H locs → lv_has ls 5 [(0, .ref A_t), (1, .ref A_s), (2, .int x2), (3, .int x3), (4, .int x4)] → W p l e (headSpec wsX2_canHold { frames := 2, cells := 0, slots := 0, locals := 51 }).room s m ([.ref A_t, .ref A_s, .int x2] : List Value).toArray below meth c H locs 0 0 Q0 (F0 m 13 ls []) := by
    intro n13
    induction n13 with
    | zero => intro t_least x3 x4 H locs ls h; exact False.elim h
    | succ n13 ih13 =>
      intro t_least x3 x4 H locs ls h hP hD hS hl
      have h : LB_X2_canHold_13 post s_size s_lower s_limits s_stricts s_upper x2 (L_X2_canHold_13 post s_size s_lower s_limits s_stricts s_upper x2 n13) t_least x3 x4 := h
      unfold LB_X2_canHold_13 at h
      refine lv_iload hx hb dX2_canHold_13 (lv_at hl 4 rfl) ?_
      refine lv_bipush (v := 10) hx hb dX2_canHold_15 (by decide) ?_
      refine lv_icmp_ge (tgt := 38) hx hb dX2_canHold_17 (by decide) (fun hc => ?_) (fun hc => ?_)
      · replace h := h.1 hc
        exact J38 t_least x3 H locs ls h hP hD hS (lv_sub hl [3] rfl)
      · replace h := h.2 hc
        refine lv_iload_n hx hb dX2_canHold_20 rfl (lv_at hl 3 rfl) ?_
        refine lv_if_eq (tgt := 38) hx hb dX2_canHold_21 (by decide) (fun hc => ?_) (fun hc => ?_)
        · replace h := h.1 hc
          exact J38 t_least x3 H locs ls h hP hD hS (lv_sub hl [3] rfl)
        · replace h := h.2 hc
          refine lv_aload_n hx hb dX2_canHold_24 rfl (lv_at hl 0 rfl) ?_
          refine lv_aload_n hx hb dX2_canHold_25 rfl (lv_at hl 1 rfl) ?_
          refine lv_iload_n hx hb dX2_canHold_26 rfl (lv_at hl 2 rfl) ?_
          refine lv_iconst (v := -1) hx hb dX2_canHold_27 (by decide) ?_
          have hPn : va_P D vwCl ([] ++ [(A_s, .inr (5, [.ref A_s_upper, .ref A_s_lower, .ref A_s_limits, .ref A_s_stricts, .ref A_s_marks, .int s_size, .int s_marked, .int s_wholeness])), (A_t, .inr (2, [.ref A_t_least, .ref A_t_table])), (A_s_lower, .inl (cy 1, 24, .inl s_lower)), (A_t_least, .inl (cy 2, 10, .inr (.inl t_least))), (A_s_limits, .inl (cy 1, 24, .inl s_limits)), (A_s_stricts, .inl (cy 1, 24, .inl s_stricts)), (A_s_upper, .inl (cy 1, 24, .inl s_upper))]) H := hP.sub [2, 0, 3, 1, 4, 5, 6] rfl
          have hDn : va_D A ([] ++ [(A_s, .inr (5, [.ref A_s_upper, .ref A_s_lower, .ref A_s_limits, .ref A_s_stricts, .ref A_s_marks, .int s_size, .int s_marked, .int s_wholeness])), (A_t, .inr (2, [.ref A_t_least, .ref A_t_table])), (A_s_lower, .inl (cy 1, 24, .inl s_lower)), (A_t_least, .inl (cy 2, 10, .inr (.inl t_least))), (A_s_limits, .inl (cy 1, 24, .inl s_limits)), (A_s_stricts, .inl (cy 1, 24, .inl s_stricts)), (A_s_upper, .inl (cy 1, 24, .inl s_upper))]) := hD.sub [2, 0, 3, 1, 4, 5, 6] (by decide) rfl
          have hPc := gPR hPn
          have hDc := gDR hDn
          refine mw_i (va_runV (As := [.ref A_s, .int x2, .int (-1 : Int32)]) (rest := []) CF (c_X2_goOver l D cy H.size A_s A_s_upper A_s_lower A_s_limits A_s_stricts A_s_marks A_t A_t_least A_t_table s_size s_marked s_wholeness s_lower t_least s_limits s_stricts s_upper x2 (-1 : Int32) _ h) (cwV 3 hts gX2_canHold_X2_goOver rfl rfl rfl qX2_goOver ⟨Nat.le_of_ble_eq_true rfl, Nat.le_of_ble_eq_true rfl⟩) (mpVW hK hPc hDc (ci := 2) (q := (RX2, TX2, 2)) (q0 := 1) rfl rfl) rfl rfl hl.1 rfl (lv_room (Nat.le_of_ble_eq_true rfl)) dX2_canHold_28 ⟨Nat.zero_le _, Nat.zero_le _⟩) hPn hDn hS hA (fun r2 t_least_v2 H locs h hP hD hS => ?_)
          have hP : va_P D vwCl [(A_t, .inr (2, [.ref A_t_least, .ref A_t_table])), (A_t_least, .inl (cy 2, 10, .inr (.inl t_least_v2))), (A_s, .inr (5, [.ref A_s_upper, .ref A_s_lower, .ref A_s_limits, .ref A_s_stricts, .ref A_s_marks, .int s_size, .int s_marked, .int s_wholeness])), (A_s_lower, .inl (cy 1, 24, .inl s_lower)), (A_s_limits, .inl (cy 1, 24, .inl s_limits)), (A_s_stricts, .inl (cy 1, 24, .inl s_stricts)), (A_s_upper, .inl (cy 1, 24, .inl s_upper))] H := hP.sub [1, 3, 0, 2, 4, 5, 6] rfl
          have hD : va_D A [(A_t, .inr (2, [.ref A_t_least, .ref A_t_table])), (A_t_least, .inl (cy 2, 10, .inr (.inl t_least_v2))), (A_s, .inr (5, [.ref A_s_upper, .ref A_s_lower, .ref A_s_limits, .ref A_s_stricts, .ref A_s_marks, .int s_size, .int s_marked, .int s_wholeness])), (A_s_lower, .inl (cy 1, 24, .inl s_lower)), (A_s_limits, .inl (cy 1, 24, .inl s_limits)), (A_s_stricts, .inl (cy 1, 24, .inl s_stricts)), (A_s_upper, .inl (cy 1, 24, .inl s_upper))] := hD.sub [1, 3, 0, 2, 4, 5, 6] (by decide) rfl
          refine lv_istore_n (lv' := [(3, .int r2), (0, .ref A_t), (1, .ref A_s), (2, .int x2), (4, .int x4)]) hx hb dX2_canHold_31 rfl hl (by decide) rfl (fun ls hl => ?_)
          refine lv_iinc (v := x4 + (1 : Int32)) (lv' := [(4, .int (x4 + (1 : Int32))), (3, .int r2), (0, .ref A_t), (1, .ref A_s), (2, .int x2)]) hx hb dX2_canHold_32 hl (k := 4) rfl rfl (by decide) rfl (fun ls hl => ?_)
          refine lv_goto (tgt := 13) hx hb dX2_canHold_35 (by decide) ?_
          exact ih13 t_least_v2 r2 (x4 + (1 : Int32)) H locs ls h hP hD hS (lv_sub hl [2, 3, 4, 1, 0] rfl)
  unfold P_X2_canHold at h
  refine lv_aload_n hx hb dX2_canHold_0 rfl (lv_at hl 0 rfl) ?_
  refine va_get (D := D) (ci := 2) (v := .ref A_t_least) (C := RX2) (T := TX2) (N := 2) hx hb hts iX2 hown hK.1 hP 0 rfl rfl 0 (by decide) f0 (fun _ h9 => h9) rfl dX2_canHold_1 ?_
  refine lv_lconst (v := 0) hx hb dX2_canHold_4 (by decide) ?_
  have hPn : va_P D vwCl ([(A_t, .inr (2, [.ref A_t_least, .ref A_t_table])), (A_s, .inr (5, [.ref A_s_upper, .ref A_s_lower, .ref A_s_limits, .ref A_s_stricts, .ref A_s_marks, .int s_size, .int s_marked, .int s_wholeness])), (A_s_lower, .inl (cy 1, 24, .inl s_lower)), (A_s_limits, .inl (cy 1, 24, .inl s_limits)), (A_s_stricts, .inl (cy 1, 24, .inl s_stricts)), (A_s_upper, .inl (cy 1, 24, .inl s_upper))] ++ [(A_t_least, .inl (cy 2, 10, .inr (.inl t_least)))]) s.heap := hP.sub [0, 2, 3, 4, 5, 6, 1] rfl
  have hDn : va_D A ([(A_t, .inr (2, [.ref A_t_least, .ref A_t_table])), (A_s, .inr (5, [.ref A_s_upper, .ref A_s_lower, .ref A_s_limits, .ref A_s_stricts, .ref A_s_marks, .int s_size, .int s_marked, .int s_wholeness])), (A_s_lower, .inl (cy 1, 24, .inl s_lower)), (A_s_limits, .inl (cy 1, 24, .inl s_limits)), (A_s_stricts, .inl (cy 1, 24, .inl s_stricts)), (A_s_upper, .inl (cy 1, 24, .inl s_upper))] ++ [(A_t_least, .inl (cy 2, 10, .inr (.inl t_least)))]) := hD.sub [0, 2, 3, 4, 5, 6, 1] (by decide) rfl
  have hPc := gPR hPn
  have hDc := gDR hDn
  refine mw_v (va_runS (As := [.ref A_t_least, .long (0 : Int64)]) (rest := []) CF (c_J7_fill_d0a16 l D cy s.heap.size A_t_least 10 t_least (0 : Int64) _ h) (va_cwS 2 hts gX2_canHold_J7_fill_d0a16 rfl rfl rfl qJ7_fill_d0a16.2 ⟨Nat.le_of_ble_eq_true rfl, Nat.le_of_ble_eq_true rfl⟩) (mpSW hK hPc hDc) rfl rfl hl.1 rfl (lv_room (Nat.le_of_ble_eq_true rfl)) dX2_canHold_5 ⟨Nat.zero_le _, Nat.zero_le _⟩) hPn hDn hS hA (fun t_least_v1 H locs h hP hD hS => ?_)
  have hP : va_P D vwCl [(A_t, .inr (2, [.ref A_t_least, .ref A_t_table])), (A_t_least, .inl (cy 2, 10, .inr (.inl t_least_v1))), (A_s, .inr (5, [.ref A_s_upper, .ref A_s_lower, .ref A_s_limits, .ref A_s_stricts, .ref A_s_marks, .int s_size, .int s_marked, .int s_wholeness])), (A_s_lower, .inl (cy 1, 24, .inl s_lower)), (A_s_limits, .inl (cy 1, 24, .inl s_limits)), (A_s_stricts, .inl (cy 1, 24, .inl s_stricts)), (A_s_upper, .inl (cy 1, 24, .inl s_upper))] H := hP.sub [0, 6, 1, 2, 3, 4, 5] rfl
  have hD : va_D A [(A_t, .inr (2, [.ref A_t_least, .ref A_t_table])), (A_t_least, .inl (cy 2, 10, .inr (.inl t_least_v1))), (A_s, .inr (5, [.ref A_s_upper, .ref A_s_lower, .ref A_s_limits, .ref A_s_stricts, .ref A_s_marks, .int s_size, .int s_marked, .int s_wholeness])), (A_s_lower, .inl (cy 1, 24, .inl s_lower)), (A_s_limits, .inl (cy 1, 24, .inl s_limits)), (A_s_stricts, .inl (cy 1, 24, .inl s_stricts)), (A_s_upper, .inl (cy 1, 24, .inl s_upper))] := hD.sub [0, 6, 1, 2, 3, 4, 5] (by decide) rfl
  refine lv_iconst (v := 1) hx hb dX2_canHold_8 (by decide) ?_
  refine lv_istore_n (lv' := [(3, .int (1 : Int32)), (0, .ref A_t), (1, .ref A_s), (2, .int x2)]) hx hb dX2_canHold_9 rfl hl (by decide) rfl (fun ls hl => ?_)
  refine lv_iconst (v := 0) hx hb dX2_canHold_10 (by decide) ?_
  refine lv_istore (lv' := [(4, .int (0 : Int32)), (3, .int (1 : Int32)), (0, .ref A_t), (1, .ref A_s), (2, .int x2)]) hx hb dX2_canHold_11 hl (by decide) rfl (fun ls hl => ?_)
  obtain ⟨nn, h⟩ := h
  exact L13 nn t_least_v1 (1 : Int32) (0 : Int32) H locs ls h hP hD hS (lv_sub hl [2, 3, 4, 1, 0] rfl)
theorem qX2_highOf : yX2_highOf.cls = RX2 ∧ yX2_highOf.cls ≠ "java/lang/invoke/MethodHandle" ∧ yX2_highOf.cls ≠ "java/lang/invoke/VarHandle" ∧ (parseMethodDescriptor yX2_highOf.desc).map (fun d => d.parameters.length) = some 2 := by decide +kernel
def P_X2_highOf (post : Int64 → (Nat → Int64) → Prop) (s_size : Int32) (s_wholeness : Int32) (t_least : Nat → Int64) (s_lower : Nat → Int32) (s_limits : Nat → Int32) (s_stricts : Nat → Int32) (s_upper : Nat → Int32) (x2 : Int32) : Prop :=
  P_X2_canHold (fun (r1 : Int32) (t_least_v1 : Nat → Int64) => (vp_in x2 10 ∧ post (t_least_v1 x2.toNatClampNeg) t_least_v1)) t_least s_size s_lower s_limits s_stricts s_upper s_wholeness
set_option maxHeartbeats 4000000 in
set_option maxRecDepth 100000 in
theorem c_X2_highOf (l : Launch) (D : va_G) (cy : Nat → ClassId) (sz : Nat) (A_s A_s_upper A_s_lower A_s_limits A_s_stricts A_s_marks A_t A_t_least A_t_table : Nat) (s_size : Int32) (s_marked : Int32) (s_wholeness : Int32) (t_least : Nat → Int64) (s_lower : Nat → Int32) (s_limits : Nat → Int32) (s_stricts : Nat → Int32) (s_upper : Nat → Int32) (x2 : Int32) (post : Int64 → (Nat → Int64) → Prop) (h : P_X2_highOf post s_size s_wholeness t_least s_lower s_limits s_stricts s_upper x2) : Met l yX2_highOf wsX2_highOf { frames := 3, cells := 0, slots := 0, locals := 75 } (pcW D cy [(A_s, .inr (5, [.ref A_s_upper, .ref A_s_lower, .ref A_s_limits, .ref A_s_stricts, .ref A_s_marks, .int s_size, .int s_marked, .int s_wholeness])), (A_t, .inr (2, [.ref A_t_least, .ref A_t_table])), (A_t_least, .inl (cy 2, 10, .inr (.inl t_least))), (A_s_lower, .inl (cy 1, 24, .inl s_lower)), (A_s_limits, .inl (cy 1, 24, .inl s_limits)), (A_s_stricts, .inl (cy 1, 24, .inl s_stricts)), (A_s_upper, .inl (cy 1, 24, .inl s_upper))] sz [.ref A_t, .ref A_s, .int x2]) (va_Ql (fun r (u : (Nat → Int64)) => post r u) (bW D [(A_s, .inr (5, [.ref A_s_upper, .ref A_s_lower, .ref A_s_limits, .ref A_s_stricts, .ref A_s_marks, .int s_size, .int s_marked, .int s_wholeness])), (A_t, .inr (2, [.ref A_t_least, .ref A_t_table])), (A_t_least, .inl (cy 2, 10, .inr (.inl t_least))), (A_s_lower, .inl (cy 1, 24, .inl s_lower)), (A_s_limits, .inl (cy 1, 24, .inl s_limits)), (A_s_stricts, .inl (cy 1, 24, .inl s_stricts)), (A_s_upper, .inl (cy 1, 24, .inl s_upper))] sz (fun u => [(A_s, .inr (5, [.ref A_s_upper, .ref A_s_lower, .ref A_s_limits, .ref A_s_stricts, .ref A_s_marks, .int s_size, .int s_marked, .int s_wholeness])), (A_t, .inr (2, [.ref A_t_least, .ref A_t_table])), (A_t_least, .inl (cy 2, 10, .inr (.inl u))), (A_s_lower, .inl (cy 1, 24, .inl s_lower)), (A_s_limits, .inl (cy 1, 24, .inl s_limits)), (A_s_stricts, .inl (cy 1, 24, .inl s_stricts)), (A_s_upper, .inl (cy 1, 24, .inl s_upper))])) (va_A [(A_s, .inr (5, [.ref A_s_upper, .ref A_s_lower, .ref A_s_limits, .ref A_s_stricts, .ref A_s_marks, .int s_size, .int s_marked, .int s_wholeness])), (A_t, .inr (2, [.ref A_t_least, .ref A_t_table])), (A_t_least, .inl (cy 2, 10, .inr (.inl t_least))), (A_s_lower, .inl (cy 1, 24, .inl s_lower)), (A_s_limits, .inl (cy 1, 24, .inl s_limits)), (A_s_stricts, .inl (cy 1, 24, .inl s_stricts)), (A_s_upper, .inl (cy 1, 24, .inl s_upper))] sz)) 0 0 (va_A [(A_s, .inr (5, [.ref A_s_upper, .ref A_s_lower, .ref A_s_limits, .ref A_s_stricts, .ref A_s_marks, .int s_size, .int s_marked, .int s_wholeness])), (A_t, .inr (2, [.ref A_t_least, .ref A_t_table])), (A_t_least, .inl (cy 2, 10, .inr (.inl t_least))), (A_s_lower, .inl (cy 1, 24, .inl s_lower)), (A_s_limits, .inl (cy 1, 24, .inl s_limits)), (A_s_stricts, .inl (cy 1, 24, .inl s_stricts)), (A_s_upper, .inl (cy 1, 24, .inl s_upper))] sz) := by
  refine Met.ofW (cc := cX2_highOf) (maxL := 3) (ret := (some .long)) (by decide) rfl ?_
  intro p e s m args below meth c s₁ B hml hv
  obtain ⟨rfl, hsz, hP, hK, hD0⟩ := hv
  have hx := B.exec
  have hb := B.bytes
  have hr := B.returns
  have hts := atoms_spec (ws := wsX2_highOf) B.pre
  have hown : s.vm.findClass RX2 = some m.cls := findClass_of_methodNamed B.named
  have hlocks := B.notSynchronized
  have CF : CallFix p m c cX2_highOf 3 s ([.ref A_t, .ref A_s, .int x2] : List Value).toArray wsX2_highOf RX2 := ⟨hx, hb, hml, hown, hts⟩
  have f0 := hts (.fieldLink RX2 28 "GapBounds$Store" "wholeness" "I") (by decide +kernel)
  have f1 := hts (.fieldLink RX2 9 "GapBounds$Rows" "least" "[J") (by decide +kernel)
  have iX2 : ∀ w ∈ u_ws RX2 TX2 2, w ∈ wsX2_highOf := by decide +kernel
  have iX5 : ∀ w ∈ u_ws RX5 TX5 8, w ∈ wsX2_highOf := by decide +kernel
  subst hsz
  obtain ⟨A, hAe⟩ : ∃ A, A = va_A [(A_s, .inr (5, [.ref A_s_upper, .ref A_s_lower, .ref A_s_limits, .ref A_s_stricts, .ref A_s_marks, .int s_size, .int s_marked, .int s_wholeness])), (A_t, .inr (2, [.ref A_t_least, .ref A_t_table])), (A_t_least, .inl (cy 2, 10, .inr (.inl t_least))), (A_s_lower, .inl (cy 1, 24, .inl s_lower)), (A_s_limits, .inl (cy 1, 24, .inl s_limits)), (A_s_stricts, .inl (cy 1, 24, .inl s_stricts)), (A_s_upper, .inl (cy 1, 24, .inl s_upper))] s.heap.size := ⟨_, rfl⟩
  have hD : va_D A [(A_s, .inr (5, [.ref A_s_upper, .ref A_s_lower, .ref A_s_limits, .ref A_s_stricts, .ref A_s_marks, .int s_size, .int s_marked, .int s_wholeness])), (A_t, .inr (2, [.ref A_t_least, .ref A_t_table])), (A_t_least, .inl (cy 2, 10, .inr (.inl t_least))), (A_s_lower, .inl (cy 1, 24, .inl s_lower)), (A_s_limits, .inl (cy 1, 24, .inl s_limits)), (A_s_stricts, .inl (cy 1, 24, .inl s_stricts)), (A_s_upper, .inl (cy 1, 24, .inl s_upper))] := by rw [hAe]; exact hD0.self
  have hA : ∀ q : Nat, s.heap.size ≤ q → A q := fun q hq => by rw [hAe]; exact Or.inr hq
  have hS : va_S A s.heap s.heap [] := va_S.rf
  have hl := lv_entry [.ref A_t, .ref A_s, .int x2] (n := 3) (Nat.le_of_ble_eq_true rfl)
  rw [lg_entry_eq]
  generalize (lg_sl [.ref A_t, .ref A_s, .int x2] ++ List.replicate (3 - (lg_sl [.ref A_t, .ref A_s, .int x2]).length) Slot.unset).toArray = ls at hl ⊢
  have hl : lv_has ls 3 [(0, .ref A_t), (1, .ref A_s), (2, .int x2)] := hl
  refine W.gen (fun Q0 hQ => ?_)
  unfold P_X2_highOf at h
  refine lv_aload_n hx hb dX2_highOf_0 rfl (lv_at hl 0 rfl) ?_
  refine lv_aload_n hx hb dX2_highOf_1 rfl (lv_at hl 1 rfl) ?_
  refine lv_aload_n hx hb dX2_highOf_2 rfl (lv_at hl 1 rfl) ?_
  refine va_get (D := D) (ci := 5) (v := .int s_wholeness) (C := RX5) (T := TX5) (N := 8) hx hb hts iX5 hown hK.1 hP 0 rfl rfl 7 (by decide) f0 (fun _ h9 => h9) rfl dX2_highOf_3 ?_
  have hPn : va_P D vwCl ([] ++ [(A_t, .inr (2, [.ref A_t_least, .ref A_t_table])), (A_t_least, .inl (cy 2, 10, .inr (.inl t_least))), (A_s, .inr (5, [.ref A_s_upper, .ref A_s_lower, .ref A_s_limits, .ref A_s_stricts, .ref A_s_marks, .int s_size, .int s_marked, .int s_wholeness])), (A_s_lower, .inl (cy 1, 24, .inl s_lower)), (A_s_limits, .inl (cy 1, 24, .inl s_limits)), (A_s_stricts, .inl (cy 1, 24, .inl s_stricts)), (A_s_upper, .inl (cy 1, 24, .inl s_upper))]) s.heap := hP.sub [1, 2, 0, 3, 4, 5, 6] rfl
  have hDn : va_D A ([] ++ [(A_t, .inr (2, [.ref A_t_least, .ref A_t_table])), (A_t_least, .inl (cy 2, 10, .inr (.inl t_least))), (A_s, .inr (5, [.ref A_s_upper, .ref A_s_lower, .ref A_s_limits, .ref A_s_stricts, .ref A_s_marks, .int s_size, .int s_marked, .int s_wholeness])), (A_s_lower, .inl (cy 1, 24, .inl s_lower)), (A_s_limits, .inl (cy 1, 24, .inl s_limits)), (A_s_stricts, .inl (cy 1, 24, .inl s_stricts)), (A_s_upper, .inl (cy 1, 24, .inl s_upper))]) := hD.sub [1, 2, 0, 3, 4, 5, 6] (by decide) rfl
  have hPc := gPR hPn
  have hDc := gDR hDn
  refine mw_i (va_runV (As := [.ref A_s, .int s_wholeness]) (rest := []) CF (c_X2_canHold l D cy s.heap.size A_t A_t_least A_t_table A_s A_s_upper A_s_lower A_s_limits A_s_stricts A_s_marks t_least s_size s_marked s_wholeness s_lower s_limits s_stricts s_upper s_wholeness _ h) (cwV 2 hts gX2_highOf_X2_canHold rfl rfl rfl qX2_canHold ⟨Nat.le_of_ble_eq_true rfl, Nat.le_of_ble_eq_true rfl⟩) (mpVW hK hPc hDc (ci := 2) (q := (RX2, TX2, 2)) (q0 := 0) rfl rfl) rfl rfl hl.1 rfl (lv_room (Nat.le_of_ble_eq_true rfl)) dX2_highOf_6 ⟨Nat.zero_le _, Nat.zero_le _⟩) hPn hDn hS hA (fun r1 t_least_v1 H locs h hP hD hS => ?_)
  have hP : va_P D vwCl [(A_s, .inr (5, [.ref A_s_upper, .ref A_s_lower, .ref A_s_limits, .ref A_s_stricts, .ref A_s_marks, .int s_size, .int s_marked, .int s_wholeness])), (A_t, .inr (2, [.ref A_t_least, .ref A_t_table])), (A_t_least, .inl (cy 2, 10, .inr (.inl t_least_v1))), (A_s_lower, .inl (cy 1, 24, .inl s_lower)), (A_s_limits, .inl (cy 1, 24, .inl s_limits)), (A_s_stricts, .inl (cy 1, 24, .inl s_stricts)), (A_s_upper, .inl (cy 1, 24, .inl s_upper))] H := hP.sub [2, 0, 1, 3, 4, 5, 6] rfl
  have hD : va_D A [(A_s, .inr (5, [.ref A_s_upper, .ref A_s_lower, .ref A_s_limits, .ref A_s_stricts, .ref A_s_marks, .int s_size, .int s_marked, .int s_wholeness])), (A_t, .inr (2, [.ref A_t_least, .ref A_t_table])), (A_t_least, .inl (cy 2, 10, .inr (.inl t_least_v1))), (A_s_lower, .inl (cy 1, 24, .inl s_lower)), (A_s_limits, .inl (cy 1, 24, .inl s_limits)), (A_s_stricts, .inl (cy 1, 24, .inl s_stricts)), (A_s_upper, .inl (cy 1, 24, .inl s_upper))] := hD.sub [2, 0, 1, 3, 4, 5, 6] (by decide) rfl
  refine lv_pop hx hb dX2_highOf_9 rfl ?_
  refine lv_aload_n hx hb dX2_highOf_10 rfl (lv_at hl 0 rfl) ?_
  refine va_get (D := D) (ci := 2) (v := .ref A_t_least) (C := RX2) (T := TX2) (N := 2) hx hb hts iX2 hown hK.1 hP 1 rfl rfl 0 (by decide) f1 (fun _ h9 => h9) rfl dX2_highOf_11 ?_
  refine lv_iload_n hx hb dX2_highOf_14 rfl (lv_at hl 2 rfl) ?_
  refine va_lald hx hb hK.1 hP 2 2 rfl rfl h.1 dX2_highOf_15 ?_
  replace h := h.2
  subst hQ
  subst hAe
  exact W.lret (v := t_least_v1 x2.toNatClampNeg) hx hb hr (fun t ht _ => ⟨⟨t_least_v1 x2.toNatClampNeg, t_least_v1, rfl, h, by rw [ht]; exact hP, hD⟩, hS.F ht⟩) hS.2.2 dX2_highOf_16
theorem qX2_isFirstOfGroup : yX2_isFirstOfGroup.cls = RX2 ∧ yX2_isFirstOfGroup.cls ≠ "java/lang/invoke/MethodHandle" ∧ yX2_isFirstOfGroup.cls ≠ "java/lang/invoke/VarHandle" ∧ (parseMethodDescriptor yX2_isFirstOfGroup.desc).map (fun d => d.parameters.length) = some 1 := by decide +kernel
def LB_X2_isFirstOfGroup_2 (post : Int32 → Prop) (t_table : Nat → Nat → Int64) (x1 : Int32) (K_2 : Int32 → Prop) (x2 : Int32) : Prop :=
  ((x1 ≤ x2 → post (1 : Int32)) ∧ (¬ x1 ≤ x2 → (vp_in x2 10 ∧ (vp_in x1 10 ∧ (vp_in x1 10 ∧ (vp_in x2 10 ∧ P_X7_sumToNothing (fun (r3 : Int32) => ((r3 = 0 → K_2 (x2 + (1 : Int32))) ∧ (¬ r3 = 0 → post (0 : Int32)))) (t_table x2.toNatClampNeg x1.toNatClampNeg) (t_table x1.toNatClampNeg x2.toNatClampNeg)))))))
noncomputable def L_X2_isFirstOfGroup_2 (post : Int32 → Prop) (t_table : Nat → Nat → Int64) (x1 : Int32) (n : Nat) : Int32 → Prop := Nat.rec (motive := fun _ => Int32 → Prop) (fun _ => False) (fun _ K => LB_X2_isFirstOfGroup_2 post t_table x1 K) n
def P_X2_isFirstOfGroup (post : Int32 → Prop) (t_table : Nat → Nat → Int64) (x1 : Int32) : Prop :=
  ∃ n : Nat, L_X2_isFirstOfGroup_2 post t_table x1 n (0 : Int32)
set_option maxHeartbeats 4000000 in
set_option maxRecDepth 100000 in
theorem c_X2_isFirstOfGroup (l : Launch) (D : va_G) (cy : Nat → ClassId) (A_t A_t_least A_t_table : Nat) (R_t_table : Nat → Nat) (t_table : Nat → Nat → Int64) (x1 : Int32) (post : Int32 → Prop) (h : P_X2_isFirstOfGroup post t_table x1) : Met l yX2_isFirstOfGroup wsX2_isFirstOfGroup { frames := 1, cells := 0, slots := 0, locals := 23 } (pcR D cy ([(A_t, .inr (2, [.ref A_t_least, .ref A_t_table])), (A_t_table, .inl (cy 4, 10, .inr (.inr (.inr (.inr (gx R_t_table 10))))))] ++ gp R_t_table t_table 10 (cy 2) 10) [.ref A_t, .int x1]) (vp_Si post) 0 0 (fun _ => False) := by
  refine Met.ofW (cc := cX2_isFirstOfGroup) (maxL := 3) (ret := (some .boolean)) (by decide) rfl ?_
  intro p e s m args below meth c s₁ B hml hv
  obtain ⟨rfl, hP, hK⟩ := hv
  have hx := B.exec
  have hb := B.bytes
  have hr := B.returns
  have hts := atoms_spec (ws := wsX2_isFirstOfGroup) B.pre
  have hown : s.vm.findClass RX2 = some m.cls := findClass_of_methodNamed B.named
  have hlocks := B.notSynchronized
  have CF : CallFix p m c cX2_isFirstOfGroup 3 s ([.ref A_t, .int x1] : List Value).toArray wsX2_isFirstOfGroup RX2 := ⟨hx, hb, hml, hown, hts⟩
  have f0 := hts (.fieldLink RX2 17 "GapBounds$Rows" "table" "[[J") (by decide +kernel)
  have f1 := hts (.initialized RX7) (by decide +kernel)
  have f2 := hts (.static yX7_sumToNothing) (by decide +kernel)
  have iX2 : ∀ w ∈ u_ws RX2 TX2 2, w ∈ wsX2_isFirstOfGroup := by decide +kernel
  have hl := lv_entry [.ref A_t, .int x1] (n := 3) (Nat.le_of_ble_eq_true rfl)
  rw [lg_entry_eq]
  generalize (lg_sl [.ref A_t, .int x1] ++ List.replicate (3 - (lg_sl [.ref A_t, .int x1]).length) Slot.unset).toArray = ls at hl ⊢
  have hl : lv_has ls 3 [(0, .ref A_t), (1, .int x1)] := hl
  refine W.gen (fun Q0 hQ => ?_)
  have L2 : ∀ (n2 : Nat) (x2 : Int32) (ls : Array Slot), L_X2_isFirstOfGroup_2 post t_table x1 n2 x2 → lv_has ls 3 [(0, .ref A_t), (1, .int x1), (2, .int x2)] → W p l e (headSpec wsX2_isFirstOfGroup { frames := 1, cells := 0, slots := 0, locals := 23 }).room s m ([.ref A_t, .int x1] : List Value).toArray below meth c s.heap [] 0 0 Q0 (F0 m 2 ls []) := by
    intro n2
    induction n2 with
    | zero => intro x2 ls h; exact False.elim h
    | succ n2 ih2 =>
      intro x2 ls h hl
      have h : LB_X2_isFirstOfGroup_2 post t_table x1 (L_X2_isFirstOfGroup_2 post t_table x1 n2) x2 := h
      unfold LB_X2_isFirstOfGroup_2 at h
      refine lv_iload_n hx hb dX2_isFirstOfGroup_2 rfl (lv_at hl 2 rfl) ?_
      refine lv_iload_n hx hb dX2_isFirstOfGroup_3 rfl (lv_at hl 1 rfl) ?_
      refine lv_icmp_ge (tgt := 37) hx hb dX2_isFirstOfGroup_4 (by decide) (fun hc => ?_) (fun hc => ?_)
      · replace h := h.1 hc
        refine lv_iconst (v := 1) hx hb dX2_isFirstOfGroup_37 (by decide) ?_
        subst hQ
        exact W.zret (v := (1 : Int32)) hx hb hr bz1 (fun t ht _ => ⟨(1 : Int32), rfl, h, ht⟩) (fun _ hq => absurd hq List.not_mem_nil) dX2_isFirstOfGroup_38
      · replace h := h.2 hc
        refine lv_aload_n hx hb dX2_isFirstOfGroup_7 rfl (lv_at hl 0 rfl) ?_
        refine va_get (D := D) (ci := 2) (v := .ref A_t_table) (C := RX2) (T := TX2) (N := 2) hx hb hts iX2 hown hK.1 hP 0 rfl rfl 1 (by decide) f0 (fun _ h9 => h9) rfl dX2_isFirstOfGroup_8 ?_
        refine lv_iload_n hx hb dX2_isFirstOfGroup_11 rfl (lv_at hl 2 rfl) ?_
        refine mx_alda hx hb hK.1 hP 1 4 rfl rfl h.1 dX2_isFirstOfGroup_12 ?_
        have hv1 := h.1
        replace h := h.2
        refine lv_iload_n hx hb dX2_isFirstOfGroup_13 rfl (lv_at hl 1 rfl) ?_
        refine va_lald hx hb hK.1 hP (2 + x2.toNatClampNeg) 2 (gp_at (X := [(A_t, .inr (2, [.ref A_t_least, .ref A_t_table])), (A_t_table, .inl (cy 4, 10, .inr (.inr (.inr (.inr (gx R_t_table 10))))))]) (vp_lt (n := 10) (by assumption))) rfl h.1 dX2_isFirstOfGroup_14 ?_
        replace h := h.2
        refine lv_aload_n hx hb dX2_isFirstOfGroup_15 rfl (lv_at hl 0 rfl) ?_
        refine va_get (D := D) (ci := 2) (v := .ref A_t_table) (C := RX2) (T := TX2) (N := 2) hx hb hts iX2 hown hK.1 hP 0 rfl rfl 1 (by decide) f0 (fun _ h9 => h9) rfl dX2_isFirstOfGroup_16 ?_
        refine lv_iload_n hx hb dX2_isFirstOfGroup_19 rfl (lv_at hl 1 rfl) ?_
        refine mx_alda hx hb hK.1 hP 1 4 rfl rfl h.1 dX2_isFirstOfGroup_20 ?_
        have hv2 := h.1
        replace h := h.2
        refine lv_iload_n hx hb dX2_isFirstOfGroup_21 rfl (lv_at hl 2 rfl) ?_
        refine va_lald hx hb hK.1 hP (2 + x1.toNatClampNeg) 2 (gp_at (X := [(A_t, .inr (2, [.ref A_t_least, .ref A_t_table])), (A_t_table, .inl (cy 4, 10, .inr (.inr (.inr (.inr (gx R_t_table 10))))))]) (vp_lt (n := 10) (by assumption))) rfl h.1 dX2_isFirstOfGroup_22 ?_
        replace h := h.2
        refine vp_callSi (va_Run.run (va_runSN (As := [.long (t_table x2.toNatClampNeg x1.toNatClampNeg), .long (t_table x1.toNatClampNeg x2.toNatClampNeg)]) (rest := []) CF (c_X7_sumToNothing l (t_table x2.toNatClampNeg x1.toNatClampNeg) (t_table x1.toNatClampNeg x2.toNatClampNeg) _ h) ⟨va_cnB 2 hts gX2_isFirstOfGroup_X7_sumToNothing_n56 rfl rfl rfl (hK.nest (w := .methodLinkNest RX2 56 yX7_sumToNothing RX7) (List.mem_of_getElem? (i := 11) rfl)) f1 qX7_sumToNothing.2 ⟨Nat.le_of_ble_eq_true rfl, Nat.le_of_ble_eq_true rfl⟩, f2, trivial⟩ mpSN rfl rfl hl.1 rfl (lv_room (Nat.le_of_ble_eq_true rfl)) dX2_isFirstOfGroup_23 ⟨Nat.zero_le _, Nat.zero_le _⟩)) (fun r3 h => ?_)
        refine lv_if_eq (tgt := 31) hx hb dX2_isFirstOfGroup_26 (by decide) (fun hc => ?_) (fun hc => ?_)
        · replace h := h.1 hc
          refine lv_iinc (v := x2 + (1 : Int32)) (lv' := [(2, .int (x2 + (1 : Int32))), (0, .ref A_t), (1, .int x1)]) hx hb dX2_isFirstOfGroup_31 hl (k := 2) rfl rfl (by decide) rfl (fun ls hl => ?_)
          refine lv_goto (tgt := 2) hx hb dX2_isFirstOfGroup_34 (by decide) ?_
          exact ih2 (x2 + (1 : Int32)) ls h (lv_sub hl [1, 2, 0] rfl)
        · replace h := h.2 hc
          refine lv_iconst (v := 0) hx hb dX2_isFirstOfGroup_29 (by decide) ?_
          subst hQ
          exact W.zret (v := (0 : Int32)) hx hb hr bz0 (fun t ht _ => ⟨(0 : Int32), rfl, h, ht⟩) (fun _ hq => absurd hq List.not_mem_nil) dX2_isFirstOfGroup_30
  unfold P_X2_isFirstOfGroup at h
  refine lv_iconst (v := 0) hx hb dX2_isFirstOfGroup_0 (by decide) ?_
  refine lv_istore_n (lv' := [(2, .int (0 : Int32)), (0, .ref A_t), (1, .int x1)]) hx hb dX2_isFirstOfGroup_1 rfl hl (by decide) rfl (fun ls hl => ?_)
  obtain ⟨nn, h⟩ := h
  exact L2 nn (0 : Int32) ls h (lv_sub hl [1, 2, 0] rfl)
theorem qX2_groups : yX2_groups.cls = RX2 ∧ yX2_groups.cls ≠ "java/lang/invoke/MethodHandle" ∧ yX2_groups.cls ≠ "java/lang/invoke/VarHandle" ∧ (parseMethodDescriptor yX2_groups.desc).map (fun d => d.parameters.length) = some 1 := by decide +kernel
def B_X2_groups_61 (K_44 : Int32 → Int32 → Prop) (x2 : Int32) (x3 : Int32) : Prop :=
  K_44 x2 (x3 + (1 : Int32))
def LB_X2_groups_44 (post : Int32 → (Nat → Int64) → (Nat → Nat → Int64) → Prop) (t_least : Nat → Int64) (t_table : Nat → Nat → Int64) (K_44 : Int32 → Int32 → Prop) (x2 : Int32) (x3 : Int32) : Prop :=
  (((10 : Int32) ≤ x3 → post x2 t_least t_table) ∧ (¬ (10 : Int32) ≤ x3 → P_X2_isFirstOfGroup (fun (r1 : Int32) => ((r1 = 0 → B_X2_groups_61 K_44 x2 x3) ∧ (¬ r1 = 0 → B_X2_groups_61 K_44 (x2 + (1 : Int32)) x3))) t_table x3))
noncomputable def L_X2_groups_44 (post : Int32 → (Nat → Int64) → (Nat → Nat → Int64) → Prop) (t_least : Nat → Int64) (t_table : Nat → Nat → Int64) (n : Nat) : Int32 → Int32 → Prop := Nat.rec (motive := fun _ => Int32 → Int32 → Prop) (fun _ _ => False) (fun _ K => LB_X2_groups_44 post t_least t_table K) n
def LB_X2_groups_2 (post : Int32 → (Nat → Int64) → (Nat → Nat → Int64) → Prop) (s_size : Int32) (s_wholeness : Int32) (s_lower : Nat → Int32) (s_limits : Nat → Int32) (s_stricts : Nat → Int32) (s_upper : Nat → Int32) (K_2 : (Nat → Int64) → (Nat → Nat → Int64) → Int32 → Prop) (t_least : Nat → Int64) (t_table : Nat → Nat → Int64) (x2 : Int32) : Prop :=
  (((10 : Int32) ≤ x2 → ∃ n : Nat, L_X2_groups_44 post t_least t_table n (0 : Int32) (0 : Int32)) ∧ (¬ (10 : Int32) ≤ x2 → P_X2_between (fun (r2 : Int64) (t_least_v2 : Nat → Int64) => (vp_in x2 10 ∧ K_2 t_least_v2 (va_up t_table x2.toNatClampNeg (va_cpy t_least_v2 (t_table x2.toNatClampNeg) (0 : Int32).toNatClampNeg (0 : Int32).toNatClampNeg (10 : Int32).toNatClampNeg)) (x2 + (1 : Int32)))) t_least s_size s_wholeness s_lower s_limits s_stricts s_upper x2 x2 (-1 : Int32)))
noncomputable def L_X2_groups_2 (post : Int32 → (Nat → Int64) → (Nat → Nat → Int64) → Prop) (s_size : Int32) (s_wholeness : Int32) (s_lower : Nat → Int32) (s_limits : Nat → Int32) (s_stricts : Nat → Int32) (s_upper : Nat → Int32) (n : Nat) : (Nat → Int64) → (Nat → Nat → Int64) → Int32 → Prop := Nat.rec (motive := fun _ => (Nat → Int64) → (Nat → Nat → Int64) → Int32 → Prop) (fun _ _ _ => False) (fun _ K => LB_X2_groups_2 post s_size s_wholeness s_lower s_limits s_stricts s_upper K) n
def P_X2_groups (post : Int32 → (Nat → Int64) → (Nat → Nat → Int64) → Prop) (t_least : Nat → Int64) (s_size : Int32) (s_wholeness : Int32) (s_lower : Nat → Int32) (s_limits : Nat → Int32) (s_stricts : Nat → Int32) (s_upper : Nat → Int32) (t_table : Nat → Nat → Int64) : Prop :=
  ∃ n : Nat, L_X2_groups_2 post s_size s_wholeness s_lower s_limits s_stricts s_upper n t_least t_table (0 : Int32)
set_option maxHeartbeats 4000000 in
set_option maxRecDepth 100000 in
theorem c_X2_groups (l : Launch) (D : va_G) (cy : Nat → ClassId) (sz : Nat) (A_t A_t_least A_t_table A_s A_s_upper A_s_lower A_s_limits A_s_stricts A_s_marks : Nat) (R_t_table : Nat → Nat) (t_least : Nat → Int64) (s_size : Int32) (s_marked : Int32) (s_wholeness : Int32) (s_lower : Nat → Int32) (s_limits : Nat → Int32) (s_stricts : Nat → Int32) (s_upper : Nat → Int32) (t_table : Nat → Nat → Int64) (post : Int32 → (Nat → Int64) → (Nat → Nat → Int64) → Prop) (h : P_X2_groups post t_least s_size s_wholeness s_lower s_limits s_stricts s_upper t_table) : Met l yX2_groups wsX2_groups { frames := 3, cells := 0, slots := 0, locals := 77 } (pcW D cy ([(A_t, .inr (2, [.ref A_t_least, .ref A_t_table])), (A_t_least, .inl (cy 2, 10, .inr (.inl t_least))), (A_s, .inr (5, [.ref A_s_upper, .ref A_s_lower, .ref A_s_limits, .ref A_s_stricts, .ref A_s_marks, .int s_size, .int s_marked, .int s_wholeness])), (A_s_lower, .inl (cy 1, 24, .inl s_lower)), (A_s_limits, .inl (cy 1, 24, .inl s_limits)), (A_s_stricts, .inl (cy 1, 24, .inl s_stricts)), (A_s_upper, .inl (cy 1, 24, .inl s_upper)), (A_t_table, .inl (cy 4, 10, .inr (.inr (.inr (.inr (gx R_t_table 10))))))] ++ gp R_t_table t_table 10 (cy 2) 10) sz [.ref A_t, .ref A_s]) (va_Qi (fun r (u : (Nat → Int64) × (Nat → Nat → Int64)) => post r u.1 u.2) (bW D ([(A_t, .inr (2, [.ref A_t_least, .ref A_t_table])), (A_t_least, .inl (cy 2, 10, .inr (.inl t_least))), (A_s, .inr (5, [.ref A_s_upper, .ref A_s_lower, .ref A_s_limits, .ref A_s_stricts, .ref A_s_marks, .int s_size, .int s_marked, .int s_wholeness])), (A_s_lower, .inl (cy 1, 24, .inl s_lower)), (A_s_limits, .inl (cy 1, 24, .inl s_limits)), (A_s_stricts, .inl (cy 1, 24, .inl s_stricts)), (A_s_upper, .inl (cy 1, 24, .inl s_upper)), (A_t_table, .inl (cy 4, 10, .inr (.inr (.inr (.inr (gx R_t_table 10))))))] ++ gp R_t_table t_table 10 (cy 2) 10) sz (fun u => ([(A_t, .inr (2, [.ref A_t_least, .ref A_t_table])), (A_t_least, .inl (cy 2, 10, .inr (.inl u.1))), (A_s, .inr (5, [.ref A_s_upper, .ref A_s_lower, .ref A_s_limits, .ref A_s_stricts, .ref A_s_marks, .int s_size, .int s_marked, .int s_wholeness])), (A_s_lower, .inl (cy 1, 24, .inl s_lower)), (A_s_limits, .inl (cy 1, 24, .inl s_limits)), (A_s_stricts, .inl (cy 1, 24, .inl s_stricts)), (A_s_upper, .inl (cy 1, 24, .inl s_upper)), (A_t_table, .inl (cy 4, 10, .inr (.inr (.inr (.inr (gx R_t_table 10))))))] ++ gp R_t_table u.2 10 (cy 2) 10))) (va_A ([(A_t, .inr (2, [.ref A_t_least, .ref A_t_table])), (A_t_least, .inl (cy 2, 10, .inr (.inl t_least))), (A_s, .inr (5, [.ref A_s_upper, .ref A_s_lower, .ref A_s_limits, .ref A_s_stricts, .ref A_s_marks, .int s_size, .int s_marked, .int s_wholeness])), (A_s_lower, .inl (cy 1, 24, .inl s_lower)), (A_s_limits, .inl (cy 1, 24, .inl s_limits)), (A_s_stricts, .inl (cy 1, 24, .inl s_stricts)), (A_s_upper, .inl (cy 1, 24, .inl s_upper)), (A_t_table, .inl (cy 4, 10, .inr (.inr (.inr (.inr (gx R_t_table 10))))))] ++ gp R_t_table t_table 10 (cy 2) 10) sz)) 0 0 (va_A ([(A_t, .inr (2, [.ref A_t_least, .ref A_t_table])), (A_t_least, .inl (cy 2, 10, .inr (.inl t_least))), (A_s, .inr (5, [.ref A_s_upper, .ref A_s_lower, .ref A_s_limits, .ref A_s_stricts, .ref A_s_marks, .int s_size, .int s_marked, .int s_wholeness])), (A_s_lower, .inl (cy 1, 24, .inl s_lower)), (A_s_limits, .inl (cy 1, 24, .inl s_limits)), (A_s_stricts, .inl (cy 1, 24, .inl s_stricts)), (A_s_upper, .inl (cy 1, 24, .inl s_upper)), (A_t_table, .inl (cy 4, 10, .inr (.inr (.inr (.inr (gx R_t_table 10))))))] ++ gp R_t_table t_table 10 (cy 2) 10) sz) := by
  refine Met.ofW (cc := cX2_groups) (maxL := 4) (ret := (some .int)) (by decide) rfl ?_
  intro p e s m args below meth c s₁ B hml hv
  obtain ⟨rfl, hsz, hP, hK, hD0⟩ := hv
  have hx := B.exec
  have hb := B.bytes
  have hr := B.returns
  have hts := atoms_spec (ws := wsX2_groups) B.pre
  have hown : s.vm.findClass RX2 = some m.cls := findClass_of_methodNamed B.named
  have hlocks := B.notSynchronized
  have CF : CallFix p m c cX2_groups 4 s ([.ref A_t, .ref A_s] : List Value).toArray wsX2_groups RX2 := ⟨hx, hb, hml, hown, hts⟩
  have f0 := hts (.fieldLink RX2 9 "GapBounds$Rows" "least" "[J") (by decide +kernel)
  have f1 := hts (.fieldLink RX2 17 "GapBounds$Rows" "table" "[[J") (by decide +kernel)
  have f2 := hts (.methodLink RX2 46 arraycopyName) (by decide +kernel)
  have f3 := hts (.native arraycopyName) (by decide +kernel)
  have f4 := hts (.static arraycopyName) (by decide +kernel)
  have f5 := hts (.initialized "java/lang/System") (by decide +kernel)
  have iX2 : ∀ w ∈ u_ws RX2 TX2 2, w ∈ wsX2_groups := by decide +kernel
  subst hsz
  obtain ⟨A, hAe⟩ : ∃ A, A = va_A ([(A_t, .inr (2, [.ref A_t_least, .ref A_t_table])), (A_t_least, .inl (cy 2, 10, .inr (.inl t_least))), (A_s, .inr (5, [.ref A_s_upper, .ref A_s_lower, .ref A_s_limits, .ref A_s_stricts, .ref A_s_marks, .int s_size, .int s_marked, .int s_wholeness])), (A_s_lower, .inl (cy 1, 24, .inl s_lower)), (A_s_limits, .inl (cy 1, 24, .inl s_limits)), (A_s_stricts, .inl (cy 1, 24, .inl s_stricts)), (A_s_upper, .inl (cy 1, 24, .inl s_upper)), (A_t_table, .inl (cy 4, 10, .inr (.inr (.inr (.inr (gx R_t_table 10))))))] ++ gp R_t_table t_table 10 (cy 2) 10) s.heap.size := ⟨_, rfl⟩
  have hD : va_D A ([(A_t, .inr (2, [.ref A_t_least, .ref A_t_table])), (A_t_least, .inl (cy 2, 10, .inr (.inl t_least))), (A_s, .inr (5, [.ref A_s_upper, .ref A_s_lower, .ref A_s_limits, .ref A_s_stricts, .ref A_s_marks, .int s_size, .int s_marked, .int s_wholeness])), (A_s_lower, .inl (cy 1, 24, .inl s_lower)), (A_s_limits, .inl (cy 1, 24, .inl s_limits)), (A_s_stricts, .inl (cy 1, 24, .inl s_stricts)), (A_s_upper, .inl (cy 1, 24, .inl s_upper)), (A_t_table, .inl (cy 4, 10, .inr (.inr (.inr (.inr (gx R_t_table 10))))))] ++ gp R_t_table t_table 10 (cy 2) 10) := by rw [hAe]; exact hD0.self
  have hA : ∀ q : Nat, s.heap.size ≤ q → A q := fun q hq => by rw [hAe]; exact Or.inr hq
  have hS : va_S A s.heap s.heap [] := va_S.rf
  have hl := lv_entry [.ref A_t, .ref A_s] (n := 4) (Nat.le_of_ble_eq_true rfl)
  rw [lg_entry_eq]
  generalize (lg_sl [.ref A_t, .ref A_s] ++ List.replicate (4 - (lg_sl [.ref A_t, .ref A_s]).length) Slot.unset).toArray = ls at hl ⊢
  have hl : lv_has ls 4 [(0, .ref A_t), (1, .ref A_s)] := hl
  refine W.gen (fun Q0 hQ => ?_)
  have L44 : ∀ (n44 : Nat) (t_least : Nat → Int64) (t_table : Nat → Nat → Int64) (x2 : Int32) (x3 : Int32) (H : Heap) (locs : List Loc) (ls : Array Slot), L_X2_groups_44 post t_least t_table n44 x2 x3 → va_P D vwCl ([(A_t, .inr (2, [.ref A_t_least, .ref A_t_table])), (A_t_least, .inl (cy 2, 10, .inr (.inl t_least))), (A_s, .inr (5, [.ref A_s_upper, .ref A_s_lower, .ref A_s_limits, .ref A_s_stricts, .ref A_s_marks, .int s_size, .int s_marked, .int s_wholeness])), (A_s_lower, .inl (cy 1, 24, .inl s_lower)), (A_s_limits, .inl (cy 1, 24, .inl s_limits)), (A_s_stricts, .inl (cy 1, 24, .inl s_stricts)), (A_s_upper, .inl (cy 1, 24, .inl s_upper)), (A_t_table, .inl (cy 4, 10, .inr (.inr (.inr (.inr (gx R_t_table 10))))))] ++ gp R_t_table t_table 10 (cy 2) 10) H → va_D A ([(A_t, .inr (2, [.ref A_t_least, .ref A_t_table])), (A_t_least, .inl (cy 2, 10, .inr (.inl t_least))), (A_s, .inr (5, [.ref A_s_upper, .ref A_s_lower, .ref A_s_limits, .ref A_s_stricts, .ref A_s_marks, .int s_size, .int s_marked, .int s_wholeness])), (A_s_lower, .inl (cy 1, 24, .inl s_lower)), (A_s_limits, .inl (cy 1, 24, .inl s_limits)), (A_s_stricts, .inl (cy 1, 24, .inl s_stricts)), (A_s_upper, .inl (cy 1, 24, .inl s_upper)), (A_t_table, .inl (cy 4, 10, .inr (.inr (.inr (.inr (gx R_t_table 10))))))] ++ gp R_t_table t_table 10 (cy 2) 10) → va_S A s.heap H locs → lv_has ls 4 [(0, .ref A_t), (2, .int x2), (3, .int x3)] → W p l e (headSpec wsX2_groups { frames := 3, cells := 0, slots := 0, locals := 77 }).room s m ([.ref A_t, .ref A_s] : List Value).toArray below meth c H locs 0 0 Q0 (F0 m 44 ls []) := by
    intro n44
    induction n44 with
    | zero => intro t_least t_table x2 x3 H locs ls h; exact False.elim h
    | succ n44 ih44 =>
      intro t_least t_table x2 x3 H locs ls h hP hD hS hl
      have h : LB_X2_groups_44 post t_least t_table (L_X2_groups_44 post t_least t_table n44) x2 x3 := h
      unfold LB_X2_groups_44 at h
      have J61 : ∀ (t_least : Nat → Int64) (t_table : Nat → Nat → Int64) (x2 : Int32) (x3 : Int32) (H : Heap) (locs : List Loc) (ls : Array Slot), B_X2_groups_61 (L_X2_groups_44 post t_least t_table n44) x2 x3 → va_P D vwCl ([(A_t, .inr (2, [.ref A_t_least, .ref A_t_table])), (A_t_least, .inl (cy 2, 10, .inr (.inl t_least))), (A_s, .inr (5, [.ref A_s_upper, .ref A_s_lower, .ref A_s_limits, .ref A_s_stricts, .ref A_s_marks, .int s_size, .int s_marked, .int s_wholeness])), (A_s_lower, .inl (cy 1, 24, .inl s_lower)), (A_s_limits, .inl (cy 1, 24, .inl s_limits)), (A_s_stricts, .inl (cy 1, 24, .inl s_stricts)), (A_s_upper, .inl (cy 1, 24, .inl s_upper)), (A_t_table, .inl (cy 4, 10, .inr (.inr (.inr (.inr (gx R_t_table 10))))))] ++ gp R_t_table t_table 10 (cy 2) 10) H → va_D A ([(A_t, .inr (2, [.ref A_t_least, .ref A_t_table])), (A_t_least, .inl (cy 2, 10, .inr (.inl t_least))), (A_s, .inr (5, [.ref A_s_upper, .ref A_s_lower, .ref A_s_limits, .ref A_s_stricts, .ref A_s_marks, .int s_size, .int s_marked, .int s_wholeness])), (A_s_lower, .inl (cy 1, 24, .inl s_lower)), (A_s_limits, .inl (cy 1, 24, .inl s_limits)), (A_s_stricts, .inl (cy 1, 24, .inl s_stricts)), (A_s_upper, .inl (cy 1, 24, .inl s_upper)), (A_t_table, .inl (cy 4, 10, .inr (.inr (.inr (.inr (gx R_t_table 10))))))] ++ gp R_t_table t_table 10 (cy 2) 10) → va_S A s.heap H locs → lv_has ls 4 [(0, .ref A_t), (2, .int x2), (3, .int x3)] → W p l e (headSpec wsX2_groups { frames := 3, cells := 0, slots := 0, locals := 77 }).room s m ([.ref A_t, .ref A_s] : List Value).toArray below meth c H locs 0 0 Q0 (F0 m 61 ls []) := by
        intro t_least t_table x2 x3 H locs ls h hP hD hS hl
        unfold B_X2_groups_61 at h
        refine lv_iinc (v := x3 + (1 : Int32)) (lv' := [(3, .int (x3 + (1 : Int32))), (0, .ref A_t), (2, .int x2)]) hx hb dX2_groups_61 hl (k := 2) rfl rfl (by decide) rfl (fun ls hl => ?_)
        refine lv_goto (tgt := 44) hx hb dX2_groups_64 (by decide) ?_
        exact ih44 t_least t_table x2 (x3 + (1 : Int32)) H locs ls h hP hD hS (lv_sub hl [1, 2, 0] rfl)
      refine lv_iload_n hx hb dX2_groups_44 rfl (lv_at hl 2 rfl) ?_
      refine lv_bipush (v := 10) hx hb dX2_groups_45 (by decide) ?_
      refine lv_icmp_ge (tgt := 67) hx hb dX2_groups_47 (by decide) (fun hc => ?_) (fun hc => ?_)
      · replace h := h.1 hc
        refine lv_iload_n hx hb dX2_groups_67 rfl (lv_at hl 1 rfl) ?_
        subst hQ
        subst hAe
        exact W.iret (v := x2) hx hb hr (fun t ht _ => ⟨⟨x2, (t_least, t_table), rfl, h, by rw [ht]; exact hP, hD⟩, hS.F ht⟩) hS.2.2 dX2_groups_68
      · replace h := h.2 hc
        refine lv_aload_n hx hb dX2_groups_50 rfl (lv_at hl 0 rfl) ?_
        refine lv_iload_n hx hb dX2_groups_51 rfl (lv_at hl 2 rfl) ?_
        have hPc := gPs (X' := [(A_t, .inr (2, [.ref A_t_least, .ref A_t_table])), (A_t_table, .inl (cy 4, 10, .inr (.inr (.inr (.inr (gx R_t_table 10))))))]) hP [0, 7] rfl
        refine vp_callSi (W.runV (As := [.int x3]) (rest := []) CF (c_X2_isFirstOfGroup l D cy A_t A_t_least A_t_table R_t_table t_table x3 _ h) (cwV 1 hts gX2_groups_X2_isFirstOfGroup rfl rfl rfl qX2_isFirstOfGroup ⟨Nat.le_of_ble_eq_true rfl, Nat.le_of_ble_eq_true rfl⟩) (mpVR hK hPc (ci := 2) (q := (RX2, TX2, 2)) (q0 := 0) rfl rfl) rfl rfl hl.1 rfl (lv_room (Nat.le_of_ble_eq_true rfl)) dX2_groups_52 ⟨Nat.zero_le _, Nat.zero_le _⟩) (fun r1 h => ?_)
        refine lv_if_eq (tgt := 61) hx hb dX2_groups_55 (by decide) (fun hc => ?_) (fun hc => ?_)
        · replace h := h.1 hc
          exact J61 t_least t_table x2 x3 H locs ls h hP hD hS (lv_sub hl [0, 1, 2] rfl)
        · replace h := h.2 hc
          refine lv_iinc (v := x2 + (1 : Int32)) (lv' := [(2, .int (x2 + (1 : Int32))), (0, .ref A_t), (3, .int x3)]) hx hb dX2_groups_58 hl (k := 1) rfl rfl (by decide) rfl (fun ls hl => ?_)
          exact J61 t_least t_table (x2 + (1 : Int32)) x3 H locs ls h hP hD hS (lv_sub hl [1, 0, 2] rfl)
  have L2 : ∀ (n2 : Nat) (t_least : Nat → Int64) (t_table : Nat → Nat → Int64) (x2 : Int32) (H : Heap) (locs : List Loc) (ls : Array Slot), L_X2_groups_2 post s_size s_wholeness s_lower s_limits s_stricts s_upper n2 t_least t_table x2 → va_P D vwCl ([(A_t, .inr (2, [.ref A_t_least, .ref A_t_table])), (A_t_least, .inl (cy 2, 10, .inr (.inl t_least))), (A_s, .inr (5, [.ref A_s_upper, .ref A_s_lower, .ref A_s_limits, .ref A_s_stricts, .ref A_s_marks, .int s_size, .int s_marked, .int s_wholeness])), (A_s_lower, .inl (cy 1, 24, .inl s_lower)), (A_s_limits, .inl (cy 1, 24, .inl s_limits)), (A_s_stricts, .inl (cy 1, 24, .inl s_stricts)), (A_s_upper, .inl (cy 1, 24, .inl s_upper)), (A_t_table, .inl (cy 4, 10, .inr (.inr (.inr (.inr (gx R_t_table 10))))))] ++ gp R_t_table t_table 10 (cy 2) 10) H → va_D A ([(A_t, .inr (2, [.ref A_t_least, .ref A_t_table])), (A_t_least, .inl (cy 2, 10, .inr (.inl t_least))), (A_s, .inr (5, [.ref A_s_upper, .ref A_s_lower, .ref A_s_limits, .ref A_s_stricts, .ref A_s_marks, .int s_size, .int s_marked, .int s_wholeness])), (A_s_lower, .inl (cy 1, 24, .inl s_lower)), (A_s_limits, .inl (cy 1, 24, .inl s_limits)), (A_s_stricts, .inl (cy 1, 24, .inl s_stricts)), (A_s_upper, .inl (cy 1, 24, .inl s_upper)), (A_t_table, .inl (cy 4, 10, .inr (.inr (.inr (.inr (gx R_t_table 10))))))] ++ gp R_t_table t_table 10 (cy 2) 10) → va_S A s.heap H locs → lv_has ls 4 [(0, .ref A_t), (1, .ref A_s), (2, .int x2)] → W p l e (headSpec wsX2_groups { frames := 3, cells := 0, slots := 0, locals := 77 }).room s m ([.ref A_t, .ref A_s] : List Value).toArray below meth c H locs 0 0 Q0 (F0 m 2 ls []) := by
    intro n2
    induction n2 with
    | zero => intro t_least t_table x2 H locs ls h; exact False.elim h
    | succ n2 ih2 =>
      intro t_least t_table x2 H locs ls h hP hD hS hl
      have h : LB_X2_groups_2 post s_size s_wholeness s_lower s_limits s_stricts s_upper (L_X2_groups_2 post s_size s_wholeness s_lower s_limits s_stricts s_upper n2) t_least t_table x2 := h
      unfold LB_X2_groups_2 at h
      refine lv_iload_n hx hb dX2_groups_2 rfl (lv_at hl 2 rfl) ?_
      refine lv_bipush (v := 10) hx hb dX2_groups_3 (by decide) ?_
      refine lv_icmp_ge (tgt := 40) hx hb dX2_groups_5 (by decide) (fun hc => ?_) (fun hc => ?_)
      · replace h := h.1 hc
        refine lv_iconst (v := 0) hx hb dX2_groups_40 (by decide) ?_
        refine lv_istore_n (lv' := [(2, .int (0 : Int32)), (0, .ref A_t), (1, .ref A_s)]) hx hb dX2_groups_41 rfl hl (by decide) rfl (fun ls hl => ?_)
        refine lv_iconst (v := 0) hx hb dX2_groups_42 (by decide) ?_
        refine lv_istore_n (lv' := [(3, .int (0 : Int32)), (2, .int (0 : Int32)), (0, .ref A_t), (1, .ref A_s)]) hx hb dX2_groups_43 rfl hl (by decide) rfl (fun ls hl => ?_)
        obtain ⟨nn, h⟩ := h
        exact L44 nn t_least t_table (0 : Int32) (0 : Int32) H locs ls h hP hD hS (lv_sub hl [2, 1, 0] rfl)
      · replace h := h.2 hc
        refine lv_aload_n hx hb dX2_groups_8 rfl (lv_at hl 0 rfl) ?_
        refine lv_aload_n hx hb dX2_groups_9 rfl (lv_at hl 1 rfl) ?_
        refine lv_iload_n hx hb dX2_groups_10 rfl (lv_at hl 2 rfl) ?_
        refine lv_iload_n hx hb dX2_groups_11 rfl (lv_at hl 2 rfl) ?_
        refine lv_iconst (v := -1) hx hb dX2_groups_12 (by decide) ?_
        have hPn := gPw (a := [(A_t_table, .inl (cy 4, 10, .inr (.inr (.inr (.inr (gx R_t_table 10))))))]) (b := [(A_t, .inr (2, [.ref A_t_least, .ref A_t_table])), (A_t_least, .inl (cy 2, 10, .inr (.inl t_least))), (A_s, .inr (5, [.ref A_s_upper, .ref A_s_lower, .ref A_s_limits, .ref A_s_stricts, .ref A_s_marks, .int s_size, .int s_marked, .int s_wholeness])), (A_s_lower, .inl (cy 1, 24, .inl s_lower)), (A_s_limits, .inl (cy 1, 24, .inl s_limits)), (A_s_stricts, .inl (cy 1, 24, .inl s_stricts)), (A_s_upper, .inl (cy 1, 24, .inl s_upper))]) (gPs hP [7, 0, 1, 2, 3, 4, 5, 6] rfl)
        have hDn := gDw (a := [(A_t_table, .inl (cy 4, 10, .inr (.inr (.inr (.inr (gx R_t_table 10))))))]) (b := [(A_t, .inr (2, [.ref A_t_least, .ref A_t_table])), (A_t_least, .inl (cy 2, 10, .inr (.inl t_least))), (A_s, .inr (5, [.ref A_s_upper, .ref A_s_lower, .ref A_s_limits, .ref A_s_stricts, .ref A_s_marks, .int s_size, .int s_marked, .int s_wholeness])), (A_s_lower, .inl (cy 1, 24, .inl s_lower)), (A_s_limits, .inl (cy 1, 24, .inl s_limits)), (A_s_stricts, .inl (cy 1, 24, .inl s_stricts)), (A_s_upper, .inl (cy 1, 24, .inl s_upper))]) (gDs hD [7, 0, 1, 2, 3, 4, 5, 6] (by decide) rfl)
        have hPc := gPR hPn
        have hDc := gDR hDn
        refine mw_l (va_runV (As := [.ref A_s, .int x2, .int x2, .int (-1 : Int32)]) (rest := []) CF (c_X2_between l D cy H.size A_t A_t_least A_t_table A_s A_s_upper A_s_lower A_s_limits A_s_stricts A_s_marks t_least s_size s_marked s_wholeness s_lower s_limits s_stricts s_upper x2 x2 (-1 : Int32) _ h) (cwV 4 hts gX2_groups_X2_between rfl rfl rfl qX2_between ⟨Nat.le_of_ble_eq_true rfl, Nat.le_of_ble_eq_true rfl⟩) (mpVW hK hPc hDc (ci := 2) (q := (RX2, TX2, 2)) (q0 := 0) rfl rfl) rfl rfl hl.1 rfl (lv_room (Nat.le_of_ble_eq_true rfl)) dX2_groups_13 ⟨Nat.zero_le _, Nat.zero_le _⟩) hPn hDn hS hA (fun r2 t_least_v2 H locs h hP hD hS => ?_)
        have hP : va_P D vwCl ([(A_t, .inr (2, [.ref A_t_least, .ref A_t_table])), (A_t_least, .inl (cy 2, 10, .inr (.inl t_least_v2))), (A_s, .inr (5, [.ref A_s_upper, .ref A_s_lower, .ref A_s_limits, .ref A_s_stricts, .ref A_s_marks, .int s_size, .int s_marked, .int s_wholeness])), (A_s_lower, .inl (cy 1, 24, .inl s_lower)), (A_s_limits, .inl (cy 1, 24, .inl s_limits)), (A_s_stricts, .inl (cy 1, 24, .inl s_stricts)), (A_s_upper, .inl (cy 1, 24, .inl s_upper)), (A_t_table, .inl (cy 4, 10, .inr (.inr (.inr (.inr (gx R_t_table 10))))))] ++ gp R_t_table t_table 10 (cy 2) 10) H := gPs (gPw (b := gp R_t_table t_table 10 (cy 2) 10) (c := [(A_t, .inr (2, [.ref A_t_least, .ref A_t_table])), (A_t_least, .inl (cy 2, 10, .inr (.inl t_least_v2))), (A_s, .inr (5, [.ref A_s_upper, .ref A_s_lower, .ref A_s_limits, .ref A_s_stricts, .ref A_s_marks, .int s_size, .int s_marked, .int s_wholeness])), (A_s_lower, .inl (cy 1, 24, .inl s_lower)), (A_s_limits, .inl (cy 1, 24, .inl s_limits)), (A_s_stricts, .inl (cy 1, 24, .inl s_stricts)), (A_s_upper, .inl (cy 1, 24, .inl s_upper))]) hP) [1, 2, 3, 4, 5, 6, 7, 0] rfl
        have hD : va_D A ([(A_t, .inr (2, [.ref A_t_least, .ref A_t_table])), (A_t_least, .inl (cy 2, 10, .inr (.inl t_least_v2))), (A_s, .inr (5, [.ref A_s_upper, .ref A_s_lower, .ref A_s_limits, .ref A_s_stricts, .ref A_s_marks, .int s_size, .int s_marked, .int s_wholeness])), (A_s_lower, .inl (cy 1, 24, .inl s_lower)), (A_s_limits, .inl (cy 1, 24, .inl s_limits)), (A_s_stricts, .inl (cy 1, 24, .inl s_stricts)), (A_s_upper, .inl (cy 1, 24, .inl s_upper)), (A_t_table, .inl (cy 4, 10, .inr (.inr (.inr (.inr (gx R_t_table 10))))))] ++ gp R_t_table t_table 10 (cy 2) 10) := gDs (gDw (b := gp R_t_table t_table 10 (cy 2) 10) (c := [(A_t, .inr (2, [.ref A_t_least, .ref A_t_table])), (A_t_least, .inl (cy 2, 10, .inr (.inl t_least_v2))), (A_s, .inr (5, [.ref A_s_upper, .ref A_s_lower, .ref A_s_limits, .ref A_s_stricts, .ref A_s_marks, .int s_size, .int s_marked, .int s_wholeness])), (A_s_lower, .inl (cy 1, 24, .inl s_lower)), (A_s_limits, .inl (cy 1, 24, .inl s_limits)), (A_s_stricts, .inl (cy 1, 24, .inl s_stricts)), (A_s_upper, .inl (cy 1, 24, .inl s_upper))]) hD) [1, 2, 3, 4, 5, 6, 7, 0] (by decide) rfl
        refine lv_pop2_2 hx hb dX2_groups_16 rfl ?_
        refine lv_aload_n hx hb dX2_groups_17 rfl (lv_at hl 0 rfl) ?_
        refine va_get (D := D) (ci := 2) (v := .ref A_t_least) (C := RX2) (T := TX2) (N := 2) hx hb hts iX2 hown hK.1 hP 0 rfl rfl 0 (by decide) f0 (fun _ h9 => h9) rfl dX2_groups_18 ?_
        refine lv_iconst (v := 0) hx hb dX2_groups_21 (by decide) ?_
        refine lv_aload_n hx hb dX2_groups_22 rfl (lv_at hl 0 rfl) ?_
        refine va_get (D := D) (ci := 2) (v := .ref A_t_table) (C := RX2) (T := TX2) (N := 2) hx hb hts iX2 hown hK.1 hP 0 rfl rfl 1 (by decide) f1 (fun _ h9 => h9) rfl dX2_groups_23 ?_
        refine lv_iload_n hx hb dX2_groups_26 rfl (lv_at hl 2 rfl) ?_
        refine mx_alda hx hb hK.1 hP 7 4 rfl rfl h.1 dX2_groups_27 ?_
        have hv3 := h.1
        replace h := h.2
        refine lv_iconst (v := 0) hx hb dX2_groups_28 (by decide) ?_
        refine lv_bipush (v := 10) hx hb dX2_groups_29 (by decide) ?_
        refine va_copyl hx hb (hml.trans hl.1.symm) hown f2 f3 f4 f5 hK.1 hP hD hS 1 (8 + x2.toNatClampNeg) 2 2 rfl (gp_at (X := [(A_t, .inr (2, [.ref A_t_least, .ref A_t_table])), (A_t_least, .inl (cy 2, 10, .inr (.inl t_least_v2))), (A_s, .inr (5, [.ref A_s_upper, .ref A_s_lower, .ref A_s_limits, .ref A_s_stricts, .ref A_s_marks, .int s_size, .int s_marked, .int s_wholeness])), (A_s_lower, .inl (cy 1, 24, .inl s_lower)), (A_s_limits, .inl (cy 1, 24, .inl s_limits)), (A_s_stricts, .inl (cy 1, 24, .inl s_stricts)), (A_s_upper, .inl (cy 1, 24, .inl s_upper)), (A_t_table, .inl (cy 4, 10, .inr (.inr (.inr (.inr (gx R_t_table 10))))))]) (vp_lt (n := 10) (by assumption))) rfl rfl rfl (by decide) (by decide) (by decide) (by decide) (by decide) (fun _ _ => rfl) (Nat.le_of_ble_eq_true rfl) (by decide +kernel) dX2_groups_31 (fun H locs hP hD hS => ?_)
        have hP := (gp_set (X := [(A_t, .inr (2, [.ref A_t_least, .ref A_t_table])), (A_t_least, .inl (cy 2, 10, .inr (.inl t_least_v2))), (A_s, .inr (5, [.ref A_s_upper, .ref A_s_lower, .ref A_s_limits, .ref A_s_stricts, .ref A_s_marks, .int s_size, .int s_marked, .int s_wholeness])), (A_s_lower, .inl (cy 1, 24, .inl s_lower)), (A_s_limits, .inl (cy 1, 24, .inl s_limits)), (A_s_stricts, .inl (cy 1, 24, .inl s_stricts)), (A_s_upper, .inl (cy 1, 24, .inl s_upper)), (A_t_table, .inl (cy 4, 10, .inr (.inr (.inr (.inr (gx R_t_table 10))))))]) (vp_lt (n := 10) (by assumption)) _).subst (motive := fun z => va_P D vwCl z H) hP
        have hD := (gp_set (X := [(A_t, .inr (2, [.ref A_t_least, .ref A_t_table])), (A_t_least, .inl (cy 2, 10, .inr (.inl t_least_v2))), (A_s, .inr (5, [.ref A_s_upper, .ref A_s_lower, .ref A_s_limits, .ref A_s_stricts, .ref A_s_marks, .int s_size, .int s_marked, .int s_wholeness])), (A_s_lower, .inl (cy 1, 24, .inl s_lower)), (A_s_limits, .inl (cy 1, 24, .inl s_limits)), (A_s_stricts, .inl (cy 1, 24, .inl s_stricts)), (A_s_upper, .inl (cy 1, 24, .inl s_upper)), (A_t_table, .inl (cy 4, 10, .inr (.inr (.inr (.inr (gx R_t_table 10))))))]) (vp_lt (n := 10) (by assumption)) _).subst (motive := fun z => va_D A z) hD
        have hP : va_P D vwCl ([(A_t, .inr (2, [.ref A_t_least, .ref A_t_table])), (A_t_least, .inl (cy 2, 10, .inr (.inl t_least_v2))), (A_s, .inr (5, [.ref A_s_upper, .ref A_s_lower, .ref A_s_limits, .ref A_s_stricts, .ref A_s_marks, .int s_size, .int s_marked, .int s_wholeness])), (A_s_lower, .inl (cy 1, 24, .inl s_lower)), (A_s_limits, .inl (cy 1, 24, .inl s_limits)), (A_s_stricts, .inl (cy 1, 24, .inl s_stricts)), (A_s_upper, .inl (cy 1, 24, .inl s_upper)), (A_t_table, .inl (cy 4, 10, .inr (.inr (.inr (.inr (gx R_t_table 10))))))] ++ gp R_t_table (va_up t_table x2.toNatClampNeg (va_cpy t_least_v2 (t_table x2.toNatClampNeg) (0 : Int32).toNatClampNeg (0 : Int32).toNatClampNeg (10 : Int32).toNatClampNeg)) 10 (cy 2) 10) H := hP
        have hD : va_D A ([(A_t, .inr (2, [.ref A_t_least, .ref A_t_table])), (A_t_least, .inl (cy 2, 10, .inr (.inl t_least_v2))), (A_s, .inr (5, [.ref A_s_upper, .ref A_s_lower, .ref A_s_limits, .ref A_s_stricts, .ref A_s_marks, .int s_size, .int s_marked, .int s_wholeness])), (A_s_lower, .inl (cy 1, 24, .inl s_lower)), (A_s_limits, .inl (cy 1, 24, .inl s_limits)), (A_s_stricts, .inl (cy 1, 24, .inl s_stricts)), (A_s_upper, .inl (cy 1, 24, .inl s_upper)), (A_t_table, .inl (cy 4, 10, .inr (.inr (.inr (.inr (gx R_t_table 10))))))] ++ gp R_t_table (va_up t_table x2.toNatClampNeg (va_cpy t_least_v2 (t_table x2.toNatClampNeg) (0 : Int32).toNatClampNeg (0 : Int32).toNatClampNeg (10 : Int32).toNatClampNeg)) 10 (cy 2) 10) := hD
        refine lv_iinc (v := x2 + (1 : Int32)) (lv' := [(2, .int (x2 + (1 : Int32))), (0, .ref A_t), (1, .ref A_s)]) hx hb dX2_groups_34 hl (k := 2) rfl rfl (by decide) rfl (fun ls hl => ?_)
        refine lv_goto (tgt := 2) hx hb dX2_groups_37 (by decide) ?_
        exact ih2 t_least_v2 (va_up t_table x2.toNatClampNeg (va_cpy t_least_v2 (t_table x2.toNatClampNeg) (0 : Int32).toNatClampNeg (0 : Int32).toNatClampNeg (10 : Int32).toNatClampNeg)) (x2 + (1 : Int32)) H locs ls h hP hD hS (lv_sub hl [1, 2, 0] rfl)
  unfold P_X2_groups at h
  refine lv_iconst (v := 0) hx hb dX2_groups_0 (by decide) ?_
  refine lv_istore_n (lv' := [(2, .int (0 : Int32)), (0, .ref A_t), (1, .ref A_s)]) hx hb dX2_groups_1 rfl hl (by decide) rfl (fun ls hl => ?_)
  obtain ⟨nn, h⟩ := h
  exact L2 nn t_least t_table (0 : Int32) s.heap [] ls h hP hD hS (lv_sub hl [1, 2, 0] rfl)
