theorem qJ9_floorDiv_f86c9 : yJ9_floorDiv_f86c9.cls = RJ9 ∧ yJ9_floorDiv_f86c9.cls ≠ "java/lang/invoke/MethodHandle" ∧ yJ9_floorDiv_f86c9.cls ≠ "java/lang/invoke/VarHandle" ∧ (parseMethodDescriptor yJ9_floorDiv_f86c9.desc).map (fun d => d.parameters.length) = some 2 := by decide +kernel
def P_J9_floorDiv_f86c9 (post : Int64 → Prop) (y0 : Int64) (y2 : Int64) : Prop :=
  (¬ y2 = 0 ∧ (((0 : Int64) ≤ y0 ^^^ y2 → post (y0 / y2)) ∧ (¬ (0 : Int64) ≤ y0 ^^^ y2 → (((y0 / y2) * y2 = y0 → post (y0 / y2)) ∧ (¬ (y0 / y2) * y2 = y0 → post ((y0 / y2) - (1 : Int64)))))))
set_option maxHeartbeats 4000000 in
set_option maxRecDepth 100000 in
theorem c_J9_floorDiv_f86c9 (l : Launch) (y0 : Int64) (y2 : Int64) (post : Int64 → Prop) (h : P_J9_floorDiv_f86c9 post y0 y2) : Met l yJ9_floorDiv_f86c9 wsJ9_floorDiv_f86c9 { frames := 0, cells := 0, slots := 0, locals := 0 } (pcN [.long y0, .long y2]) (vp_Sl post) 0 0 (fun _ => False) := by
  refine va_MetF (cc := cJ9_floorDiv_f86c9) (maxL := 6) (ret := (some .long)) (by decide +kernel) rfl ?_
  intro p e s m args below meth c s₁ B hml hv
  obtain ⟨rfl, -⟩ := hv
  have hx := B.exec
  have hb := B.bytes
  have hr := B.returns
  have hts := atoms_spec (ws := wsJ9_floorDiv_f86c9) B.pre
  have hown : s.vm.findClass RJ9 = some m.cls := findClass_of_methodNamed B.named
  have hlocks := B.notSynchronized
  have CF : CallFix p m c cJ9_floorDiv_f86c9 6 s ([.long y0, .long y2] : List Value).toArray wsJ9_floorDiv_f86c9 RJ9 := ⟨hx, hb, hml, hown, hts⟩
  have hl := lv_entry [.long y0, .long y2] (n := 6) (Nat.le_of_ble_eq_true rfl)
  rw [lg_entry_eq]
  generalize (lg_sl [.long y0, .long y2] ++ List.replicate (6 - (lg_sl [.long y0, .long y2]).length) Slot.unset).toArray = ls at hl ⊢
  have hl : lv_has ls 6 [(0, .long y0), (2, .long y2)] := hl
  refine W.gen (fun Q0 hQ => ?_)
  unfold P_J9_floorDiv_f86c9 at h
  refine lv_lload_n hx hb dJ9_floorDiv_f86c9_0 rfl (lv_at hl 0 rfl) ?_
  refine lv_lload_n hx hb dJ9_floorDiv_f86c9_1 rfl (lv_at hl 1 rfl) ?_
  refine lv_ldiv hx hb dJ9_floorDiv_f86c9_2 h.1 ?_
  replace h := h.2
  refine lv_lstore (lv' := [(4, .long (y0 / y2)), (0, .long y0), (2, .long y2)]) hx hb dJ9_floorDiv_f86c9_3 hl (by decide) rfl (fun ls hl => ?_)
  refine lv_lload_n hx hb dJ9_floorDiv_f86c9_5 rfl (lv_at hl 1 rfl) ?_
  refine lv_lload_n hx hb dJ9_floorDiv_f86c9_6 rfl (lv_at hl 2 rfl) ?_
  refine lv_lxor hx hb dJ9_floorDiv_f86c9_7 ?_
  refine lv_lconst (v := 0) hx hb dJ9_floorDiv_f86c9_8 (by decide) ?_
  refine lx_ge (tgt := 27) hx hb dJ9_floorDiv_f86c9_9 dJ9_floorDiv_f86c9_10 (by decide) (fun hc => ?_) (fun hc => ?_)
  · replace h := h.1 hc
    refine lv_lload hx hb dJ9_floorDiv_f86c9_27 (lv_at hl 0 rfl) ?_
    subst hQ
    exact W.lret (v := y0 / y2) hx hb hr (fun t ht _ => ⟨y0 / y2, rfl, h, ht⟩) (fun _ hq => absurd hq List.not_mem_nil) dJ9_floorDiv_f86c9_29
  · replace h := h.2 hc
    refine lv_lload hx hb dJ9_floorDiv_f86c9_13 (lv_at hl 0 rfl) ?_
    refine lv_lload_n hx hb dJ9_floorDiv_f86c9_15 rfl (lv_at hl 2 rfl) ?_
    refine lv_lmul hx hb dJ9_floorDiv_f86c9_16 ?_
    refine lv_lload_n hx hb dJ9_floorDiv_f86c9_17 rfl (lv_at hl 1 rfl) ?_
    refine lx_eq (tgt := 27) hx hb dJ9_floorDiv_f86c9_18 dJ9_floorDiv_f86c9_19 (by decide) (fun hc => ?_) (fun hc => ?_)
    · replace h := h.1 hc
      refine lv_lload hx hb dJ9_floorDiv_f86c9_27 (lv_at hl 0 rfl) ?_
      subst hQ
      exact W.lret (v := y0 / y2) hx hb hr (fun t ht _ => ⟨y0 / y2, rfl, h, ht⟩) (fun _ hq => absurd hq List.not_mem_nil) dJ9_floorDiv_f86c9_29
    · replace h := h.2 hc
      refine lv_lload hx hb dJ9_floorDiv_f86c9_22 (lv_at hl 0 rfl) ?_
      refine lv_lconst (v := 1) hx hb dJ9_floorDiv_f86c9_24 (by decide) ?_
      refine lv_lsub hx hb dJ9_floorDiv_f86c9_25 ?_
      subst hQ
      exact W.lret (v := (y0 / y2) - (1 : Int64)) hx hb hr (fun t ht _ => ⟨(y0 / y2) - (1 : Int64), rfl, h, ht⟩) (fun _ hq => absurd hq List.not_mem_nil) dJ9_floorDiv_f86c9_26
theorem qJ7_fill_d0a16 : yJ7_fill_d0a16.cls = RJ7 ∧ yJ7_fill_d0a16.cls ≠ "java/lang/invoke/MethodHandle" ∧ yJ7_fill_d0a16.cls ≠ "java/lang/invoke/VarHandle" ∧ (parseMethodDescriptor yJ7_fill_d0a16.desc).map (fun d => d.parameters.length) = some 2 := by decide +kernel
def LB_J7_fill_d0a16_6 (post : (Nat → Int64) → Prop) (n_a : Nat) (x4 : Int32) (y1 : Int64) (K_6 : (Nat → Int64) → Int32 → Prop) (a : Nat → Int64) (x3 : Int32) : Prop :=
  ((x4 ≤ x3 → post a) ∧ (¬ x4 ≤ x3 → (vp_in x3 n_a ∧ K_6 (vp_updL a x3.toNatClampNeg y1) (x3 + (1 : Int32)))))
noncomputable def L_J7_fill_d0a16_6 (post : (Nat → Int64) → Prop) (n_a : Nat) (x4 : Int32) (y1 : Int64) (n : Nat) : (Nat → Int64) → Int32 → Prop := Nat.rec (motive := fun _ => (Nat → Int64) → Int32 → Prop) (fun _ _ => False) (fun _ K => LB_J7_fill_d0a16_6 post n_a x4 y1 K) n
def P_J7_fill_d0a16 (post : (Nat → Int64) → Prop) (n_a : Nat) (a : Nat → Int64) (y1 : Int64) : Prop :=
  ∃ n : Nat, L_J7_fill_d0a16_6 post n_a (nI n_a) y1 n a (0 : Int32)
set_option maxHeartbeats 4000000 in
set_option maxRecDepth 100000 in
theorem c_J7_fill_d0a16 (l : Launch) (D : va_G) (cy : Nat → ClassId) (sz : Nat) (A_a : Nat) (n_a : Nat) (a : Nat → Int64) (y1 : Int64) (post : (Nat → Int64) → Prop) (h : P_J7_fill_d0a16 post n_a a y1) : Met l yJ7_fill_d0a16 wsJ7_fill_d0a16 { frames := 0, cells := 0, slots := 0, locals := 0 } (pcW D cy [(A_a, .inl (cy 2, n_a, .inr (.inl a)))] sz [.ref A_a, .long y1]) (va_Qv (fun (u : (Nat → Int64)) => post u) (bW D [(A_a, .inl (cy 2, n_a, .inr (.inl a)))] sz (fun u => [(A_a, .inl (cy 2, n_a, .inr (.inl u)))])) (va_A [(A_a, .inl (cy 2, n_a, .inr (.inl a)))] sz)) 0 0 (va_A [(A_a, .inl (cy 2, n_a, .inr (.inl a)))] sz) := by
  refine va_MetF (cc := cJ7_fill_d0a16) (maxL := 5) (ret := none) (by decide +kernel) rfl ?_
  intro p e s m args below meth c s₁ B hml hv
  obtain ⟨rfl, hsz, hP, hK, hD0⟩ := hv
  have hx := B.exec
  have hb := B.bytes
  have hr := B.returns
  have hts := atoms_spec (ws := wsJ7_fill_d0a16) B.pre
  have hown : s.vm.findClass RJ7 = some m.cls := findClass_of_methodNamed B.named
  have hlocks := B.notSynchronized
  have CF : CallFix p m c cJ7_fill_d0a16 5 s ([.ref A_a, .long y1] : List Value).toArray wsJ7_fill_d0a16 RJ7 := ⟨hx, hb, hml, hown, hts⟩
  subst hsz
  obtain ⟨A, hAe⟩ : ∃ A, A = va_A [(A_a, .inl (cy 2, n_a, .inr (.inl a)))] s.heap.size := ⟨_, rfl⟩
  have hD : va_D A [(A_a, .inl (cy 2, n_a, .inr (.inl a)))] := by rw [hAe]; exact hD0.self
  have hA : ∀ q : Nat, s.heap.size ≤ q → A q := fun q hq => by rw [hAe]; exact Or.inr hq
  have hS : va_S A s.heap s.heap [] := va_S.rf
  have hl := lv_entry [.ref A_a, .long y1] (n := 5) (Nat.le_of_ble_eq_true rfl)
  rw [lg_entry_eq]
  generalize (lg_sl [.ref A_a, .long y1] ++ List.replicate (5 - (lg_sl [.ref A_a, .long y1]).length) Slot.unset).toArray = ls at hl ⊢
  have hl : lv_has ls 5 [(0, .ref A_a), (1, .long y1)] := hl
  refine W.gen (fun Q0 hQ => ?_)
  have L6 : ∀ (n6 : Nat) (a : Nat → Int64) (x3 : Int32) (x4 : Int32) (H : Heap) (locs : List Loc) (ls : Array Slot), L_J7_fill_d0a16_6 post n_a x4 y1 n6 a x3 → va_P D vwCl [(A_a, .inl (cy 2, n_a, .inr (.inl a)))] H → va_D A [(A_a, .inl (cy 2, n_a, .inr (.inl a)))] → va_S A s.heap H locs → lv_has ls 5 [(0, .ref A_a), (1, .long y1), (3, .int x3), (4, .int x4)] → W p l e (headSpec wsJ7_fill_d0a16 { frames := 0, cells := 0, slots := 0, locals := 0 }).room s m ([.ref A_a, .long y1] : List Value).toArray below meth c H locs 0 0 Q0 (F0 m 6 ls []) := by
    intro n6
    induction n6 with
    | zero => intro a x3 x4 H locs ls h; exact False.elim h
    | succ n6 ih6 =>
      intro a x3 x4 H locs ls h hP hD hS hl
      have h : LB_J7_fill_d0a16_6 post n_a x4 y1 (L_J7_fill_d0a16_6 post n_a x4 y1 n6) a x3 := h
      unfold LB_J7_fill_d0a16_6 at h
      refine lv_iload_n hx hb dJ7_fill_d0a16_6 rfl (lv_at hl 2 rfl) ?_
      refine lv_iload hx hb dJ7_fill_d0a16_7 (lv_at hl 3 rfl) ?_
      refine lv_icmp_ge (tgt := 22) hx hb dJ7_fill_d0a16_9 (by decide) (fun hc => ?_) (fun hc => ?_)
      · replace h := h.1 hc
        subst hQ
        subst hAe
        exact W.vret hx hb hr (fun t ht _ => ⟨⟨a, rfl, h, by rw [ht]; exact hP, hD⟩, hS.F ht⟩) hS.2.2 dJ7_fill_d0a16_22
      · replace h := h.2 hc
        refine lv_aload_n hx hb dJ7_fill_d0a16_12 rfl (lv_at hl 0 rfl) ?_
        refine lv_iload_n hx hb dJ7_fill_d0a16_13 rfl (lv_at hl 2 rfl) ?_
        refine lv_lload_n hx hb dJ7_fill_d0a16_14 rfl (lv_at hl 1 rfl) ?_
        refine va_last hx hb hK.1 hP hD hS 0 2 rfl rfl h.1 dJ7_fill_d0a16_15 (fun H locs hP hD hS => ?_)
        replace h := h.2
        have hP : va_P D vwCl [(A_a, .inl (cy 2, n_a, .inr (.inl (vp_updL a x3.toNatClampNeg y1))))] H := hP
        have hD : va_D A [(A_a, .inl (cy 2, n_a, .inr (.inl (vp_updL a x3.toNatClampNeg y1))))] := hD
        refine lv_iinc (v := x3 + (1 : Int32)) (lv' := [(3, .int (x3 + (1 : Int32))), (0, .ref A_a), (1, .long y1), (4, .int x4)]) hx hb dJ7_fill_d0a16_16 hl (k := 2) rfl rfl (by decide) rfl (fun ls hl => ?_)
        refine lv_goto (tgt := 6) hx hb dJ7_fill_d0a16_19 (by decide) ?_
        exact ih6 (vp_updL a x3.toNatClampNeg y1) (x3 + (1 : Int32)) x4 H locs ls h hP hD hS (lv_sub hl [1, 2, 0, 3] rfl)
  unfold P_J7_fill_d0a16 at h
  refine lv_iconst (v := 0) hx hb dJ7_fill_d0a16_0 (by decide) ?_
  refine lv_istore_n (lv' := [(3, .int (0 : Int32)), (0, .ref A_a), (1, .long y1)]) hx hb dJ7_fill_d0a16_1 rfl hl (by decide) rfl (fun ls hl => ?_)
  refine lv_aload_n hx hb dJ7_fill_d0a16_2 rfl (lv_at hl 1 rfl) ?_
  refine va_alen hx hb hK.1 hP 0 2 rfl rfl (v := nI n_a) rfl dJ7_fill_d0a16_3 ?_
  refine lv_istore (lv' := [(4, .int (nI n_a)), (3, .int (0 : Int32)), (0, .ref A_a), (1, .long y1)]) hx hb dJ7_fill_d0a16_4 hl (by decide) rfl (fun ls hl => ?_)
  obtain ⟨nn, h⟩ := h
  exact L6 nn a (0 : Int32) (nI n_a) s.heap [] ls h hP hD hS (lv_sub hl [2, 3, 1, 0] rfl)
theorem qJ7_fill_53178 : yJ7_fill_53178.cls = RJ7 ∧ yJ7_fill_53178.cls ≠ "java/lang/invoke/MethodHandle" ∧ yJ7_fill_53178.cls ≠ "java/lang/invoke/VarHandle" ∧ (parseMethodDescriptor yJ7_fill_53178.desc).map (fun d => d.parameters.length) = some 2 := by decide +kernel
def LB_J7_fill_53178_5 (post : (Nat → Int32) → Prop) (n_a : Nat) (x1 : Int32) (x3 : Int32) (K_5 : (Nat → Int32) → Int32 → Prop) (a : Nat → Int32) (x2 : Int32) : Prop :=
  ((x3 ≤ x2 → post a) ∧ (¬ x3 ≤ x2 → (vp_in x2 n_a ∧ K_5 (upd a x2.toNatClampNeg x1) (x2 + (1 : Int32)))))
noncomputable def L_J7_fill_53178_5 (post : (Nat → Int32) → Prop) (n_a : Nat) (x1 : Int32) (x3 : Int32) (n : Nat) : (Nat → Int32) → Int32 → Prop := Nat.rec (motive := fun _ => (Nat → Int32) → Int32 → Prop) (fun _ _ => False) (fun _ K => LB_J7_fill_53178_5 post n_a x1 x3 K) n
def P_J7_fill_53178 (post : (Nat → Int32) → Prop) (n_a : Nat) (a : Nat → Int32) (x1 : Int32) : Prop :=
  ∃ n : Nat, L_J7_fill_53178_5 post n_a x1 (nI n_a) n a (0 : Int32)
set_option maxHeartbeats 4000000 in
set_option maxRecDepth 100000 in
theorem c_J7_fill_53178 (l : Launch) (D : va_G) (cy : Nat → ClassId) (sz : Nat) (A_a : Nat) (n_a : Nat) (a : Nat → Int32) (x1 : Int32) (post : (Nat → Int32) → Prop) (h : P_J7_fill_53178 post n_a a x1) : Met l yJ7_fill_53178 wsJ7_fill_53178 { frames := 0, cells := 0, slots := 0, locals := 0 } (pcW D cy [(A_a, .inl (cy 1, n_a, .inl a))] sz [.ref A_a, .int x1]) (va_Qv (fun (u : (Nat → Int32)) => post u) (bW D [(A_a, .inl (cy 1, n_a, .inl a))] sz (fun u => [(A_a, .inl (cy 1, n_a, .inl u))])) (va_A [(A_a, .inl (cy 1, n_a, .inl a))] sz)) 0 0 (va_A [(A_a, .inl (cy 1, n_a, .inl a))] sz) := by
  refine va_MetF (cc := cJ7_fill_53178) (maxL := 4) (ret := none) (by decide +kernel) rfl ?_
  intro p e s m args below meth c s₁ B hml hv
  obtain ⟨rfl, hsz, hP, hK, hD0⟩ := hv
  have hx := B.exec
  have hb := B.bytes
  have hr := B.returns
  have hts := atoms_spec (ws := wsJ7_fill_53178) B.pre
  have hown : s.vm.findClass RJ7 = some m.cls := findClass_of_methodNamed B.named
  have hlocks := B.notSynchronized
  have CF : CallFix p m c cJ7_fill_53178 4 s ([.ref A_a, .int x1] : List Value).toArray wsJ7_fill_53178 RJ7 := ⟨hx, hb, hml, hown, hts⟩
  subst hsz
  obtain ⟨A, hAe⟩ : ∃ A, A = va_A [(A_a, .inl (cy 1, n_a, .inl a))] s.heap.size := ⟨_, rfl⟩
  have hD : va_D A [(A_a, .inl (cy 1, n_a, .inl a))] := by rw [hAe]; exact hD0.self
  have hA : ∀ q : Nat, s.heap.size ≤ q → A q := fun q hq => by rw [hAe]; exact Or.inr hq
  have hS : va_S A s.heap s.heap [] := va_S.rf
  have hl := lv_entry [.ref A_a, .int x1] (n := 4) (Nat.le_of_ble_eq_true rfl)
  rw [lg_entry_eq]
  generalize (lg_sl [.ref A_a, .int x1] ++ List.replicate (4 - (lg_sl [.ref A_a, .int x1]).length) Slot.unset).toArray = ls at hl ⊢
  have hl : lv_has ls 4 [(0, .ref A_a), (1, .int x1)] := hl
  refine W.gen (fun Q0 hQ => ?_)
  have L5 : ∀ (n5 : Nat) (a : Nat → Int32) (x2 : Int32) (x3 : Int32) (H : Heap) (locs : List Loc) (ls : Array Slot), L_J7_fill_53178_5 post n_a x1 x3 n5 a x2 → va_P D vwCl [(A_a, .inl (cy 1, n_a, .inl a))] H → va_D A [(A_a, .inl (cy 1, n_a, .inl a))] → va_S A s.heap H locs → lv_has ls 4 [(0, .ref A_a), (1, .int x1), (2, .int x2), (3, .int x3)] → W p l e (headSpec wsJ7_fill_53178 { frames := 0, cells := 0, slots := 0, locals := 0 }).room s m ([.ref A_a, .int x1] : List Value).toArray below meth c H locs 0 0 Q0 (F0 m 5 ls []) := by
    intro n5
    induction n5 with
    | zero => intro a x2 x3 H locs ls h; exact False.elim h
    | succ n5 ih5 =>
      intro a x2 x3 H locs ls h hP hD hS hl
      have h : LB_J7_fill_53178_5 post n_a x1 x3 (L_J7_fill_53178_5 post n_a x1 x3 n5) a x2 := h
      unfold LB_J7_fill_53178_5 at h
      refine lv_iload_n hx hb dJ7_fill_53178_5 rfl (lv_at hl 2 rfl) ?_
      refine lv_iload_n hx hb dJ7_fill_53178_6 rfl (lv_at hl 3 rfl) ?_
      refine lv_icmp_ge (tgt := 20) hx hb dJ7_fill_53178_7 (by decide) (fun hc => ?_) (fun hc => ?_)
      · replace h := h.1 hc
        subst hQ
        subst hAe
        exact W.vret hx hb hr (fun t ht _ => ⟨⟨a, rfl, h, by rw [ht]; exact hP, hD⟩, hS.F ht⟩) hS.2.2 dJ7_fill_53178_20
      · replace h := h.2 hc
        refine lv_aload_n hx hb dJ7_fill_53178_10 rfl (lv_at hl 0 rfl) ?_
        refine lv_iload_n hx hb dJ7_fill_53178_11 rfl (lv_at hl 2 rfl) ?_
        refine lv_iload_n hx hb dJ7_fill_53178_12 rfl (lv_at hl 1 rfl) ?_
        refine va_iast hx hb hK.1 hP hD hS 0 1 rfl rfl h.1 dJ7_fill_53178_13 (fun H locs hP hD hS => ?_)
        replace h := h.2
        have hP : va_P D vwCl [(A_a, .inl (cy 1, n_a, .inl (upd a x2.toNatClampNeg x1)))] H := hP
        have hD : va_D A [(A_a, .inl (cy 1, n_a, .inl (upd a x2.toNatClampNeg x1)))] := hD
        refine lv_iinc (v := x2 + (1 : Int32)) (lv' := [(2, .int (x2 + (1 : Int32))), (0, .ref A_a), (1, .int x1), (3, .int x3)]) hx hb dJ7_fill_53178_14 hl (k := 2) rfl rfl (by decide) rfl (fun ls hl => ?_)
        refine lv_goto (tgt := 5) hx hb dJ7_fill_53178_17 (by decide) ?_
        exact ih5 (upd a x2.toNatClampNeg x1) (x2 + (1 : Int32)) x3 H locs ls h hP hD hS (lv_sub hl [1, 2, 0, 3] rfl)
  unfold P_J7_fill_53178 at h
  refine lv_iconst (v := 0) hx hb dJ7_fill_53178_0 (by decide) ?_
  refine lv_istore_n (lv' := [(2, .int (0 : Int32)), (0, .ref A_a), (1, .int x1)]) hx hb dJ7_fill_53178_1 rfl hl (by decide) rfl (fun ls hl => ?_)
  refine lv_aload_n hx hb dJ7_fill_53178_2 rfl (lv_at hl 1 rfl) ?_
  refine va_alen hx hb hK.1 hP 0 1 rfl rfl (v := nI n_a) rfl dJ7_fill_53178_3 ?_
  refine lv_istore_n (lv' := [(3, .int (nI n_a)), (2, .int (0 : Int32)), (0, .ref A_a), (1, .int x1)]) hx hb dJ7_fill_53178_4 rfl hl (by decide) rfl (fun ls hl => ?_)
  obtain ⟨nn, h⟩ := h
  exact L5 nn a (0 : Int32) (nI n_a) s.heap [] ls h hP hD hS (lv_sub hl [2, 3, 1, 0] rfl)
theorem qX7_isThing : yX7_isThing.cls = RX7 ∧ yX7_isThing.cls ≠ "java/lang/invoke/MethodHandle" ∧ yX7_isThing.cls ≠ "java/lang/invoke/VarHandle" ∧ (parseMethodDescriptor yX7_isThing.desc).map (fun d => d.parameters.length) = some 1 := by decide +kernel
def P_X7_isThing (post : Int32 → Prop) (x0 : Int32) : Prop :=
  ((x0 < 0 → post (0 : Int32)) ∧ (¬ x0 < 0 → (((10 : Int32) ≤ x0 → post (0 : Int32)) ∧ (¬ (10 : Int32) ≤ x0 → post (1 : Int32)))))
set_option maxHeartbeats 4000000 in
set_option maxRecDepth 100000 in
theorem c_X7_isThing (l : Launch) (x0 : Int32) (post : Int32 → Prop) (h : P_X7_isThing post x0) : Met l yX7_isThing wsX7_isThing { frames := 0, cells := 0, slots := 0, locals := 0 } (pcN [.int x0]) (vp_Si post) 0 0 (fun _ => False) := by
  refine Met.ofW (cc := cX7_isThing) (maxL := 1) (ret := (some .boolean)) (by decide) rfl ?_
  intro p e s m args below meth c s₁ B hml hv
  obtain ⟨rfl, -⟩ := hv
  have hx := B.exec
  have hb := B.bytes
  have hr := B.returns
  have hts := atoms_spec (ws := wsX7_isThing) B.pre
  have hown : s.vm.findClass RX7 = some m.cls := findClass_of_methodNamed B.named
  have hlocks := B.notSynchronized
  have CF : CallFix p m c cX7_isThing 1 s ([.int x0] : List Value).toArray wsX7_isThing RX7 := ⟨hx, hb, hml, hown, hts⟩
  have hl := lv_entry [.int x0] (n := 1) (Nat.le_of_ble_eq_true rfl)
  rw [lg_entry_eq]
  generalize (lg_sl [.int x0] ++ List.replicate (1 - (lg_sl [.int x0]).length) Slot.unset).toArray = ls at hl ⊢
  have hl : lv_has ls 1 [(0, .int x0)] := hl
  refine W.gen (fun Q0 hQ => ?_)
  unfold P_X7_isThing at h
  refine lv_iload_n hx hb dX7_isThing_0 rfl (lv_at hl 0 rfl) ?_
  refine lv_if_lt (tgt := 14) hx hb dX7_isThing_1 (by decide) (fun hc => ?_) (fun hc => ?_)
  · replace h := h.1 hc
    refine lv_iconst (v := 0) hx hb dX7_isThing_14 (by decide) ?_
    subst hQ
    exact W.zret (v := (0 : Int32)) hx hb hr bz0 (fun t ht _ => ⟨(0 : Int32), rfl, h, ht⟩) (fun _ hq => absurd hq List.not_mem_nil) dX7_isThing_15
  · replace h := h.2 hc
    refine lv_iload_n hx hb dX7_isThing_4 rfl (lv_at hl 0 rfl) ?_
    refine lv_bipush (v := 10) hx hb dX7_isThing_5 (by decide) ?_
    refine lv_icmp_ge (tgt := 14) hx hb dX7_isThing_7 (by decide) (fun hc => ?_) (fun hc => ?_)
    · replace h := h.1 hc
      refine lv_iconst (v := 0) hx hb dX7_isThing_14 (by decide) ?_
      subst hQ
      exact W.zret (v := (0 : Int32)) hx hb hr bz0 (fun t ht _ => ⟨(0 : Int32), rfl, h, ht⟩) (fun _ hq => absurd hq List.not_mem_nil) dX7_isThing_15
    · replace h := h.2 hc
      refine lv_iconst (v := 1) hx hb dX7_isThing_10 (by decide) ?_
      refine lv_goto (tgt := 15) hx hb dX7_isThing_11 (by decide) ?_
      subst hQ
      exact W.zret (v := (1 : Int32)) hx hb hr bz1 (fun t ht _ => ⟨(1 : Int32), rfl, h, ht⟩) (fun _ hq => absurd hq List.not_mem_nil) dX7_isThing_15
theorem qX7_arePair : yX7_arePair.cls = RX7 ∧ yX7_arePair.cls ≠ "java/lang/invoke/MethodHandle" ∧ yX7_arePair.cls ≠ "java/lang/invoke/VarHandle" ∧ (parseMethodDescriptor yX7_arePair.desc).map (fun d => d.parameters.length) = some 2 := by decide +kernel
def P_X7_arePair (post : Int32 → Prop) (x0 : Int32) (x1 : Int32) : Prop :=
  P_X7_isThing (fun (r1 : Int32) => ((r1 = 0 → post (0 : Int32)) ∧ (¬ r1 = 0 → P_X7_isThing (fun (r2 : Int32) => ((r2 = 0 → post (0 : Int32)) ∧ (¬ r2 = 0 → ((x0 = x1 → post (0 : Int32)) ∧ (¬ x0 = x1 → post (1 : Int32)))))) x1))) x0
set_option maxHeartbeats 4000000 in
set_option maxRecDepth 100000 in
theorem c_X7_arePair (l : Launch) (x0 : Int32) (x1 : Int32) (post : Int32 → Prop) (h : P_X7_arePair post x0 x1) : Met l yX7_arePair wsX7_arePair { frames := 1, cells := 0, slots := 0, locals := 20 } (pcN [.int x0, .int x1]) (vp_Si post) 0 0 (fun _ => False) := by
  refine Met.ofW (cc := cX7_arePair) (maxL := 2) (ret := (some .boolean)) (by decide) rfl ?_
  intro p e s m args below meth c s₁ B hml hv
  obtain ⟨rfl, -⟩ := hv
  have hx := B.exec
  have hb := B.bytes
  have hr := B.returns
  have hts := atoms_spec (ws := wsX7_arePair) B.pre
  have hown : s.vm.findClass RX7 = some m.cls := findClass_of_methodNamed B.named
  have hlocks := B.notSynchronized
  have CF : CallFix p m c cX7_arePair 2 s ([.int x0, .int x1] : List Value).toArray wsX7_arePair RX7 := ⟨hx, hb, hml, hown, hts⟩
  have hl := lv_entry [.int x0, .int x1] (n := 2) (Nat.le_of_ble_eq_true rfl)
  rw [lg_entry_eq]
  generalize (lg_sl [.int x0, .int x1] ++ List.replicate (2 - (lg_sl [.int x0, .int x1]).length) Slot.unset).toArray = ls at hl ⊢
  have hl : lv_has ls 2 [(0, .int x0), (1, .int x1)] := hl
  refine W.gen (fun Q0 hQ => ?_)
  unfold P_X7_arePair at h
  refine lv_iload_n hx hb dX7_arePair_0 rfl (lv_at hl 0 rfl) ?_
  refine vp_callSi (W.runS (As := [.int x0]) (rest := []) CF (c_X7_isThing l x0 _ h) (va_cwS 1 hts gX7_arePair_X7_isThing rfl rfl rfl qX7_isThing.2 ⟨Nat.le_of_ble_eq_true rfl, Nat.le_of_ble_eq_true rfl⟩) mpSN rfl rfl hl.1 rfl (lv_room (Nat.le_of_ble_eq_true rfl)) dX7_arePair_1 ⟨Nat.zero_le _, Nat.zero_le _⟩) (fun r1 h => ?_)
  refine lv_if_eq (tgt := 23) hx hb dX7_arePair_4 (by decide) (fun hc => ?_) (fun hc => ?_)
  · replace h := h.1 hc
    refine lv_iconst (v := 0) hx hb dX7_arePair_23 (by decide) ?_
    subst hQ
    exact W.zret (v := (0 : Int32)) hx hb hr bz0 (fun t ht _ => ⟨(0 : Int32), rfl, h, ht⟩) (fun _ hq => absurd hq List.not_mem_nil) dX7_arePair_24
  · replace h := h.2 hc
    refine lv_iload_n hx hb dX7_arePair_7 rfl (lv_at hl 1 rfl) ?_
    refine vp_callSi (W.runS (As := [.int x1]) (rest := []) CF (c_X7_isThing l x1 _ h) (va_cwS 1 hts gX7_arePair_X7_isThing rfl rfl rfl qX7_isThing.2 ⟨Nat.le_of_ble_eq_true rfl, Nat.le_of_ble_eq_true rfl⟩) mpSN rfl rfl hl.1 rfl (lv_room (Nat.le_of_ble_eq_true rfl)) dX7_arePair_8 ⟨Nat.zero_le _, Nat.zero_le _⟩) (fun r2 h => ?_)
    refine lv_if_eq (tgt := 23) hx hb dX7_arePair_11 (by decide) (fun hc => ?_) (fun hc => ?_)
    · replace h := h.1 hc
      refine lv_iconst (v := 0) hx hb dX7_arePair_23 (by decide) ?_
      subst hQ
      exact W.zret (v := (0 : Int32)) hx hb hr bz0 (fun t ht _ => ⟨(0 : Int32), rfl, h, ht⟩) (fun _ hq => absurd hq List.not_mem_nil) dX7_arePair_24
    · replace h := h.2 hc
      refine lv_iload_n hx hb dX7_arePair_14 rfl (lv_at hl 0 rfl) ?_
      refine lv_iload_n hx hb dX7_arePair_15 rfl (lv_at hl 1 rfl) ?_
      refine lv_icmp_eq (tgt := 23) hx hb dX7_arePair_16 (by decide) (fun hc => ?_) (fun hc => ?_)
      · replace h := h.1 hc
        refine lv_iconst (v := 0) hx hb dX7_arePair_23 (by decide) ?_
        subst hQ
        exact W.zret (v := (0 : Int32)) hx hb hr bz0 (fun t ht _ => ⟨(0 : Int32), rfl, h, ht⟩) (fun _ hq => absurd hq List.not_mem_nil) dX7_arePair_24
      · replace h := h.2 hc
        refine lv_iconst (v := 1) hx hb dX7_arePair_19 (by decide) ?_
        refine lv_goto (tgt := 24) hx hb dX7_arePair_20 (by decide) ?_
        subst hQ
        exact W.zret (v := (1 : Int32)) hx hb hr bz1 (fun t ht _ => ⟨(1 : Int32), rfl, h, ht⟩) (fun _ hq => absurd hq List.not_mem_nil) dX7_arePair_24
theorem qX7_isBit : yX7_isBit.cls = RX7 ∧ yX7_isBit.cls ≠ "java/lang/invoke/MethodHandle" ∧ yX7_isBit.cls ≠ "java/lang/invoke/VarHandle" ∧ (parseMethodDescriptor yX7_isBit.desc).map (fun d => d.parameters.length) = some 1 := by decide +kernel
def P_X7_isBit (post : Int32 → Prop) (x0 : Int32) : Prop :=
  ((x0 = 0 → post (1 : Int32)) ∧ (¬ x0 = 0 → ((¬ x0 = (1 : Int32) → post (0 : Int32)) ∧ (x0 = (1 : Int32) → post (1 : Int32)))))
set_option maxHeartbeats 4000000 in
set_option maxRecDepth 100000 in
theorem c_X7_isBit (l : Launch) (x0 : Int32) (post : Int32 → Prop) (h : P_X7_isBit post x0) : Met l yX7_isBit wsX7_isBit { frames := 0, cells := 0, slots := 0, locals := 0 } (pcN [.int x0]) (vp_Si post) 0 0 (fun _ => False) := by
  refine Met.ofW (cc := cX7_isBit) (maxL := 1) (ret := (some .boolean)) (by decide) rfl ?_
  intro p e s m args below meth c s₁ B hml hv
  obtain ⟨rfl, -⟩ := hv
  have hx := B.exec
  have hb := B.bytes
  have hr := B.returns
  have hts := atoms_spec (ws := wsX7_isBit) B.pre
  have hown : s.vm.findClass RX7 = some m.cls := findClass_of_methodNamed B.named
  have hlocks := B.notSynchronized
  have CF : CallFix p m c cX7_isBit 1 s ([.int x0] : List Value).toArray wsX7_isBit RX7 := ⟨hx, hb, hml, hown, hts⟩
  have hl := lv_entry [.int x0] (n := 1) (Nat.le_of_ble_eq_true rfl)
  rw [lg_entry_eq]
  generalize (lg_sl [.int x0] ++ List.replicate (1 - (lg_sl [.int x0]).length) Slot.unset).toArray = ls at hl ⊢
  have hl : lv_has ls 1 [(0, .int x0)] := hl
  refine W.gen (fun Q0 hQ => ?_)
  unfold P_X7_isBit at h
  refine lv_iload_n hx hb dX7_isBit_0 rfl (lv_at hl 0 rfl) ?_
  refine lv_if_eq (tgt := 9) hx hb dX7_isBit_1 (by decide) (fun hc => ?_) (fun hc => ?_)
  · replace h := h.1 hc
    refine lv_iconst (v := 1) hx hb dX7_isBit_9 (by decide) ?_
    refine lv_goto (tgt := 14) hx hb dX7_isBit_10 (by decide) ?_
    subst hQ
    exact W.zret (v := (1 : Int32)) hx hb hr bz1 (fun t ht _ => ⟨(1 : Int32), rfl, h, ht⟩) (fun _ hq => absurd hq List.not_mem_nil) dX7_isBit_14
  · replace h := h.2 hc
    refine lv_iload_n hx hb dX7_isBit_4 rfl (lv_at hl 0 rfl) ?_
    refine lv_iconst (v := 1) hx hb dX7_isBit_5 (by decide) ?_
    refine lv_icmp_ne (tgt := 13) hx hb dX7_isBit_6 (by decide) (fun hc => ?_) (fun hc => ?_)
    · replace h := h.1 hc
      refine lv_iconst (v := 0) hx hb dX7_isBit_13 (by decide) ?_
      subst hQ
      exact W.zret (v := (0 : Int32)) hx hb hr bz0 (fun t ht _ => ⟨(0 : Int32), rfl, h, ht⟩) (fun _ hq => absurd hq List.not_mem_nil) dX7_isBit_14
    · replace h := h.2 hc
      refine lv_iconst (v := 1) hx hb dX7_isBit_9 (by decide) ?_
      refine lv_goto (tgt := 14) hx hb dX7_isBit_10 (by decide) ?_
      subst hQ
      exact W.zret (v := (1 : Int32)) hx hb hr bz1 (fun t ht _ => ⟨(1 : Int32), rfl, h, ht⟩) (fun _ hq => absurd hq List.not_mem_nil) dX7_isBit_14
theorem qX7_is32Bits : yX7_is32Bits.cls = RX7 ∧ yX7_is32Bits.cls ≠ "java/lang/invoke/MethodHandle" ∧ yX7_is32Bits.cls ≠ "java/lang/invoke/VarHandle" ∧ (parseMethodDescriptor yX7_is32Bits.desc).map (fun d => d.parameters.length) = some 1 := by decide +kernel
def P_X7_is32Bits (post : Int32 → Prop) (y0 : Int64) : Prop :=
  ((¬ y0 = y0.toInt32.toInt64 → post (0 : Int32)) ∧ (y0 = y0.toInt32.toInt64 → post (1 : Int32)))
set_option maxHeartbeats 4000000 in
set_option maxRecDepth 100000 in
theorem c_X7_is32Bits (l : Launch) (y0 : Int64) (post : Int32 → Prop) (h : P_X7_is32Bits post y0) : Met l yX7_is32Bits wsX7_is32Bits { frames := 0, cells := 0, slots := 0, locals := 0 } (pcN [.long y0]) (vp_Si post) 0 0 (fun _ => False) := by
  refine Met.ofW (cc := cX7_is32Bits) (maxL := 2) (ret := (some .boolean)) (by decide) rfl ?_
  intro p e s m args below meth c s₁ B hml hv
  obtain ⟨rfl, -⟩ := hv
  have hx := B.exec
  have hb := B.bytes
  have hr := B.returns
  have hts := atoms_spec (ws := wsX7_is32Bits) B.pre
  have hown : s.vm.findClass RX7 = some m.cls := findClass_of_methodNamed B.named
  have hlocks := B.notSynchronized
  have CF : CallFix p m c cX7_is32Bits 2 s ([.long y0] : List Value).toArray wsX7_is32Bits RX7 := ⟨hx, hb, hml, hown, hts⟩
  have hl := lv_entry [.long y0] (n := 2) (Nat.le_of_ble_eq_true rfl)
  rw [lg_entry_eq]
  generalize (lg_sl [.long y0] ++ List.replicate (2 - (lg_sl [.long y0]).length) Slot.unset).toArray = ls at hl ⊢
  have hl : lv_has ls 2 [(0, .long y0)] := hl
  refine W.gen (fun Q0 hQ => ?_)
  unfold P_X7_is32Bits at h
  refine lv_lload_n hx hb dX7_is32Bits_0 rfl (lv_at hl 0 rfl) ?_
  refine lv_lload_n hx hb dX7_is32Bits_1 rfl (lv_at hl 0 rfl) ?_
  refine lv_l2i (v := y0.toInt32) hx hb dX7_is32Bits_2 rfl ?_
  refine lv_i2l (v := y0.toInt32.toInt64) hx hb dX7_is32Bits_3 rfl ?_
  refine lx_ne (tgt := 12) hx hb dX7_is32Bits_4 dX7_is32Bits_5 (by decide) (fun hc => ?_) (fun hc => ?_)
  · replace h := h.1 hc
    refine lv_iconst (v := 0) hx hb dX7_is32Bits_12 (by decide) ?_
    subst hQ
    exact W.zret (v := (0 : Int32)) hx hb hr bz0 (fun t ht _ => ⟨(0 : Int32), rfl, h, ht⟩) (fun _ hq => absurd hq List.not_mem_nil) dX7_is32Bits_13
  · replace h := h.2 hc
    refine lv_iconst (v := 1) hx hb dX7_is32Bits_8 (by decide) ?_
    refine lv_goto (tgt := 13) hx hb dX7_is32Bits_9 (by decide) ?_
    subst hQ
    exact W.zret (v := (1 : Int32)) hx hb hr bz1 (fun t ht _ => ⟨(1 : Int32), rfl, h, ht⟩) (fun _ hq => absurd hq List.not_mem_nil) dX7_is32Bits_13
theorem qX7_weigh : yX7_weigh.cls = RX7 ∧ yX7_weigh.cls ≠ "java/lang/invoke/MethodHandle" ∧ yX7_weigh.cls ≠ "java/lang/invoke/VarHandle" ∧ (parseMethodDescriptor yX7_weigh.desc).map (fun d => d.parameters.length) = some 3 := by decide +kernel
def P_X7_weigh (post : Int64 → Prop) (x0 : Int32) (x1 : Int32) (x2 : Int32) : Prop :=
  ((¬ x2 = (1 : Int32) → post ((x0.toInt64 * (1024 : Int64)) - x1.toInt64)) ∧ (x2 = (1 : Int32) → post ((x0.toInt64 - x1.toInt64) * (1024 : Int64))))
set_option maxHeartbeats 4000000 in
set_option maxRecDepth 100000 in
theorem c_X7_weigh (l : Launch) (x0 : Int32) (x1 : Int32) (x2 : Int32) (post : Int64 → Prop) (h : P_X7_weigh post x0 x1 x2) : Met l yX7_weigh wsX7_weigh { frames := 0, cells := 0, slots := 0, locals := 0 } (pcN [.int x0, .int x1, .int x2]) (vp_Sl post) 0 0 (fun _ => False) := by
  refine Met.ofW (cc := cX7_weigh) (maxL := 3) (ret := (some .long)) (by decide) rfl ?_
  intro p e s m args below meth c s₁ B hml hv
  obtain ⟨rfl, -⟩ := hv
  have hx := B.exec
  have hb := B.bytes
  have hr := B.returns
  have hts := atoms_spec (ws := wsX7_weigh) B.pre
  have hown : s.vm.findClass RX7 = some m.cls := findClass_of_methodNamed B.named
  have hlocks := B.notSynchronized
  have CF : CallFix p m c cX7_weigh 3 s ([.int x0, .int x1, .int x2] : List Value).toArray wsX7_weigh RX7 := ⟨hx, hb, hml, hown, hts⟩
  have f0 := hts (.constantLong RX7 279 (1024)) (by decide +kernel)
  have hl := lv_entry [.int x0, .int x1, .int x2] (n := 3) (Nat.le_of_ble_eq_true rfl)
  rw [lg_entry_eq]
  generalize (lg_sl [.int x0, .int x1, .int x2] ++ List.replicate (3 - (lg_sl [.int x0, .int x1, .int x2]).length) Slot.unset).toArray = ls at hl ⊢
  have hl : lv_has ls 3 [(0, .int x0), (1, .int x1), (2, .int x2)] := hl
  refine W.gen (fun Q0 hQ => ?_)
  unfold P_X7_weigh at h
  refine lv_iload_n hx hb dX7_weigh_0 rfl (lv_at hl 2 rfl) ?_
  refine lv_iconst (v := 1) hx hb dX7_weigh_1 (by decide) ?_
  refine lv_icmp_ne (tgt := 15) hx hb dX7_weigh_2 (by decide) (fun hc => ?_) (fun hc => ?_)
  · replace h := h.1 hc
    refine lv_iload_n hx hb dX7_weigh_15 rfl (lv_at hl 0 rfl) ?_
    refine lv_i2l (v := x0.toInt64) hx hb dX7_weigh_16 rfl ?_
    refine lv_ldc2 (v := 1024) hx hb hown f0 dX7_weigh_17 ?_
    refine lv_lmul hx hb dX7_weigh_20 ?_
    refine lv_iload_n hx hb dX7_weigh_21 rfl (lv_at hl 1 rfl) ?_
    refine lv_i2l (v := x1.toInt64) hx hb dX7_weigh_22 rfl ?_
    refine lv_lsub hx hb dX7_weigh_23 ?_
    subst hQ
    exact W.lret (v := (x0.toInt64 * (1024 : Int64)) - x1.toInt64) hx hb hr (fun t ht _ => ⟨(x0.toInt64 * (1024 : Int64)) - x1.toInt64, rfl, h, ht⟩) (fun _ hq => absurd hq List.not_mem_nil) dX7_weigh_24
  · replace h := h.2 hc
    refine lv_iload_n hx hb dX7_weigh_5 rfl (lv_at hl 0 rfl) ?_
    refine lv_i2l (v := x0.toInt64) hx hb dX7_weigh_6 rfl ?_
    refine lv_iload_n hx hb dX7_weigh_7 rfl (lv_at hl 1 rfl) ?_
    refine lv_i2l (v := x1.toInt64) hx hb dX7_weigh_8 rfl ?_
    refine lv_lsub hx hb dX7_weigh_9 ?_
    refine lv_ldc2 (v := 1024) hx hb hown f0 dX7_weigh_10 ?_
    refine lv_lmul hx hb dX7_weigh_13 ?_
    subst hQ
    exact W.lret (v := (x0.toInt64 - x1.toInt64) * (1024 : Int64)) hx hb hr (fun t ht _ => ⟨(x0.toInt64 - x1.toInt64) * (1024 : Int64), rfl, h, ht⟩) (fun _ hq => absurd hq List.not_mem_nil) dX7_weigh_14
theorem qX7_amountOf : yX7_amountOf.cls = RX7 ∧ yX7_amountOf.cls ≠ "java/lang/invoke/MethodHandle" ∧ yX7_amountOf.cls ≠ "java/lang/invoke/VarHandle" ∧ (parseMethodDescriptor yX7_amountOf.desc).map (fun d => d.parameters.length) = some 1 := by decide +kernel
def P_X7_amountOf (post : Int64 → Prop) (y0 : Int64) : Prop :=
  P_J9_floorDiv_f86c9 (fun (r1 : Int64) => post (-r1)) (-y0) (1024 : Int64)
set_option maxHeartbeats 4000000 in
set_option maxRecDepth 100000 in
theorem c_X7_amountOf (l : Launch) (y0 : Int64) (post : Int64 → Prop) (h : P_X7_amountOf post y0) : Met l yX7_amountOf wsX7_amountOf { frames := 1, cells := 0, slots := 0, locals := 25 } (pcN [.long y0]) (vp_Sl post) 0 0 (fun _ => False) := by
  refine Met.ofW (cc := cX7_amountOf) (maxL := 2) (ret := (some .long)) (by decide) rfl ?_
  intro p e s m args below meth c s₁ B hml hv
  obtain ⟨rfl, -⟩ := hv
  have hx := B.exec
  have hb := B.bytes
  have hr := B.returns
  have hts := atoms_spec (ws := wsX7_amountOf) B.pre
  have hown : s.vm.findClass RX7 = some m.cls := findClass_of_methodNamed B.named
  have hlocks := B.notSynchronized
  have CF : CallFix p m c cX7_amountOf 2 s ([.long y0] : List Value).toArray wsX7_amountOf RX7 := ⟨hx, hb, hml, hown, hts⟩
  have f0 := hts (.constantLong RX7 279 (1024)) (by decide +kernel)
  have hl := lv_entry [.long y0] (n := 2) (Nat.le_of_ble_eq_true rfl)
  rw [lg_entry_eq]
  generalize (lg_sl [.long y0] ++ List.replicate (2 - (lg_sl [.long y0]).length) Slot.unset).toArray = ls at hl ⊢
  have hl : lv_has ls 2 [(0, .long y0)] := hl
  refine W.gen (fun Q0 hQ => ?_)
  unfold P_X7_amountOf at h
  refine lv_lload_n hx hb dX7_amountOf_0 rfl (lv_at hl 0 rfl) ?_
  refine lv_lneg hx hb dX7_amountOf_1 ?_
  refine lv_ldc2 (v := 1024) hx hb hown f0 dX7_amountOf_2 ?_
  refine vp_callSl (W.runS (As := [.long (-y0), .long (1024 : Int64)]) (rest := []) CF (c_J9_floorDiv_f86c9 l (-y0) (1024 : Int64) _ h) (va_cwS 2 hts gX7_amountOf_J9_floorDiv_f86c9 rfl rfl rfl qJ9_floorDiv_f86c9.2 ⟨Nat.le_of_ble_eq_true rfl, Nat.le_of_ble_eq_true rfl⟩) mpSN rfl rfl hl.1 rfl (lv_room (Nat.le_of_ble_eq_true rfl)) dX7_amountOf_5 ⟨Nat.zero_le _, Nat.zero_le _⟩) (fun r1 h => ?_)
  refine lv_lneg hx hb dX7_amountOf_8 ?_
  subst hQ
  exact W.lret (v := -r1) hx hb hr (fun t ht _ => ⟨-r1, rfl, h, ht⟩) (fun _ hq => absurd hq List.not_mem_nil) dX7_amountOf_9
theorem qX7_edgesOf : yX7_edgesOf.cls = RX7 ∧ yX7_edgesOf.cls ≠ "java/lang/invoke/MethodHandle" ∧ yX7_edgesOf.cls ≠ "java/lang/invoke/VarHandle" ∧ (parseMethodDescriptor yX7_edgesOf.desc).map (fun d => d.parameters.length) = some 1 := by decide +kernel
def P_X7_edgesOf (post : Int64 → Prop) (y0 : Int64) : Prop :=
  P_X7_amountOf (fun (r1 : Int64) => post ((r1 * (1024 : Int64)) - y0)) y0
set_option maxHeartbeats 4000000 in
set_option maxRecDepth 100000 in
theorem c_X7_edgesOf (l : Launch) (y0 : Int64) (post : Int64 → Prop) (h : P_X7_edgesOf post y0) : Met l yX7_edgesOf wsX7_edgesOf { frames := 2, cells := 0, slots := 0, locals := 46 } (pcN [.long y0]) (vp_Sl post) 0 0 (fun _ => False) := by
  refine Met.ofW (cc := cX7_edgesOf) (maxL := 2) (ret := (some .long)) (by decide) rfl ?_
  intro p e s m args below meth c s₁ B hml hv
  obtain ⟨rfl, -⟩ := hv
  have hx := B.exec
  have hb := B.bytes
  have hr := B.returns
  have hts := atoms_spec (ws := wsX7_edgesOf) B.pre
  have hown : s.vm.findClass RX7 = some m.cls := findClass_of_methodNamed B.named
  have hlocks := B.notSynchronized
  have CF : CallFix p m c cX7_edgesOf 2 s ([.long y0] : List Value).toArray wsX7_edgesOf RX7 := ⟨hx, hb, hml, hown, hts⟩
  have f0 := hts (.constantLong RX7 279 (1024)) (by decide +kernel)
  have hl := lv_entry [.long y0] (n := 2) (Nat.le_of_ble_eq_true rfl)
  rw [lg_entry_eq]
  generalize (lg_sl [.long y0] ++ List.replicate (2 - (lg_sl [.long y0]).length) Slot.unset).toArray = ls at hl ⊢
  have hl : lv_has ls 2 [(0, .long y0)] := hl
  refine W.gen (fun Q0 hQ => ?_)
  unfold P_X7_edgesOf at h
  refine lv_lload_n hx hb dX7_edgesOf_0 rfl (lv_at hl 0 rfl) ?_
  refine vp_callSl (W.runS (As := [.long y0]) (rest := []) CF (c_X7_amountOf l y0 _ h) (va_cwS 1 hts gX7_edgesOf_X7_amountOf rfl rfl rfl qX7_amountOf.2 ⟨Nat.le_of_ble_eq_true rfl, Nat.le_of_ble_eq_true rfl⟩) mpSN rfl rfl hl.1 rfl (lv_room (Nat.le_of_ble_eq_true rfl)) dX7_edgesOf_1 ⟨Nat.zero_le _, Nat.zero_le _⟩) (fun r1 h => ?_)
  refine lv_ldc2 (v := 1024) hx hb hown f0 dX7_edgesOf_4 ?_
  refine lv_lmul hx hb dX7_edgesOf_7 ?_
  refine lv_lload_n hx hb dX7_edgesOf_8 rfl (lv_at hl 0 rfl) ?_
  refine lv_lsub hx hb dX7_edgesOf_9 ?_
  subst hQ
  exact W.lret (v := (r1 * (1024 : Int64)) - y0) hx hb hr (fun t ht _ => ⟨(r1 * (1024 : Int64)) - y0, rfl, h, ht⟩) (fun _ hq => absurd hq List.not_mem_nil) dX7_edgesOf_10
theorem qX7_sumToNothing : yX7_sumToNothing.cls = RX7 ∧ yX7_sumToNothing.cls ≠ "java/lang/invoke/MethodHandle" ∧ yX7_sumToNothing.cls ≠ "java/lang/invoke/VarHandle" ∧ (parseMethodDescriptor yX7_sumToNothing.desc).map (fun d => d.parameters.length) = some 2 := by decide +kernel
def P_X7_sumToNothing (post : Int32 → Prop) (y0 : Int64) (y2 : Int64) : Prop :=
  ((y0 = (4611686018427387904 : Int64) → post (0 : Int32)) ∧ (¬ y0 = (4611686018427387904 : Int64) → ((y2 = (4611686018427387904 : Int64) → post (0 : Int32)) ∧ (¬ y2 = (4611686018427387904 : Int64) → ((¬ y0 + y2 = (0 : Int64) → post (0 : Int32)) ∧ (y0 + y2 = (0 : Int64) → post (1 : Int32)))))))
set_option maxHeartbeats 4000000 in
set_option maxRecDepth 100000 in
theorem c_X7_sumToNothing (l : Launch) (y0 : Int64) (y2 : Int64) (post : Int32 → Prop) (h : P_X7_sumToNothing post y0 y2) : Met l yX7_sumToNothing wsX7_sumToNothing { frames := 0, cells := 0, slots := 0, locals := 0 } (pcN [.long y0, .long y2]) (vp_Si post) 0 0 (fun _ => False) := by
  refine Met.ofW (cc := cX7_sumToNothing) (maxL := 4) (ret := (some .boolean)) (by decide) rfl ?_
  intro p e s m args below meth c s₁ B hml hv
  obtain ⟨rfl, -⟩ := hv
  have hx := B.exec
  have hb := B.bytes
  have hr := B.returns
  have hts := atoms_spec (ws := wsX7_sumToNothing) B.pre
  have hown : s.vm.findClass RX7 = some m.cls := findClass_of_methodNamed B.named
  have hlocks := B.notSynchronized
  have CF : CallFix p m c cX7_sumToNothing 4 s ([.long y0, .long y2] : List Value).toArray wsX7_sumToNothing RX7 := ⟨hx, hb, hml, hown, hts⟩
  have f0 := hts (.constantLong RX7 156 (4611686018427387904)) (by decide +kernel)
  have hl := lv_entry [.long y0, .long y2] (n := 4) (Nat.le_of_ble_eq_true rfl)
  rw [lg_entry_eq]
  generalize (lg_sl [.long y0, .long y2] ++ List.replicate (4 - (lg_sl [.long y0, .long y2]).length) Slot.unset).toArray = ls at hl ⊢
  have hl : lv_has ls 4 [(0, .long y0), (2, .long y2)] := hl
  refine W.gen (fun Q0 hQ => ?_)
  unfold P_X7_sumToNothing at h
  refine lv_lload_n hx hb dX7_sumToNothing_0 rfl (lv_at hl 0 rfl) ?_
  refine lv_ldc2 (v := 4611686018427387904) hx hb hown f0 dX7_sumToNothing_1 ?_
  refine lx_eq (tgt := 28) hx hb dX7_sumToNothing_4 dX7_sumToNothing_5 (by decide) (fun hc => ?_) (fun hc => ?_)
  · replace h := h.1 hc
    refine lv_iconst (v := 0) hx hb dX7_sumToNothing_28 (by decide) ?_
    subst hQ
    exact W.zret (v := (0 : Int32)) hx hb hr bz0 (fun t ht _ => ⟨(0 : Int32), rfl, h, ht⟩) (fun _ hq => absurd hq List.not_mem_nil) dX7_sumToNothing_29
  · replace h := h.2 hc
    refine lv_lload_n hx hb dX7_sumToNothing_8 rfl (lv_at hl 1 rfl) ?_
    refine lv_ldc2 (v := 4611686018427387904) hx hb hown f0 dX7_sumToNothing_9 ?_
    refine lx_eq (tgt := 28) hx hb dX7_sumToNothing_12 dX7_sumToNothing_13 (by decide) (fun hc => ?_) (fun hc => ?_)
    · replace h := h.1 hc
      refine lv_iconst (v := 0) hx hb dX7_sumToNothing_28 (by decide) ?_
      subst hQ
      exact W.zret (v := (0 : Int32)) hx hb hr bz0 (fun t ht _ => ⟨(0 : Int32), rfl, h, ht⟩) (fun _ hq => absurd hq List.not_mem_nil) dX7_sumToNothing_29
    · replace h := h.2 hc
      refine lv_lload_n hx hb dX7_sumToNothing_16 rfl (lv_at hl 0 rfl) ?_
      refine lv_lload_n hx hb dX7_sumToNothing_17 rfl (lv_at hl 1 rfl) ?_
      refine lv_ladd hx hb dX7_sumToNothing_18 ?_
      refine lv_lconst (v := 0) hx hb dX7_sumToNothing_19 (by decide) ?_
      refine lx_ne (tgt := 28) hx hb dX7_sumToNothing_20 dX7_sumToNothing_21 (by decide) (fun hc => ?_) (fun hc => ?_)
      · replace h := h.1 hc
        refine lv_iconst (v := 0) hx hb dX7_sumToNothing_28 (by decide) ?_
        subst hQ
        exact W.zret (v := (0 : Int32)) hx hb hr bz0 (fun t ht _ => ⟨(0 : Int32), rfl, h, ht⟩) (fun _ hq => absurd hq List.not_mem_nil) dX7_sumToNothing_29
      · replace h := h.2 hc
        refine lv_iconst (v := 1) hx hb dX7_sumToNothing_24 (by decide) ?_
        refine lv_goto (tgt := 29) hx hb dX7_sumToNothing_25 (by decide) ?_
        subst hQ
        exact W.zret (v := (1 : Int32)) hx hb hr bz1 (fun t ht _ => ⟨(1 : Int32), rfl, h, ht⟩) (fun _ hq => absurd hq List.not_mem_nil) dX7_sumToNothing_29
theorem qX7_nextSeed : yX7_nextSeed.cls = RX7 ∧ yX7_nextSeed.cls ≠ "java/lang/invoke/MethodHandle" ∧ yX7_nextSeed.cls ≠ "java/lang/invoke/VarHandle" ∧ (parseMethodDescriptor yX7_nextSeed.desc).map (fun d => d.parameters.length) = some 1 := by decide +kernel
def P_X7_nextSeed (post : Int32 → Prop) (x0 : Int32) : Prop :=
  post ((x0 * (1103515245 : Int32)) + (12345 : Int32))
set_option maxHeartbeats 4000000 in
set_option maxRecDepth 100000 in
theorem c_X7_nextSeed (l : Launch) (x0 : Int32) (post : Int32 → Prop) (h : P_X7_nextSeed post x0) : Met l yX7_nextSeed wsX7_nextSeed { frames := 0, cells := 0, slots := 0, locals := 0 } (pcN [.int x0]) (vp_Si post) 0 0 (fun _ => False) := by
  refine Met.ofW (cc := cX7_nextSeed) (maxL := 1) (ret := (some .int)) (by decide) rfl ?_
  intro p e s m args below meth c s₁ B hml hv
  obtain ⟨rfl, -⟩ := hv
  have hx := B.exec
  have hb := B.bytes
  have hr := B.returns
  have hts := atoms_spec (ws := wsX7_nextSeed) B.pre
  have hown : s.vm.findClass RX7 = some m.cls := findClass_of_methodNamed B.named
  have hlocks := B.notSynchronized
  have CF : CallFix p m c cX7_nextSeed 1 s ([.int x0] : List Value).toArray wsX7_nextSeed RX7 := ⟨hx, hb, hml, hown, hts⟩
  have f0 := hts (.constant RX7 287 (1103515245)) (by decide +kernel)
  have hl := lv_entry [.int x0] (n := 1) (Nat.le_of_ble_eq_true rfl)
  rw [lg_entry_eq]
  generalize (lg_sl [.int x0] ++ List.replicate (1 - (lg_sl [.int x0]).length) Slot.unset).toArray = ls at hl ⊢
  have hl : lv_has ls 1 [(0, .int x0)] := hl
  refine W.gen (fun Q0 hQ => ?_)
  unfold P_X7_nextSeed at h
  refine lv_iload_n hx hb dX7_nextSeed_0 rfl (lv_at hl 0 rfl) ?_
  refine lv_ldcw (v := 1103515245) hx hb hown f0 dX7_nextSeed_1 ?_
  refine lv_imul hx hb dX7_nextSeed_4 ?_
  refine lv_sipush (v := 12345) hx hb dX7_nextSeed_5 (by decide) ?_
  refine lv_iadd hx hb dX7_nextSeed_8 ?_
  subst hQ
  exact W.iret (v := (x0 * (1103515245 : Int32)) + (12345 : Int32)) hx hb hr (fun t ht _ => ⟨(x0 * (1103515245 : Int32)) + (12345 : Int32), rfl, h, ht⟩) (fun _ hq => absurd hq List.not_mem_nil) dX7_nextSeed_9
theorem qX7_seedBits : yX7_seedBits.cls = RX7 ∧ yX7_seedBits.cls ≠ "java/lang/invoke/MethodHandle" ∧ yX7_seedBits.cls ≠ "java/lang/invoke/VarHandle" ∧ (parseMethodDescriptor yX7_seedBits.desc).map (fun d => d.parameters.length) = some 1 := by decide +kernel
def P_X7_seedBits (post : Int32 → Prop) (x0 : Int32) : Prop :=
  post (((x0.toUInt32 >>> ((16 : Int32).toUInt32 &&& Int32.toUInt32 31)).toInt32) &&& (32767 : Int32))
set_option maxHeartbeats 4000000 in
set_option maxRecDepth 100000 in
theorem c_X7_seedBits (l : Launch) (x0 : Int32) (post : Int32 → Prop) (h : P_X7_seedBits post x0) : Met l yX7_seedBits wsX7_seedBits { frames := 0, cells := 0, slots := 0, locals := 0 } (pcN [.int x0]) (vp_Si post) 0 0 (fun _ => False) := by
  refine Met.ofW (cc := cX7_seedBits) (maxL := 1) (ret := (some .int)) (by decide) rfl ?_
  intro p e s m args below meth c s₁ B hml hv
  obtain ⟨rfl, -⟩ := hv
  have hx := B.exec
  have hb := B.bytes
  have hr := B.returns
  have hts := atoms_spec (ws := wsX7_seedBits) B.pre
  have hown : s.vm.findClass RX7 = some m.cls := findClass_of_methodNamed B.named
  have hlocks := B.notSynchronized
  have CF : CallFix p m c cX7_seedBits 1 s ([.int x0] : List Value).toArray wsX7_seedBits RX7 := ⟨hx, hb, hml, hown, hts⟩
  have hl := lv_entry [.int x0] (n := 1) (Nat.le_of_ble_eq_true rfl)
  rw [lg_entry_eq]
  generalize (lg_sl [.int x0] ++ List.replicate (1 - (lg_sl [.int x0]).length) Slot.unset).toArray = ls at hl ⊢
  have hl : lv_has ls 1 [(0, .int x0)] := hl
  refine W.gen (fun Q0 hQ => ?_)
  unfold P_X7_seedBits at h
  refine lv_iload_n hx hb dX7_seedBits_0 rfl (lv_at hl 0 rfl) ?_
  refine lv_bipush (v := 16) hx hb dX7_seedBits_1 (by decide) ?_
  refine lv_iushr (v := (x0.toUInt32 >>> ((16 : Int32).toUInt32 &&& Int32.toUInt32 31)).toInt32) hx hb dX7_seedBits_3 rfl ?_
  refine lv_sipush (v := 32767) hx hb dX7_seedBits_4 (by decide) ?_
  refine lv_iand hx hb dX7_seedBits_7 ?_
  subst hQ
  exact W.iret (v := ((x0.toUInt32 >>> ((16 : Int32).toUInt32 &&& Int32.toUInt32 31)).toInt32) &&& (32767 : Int32)) hx hb hr (fun t ht _ => ⟨((x0.toUInt32 >>> ((16 : Int32).toUInt32 &&& Int32.toUInt32 31)).toInt32) &&& (32767 : Int32), rfl, h, ht⟩) (fun _ hq => absurd hq List.not_mem_nil) dX7_seedBits_8
theorem qX5_empty : yX5_empty.cls = RX5 ∧ yX5_empty.cls ≠ "java/lang/invoke/MethodHandle" ∧ yX5_empty.cls ≠ "java/lang/invoke/VarHandle" ∧ (parseMethodDescriptor yX5_empty.desc).map (fun d => d.parameters.length) = some 0 := by decide +kernel
def P_X5_empty (post : Int32 → Int32 → Int32 → Prop) : Prop :=
  post (0 : Int32) (0 : Int32) (1 : Int32)
set_option maxHeartbeats 4000000 in
set_option maxRecDepth 100000 in
theorem c_X5_empty (l : Launch) (D : va_G) (cy : Nat → ClassId) (sz : Nat) (A_t A_t_upper A_t_lower A_t_limits A_t_stricts A_t_marks : Nat) (t_size : Int32) (t_marked : Int32) (t_wholeness : Int32) (post : Int32 → Int32 → Int32 → Prop) (h : P_X5_empty post) : Met l yX5_empty wsX5_empty { frames := 0, cells := 0, slots := 0, locals := 0 } (pcW D cy [(A_t, .inr (5, [.ref A_t_upper, .ref A_t_lower, .ref A_t_limits, .ref A_t_stricts, .ref A_t_marks, .int t_size, .int t_marked, .int t_wholeness]))] sz [.ref A_t]) (va_Qv (fun (u : Int32 × Int32 × Int32) => post u.1 u.2.1 u.2.2) (bW D [(A_t, .inr (5, [.ref A_t_upper, .ref A_t_lower, .ref A_t_limits, .ref A_t_stricts, .ref A_t_marks, .int t_size, .int t_marked, .int t_wholeness]))] sz (fun u => [(A_t, .inr (5, [.ref A_t_upper, .ref A_t_lower, .ref A_t_limits, .ref A_t_stricts, .ref A_t_marks, .int (u.1), .int (u.2.1), .int (u.2.2)]))])) (va_A [(A_t, .inr (5, [.ref A_t_upper, .ref A_t_lower, .ref A_t_limits, .ref A_t_stricts, .ref A_t_marks, .int t_size, .int t_marked, .int t_wholeness]))] sz)) 0 0 (va_A [(A_t, .inr (5, [.ref A_t_upper, .ref A_t_lower, .ref A_t_limits, .ref A_t_stricts, .ref A_t_marks, .int t_size, .int t_marked, .int t_wholeness]))] sz) := by
  refine Met.ofW (cc := cX5_empty) (maxL := 1) (ret := none) (by decide) rfl ?_
  intro p e s m args below meth c s₁ B hml hv
  obtain ⟨rfl, hsz, hP, hK, hD0⟩ := hv
  have hx := B.exec
  have hb := B.bytes
  have hr := B.returns
  have hts := atoms_spec (ws := wsX5_empty) B.pre
  have hown : s.vm.findClass RX5 = some m.cls := findClass_of_methodNamed B.named
  have hlocks := B.notSynchronized
  have CF : CallFix p m c cX5_empty 1 s ([.ref A_t] : List Value).toArray wsX5_empty RX5 := ⟨hx, hb, hml, hown, hts⟩
  have f0 := hts (.fieldLink RX5 31 "GapBounds$Store" "size" "I") (by decide +kernel)
  have f1 := hts (.fieldLink RX5 34 "GapBounds$Store" "marked" "I") (by decide +kernel)
  have f2 := hts (.fieldLink RX5 27 "GapBounds$Store" "wholeness" "I") (by decide +kernel)
  have iX5 : ∀ w ∈ u_ws RX5 TX5 8, w ∈ wsX5_empty := by decide +kernel
  subst hsz
  obtain ⟨A, hAe⟩ : ∃ A, A = va_A [(A_t, .inr (5, [.ref A_t_upper, .ref A_t_lower, .ref A_t_limits, .ref A_t_stricts, .ref A_t_marks, .int t_size, .int t_marked, .int t_wholeness]))] s.heap.size := ⟨_, rfl⟩
  have hD : va_D A [(A_t, .inr (5, [.ref A_t_upper, .ref A_t_lower, .ref A_t_limits, .ref A_t_stricts, .ref A_t_marks, .int t_size, .int t_marked, .int t_wholeness]))] := by rw [hAe]; exact hD0.self
  have hA : ∀ q : Nat, s.heap.size ≤ q → A q := fun q hq => by rw [hAe]; exact Or.inr hq
  have hS : va_S A s.heap s.heap [] := va_S.rf
  have hl := lv_entry [.ref A_t] (n := 1) (Nat.le_of_ble_eq_true rfl)
  rw [lg_entry_eq]
  generalize (lg_sl [.ref A_t] ++ List.replicate (1 - (lg_sl [.ref A_t]).length) Slot.unset).toArray = ls at hl ⊢
  have hl : lv_has ls 1 [(0, .ref A_t)] := hl
  refine W.gen (fun Q0 hQ => ?_)
  unfold P_X5_empty at h
  refine lv_aload_n hx hb dX5_empty_0 rfl (lv_at hl 0 rfl) ?_
  refine lv_iconst (v := 0) hx hb dX5_empty_1 (by decide) ?_
  refine va_put (D := D) (ci := 5) (v := .int (0 : Int32)) (ty := .int) (C := RX5) (T := TX5) (N := 8) hx hb hts iX5 tyX5 tyX5_ok nmX5 hown hK.1 hP hD hS 0 rfl rfl 5 (by decide) f0 (fun _ h9 => h9) rfl (tyX5_ok 5 (by decide)) rfl rfl (Nat.le_of_ble_eq_true rfl) dX5_empty_2 (fun H locs hP hD hS => ?_)
  have hP : va_P D vwCl [(A_t, .inr (5, [.ref A_t_upper, .ref A_t_lower, .ref A_t_limits, .ref A_t_stricts, .ref A_t_marks, .int ((0 : Int32)), .int t_marked, .int t_wholeness]))] H := hP
  have hD : va_D A [(A_t, .inr (5, [.ref A_t_upper, .ref A_t_lower, .ref A_t_limits, .ref A_t_stricts, .ref A_t_marks, .int ((0 : Int32)), .int t_marked, .int t_wholeness]))] := hD
  refine lv_aload_n hx hb dX5_empty_5 rfl (lv_at hl 0 rfl) ?_
  refine lv_iconst (v := 0) hx hb dX5_empty_6 (by decide) ?_
  refine va_put (D := D) (ci := 5) (v := .int (0 : Int32)) (ty := .int) (C := RX5) (T := TX5) (N := 8) hx hb hts iX5 tyX5 tyX5_ok nmX5 hown hK.1 hP hD hS 0 rfl rfl 6 (by decide) f1 (fun _ h9 => h9) rfl (tyX5_ok 6 (by decide)) rfl rfl (Nat.le_of_ble_eq_true rfl) dX5_empty_7 (fun H locs hP hD hS => ?_)
  have hP : va_P D vwCl [(A_t, .inr (5, [.ref A_t_upper, .ref A_t_lower, .ref A_t_limits, .ref A_t_stricts, .ref A_t_marks, .int ((0 : Int32)), .int ((0 : Int32)), .int t_wholeness]))] H := hP
  have hD : va_D A [(A_t, .inr (5, [.ref A_t_upper, .ref A_t_lower, .ref A_t_limits, .ref A_t_stricts, .ref A_t_marks, .int ((0 : Int32)), .int ((0 : Int32)), .int t_wholeness]))] := hD
  refine lv_aload_n hx hb dX5_empty_10 rfl (lv_at hl 0 rfl) ?_
  refine lv_iconst (v := 1) hx hb dX5_empty_11 (by decide) ?_
  refine va_put (D := D) (ci := 5) (v := .int (1 : Int32)) (ty := .int) (C := RX5) (T := TX5) (N := 8) hx hb hts iX5 tyX5 tyX5_ok nmX5 hown hK.1 hP hD hS 0 rfl rfl 7 (by decide) f2 (fun _ h9 => h9) rfl (tyX5_ok 7 (by decide)) rfl rfl (Nat.le_of_ble_eq_true rfl) dX5_empty_12 (fun H locs hP hD hS => ?_)
  have hP : va_P D vwCl [(A_t, .inr (5, [.ref A_t_upper, .ref A_t_lower, .ref A_t_limits, .ref A_t_stricts, .ref A_t_marks, .int ((0 : Int32)), .int ((0 : Int32)), .int ((1 : Int32))]))] H := hP
  have hD : va_D A [(A_t, .inr (5, [.ref A_t_upper, .ref A_t_lower, .ref A_t_limits, .ref A_t_stricts, .ref A_t_marks, .int ((0 : Int32)), .int ((0 : Int32)), .int ((1 : Int32))]))] := hD
  subst hQ
  subst hAe
  exact W.vret hx hb hr (fun t ht _ => ⟨⟨((0 : Int32), (0 : Int32), (1 : Int32)), rfl, h, by rw [ht]; exact hP, hD⟩, hS.F ht⟩) hS.2.2 dX5_empty_15
theorem qX5_takeFrom : yX5_takeFrom.cls = RX5 ∧ yX5_takeFrom.cls ≠ "java/lang/invoke/MethodHandle" ∧ yX5_takeFrom.cls ≠ "java/lang/invoke/VarHandle" ∧ (parseMethodDescriptor yX5_takeFrom.desc).map (fun d => d.parameters.length) = some 1 := by decide +kernel
def P_X5_takeFrom (post : Int32 → Int32 → Int32 → (Nat → Int32) → (Nat → Int32) → (Nat → Int32) → (Nat → Int32) → (Nat → Int32) → Prop) (s_size : Int32) (s_marked : Int32) (s_wholeness : Int32) (s_upper : Nat → Int32) (t_upper : Nat → Int32) (s_lower : Nat → Int32) (t_lower : Nat → Int32) (s_limits : Nat → Int32) (t_limits : Nat → Int32) (s_stricts : Nat → Int32) (t_stricts : Nat → Int32) (s_marks : Nat → Int32) (t_marks : Nat → Int32) : Prop :=
  post s_size s_marked s_wholeness (va_cpy s_upper t_upper (0 : Int32).toNatClampNeg (0 : Int32).toNatClampNeg (24 : Int32).toNatClampNeg) (va_cpy s_lower t_lower (0 : Int32).toNatClampNeg (0 : Int32).toNatClampNeg (24 : Int32).toNatClampNeg) (va_cpy s_limits t_limits (0 : Int32).toNatClampNeg (0 : Int32).toNatClampNeg (24 : Int32).toNatClampNeg) (va_cpy s_stricts t_stricts (0 : Int32).toNatClampNeg (0 : Int32).toNatClampNeg (24 : Int32).toNatClampNeg) (va_cpy s_marks t_marks (0 : Int32).toNatClampNeg (0 : Int32).toNatClampNeg (8 : Int32).toNatClampNeg)
set_option maxHeartbeats 4000000 in
set_option maxRecDepth 100000 in
theorem c_X5_takeFrom (l : Launch) (D : va_G) (cy : Nat → ClassId) (sz : Nat) (A_s A_s_upper A_s_lower A_s_limits A_s_stricts A_s_marks A_t A_t_upper A_t_lower A_t_limits A_t_stricts A_t_marks : Nat) (s_size : Int32) (s_marked : Int32) (s_wholeness : Int32) (t_size : Int32) (t_marked : Int32) (t_wholeness : Int32) (s_upper : Nat → Int32) (t_upper : Nat → Int32) (s_lower : Nat → Int32) (t_lower : Nat → Int32) (s_limits : Nat → Int32) (t_limits : Nat → Int32) (s_stricts : Nat → Int32) (t_stricts : Nat → Int32) (s_marks : Nat → Int32) (t_marks : Nat → Int32) (post : Int32 → Int32 → Int32 → (Nat → Int32) → (Nat → Int32) → (Nat → Int32) → (Nat → Int32) → (Nat → Int32) → Prop) (h : P_X5_takeFrom post s_size s_marked s_wholeness s_upper t_upper s_lower t_lower s_limits t_limits s_stricts t_stricts s_marks t_marks) : Met l yX5_takeFrom wsX5_takeFrom { frames := 1, cells := 0, slots := 0, locals := 60 } (pcW D cy [(A_s, .inr (5, [.ref A_s_upper, .ref A_s_lower, .ref A_s_limits, .ref A_s_stricts, .ref A_s_marks, .int s_size, .int s_marked, .int s_wholeness])), (A_t, .inr (5, [.ref A_t_upper, .ref A_t_lower, .ref A_t_limits, .ref A_t_stricts, .ref A_t_marks, .int t_size, .int t_marked, .int t_wholeness])), (A_s_upper, .inl (cy 1, 24, .inl s_upper)), (A_t_upper, .inl (cy 1, 24, .inl t_upper)), (A_s_lower, .inl (cy 1, 24, .inl s_lower)), (A_t_lower, .inl (cy 1, 24, .inl t_lower)), (A_s_limits, .inl (cy 1, 24, .inl s_limits)), (A_t_limits, .inl (cy 1, 24, .inl t_limits)), (A_s_stricts, .inl (cy 1, 24, .inl s_stricts)), (A_t_stricts, .inl (cy 1, 24, .inl t_stricts)), (A_s_marks, .inl (cy 1, 8, .inl s_marks)), (A_t_marks, .inl (cy 1, 8, .inl t_marks))] sz [.ref A_t, .ref A_s]) (va_Qv (fun (u : Int32 × Int32 × Int32 × (Nat → Int32) × (Nat → Int32) × (Nat → Int32) × (Nat → Int32) × (Nat → Int32)) => post u.1 u.2.1 u.2.2.1 u.2.2.2.1 u.2.2.2.2.1 u.2.2.2.2.2.1 u.2.2.2.2.2.2.1 u.2.2.2.2.2.2.2) (bW D [(A_s, .inr (5, [.ref A_s_upper, .ref A_s_lower, .ref A_s_limits, .ref A_s_stricts, .ref A_s_marks, .int s_size, .int s_marked, .int s_wholeness])), (A_t, .inr (5, [.ref A_t_upper, .ref A_t_lower, .ref A_t_limits, .ref A_t_stricts, .ref A_t_marks, .int t_size, .int t_marked, .int t_wholeness])), (A_s_upper, .inl (cy 1, 24, .inl s_upper)), (A_t_upper, .inl (cy 1, 24, .inl t_upper)), (A_s_lower, .inl (cy 1, 24, .inl s_lower)), (A_t_lower, .inl (cy 1, 24, .inl t_lower)), (A_s_limits, .inl (cy 1, 24, .inl s_limits)), (A_t_limits, .inl (cy 1, 24, .inl t_limits)), (A_s_stricts, .inl (cy 1, 24, .inl s_stricts)), (A_t_stricts, .inl (cy 1, 24, .inl t_stricts)), (A_s_marks, .inl (cy 1, 8, .inl s_marks)), (A_t_marks, .inl (cy 1, 8, .inl t_marks))] sz (fun u => [(A_s, .inr (5, [.ref A_s_upper, .ref A_s_lower, .ref A_s_limits, .ref A_s_stricts, .ref A_s_marks, .int s_size, .int s_marked, .int s_wholeness])), (A_t, .inr (5, [.ref A_t_upper, .ref A_t_lower, .ref A_t_limits, .ref A_t_stricts, .ref A_t_marks, .int (u.1), .int (u.2.1), .int (u.2.2.1)])), (A_s_upper, .inl (cy 1, 24, .inl s_upper)), (A_t_upper, .inl (cy 1, 24, .inl u.2.2.2.1)), (A_s_lower, .inl (cy 1, 24, .inl s_lower)), (A_t_lower, .inl (cy 1, 24, .inl u.2.2.2.2.1)), (A_s_limits, .inl (cy 1, 24, .inl s_limits)), (A_t_limits, .inl (cy 1, 24, .inl u.2.2.2.2.2.1)), (A_s_stricts, .inl (cy 1, 24, .inl s_stricts)), (A_t_stricts, .inl (cy 1, 24, .inl u.2.2.2.2.2.2.1)), (A_s_marks, .inl (cy 1, 8, .inl s_marks)), (A_t_marks, .inl (cy 1, 8, .inl u.2.2.2.2.2.2.2))])) (va_A [(A_s, .inr (5, [.ref A_s_upper, .ref A_s_lower, .ref A_s_limits, .ref A_s_stricts, .ref A_s_marks, .int s_size, .int s_marked, .int s_wholeness])), (A_t, .inr (5, [.ref A_t_upper, .ref A_t_lower, .ref A_t_limits, .ref A_t_stricts, .ref A_t_marks, .int t_size, .int t_marked, .int t_wholeness])), (A_s_upper, .inl (cy 1, 24, .inl s_upper)), (A_t_upper, .inl (cy 1, 24, .inl t_upper)), (A_s_lower, .inl (cy 1, 24, .inl s_lower)), (A_t_lower, .inl (cy 1, 24, .inl t_lower)), (A_s_limits, .inl (cy 1, 24, .inl s_limits)), (A_t_limits, .inl (cy 1, 24, .inl t_limits)), (A_s_stricts, .inl (cy 1, 24, .inl s_stricts)), (A_t_stricts, .inl (cy 1, 24, .inl t_stricts)), (A_s_marks, .inl (cy 1, 8, .inl s_marks)), (A_t_marks, .inl (cy 1, 8, .inl t_marks))] sz)) 0 0 (va_A [(A_s, .inr (5, [.ref A_s_upper, .ref A_s_lower, .ref A_s_limits, .ref A_s_stricts, .ref A_s_marks, .int s_size, .int s_marked, .int s_wholeness])), (A_t, .inr (5, [.ref A_t_upper, .ref A_t_lower, .ref A_t_limits, .ref A_t_stricts, .ref A_t_marks, .int t_size, .int t_marked, .int t_wholeness])), (A_s_upper, .inl (cy 1, 24, .inl s_upper)), (A_t_upper, .inl (cy 1, 24, .inl t_upper)), (A_s_lower, .inl (cy 1, 24, .inl s_lower)), (A_t_lower, .inl (cy 1, 24, .inl t_lower)), (A_s_limits, .inl (cy 1, 24, .inl s_limits)), (A_t_limits, .inl (cy 1, 24, .inl t_limits)), (A_s_stricts, .inl (cy 1, 24, .inl s_stricts)), (A_t_stricts, .inl (cy 1, 24, .inl t_stricts)), (A_s_marks, .inl (cy 1, 8, .inl s_marks)), (A_t_marks, .inl (cy 1, 8, .inl t_marks))] sz) := by
  refine Met.ofW (cc := cX5_takeFrom) (maxL := 2) (ret := none) (by decide) rfl ?_
  intro p e s m args below meth c s₁ B hml hv
  obtain ⟨rfl, hsz, hP, hK, hD0⟩ := hv
  have hx := B.exec
  have hb := B.bytes
  have hr := B.returns
  have hts := atoms_spec (ws := wsX5_takeFrom) B.pre
  have hown : s.vm.findClass RX5 = some m.cls := findClass_of_methodNamed B.named
  have hlocks := B.notSynchronized
  have CF : CallFix p m c cX5_takeFrom 2 s ([.ref A_t, .ref A_s] : List Value).toArray wsX5_takeFrom RX5 := ⟨hx, hb, hml, hown, hts⟩
  have f0 := hts (.fieldLink RX5 9 "GapBounds$Store" "upper" "[I") (by decide +kernel)
  have f1 := hts (.methodLink RX5 37 arraycopyName) (by decide +kernel)
  have f2 := hts (.native arraycopyName) (by decide +kernel)
  have f3 := hts (.static arraycopyName) (by decide +kernel)
  have f4 := hts (.initialized "java/lang/System") (by decide +kernel)
  have f5 := hts (.fieldLink RX5 15 "GapBounds$Store" "lower" "[I") (by decide +kernel)
  have f6 := hts (.fieldLink RX5 18 "GapBounds$Store" "limits" "[I") (by decide +kernel)
  have f7 := hts (.fieldLink RX5 21 "GapBounds$Store" "stricts" "[I") (by decide +kernel)
  have f8 := hts (.fieldLink RX5 24 "GapBounds$Store" "marks" "[I") (by decide +kernel)
  have f9 := hts (.fieldLink RX5 31 "GapBounds$Store" "size" "I") (by decide +kernel)
  have f10 := hts (.fieldLink RX5 34 "GapBounds$Store" "marked" "I") (by decide +kernel)
  have f11 := hts (.fieldLink RX5 27 "GapBounds$Store" "wholeness" "I") (by decide +kernel)
  have iX5 : ∀ w ∈ u_ws RX5 TX5 8, w ∈ wsX5_takeFrom := by decide +kernel
  subst hsz
  obtain ⟨A, hAe⟩ : ∃ A, A = va_A [(A_s, .inr (5, [.ref A_s_upper, .ref A_s_lower, .ref A_s_limits, .ref A_s_stricts, .ref A_s_marks, .int s_size, .int s_marked, .int s_wholeness])), (A_t, .inr (5, [.ref A_t_upper, .ref A_t_lower, .ref A_t_limits, .ref A_t_stricts, .ref A_t_marks, .int t_size, .int t_marked, .int t_wholeness])), (A_s_upper, .inl (cy 1, 24, .inl s_upper)), (A_t_upper, .inl (cy 1, 24, .inl t_upper)), (A_s_lower, .inl (cy 1, 24, .inl s_lower)), (A_t_lower, .inl (cy 1, 24, .inl t_lower)), (A_s_limits, .inl (cy 1, 24, .inl s_limits)), (A_t_limits, .inl (cy 1, 24, .inl t_limits)), (A_s_stricts, .inl (cy 1, 24, .inl s_stricts)), (A_t_stricts, .inl (cy 1, 24, .inl t_stricts)), (A_s_marks, .inl (cy 1, 8, .inl s_marks)), (A_t_marks, .inl (cy 1, 8, .inl t_marks))] s.heap.size := ⟨_, rfl⟩
  have hD : va_D A [(A_s, .inr (5, [.ref A_s_upper, .ref A_s_lower, .ref A_s_limits, .ref A_s_stricts, .ref A_s_marks, .int s_size, .int s_marked, .int s_wholeness])), (A_t, .inr (5, [.ref A_t_upper, .ref A_t_lower, .ref A_t_limits, .ref A_t_stricts, .ref A_t_marks, .int t_size, .int t_marked, .int t_wholeness])), (A_s_upper, .inl (cy 1, 24, .inl s_upper)), (A_t_upper, .inl (cy 1, 24, .inl t_upper)), (A_s_lower, .inl (cy 1, 24, .inl s_lower)), (A_t_lower, .inl (cy 1, 24, .inl t_lower)), (A_s_limits, .inl (cy 1, 24, .inl s_limits)), (A_t_limits, .inl (cy 1, 24, .inl t_limits)), (A_s_stricts, .inl (cy 1, 24, .inl s_stricts)), (A_t_stricts, .inl (cy 1, 24, .inl t_stricts)), (A_s_marks, .inl (cy 1, 8, .inl s_marks)), (A_t_marks, .inl (cy 1, 8, .inl t_marks))] := by rw [hAe]; exact hD0.self
  have hA : ∀ q : Nat, s.heap.size ≤ q → A q := fun q hq => by rw [hAe]; exact Or.inr hq
  have hS : va_S A s.heap s.heap [] := va_S.rf
  have hl := lv_entry [.ref A_t, .ref A_s] (n := 2) (Nat.le_of_ble_eq_true rfl)
  rw [lg_entry_eq]
  generalize (lg_sl [.ref A_t, .ref A_s] ++ List.replicate (2 - (lg_sl [.ref A_t, .ref A_s]).length) Slot.unset).toArray = ls at hl ⊢
  have hl : lv_has ls 2 [(0, .ref A_t), (1, .ref A_s)] := hl
  refine W.gen (fun Q0 hQ => ?_)
  unfold P_X5_takeFrom at h
  refine lv_aload_n hx hb dX5_takeFrom_0 rfl (lv_at hl 1 rfl) ?_
  refine va_get (D := D) (ci := 5) (v := .ref A_s_upper) (C := RX5) (T := TX5) (N := 8) hx hb hts iX5 hown hK.1 hP 0 rfl rfl 0 (by decide) f0 (fun _ h9 => h9) rfl dX5_takeFrom_1 ?_
  refine lv_iconst (v := 0) hx hb dX5_takeFrom_4 (by decide) ?_
  refine lv_aload_n hx hb dX5_takeFrom_5 rfl (lv_at hl 0 rfl) ?_
  refine va_get (D := D) (ci := 5) (v := .ref A_t_upper) (C := RX5) (T := TX5) (N := 8) hx hb hts iX5 hown hK.1 hP 1 rfl rfl 0 (by decide) f0 (fun _ h9 => h9) rfl dX5_takeFrom_6 ?_
  refine lv_iconst (v := 0) hx hb dX5_takeFrom_9 (by decide) ?_
  refine lv_bipush (v := 24) hx hb dX5_takeFrom_10 (by decide) ?_
  refine va_copyi hx hb (hml.trans hl.1.symm) hown f1 f2 f3 f4 hK.1 hP hD hS 2 3 1 1 rfl rfl rfl rfl rfl (by decide) (by decide) (by decide) (by decide) (by decide) (fun _ _ => rfl) (Nat.le_of_ble_eq_true rfl) (by decide +kernel) dX5_takeFrom_12 (fun H locs hP hD hS => ?_)
  have hP : va_P D vwCl [(A_s, .inr (5, [.ref A_s_upper, .ref A_s_lower, .ref A_s_limits, .ref A_s_stricts, .ref A_s_marks, .int s_size, .int s_marked, .int s_wholeness])), (A_t, .inr (5, [.ref A_t_upper, .ref A_t_lower, .ref A_t_limits, .ref A_t_stricts, .ref A_t_marks, .int t_size, .int t_marked, .int t_wholeness])), (A_s_upper, .inl (cy 1, 24, .inl s_upper)), (A_t_upper, .inl (cy 1, 24, .inl (va_cpy s_upper t_upper (0 : Int32).toNatClampNeg (0 : Int32).toNatClampNeg (24 : Int32).toNatClampNeg))), (A_s_lower, .inl (cy 1, 24, .inl s_lower)), (A_t_lower, .inl (cy 1, 24, .inl t_lower)), (A_s_limits, .inl (cy 1, 24, .inl s_limits)), (A_t_limits, .inl (cy 1, 24, .inl t_limits)), (A_s_stricts, .inl (cy 1, 24, .inl s_stricts)), (A_t_stricts, .inl (cy 1, 24, .inl t_stricts)), (A_s_marks, .inl (cy 1, 8, .inl s_marks)), (A_t_marks, .inl (cy 1, 8, .inl t_marks))] H := hP
  have hD : va_D A [(A_s, .inr (5, [.ref A_s_upper, .ref A_s_lower, .ref A_s_limits, .ref A_s_stricts, .ref A_s_marks, .int s_size, .int s_marked, .int s_wholeness])), (A_t, .inr (5, [.ref A_t_upper, .ref A_t_lower, .ref A_t_limits, .ref A_t_stricts, .ref A_t_marks, .int t_size, .int t_marked, .int t_wholeness])), (A_s_upper, .inl (cy 1, 24, .inl s_upper)), (A_t_upper, .inl (cy 1, 24, .inl (va_cpy s_upper t_upper (0 : Int32).toNatClampNeg (0 : Int32).toNatClampNeg (24 : Int32).toNatClampNeg))), (A_s_lower, .inl (cy 1, 24, .inl s_lower)), (A_t_lower, .inl (cy 1, 24, .inl t_lower)), (A_s_limits, .inl (cy 1, 24, .inl s_limits)), (A_t_limits, .inl (cy 1, 24, .inl t_limits)), (A_s_stricts, .inl (cy 1, 24, .inl s_stricts)), (A_t_stricts, .inl (cy 1, 24, .inl t_stricts)), (A_s_marks, .inl (cy 1, 8, .inl s_marks)), (A_t_marks, .inl (cy 1, 8, .inl t_marks))] := hD
  refine lv_aload_n hx hb dX5_takeFrom_15 rfl (lv_at hl 1 rfl) ?_
  refine va_get (D := D) (ci := 5) (v := .ref A_s_lower) (C := RX5) (T := TX5) (N := 8) hx hb hts iX5 hown hK.1 hP 0 rfl rfl 1 (by decide) f5 (fun _ h9 => h9) rfl dX5_takeFrom_16 ?_
  refine lv_iconst (v := 0) hx hb dX5_takeFrom_19 (by decide) ?_
  refine lv_aload_n hx hb dX5_takeFrom_20 rfl (lv_at hl 0 rfl) ?_
  refine va_get (D := D) (ci := 5) (v := .ref A_t_lower) (C := RX5) (T := TX5) (N := 8) hx hb hts iX5 hown hK.1 hP 1 rfl rfl 1 (by decide) f5 (fun _ h9 => h9) rfl dX5_takeFrom_21 ?_
  refine lv_iconst (v := 0) hx hb dX5_takeFrom_24 (by decide) ?_
  refine lv_bipush (v := 24) hx hb dX5_takeFrom_25 (by decide) ?_
  refine va_copyi hx hb (hml.trans hl.1.symm) hown f1 f2 f3 f4 hK.1 hP hD hS 4 5 1 1 rfl rfl rfl rfl rfl (by decide) (by decide) (by decide) (by decide) (by decide) (fun _ _ => rfl) (Nat.le_of_ble_eq_true rfl) (by decide +kernel) dX5_takeFrom_27 (fun H locs hP hD hS => ?_)
  have hP : va_P D vwCl [(A_s, .inr (5, [.ref A_s_upper, .ref A_s_lower, .ref A_s_limits, .ref A_s_stricts, .ref A_s_marks, .int s_size, .int s_marked, .int s_wholeness])), (A_t, .inr (5, [.ref A_t_upper, .ref A_t_lower, .ref A_t_limits, .ref A_t_stricts, .ref A_t_marks, .int t_size, .int t_marked, .int t_wholeness])), (A_s_upper, .inl (cy 1, 24, .inl s_upper)), (A_t_upper, .inl (cy 1, 24, .inl (va_cpy s_upper t_upper (0 : Int32).toNatClampNeg (0 : Int32).toNatClampNeg (24 : Int32).toNatClampNeg))), (A_s_lower, .inl (cy 1, 24, .inl s_lower)), (A_t_lower, .inl (cy 1, 24, .inl (va_cpy s_lower t_lower (0 : Int32).toNatClampNeg (0 : Int32).toNatClampNeg (24 : Int32).toNatClampNeg))), (A_s_limits, .inl (cy 1, 24, .inl s_limits)), (A_t_limits, .inl (cy 1, 24, .inl t_limits)), (A_s_stricts, .inl (cy 1, 24, .inl s_stricts)), (A_t_stricts, .inl (cy 1, 24, .inl t_stricts)), (A_s_marks, .inl (cy 1, 8, .inl s_marks)), (A_t_marks, .inl (cy 1, 8, .inl t_marks))] H := hP
  have hD : va_D A [(A_s, .inr (5, [.ref A_s_upper, .ref A_s_lower, .ref A_s_limits, .ref A_s_stricts, .ref A_s_marks, .int s_size, .int s_marked, .int s_wholeness])), (A_t, .inr (5, [.ref A_t_upper, .ref A_t_lower, .ref A_t_limits, .ref A_t_stricts, .ref A_t_marks, .int t_size, .int t_marked, .int t_wholeness])), (A_s_upper, .inl (cy 1, 24, .inl s_upper)), (A_t_upper, .inl (cy 1, 24, .inl (va_cpy s_upper t_upper (0 : Int32).toNatClampNeg (0 : Int32).toNatClampNeg (24 : Int32).toNatClampNeg))), (A_s_lower, .inl (cy 1, 24, .inl s_lower)), (A_t_lower, .inl (cy 1, 24, .inl (va_cpy s_lower t_lower (0 : Int32).toNatClampNeg (0 : Int32).toNatClampNeg (24 : Int32).toNatClampNeg))), (A_s_limits, .inl (cy 1, 24, .inl s_limits)), (A_t_limits, .inl (cy 1, 24, .inl t_limits)), (A_s_stricts, .inl (cy 1, 24, .inl s_stricts)), (A_t_stricts, .inl (cy 1, 24, .inl t_stricts)), (A_s_marks, .inl (cy 1, 8, .inl s_marks)), (A_t_marks, .inl (cy 1, 8, .inl t_marks))] := hD
  refine lv_aload_n hx hb dX5_takeFrom_30 rfl (lv_at hl 1 rfl) ?_
  refine va_get (D := D) (ci := 5) (v := .ref A_s_limits) (C := RX5) (T := TX5) (N := 8) hx hb hts iX5 hown hK.1 hP 0 rfl rfl 2 (by decide) f6 (fun _ h9 => h9) rfl dX5_takeFrom_31 ?_
  refine lv_iconst (v := 0) hx hb dX5_takeFrom_34 (by decide) ?_
  refine lv_aload_n hx hb dX5_takeFrom_35 rfl (lv_at hl 0 rfl) ?_
  refine va_get (D := D) (ci := 5) (v := .ref A_t_limits) (C := RX5) (T := TX5) (N := 8) hx hb hts iX5 hown hK.1 hP 1 rfl rfl 2 (by decide) f6 (fun _ h9 => h9) rfl dX5_takeFrom_36 ?_
  refine lv_iconst (v := 0) hx hb dX5_takeFrom_39 (by decide) ?_
  refine lv_bipush (v := 24) hx hb dX5_takeFrom_40 (by decide) ?_
  refine va_copyi hx hb (hml.trans hl.1.symm) hown f1 f2 f3 f4 hK.1 hP hD hS 6 7 1 1 rfl rfl rfl rfl rfl (by decide) (by decide) (by decide) (by decide) (by decide) (fun _ _ => rfl) (Nat.le_of_ble_eq_true rfl) (by decide +kernel) dX5_takeFrom_42 (fun H locs hP hD hS => ?_)
  have hP : va_P D vwCl [(A_s, .inr (5, [.ref A_s_upper, .ref A_s_lower, .ref A_s_limits, .ref A_s_stricts, .ref A_s_marks, .int s_size, .int s_marked, .int s_wholeness])), (A_t, .inr (5, [.ref A_t_upper, .ref A_t_lower, .ref A_t_limits, .ref A_t_stricts, .ref A_t_marks, .int t_size, .int t_marked, .int t_wholeness])), (A_s_upper, .inl (cy 1, 24, .inl s_upper)), (A_t_upper, .inl (cy 1, 24, .inl (va_cpy s_upper t_upper (0 : Int32).toNatClampNeg (0 : Int32).toNatClampNeg (24 : Int32).toNatClampNeg))), (A_s_lower, .inl (cy 1, 24, .inl s_lower)), (A_t_lower, .inl (cy 1, 24, .inl (va_cpy s_lower t_lower (0 : Int32).toNatClampNeg (0 : Int32).toNatClampNeg (24 : Int32).toNatClampNeg))), (A_s_limits, .inl (cy 1, 24, .inl s_limits)), (A_t_limits, .inl (cy 1, 24, .inl (va_cpy s_limits t_limits (0 : Int32).toNatClampNeg (0 : Int32).toNatClampNeg (24 : Int32).toNatClampNeg))), (A_s_stricts, .inl (cy 1, 24, .inl s_stricts)), (A_t_stricts, .inl (cy 1, 24, .inl t_stricts)), (A_s_marks, .inl (cy 1, 8, .inl s_marks)), (A_t_marks, .inl (cy 1, 8, .inl t_marks))] H := hP
  have hD : va_D A [(A_s, .inr (5, [.ref A_s_upper, .ref A_s_lower, .ref A_s_limits, .ref A_s_stricts, .ref A_s_marks, .int s_size, .int s_marked, .int s_wholeness])), (A_t, .inr (5, [.ref A_t_upper, .ref A_t_lower, .ref A_t_limits, .ref A_t_stricts, .ref A_t_marks, .int t_size, .int t_marked, .int t_wholeness])), (A_s_upper, .inl (cy 1, 24, .inl s_upper)), (A_t_upper, .inl (cy 1, 24, .inl (va_cpy s_upper t_upper (0 : Int32).toNatClampNeg (0 : Int32).toNatClampNeg (24 : Int32).toNatClampNeg))), (A_s_lower, .inl (cy 1, 24, .inl s_lower)), (A_t_lower, .inl (cy 1, 24, .inl (va_cpy s_lower t_lower (0 : Int32).toNatClampNeg (0 : Int32).toNatClampNeg (24 : Int32).toNatClampNeg))), (A_s_limits, .inl (cy 1, 24, .inl s_limits)), (A_t_limits, .inl (cy 1, 24, .inl (va_cpy s_limits t_limits (0 : Int32).toNatClampNeg (0 : Int32).toNatClampNeg (24 : Int32).toNatClampNeg))), (A_s_stricts, .inl (cy 1, 24, .inl s_stricts)), (A_t_stricts, .inl (cy 1, 24, .inl t_stricts)), (A_s_marks, .inl (cy 1, 8, .inl s_marks)), (A_t_marks, .inl (cy 1, 8, .inl t_marks))] := hD
  refine lv_aload_n hx hb dX5_takeFrom_45 rfl (lv_at hl 1 rfl) ?_
  refine va_get (D := D) (ci := 5) (v := .ref A_s_stricts) (C := RX5) (T := TX5) (N := 8) hx hb hts iX5 hown hK.1 hP 0 rfl rfl 3 (by decide) f7 (fun _ h9 => h9) rfl dX5_takeFrom_46 ?_
  refine lv_iconst (v := 0) hx hb dX5_takeFrom_49 (by decide) ?_
  refine lv_aload_n hx hb dX5_takeFrom_50 rfl (lv_at hl 0 rfl) ?_
  refine va_get (D := D) (ci := 5) (v := .ref A_t_stricts) (C := RX5) (T := TX5) (N := 8) hx hb hts iX5 hown hK.1 hP 1 rfl rfl 3 (by decide) f7 (fun _ h9 => h9) rfl dX5_takeFrom_51 ?_
  refine lv_iconst (v := 0) hx hb dX5_takeFrom_54 (by decide) ?_
  refine lv_bipush (v := 24) hx hb dX5_takeFrom_55 (by decide) ?_
  refine va_copyi hx hb (hml.trans hl.1.symm) hown f1 f2 f3 f4 hK.1 hP hD hS 8 9 1 1 rfl rfl rfl rfl rfl (by decide) (by decide) (by decide) (by decide) (by decide) (fun _ _ => rfl) (Nat.le_of_ble_eq_true rfl) (by decide +kernel) dX5_takeFrom_57 (fun H locs hP hD hS => ?_)
  have hP : va_P D vwCl [(A_s, .inr (5, [.ref A_s_upper, .ref A_s_lower, .ref A_s_limits, .ref A_s_stricts, .ref A_s_marks, .int s_size, .int s_marked, .int s_wholeness])), (A_t, .inr (5, [.ref A_t_upper, .ref A_t_lower, .ref A_t_limits, .ref A_t_stricts, .ref A_t_marks, .int t_size, .int t_marked, .int t_wholeness])), (A_s_upper, .inl (cy 1, 24, .inl s_upper)), (A_t_upper, .inl (cy 1, 24, .inl (va_cpy s_upper t_upper (0 : Int32).toNatClampNeg (0 : Int32).toNatClampNeg (24 : Int32).toNatClampNeg))), (A_s_lower, .inl (cy 1, 24, .inl s_lower)), (A_t_lower, .inl (cy 1, 24, .inl (va_cpy s_lower t_lower (0 : Int32).toNatClampNeg (0 : Int32).toNatClampNeg (24 : Int32).toNatClampNeg))), (A_s_limits, .inl (cy 1, 24, .inl s_limits)), (A_t_limits, .inl (cy 1, 24, .inl (va_cpy s_limits t_limits (0 : Int32).toNatClampNeg (0 : Int32).toNatClampNeg (24 : Int32).toNatClampNeg))), (A_s_stricts, .inl (cy 1, 24, .inl s_stricts)), (A_t_stricts, .inl (cy 1, 24, .inl (va_cpy s_stricts t_stricts (0 : Int32).toNatClampNeg (0 : Int32).toNatClampNeg (24 : Int32).toNatClampNeg))), (A_s_marks, .inl (cy 1, 8, .inl s_marks)), (A_t_marks, .inl (cy 1, 8, .inl t_marks))] H := hP
  have hD : va_D A [(A_s, .inr (5, [.ref A_s_upper, .ref A_s_lower, .ref A_s_limits, .ref A_s_stricts, .ref A_s_marks, .int s_size, .int s_marked, .int s_wholeness])), (A_t, .inr (5, [.ref A_t_upper, .ref A_t_lower, .ref A_t_limits, .ref A_t_stricts, .ref A_t_marks, .int t_size, .int t_marked, .int t_wholeness])), (A_s_upper, .inl (cy 1, 24, .inl s_upper)), (A_t_upper, .inl (cy 1, 24, .inl (va_cpy s_upper t_upper (0 : Int32).toNatClampNeg (0 : Int32).toNatClampNeg (24 : Int32).toNatClampNeg))), (A_s_lower, .inl (cy 1, 24, .inl s_lower)), (A_t_lower, .inl (cy 1, 24, .inl (va_cpy s_lower t_lower (0 : Int32).toNatClampNeg (0 : Int32).toNatClampNeg (24 : Int32).toNatClampNeg))), (A_s_limits, .inl (cy 1, 24, .inl s_limits)), (A_t_limits, .inl (cy 1, 24, .inl (va_cpy s_limits t_limits (0 : Int32).toNatClampNeg (0 : Int32).toNatClampNeg (24 : Int32).toNatClampNeg))), (A_s_stricts, .inl (cy 1, 24, .inl s_stricts)), (A_t_stricts, .inl (cy 1, 24, .inl (va_cpy s_stricts t_stricts (0 : Int32).toNatClampNeg (0 : Int32).toNatClampNeg (24 : Int32).toNatClampNeg))), (A_s_marks, .inl (cy 1, 8, .inl s_marks)), (A_t_marks, .inl (cy 1, 8, .inl t_marks))] := hD
  refine lv_aload_n hx hb dX5_takeFrom_60 rfl (lv_at hl 1 rfl) ?_
  refine va_get (D := D) (ci := 5) (v := .ref A_s_marks) (C := RX5) (T := TX5) (N := 8) hx hb hts iX5 hown hK.1 hP 0 rfl rfl 4 (by decide) f8 (fun _ h9 => h9) rfl dX5_takeFrom_61 ?_
  refine lv_iconst (v := 0) hx hb dX5_takeFrom_64 (by decide) ?_
  refine lv_aload_n hx hb dX5_takeFrom_65 rfl (lv_at hl 0 rfl) ?_
  refine va_get (D := D) (ci := 5) (v := .ref A_t_marks) (C := RX5) (T := TX5) (N := 8) hx hb hts iX5 hown hK.1 hP 1 rfl rfl 4 (by decide) f8 (fun _ h9 => h9) rfl dX5_takeFrom_66 ?_
  refine lv_iconst (v := 0) hx hb dX5_takeFrom_69 (by decide) ?_
  refine lv_bipush (v := 8) hx hb dX5_takeFrom_70 (by decide) ?_
  refine va_copyi hx hb (hml.trans hl.1.symm) hown f1 f2 f3 f4 hK.1 hP hD hS 10 11 1 1 rfl rfl rfl rfl rfl (by decide) (by decide) (by decide) (by decide) (by decide) (fun _ _ => rfl) (Nat.le_of_ble_eq_true rfl) (by decide +kernel) dX5_takeFrom_72 (fun H locs hP hD hS => ?_)
  have hP : va_P D vwCl [(A_s, .inr (5, [.ref A_s_upper, .ref A_s_lower, .ref A_s_limits, .ref A_s_stricts, .ref A_s_marks, .int s_size, .int s_marked, .int s_wholeness])), (A_t, .inr (5, [.ref A_t_upper, .ref A_t_lower, .ref A_t_limits, .ref A_t_stricts, .ref A_t_marks, .int t_size, .int t_marked, .int t_wholeness])), (A_s_upper, .inl (cy 1, 24, .inl s_upper)), (A_t_upper, .inl (cy 1, 24, .inl (va_cpy s_upper t_upper (0 : Int32).toNatClampNeg (0 : Int32).toNatClampNeg (24 : Int32).toNatClampNeg))), (A_s_lower, .inl (cy 1, 24, .inl s_lower)), (A_t_lower, .inl (cy 1, 24, .inl (va_cpy s_lower t_lower (0 : Int32).toNatClampNeg (0 : Int32).toNatClampNeg (24 : Int32).toNatClampNeg))), (A_s_limits, .inl (cy 1, 24, .inl s_limits)), (A_t_limits, .inl (cy 1, 24, .inl (va_cpy s_limits t_limits (0 : Int32).toNatClampNeg (0 : Int32).toNatClampNeg (24 : Int32).toNatClampNeg))), (A_s_stricts, .inl (cy 1, 24, .inl s_stricts)), (A_t_stricts, .inl (cy 1, 24, .inl (va_cpy s_stricts t_stricts (0 : Int32).toNatClampNeg (0 : Int32).toNatClampNeg (24 : Int32).toNatClampNeg))), (A_s_marks, .inl (cy 1, 8, .inl s_marks)), (A_t_marks, .inl (cy 1, 8, .inl (va_cpy s_marks t_marks (0 : Int32).toNatClampNeg (0 : Int32).toNatClampNeg (8 : Int32).toNatClampNeg)))] H := hP
  have hD : va_D A [(A_s, .inr (5, [.ref A_s_upper, .ref A_s_lower, .ref A_s_limits, .ref A_s_stricts, .ref A_s_marks, .int s_size, .int s_marked, .int s_wholeness])), (A_t, .inr (5, [.ref A_t_upper, .ref A_t_lower, .ref A_t_limits, .ref A_t_stricts, .ref A_t_marks, .int t_size, .int t_marked, .int t_wholeness])), (A_s_upper, .inl (cy 1, 24, .inl s_upper)), (A_t_upper, .inl (cy 1, 24, .inl (va_cpy s_upper t_upper (0 : Int32).toNatClampNeg (0 : Int32).toNatClampNeg (24 : Int32).toNatClampNeg))), (A_s_lower, .inl (cy 1, 24, .inl s_lower)), (A_t_lower, .inl (cy 1, 24, .inl (va_cpy s_lower t_lower (0 : Int32).toNatClampNeg (0 : Int32).toNatClampNeg (24 : Int32).toNatClampNeg))), (A_s_limits, .inl (cy 1, 24, .inl s_limits)), (A_t_limits, .inl (cy 1, 24, .inl (va_cpy s_limits t_limits (0 : Int32).toNatClampNeg (0 : Int32).toNatClampNeg (24 : Int32).toNatClampNeg))), (A_s_stricts, .inl (cy 1, 24, .inl s_stricts)), (A_t_stricts, .inl (cy 1, 24, .inl (va_cpy s_stricts t_stricts (0 : Int32).toNatClampNeg (0 : Int32).toNatClampNeg (24 : Int32).toNatClampNeg))), (A_s_marks, .inl (cy 1, 8, .inl s_marks)), (A_t_marks, .inl (cy 1, 8, .inl (va_cpy s_marks t_marks (0 : Int32).toNatClampNeg (0 : Int32).toNatClampNeg (8 : Int32).toNatClampNeg)))] := hD
  refine lv_aload_n hx hb dX5_takeFrom_75 rfl (lv_at hl 0 rfl) ?_
  refine lv_aload_n hx hb dX5_takeFrom_76 rfl (lv_at hl 1 rfl) ?_
  refine va_get (D := D) (ci := 5) (v := .int s_size) (C := RX5) (T := TX5) (N := 8) hx hb hts iX5 hown hK.1 hP 0 rfl rfl 5 (by decide) f9 (fun _ h9 => h9) rfl dX5_takeFrom_77 ?_
  refine va_put (D := D) (ci := 5) (v := .int s_size) (ty := .int) (C := RX5) (T := TX5) (N := 8) hx hb hts iX5 tyX5 tyX5_ok nmX5 hown hK.1 hP hD hS 1 rfl rfl 5 (by decide) f9 (fun _ h9 => h9) rfl (tyX5_ok 5 (by decide)) rfl rfl (Nat.le_of_ble_eq_true rfl) dX5_takeFrom_80 (fun H locs hP hD hS => ?_)
  have hP : va_P D vwCl [(A_s, .inr (5, [.ref A_s_upper, .ref A_s_lower, .ref A_s_limits, .ref A_s_stricts, .ref A_s_marks, .int s_size, .int s_marked, .int s_wholeness])), (A_t, .inr (5, [.ref A_t_upper, .ref A_t_lower, .ref A_t_limits, .ref A_t_stricts, .ref A_t_marks, .int s_size, .int t_marked, .int t_wholeness])), (A_s_upper, .inl (cy 1, 24, .inl s_upper)), (A_t_upper, .inl (cy 1, 24, .inl (va_cpy s_upper t_upper (0 : Int32).toNatClampNeg (0 : Int32).toNatClampNeg (24 : Int32).toNatClampNeg))), (A_s_lower, .inl (cy 1, 24, .inl s_lower)), (A_t_lower, .inl (cy 1, 24, .inl (va_cpy s_lower t_lower (0 : Int32).toNatClampNeg (0 : Int32).toNatClampNeg (24 : Int32).toNatClampNeg))), (A_s_limits, .inl (cy 1, 24, .inl s_limits)), (A_t_limits, .inl (cy 1, 24, .inl (va_cpy s_limits t_limits (0 : Int32).toNatClampNeg (0 : Int32).toNatClampNeg (24 : Int32).toNatClampNeg))), (A_s_stricts, .inl (cy 1, 24, .inl s_stricts)), (A_t_stricts, .inl (cy 1, 24, .inl (va_cpy s_stricts t_stricts (0 : Int32).toNatClampNeg (0 : Int32).toNatClampNeg (24 : Int32).toNatClampNeg))), (A_s_marks, .inl (cy 1, 8, .inl s_marks)), (A_t_marks, .inl (cy 1, 8, .inl (va_cpy s_marks t_marks (0 : Int32).toNatClampNeg (0 : Int32).toNatClampNeg (8 : Int32).toNatClampNeg)))] H := hP
  have hD : va_D A [(A_s, .inr (5, [.ref A_s_upper, .ref A_s_lower, .ref A_s_limits, .ref A_s_stricts, .ref A_s_marks, .int s_size, .int s_marked, .int s_wholeness])), (A_t, .inr (5, [.ref A_t_upper, .ref A_t_lower, .ref A_t_limits, .ref A_t_stricts, .ref A_t_marks, .int s_size, .int t_marked, .int t_wholeness])), (A_s_upper, .inl (cy 1, 24, .inl s_upper)), (A_t_upper, .inl (cy 1, 24, .inl (va_cpy s_upper t_upper (0 : Int32).toNatClampNeg (0 : Int32).toNatClampNeg (24 : Int32).toNatClampNeg))), (A_s_lower, .inl (cy 1, 24, .inl s_lower)), (A_t_lower, .inl (cy 1, 24, .inl (va_cpy s_lower t_lower (0 : Int32).toNatClampNeg (0 : Int32).toNatClampNeg (24 : Int32).toNatClampNeg))), (A_s_limits, .inl (cy 1, 24, .inl s_limits)), (A_t_limits, .inl (cy 1, 24, .inl (va_cpy s_limits t_limits (0 : Int32).toNatClampNeg (0 : Int32).toNatClampNeg (24 : Int32).toNatClampNeg))), (A_s_stricts, .inl (cy 1, 24, .inl s_stricts)), (A_t_stricts, .inl (cy 1, 24, .inl (va_cpy s_stricts t_stricts (0 : Int32).toNatClampNeg (0 : Int32).toNatClampNeg (24 : Int32).toNatClampNeg))), (A_s_marks, .inl (cy 1, 8, .inl s_marks)), (A_t_marks, .inl (cy 1, 8, .inl (va_cpy s_marks t_marks (0 : Int32).toNatClampNeg (0 : Int32).toNatClampNeg (8 : Int32).toNatClampNeg)))] := hD
  refine lv_aload_n hx hb dX5_takeFrom_83 rfl (lv_at hl 0 rfl) ?_
  refine lv_aload_n hx hb dX5_takeFrom_84 rfl (lv_at hl 1 rfl) ?_
  refine va_get (D := D) (ci := 5) (v := .int s_marked) (C := RX5) (T := TX5) (N := 8) hx hb hts iX5 hown hK.1 hP 0 rfl rfl 6 (by decide) f10 (fun _ h9 => h9) rfl dX5_takeFrom_85 ?_
  refine va_put (D := D) (ci := 5) (v := .int s_marked) (ty := .int) (C := RX5) (T := TX5) (N := 8) hx hb hts iX5 tyX5 tyX5_ok nmX5 hown hK.1 hP hD hS 1 rfl rfl 6 (by decide) f10 (fun _ h9 => h9) rfl (tyX5_ok 6 (by decide)) rfl rfl (Nat.le_of_ble_eq_true rfl) dX5_takeFrom_88 (fun H locs hP hD hS => ?_)
  have hP : va_P D vwCl [(A_s, .inr (5, [.ref A_s_upper, .ref A_s_lower, .ref A_s_limits, .ref A_s_stricts, .ref A_s_marks, .int s_size, .int s_marked, .int s_wholeness])), (A_t, .inr (5, [.ref A_t_upper, .ref A_t_lower, .ref A_t_limits, .ref A_t_stricts, .ref A_t_marks, .int s_size, .int s_marked, .int t_wholeness])), (A_s_upper, .inl (cy 1, 24, .inl s_upper)), (A_t_upper, .inl (cy 1, 24, .inl (va_cpy s_upper t_upper (0 : Int32).toNatClampNeg (0 : Int32).toNatClampNeg (24 : Int32).toNatClampNeg))), (A_s_lower, .inl (cy 1, 24, .inl s_lower)), (A_t_lower, .inl (cy 1, 24, .inl (va_cpy s_lower t_lower (0 : Int32).toNatClampNeg (0 : Int32).toNatClampNeg (24 : Int32).toNatClampNeg))), (A_s_limits, .inl (cy 1, 24, .inl s_limits)), (A_t_limits, .inl (cy 1, 24, .inl (va_cpy s_limits t_limits (0 : Int32).toNatClampNeg (0 : Int32).toNatClampNeg (24 : Int32).toNatClampNeg))), (A_s_stricts, .inl (cy 1, 24, .inl s_stricts)), (A_t_stricts, .inl (cy 1, 24, .inl (va_cpy s_stricts t_stricts (0 : Int32).toNatClampNeg (0 : Int32).toNatClampNeg (24 : Int32).toNatClampNeg))), (A_s_marks, .inl (cy 1, 8, .inl s_marks)), (A_t_marks, .inl (cy 1, 8, .inl (va_cpy s_marks t_marks (0 : Int32).toNatClampNeg (0 : Int32).toNatClampNeg (8 : Int32).toNatClampNeg)))] H := hP
  have hD : va_D A [(A_s, .inr (5, [.ref A_s_upper, .ref A_s_lower, .ref A_s_limits, .ref A_s_stricts, .ref A_s_marks, .int s_size, .int s_marked, .int s_wholeness])), (A_t, .inr (5, [.ref A_t_upper, .ref A_t_lower, .ref A_t_limits, .ref A_t_stricts, .ref A_t_marks, .int s_size, .int s_marked, .int t_wholeness])), (A_s_upper, .inl (cy 1, 24, .inl s_upper)), (A_t_upper, .inl (cy 1, 24, .inl (va_cpy s_upper t_upper (0 : Int32).toNatClampNeg (0 : Int32).toNatClampNeg (24 : Int32).toNatClampNeg))), (A_s_lower, .inl (cy 1, 24, .inl s_lower)), (A_t_lower, .inl (cy 1, 24, .inl (va_cpy s_lower t_lower (0 : Int32).toNatClampNeg (0 : Int32).toNatClampNeg (24 : Int32).toNatClampNeg))), (A_s_limits, .inl (cy 1, 24, .inl s_limits)), (A_t_limits, .inl (cy 1, 24, .inl (va_cpy s_limits t_limits (0 : Int32).toNatClampNeg (0 : Int32).toNatClampNeg (24 : Int32).toNatClampNeg))), (A_s_stricts, .inl (cy 1, 24, .inl s_stricts)), (A_t_stricts, .inl (cy 1, 24, .inl (va_cpy s_stricts t_stricts (0 : Int32).toNatClampNeg (0 : Int32).toNatClampNeg (24 : Int32).toNatClampNeg))), (A_s_marks, .inl (cy 1, 8, .inl s_marks)), (A_t_marks, .inl (cy 1, 8, .inl (va_cpy s_marks t_marks (0 : Int32).toNatClampNeg (0 : Int32).toNatClampNeg (8 : Int32).toNatClampNeg)))] := hD
  refine lv_aload_n hx hb dX5_takeFrom_91 rfl (lv_at hl 0 rfl) ?_
  refine lv_aload_n hx hb dX5_takeFrom_92 rfl (lv_at hl 1 rfl) ?_
  refine va_get (D := D) (ci := 5) (v := .int s_wholeness) (C := RX5) (T := TX5) (N := 8) hx hb hts iX5 hown hK.1 hP 0 rfl rfl 7 (by decide) f11 (fun _ h9 => h9) rfl dX5_takeFrom_93 ?_
  refine va_put (D := D) (ci := 5) (v := .int s_wholeness) (ty := .int) (C := RX5) (T := TX5) (N := 8) hx hb hts iX5 tyX5 tyX5_ok nmX5 hown hK.1 hP hD hS 1 rfl rfl 7 (by decide) f11 (fun _ h9 => h9) rfl (tyX5_ok 7 (by decide)) rfl rfl (Nat.le_of_ble_eq_true rfl) dX5_takeFrom_96 (fun H locs hP hD hS => ?_)
  have hP : va_P D vwCl [(A_s, .inr (5, [.ref A_s_upper, .ref A_s_lower, .ref A_s_limits, .ref A_s_stricts, .ref A_s_marks, .int s_size, .int s_marked, .int s_wholeness])), (A_t, .inr (5, [.ref A_t_upper, .ref A_t_lower, .ref A_t_limits, .ref A_t_stricts, .ref A_t_marks, .int s_size, .int s_marked, .int s_wholeness])), (A_s_upper, .inl (cy 1, 24, .inl s_upper)), (A_t_upper, .inl (cy 1, 24, .inl (va_cpy s_upper t_upper (0 : Int32).toNatClampNeg (0 : Int32).toNatClampNeg (24 : Int32).toNatClampNeg))), (A_s_lower, .inl (cy 1, 24, .inl s_lower)), (A_t_lower, .inl (cy 1, 24, .inl (va_cpy s_lower t_lower (0 : Int32).toNatClampNeg (0 : Int32).toNatClampNeg (24 : Int32).toNatClampNeg))), (A_s_limits, .inl (cy 1, 24, .inl s_limits)), (A_t_limits, .inl (cy 1, 24, .inl (va_cpy s_limits t_limits (0 : Int32).toNatClampNeg (0 : Int32).toNatClampNeg (24 : Int32).toNatClampNeg))), (A_s_stricts, .inl (cy 1, 24, .inl s_stricts)), (A_t_stricts, .inl (cy 1, 24, .inl (va_cpy s_stricts t_stricts (0 : Int32).toNatClampNeg (0 : Int32).toNatClampNeg (24 : Int32).toNatClampNeg))), (A_s_marks, .inl (cy 1, 8, .inl s_marks)), (A_t_marks, .inl (cy 1, 8, .inl (va_cpy s_marks t_marks (0 : Int32).toNatClampNeg (0 : Int32).toNatClampNeg (8 : Int32).toNatClampNeg)))] H := hP
  have hD : va_D A [(A_s, .inr (5, [.ref A_s_upper, .ref A_s_lower, .ref A_s_limits, .ref A_s_stricts, .ref A_s_marks, .int s_size, .int s_marked, .int s_wholeness])), (A_t, .inr (5, [.ref A_t_upper, .ref A_t_lower, .ref A_t_limits, .ref A_t_stricts, .ref A_t_marks, .int s_size, .int s_marked, .int s_wholeness])), (A_s_upper, .inl (cy 1, 24, .inl s_upper)), (A_t_upper, .inl (cy 1, 24, .inl (va_cpy s_upper t_upper (0 : Int32).toNatClampNeg (0 : Int32).toNatClampNeg (24 : Int32).toNatClampNeg))), (A_s_lower, .inl (cy 1, 24, .inl s_lower)), (A_t_lower, .inl (cy 1, 24, .inl (va_cpy s_lower t_lower (0 : Int32).toNatClampNeg (0 : Int32).toNatClampNeg (24 : Int32).toNatClampNeg))), (A_s_limits, .inl (cy 1, 24, .inl s_limits)), (A_t_limits, .inl (cy 1, 24, .inl (va_cpy s_limits t_limits (0 : Int32).toNatClampNeg (0 : Int32).toNatClampNeg (24 : Int32).toNatClampNeg))), (A_s_stricts, .inl (cy 1, 24, .inl s_stricts)), (A_t_stricts, .inl (cy 1, 24, .inl (va_cpy s_stricts t_stricts (0 : Int32).toNatClampNeg (0 : Int32).toNatClampNeg (24 : Int32).toNatClampNeg))), (A_s_marks, .inl (cy 1, 8, .inl s_marks)), (A_t_marks, .inl (cy 1, 8, .inl (va_cpy s_marks t_marks (0 : Int32).toNatClampNeg (0 : Int32).toNatClampNeg (8 : Int32).toNatClampNeg)))] := hD
  subst hQ
  subst hAe
  exact W.vret hx hb hr (fun t ht _ => ⟨⟨(s_size, s_marked, s_wholeness, va_cpy s_upper t_upper (0 : Int32).toNatClampNeg (0 : Int32).toNatClampNeg (24 : Int32).toNatClampNeg, va_cpy s_lower t_lower (0 : Int32).toNatClampNeg (0 : Int32).toNatClampNeg (24 : Int32).toNatClampNeg, va_cpy s_limits t_limits (0 : Int32).toNatClampNeg (0 : Int32).toNatClampNeg (24 : Int32).toNatClampNeg, va_cpy s_stricts t_stricts (0 : Int32).toNatClampNeg (0 : Int32).toNatClampNeg (24 : Int32).toNatClampNeg, va_cpy s_marks t_marks (0 : Int32).toNatClampNeg (0 : Int32).toNatClampNeg (8 : Int32).toNatClampNeg), rfl, h, by rw [ht]; exact hP, hD⟩, hS.F ht⟩) hS.2.2 dX5_takeFrom_99
theorem qX5_has : yX5_has.cls = RX5 ∧ yX5_has.cls ≠ "java/lang/invoke/MethodHandle" ∧ yX5_has.cls ≠ "java/lang/invoke/VarHandle" ∧ (parseMethodDescriptor yX5_has.desc).map (fun d => d.parameters.length) = some 1 := by decide +kernel
def P_X5_has (post : Int32 → Prop) (t_size : Int32) (x1 : Int32) : Prop :=
  ((x1 < 0 → post (0 : Int32)) ∧ (¬ x1 < 0 → ((t_size ≤ x1 → post (0 : Int32)) ∧ (¬ t_size ≤ x1 → post (1 : Int32)))))
set_option maxHeartbeats 4000000 in
set_option maxRecDepth 100000 in
theorem c_X5_has (l : Launch) (D : va_G) (cy : Nat → ClassId) (A_t A_t_upper A_t_lower A_t_limits A_t_stricts A_t_marks : Nat) (t_size : Int32) (t_marked : Int32) (t_wholeness : Int32) (x1 : Int32) (post : Int32 → Prop) (h : P_X5_has post t_size x1) : Met l yX5_has wsX5_has { frames := 0, cells := 0, slots := 0, locals := 0 } (pcR D cy [(A_t, .inr (5, [.ref A_t_upper, .ref A_t_lower, .ref A_t_limits, .ref A_t_stricts, .ref A_t_marks, .int t_size, .int t_marked, .int t_wholeness]))] [.ref A_t, .int x1]) (vp_Si post) 0 0 (fun _ => False) := by
  refine Met.ofW (cc := cX5_has) (maxL := 2) (ret := (some .boolean)) (by decide) rfl ?_
  intro p e s m args below meth c s₁ B hml hv
  obtain ⟨rfl, hP, hK⟩ := hv
  have hx := B.exec
  have hb := B.bytes
  have hr := B.returns
  have hts := atoms_spec (ws := wsX5_has) B.pre
  have hown : s.vm.findClass RX5 = some m.cls := findClass_of_methodNamed B.named
  have hlocks := B.notSynchronized
  have CF : CallFix p m c cX5_has 2 s ([.ref A_t, .int x1] : List Value).toArray wsX5_has RX5 := ⟨hx, hb, hml, hown, hts⟩
  have f0 := hts (.fieldLink RX5 31 "GapBounds$Store" "size" "I") (by decide +kernel)
  have iX5 : ∀ w ∈ u_ws RX5 TX5 8, w ∈ wsX5_has := by decide +kernel
  have hl := lv_entry [.ref A_t, .int x1] (n := 2) (Nat.le_of_ble_eq_true rfl)
  rw [lg_entry_eq]
  generalize (lg_sl [.ref A_t, .int x1] ++ List.replicate (2 - (lg_sl [.ref A_t, .int x1]).length) Slot.unset).toArray = ls at hl ⊢
  have hl : lv_has ls 2 [(0, .ref A_t), (1, .int x1)] := hl
  refine W.gen (fun Q0 hQ => ?_)
  unfold P_X5_has at h
  refine lv_iload_n hx hb dX5_has_0 rfl (lv_at hl 1 rfl) ?_
  refine lv_if_lt (tgt := 16) hx hb dX5_has_1 (by decide) (fun hc => ?_) (fun hc => ?_)
  · replace h := h.1 hc
    refine lv_iconst (v := 0) hx hb dX5_has_16 (by decide) ?_
    subst hQ
    exact W.zret (v := (0 : Int32)) hx hb hr bz0 (fun t ht _ => ⟨(0 : Int32), rfl, h, ht⟩) (fun _ hq => absurd hq List.not_mem_nil) dX5_has_17
  · replace h := h.2 hc
    refine lv_iload_n hx hb dX5_has_4 rfl (lv_at hl 1 rfl) ?_
    refine lv_aload_n hx hb dX5_has_5 rfl (lv_at hl 0 rfl) ?_
    refine va_get (D := D) (ci := 5) (v := .int t_size) (C := RX5) (T := TX5) (N := 8) hx hb hts iX5 hown hK.1 hP 0 rfl rfl 5 (by decide) f0 (fun _ h9 => h9) rfl dX5_has_6 ?_
    refine lv_icmp_ge (tgt := 16) hx hb dX5_has_9 (by decide) (fun hc => ?_) (fun hc => ?_)
    · replace h := h.1 hc
      refine lv_iconst (v := 0) hx hb dX5_has_16 (by decide) ?_
      subst hQ
      exact W.zret (v := (0 : Int32)) hx hb hr bz0 (fun t ht _ => ⟨(0 : Int32), rfl, h, ht⟩) (fun _ hq => absurd hq List.not_mem_nil) dX5_has_17
    · replace h := h.2 hc
      refine lv_iconst (v := 1) hx hb dX5_has_12 (by decide) ?_
      refine lv_goto (tgt := 17) hx hb dX5_has_13 (by decide) ?_
      subst hQ
      exact W.zret (v := (1 : Int32)) hx hb hr bz1 (fun t ht _ => ⟨(1 : Int32), rfl, h, ht⟩) (fun _ hq => absurd hq List.not_mem_nil) dX5_has_17
theorem qX5_hasMark : yX5_hasMark.cls = RX5 ∧ yX5_hasMark.cls ≠ "java/lang/invoke/MethodHandle" ∧ yX5_hasMark.cls ≠ "java/lang/invoke/VarHandle" ∧ (parseMethodDescriptor yX5_hasMark.desc).map (fun d => d.parameters.length) = some 1 := by decide +kernel
def P_X5_hasMark (post : Int32 → Prop) (t_marked : Int32) (x1 : Int32) : Prop :=
  ((x1 < 0 → post (0 : Int32)) ∧ (¬ x1 < 0 → ((t_marked ≤ x1 → post (0 : Int32)) ∧ (¬ t_marked ≤ x1 → post (1 : Int32)))))
set_option maxHeartbeats 4000000 in
set_option maxRecDepth 100000 in
theorem c_X5_hasMark (l : Launch) (D : va_G) (cy : Nat → ClassId) (A_t A_t_upper A_t_lower A_t_limits A_t_stricts A_t_marks : Nat) (t_size : Int32) (t_marked : Int32) (t_wholeness : Int32) (x1 : Int32) (post : Int32 → Prop) (h : P_X5_hasMark post t_marked x1) : Met l yX5_hasMark wsX5_hasMark { frames := 0, cells := 0, slots := 0, locals := 0 } (pcR D cy [(A_t, .inr (5, [.ref A_t_upper, .ref A_t_lower, .ref A_t_limits, .ref A_t_stricts, .ref A_t_marks, .int t_size, .int t_marked, .int t_wholeness]))] [.ref A_t, .int x1]) (vp_Si post) 0 0 (fun _ => False) := by
  refine Met.ofW (cc := cX5_hasMark) (maxL := 2) (ret := (some .boolean)) (by decide) rfl ?_
  intro p e s m args below meth c s₁ B hml hv
  obtain ⟨rfl, hP, hK⟩ := hv
  have hx := B.exec
  have hb := B.bytes
  have hr := B.returns
  have hts := atoms_spec (ws := wsX5_hasMark) B.pre
  have hown : s.vm.findClass RX5 = some m.cls := findClass_of_methodNamed B.named
  have hlocks := B.notSynchronized
  have CF : CallFix p m c cX5_hasMark 2 s ([.ref A_t, .int x1] : List Value).toArray wsX5_hasMark RX5 := ⟨hx, hb, hml, hown, hts⟩
  have f0 := hts (.fieldLink RX5 34 "GapBounds$Store" "marked" "I") (by decide +kernel)
  have iX5 : ∀ w ∈ u_ws RX5 TX5 8, w ∈ wsX5_hasMark := by decide +kernel
  have hl := lv_entry [.ref A_t, .int x1] (n := 2) (Nat.le_of_ble_eq_true rfl)
  rw [lg_entry_eq]
  generalize (lg_sl [.ref A_t, .int x1] ++ List.replicate (2 - (lg_sl [.ref A_t, .int x1]).length) Slot.unset).toArray = ls at hl ⊢
  have hl : lv_has ls 2 [(0, .ref A_t), (1, .int x1)] := hl
  refine W.gen (fun Q0 hQ => ?_)
  unfold P_X5_hasMark at h
  refine lv_iload_n hx hb dX5_hasMark_0 rfl (lv_at hl 1 rfl) ?_
  refine lv_if_lt (tgt := 16) hx hb dX5_hasMark_1 (by decide) (fun hc => ?_) (fun hc => ?_)
  · replace h := h.1 hc
    refine lv_iconst (v := 0) hx hb dX5_hasMark_16 (by decide) ?_
    subst hQ
    exact W.zret (v := (0 : Int32)) hx hb hr bz0 (fun t ht _ => ⟨(0 : Int32), rfl, h, ht⟩) (fun _ hq => absurd hq List.not_mem_nil) dX5_hasMark_17
  · replace h := h.2 hc
    refine lv_iload_n hx hb dX5_hasMark_4 rfl (lv_at hl 1 rfl) ?_
    refine lv_aload_n hx hb dX5_hasMark_5 rfl (lv_at hl 0 rfl) ?_
    refine va_get (D := D) (ci := 5) (v := .int t_marked) (C := RX5) (T := TX5) (N := 8) hx hb hts iX5 hown hK.1 hP 0 rfl rfl 6 (by decide) f0 (fun _ h9 => h9) rfl dX5_hasMark_6 ?_
    refine lv_icmp_ge (tgt := 16) hx hb dX5_hasMark_9 (by decide) (fun hc => ?_) (fun hc => ?_)
    · replace h := h.1 hc
      refine lv_iconst (v := 0) hx hb dX5_hasMark_16 (by decide) ?_
      subst hQ
      exact W.zret (v := (0 : Int32)) hx hb hr bz0 (fun t ht _ => ⟨(0 : Int32), rfl, h, ht⟩) (fun _ hq => absurd hq List.not_mem_nil) dX5_hasMark_17
    · replace h := h.2 hc
      refine lv_iconst (v := 1) hx hb dX5_hasMark_12 (by decide) ?_
      refine lv_goto (tgt := 17) hx hb dX5_hasMark_13 (by decide) ?_
      subst hQ
      exact W.zret (v := (1 : Int32)) hx hb hr bz1 (fun t ht _ => ⟨(1 : Int32), rfl, h, ht⟩) (fun _ hq => absurd hq List.not_mem_nil) dX5_hasMark_17
theorem qX5_isOf : yX5_isOf.cls = RX5 ∧ yX5_isOf.cls ≠ "java/lang/invoke/MethodHandle" ∧ yX5_isOf.cls ≠ "java/lang/invoke/VarHandle" ∧ (parseMethodDescriptor yX5_isOf.desc).map (fun d => d.parameters.length) = some 3 := by decide +kernel
def P_X5_isOf (post : Int32 → Prop) (t_upper : Nat → Int32) (t_lower : Nat → Int32) (x1 : Int32) (x2 : Int32) (x3 : Int32) : Prop :=
  (vp_in x1 24 ∧ ((¬ t_upper x1.toNatClampNeg = x2 → post (0 : Int32)) ∧ (t_upper x1.toNatClampNeg = x2 → (vp_in x1 24 ∧ ((¬ t_lower x1.toNatClampNeg = x3 → post (0 : Int32)) ∧ (t_lower x1.toNatClampNeg = x3 → post (1 : Int32)))))))
set_option maxHeartbeats 4000000 in
set_option maxRecDepth 100000 in
theorem c_X5_isOf (l : Launch) (D : va_G) (cy : Nat → ClassId) (A_t A_t_upper A_t_lower A_t_limits A_t_stricts A_t_marks : Nat) (t_size : Int32) (t_marked : Int32) (t_wholeness : Int32) (t_upper : Nat → Int32) (t_lower : Nat → Int32) (x1 : Int32) (x2 : Int32) (x3 : Int32) (post : Int32 → Prop) (h : P_X5_isOf post t_upper t_lower x1 x2 x3) : Met l yX5_isOf wsX5_isOf { frames := 0, cells := 0, slots := 0, locals := 0 } (pcR D cy [(A_t, .inr (5, [.ref A_t_upper, .ref A_t_lower, .ref A_t_limits, .ref A_t_stricts, .ref A_t_marks, .int t_size, .int t_marked, .int t_wholeness])), (A_t_upper, .inl (cy 1, 24, .inl t_upper)), (A_t_lower, .inl (cy 1, 24, .inl t_lower))] [.ref A_t, .int x1, .int x2, .int x3]) (vp_Si post) 0 0 (fun _ => False) := by
  refine Met.ofW (cc := cX5_isOf) (maxL := 4) (ret := (some .boolean)) (by decide) rfl ?_
  intro p e s m args below meth c s₁ B hml hv
  obtain ⟨rfl, hP, hK⟩ := hv
  have hx := B.exec
  have hb := B.bytes
  have hr := B.returns
  have hts := atoms_spec (ws := wsX5_isOf) B.pre
  have hown : s.vm.findClass RX5 = some m.cls := findClass_of_methodNamed B.named
  have hlocks := B.notSynchronized
  have CF : CallFix p m c cX5_isOf 4 s ([.ref A_t, .int x1, .int x2, .int x3] : List Value).toArray wsX5_isOf RX5 := ⟨hx, hb, hml, hown, hts⟩
  have f0 := hts (.fieldLink RX5 9 "GapBounds$Store" "upper" "[I") (by decide +kernel)
  have f1 := hts (.fieldLink RX5 15 "GapBounds$Store" "lower" "[I") (by decide +kernel)
  have iX5 : ∀ w ∈ u_ws RX5 TX5 8, w ∈ wsX5_isOf := by decide +kernel
  have hl := lv_entry [.ref A_t, .int x1, .int x2, .int x3] (n := 4) (Nat.le_of_ble_eq_true rfl)
  rw [lg_entry_eq]
  generalize (lg_sl [.ref A_t, .int x1, .int x2, .int x3] ++ List.replicate (4 - (lg_sl [.ref A_t, .int x1, .int x2, .int x3]).length) Slot.unset).toArray = ls at hl ⊢
  have hl : lv_has ls 4 [(0, .ref A_t), (1, .int x1), (2, .int x2), (3, .int x3)] := hl
  refine W.gen (fun Q0 hQ => ?_)
  unfold P_X5_isOf at h
  refine lv_aload_n hx hb dX5_isOf_0 rfl (lv_at hl 0 rfl) ?_
  refine va_get (D := D) (ci := 5) (v := .ref A_t_upper) (C := RX5) (T := TX5) (N := 8) hx hb hts iX5 hown hK.1 hP 0 rfl rfl 0 (by decide) f0 (fun _ h9 => h9) rfl dX5_isOf_1 ?_
  refine lv_iload_n hx hb dX5_isOf_4 rfl (lv_at hl 1 rfl) ?_
  refine va_iald hx hb hK.1 hP 1 1 rfl rfl h.1 dX5_isOf_5 ?_
  replace h := h.2
  refine lv_iload_n hx hb dX5_isOf_6 rfl (lv_at hl 2 rfl) ?_
  refine lv_icmp_ne (tgt := 24) hx hb dX5_isOf_7 (by decide) (fun hc => ?_) (fun hc => ?_)
  · replace h := h.1 hc
    refine lv_iconst (v := 0) hx hb dX5_isOf_24 (by decide) ?_
    subst hQ
    exact W.zret (v := (0 : Int32)) hx hb hr bz0 (fun t ht _ => ⟨(0 : Int32), rfl, h, ht⟩) (fun _ hq => absurd hq List.not_mem_nil) dX5_isOf_25
  · replace h := h.2 hc
    refine lv_aload_n hx hb dX5_isOf_10 rfl (lv_at hl 0 rfl) ?_
    refine va_get (D := D) (ci := 5) (v := .ref A_t_lower) (C := RX5) (T := TX5) (N := 8) hx hb hts iX5 hown hK.1 hP 0 rfl rfl 1 (by decide) f1 (fun _ h9 => h9) rfl dX5_isOf_11 ?_
    refine lv_iload_n hx hb dX5_isOf_14 rfl (lv_at hl 1 rfl) ?_
    refine va_iald hx hb hK.1 hP 2 1 rfl rfl h.1 dX5_isOf_15 ?_
    replace h := h.2
    refine lv_iload_n hx hb dX5_isOf_16 rfl (lv_at hl 3 rfl) ?_
    refine lv_icmp_ne (tgt := 24) hx hb dX5_isOf_17 (by decide) (fun hc => ?_) (fun hc => ?_)
    · replace h := h.1 hc
      refine lv_iconst (v := 0) hx hb dX5_isOf_24 (by decide) ?_
      subst hQ
      exact W.zret (v := (0 : Int32)) hx hb hr bz0 (fun t ht _ => ⟨(0 : Int32), rfl, h, ht⟩) (fun _ hq => absurd hq List.not_mem_nil) dX5_isOf_25
    · replace h := h.2 hc
      refine lv_iconst (v := 1) hx hb dX5_isOf_20 (by decide) ?_
      refine lv_goto (tgt := 25) hx hb dX5_isOf_21 (by decide) ?_
      subst hQ
      exact W.zret (v := (1 : Int32)) hx hb hr bz1 (fun t ht _ => ⟨(1 : Int32), rfl, h, ht⟩) (fun _ hq => absurd hq List.not_mem_nil) dX5_isOf_25
theorem qX5_weightOf : yX5_weightOf.cls = RX5 ∧ yX5_weightOf.cls ≠ "java/lang/invoke/MethodHandle" ∧ yX5_weightOf.cls ≠ "java/lang/invoke/VarHandle" ∧ (parseMethodDescriptor yX5_weightOf.desc).map (fun d => d.parameters.length) = some 1 := by decide +kernel
def P_X5_weightOf (post : Int64 → Prop) (t_wholeness : Int32) (t_limits : Nat → Int32) (t_stricts : Nat → Int32) (x1 : Int32) : Prop :=
  (vp_in x1 24 ∧ (vp_in x1 24 ∧ P_X7_weigh (fun (r1 : Int64) => post r1) (t_limits x1.toNatClampNeg) (t_stricts x1.toNatClampNeg) t_wholeness))
set_option maxHeartbeats 4000000 in
set_option maxRecDepth 100000 in
theorem c_X5_weightOf (l : Launch) (D : va_G) (cy : Nat → ClassId) (A_t A_t_upper A_t_lower A_t_limits A_t_stricts A_t_marks : Nat) (t_size : Int32) (t_marked : Int32) (t_wholeness : Int32) (t_limits : Nat → Int32) (t_stricts : Nat → Int32) (x1 : Int32) (post : Int64 → Prop) (h : P_X5_weightOf post t_wholeness t_limits t_stricts x1) : Met l yX5_weightOf wsX5_weightOf { frames := 1, cells := 0, slots := 0, locals := 22 } (pcR D cy [(A_t, .inr (5, [.ref A_t_upper, .ref A_t_lower, .ref A_t_limits, .ref A_t_stricts, .ref A_t_marks, .int t_size, .int t_marked, .int t_wholeness])), (A_t_limits, .inl (cy 1, 24, .inl t_limits)), (A_t_stricts, .inl (cy 1, 24, .inl t_stricts))] [.ref A_t, .int x1]) (vp_Sl post) 0 0 (fun _ => False) := by
  refine Met.ofW (cc := cX5_weightOf) (maxL := 2) (ret := (some .long)) (by decide) rfl ?_
  intro p e s m args below meth c s₁ B hml hv
  obtain ⟨rfl, hP, hK⟩ := hv
  have hx := B.exec
  have hb := B.bytes
  have hr := B.returns
  have hts := atoms_spec (ws := wsX5_weightOf) B.pre
  have hown : s.vm.findClass RX5 = some m.cls := findClass_of_methodNamed B.named
  have hlocks := B.notSynchronized
  have CF : CallFix p m c cX5_weightOf 2 s ([.ref A_t, .int x1] : List Value).toArray wsX5_weightOf RX5 := ⟨hx, hb, hml, hown, hts⟩
  have f0 := hts (.fieldLink RX5 18 "GapBounds$Store" "limits" "[I") (by decide +kernel)
  have f1 := hts (.fieldLink RX5 21 "GapBounds$Store" "stricts" "[I") (by decide +kernel)
  have f2 := hts (.fieldLink RX5 27 "GapBounds$Store" "wholeness" "I") (by decide +kernel)
  have f3 := hts (.initialized RX7) (by decide +kernel)
  have f4 := hts (.static yX7_weigh) (by decide +kernel)
  have iX5 : ∀ w ∈ u_ws RX5 TX5 8, w ∈ wsX5_weightOf := by decide +kernel
  have hl := lv_entry [.ref A_t, .int x1] (n := 2) (Nat.le_of_ble_eq_true rfl)
  rw [lg_entry_eq]
  generalize (lg_sl [.ref A_t, .int x1] ++ List.replicate (2 - (lg_sl [.ref A_t, .int x1]).length) Slot.unset).toArray = ls at hl ⊢
  have hl : lv_has ls 2 [(0, .ref A_t), (1, .int x1)] := hl
  refine W.gen (fun Q0 hQ => ?_)
  unfold P_X5_weightOf at h
  refine lv_aload_n hx hb dX5_weightOf_0 rfl (lv_at hl 0 rfl) ?_
  refine va_get (D := D) (ci := 5) (v := .ref A_t_limits) (C := RX5) (T := TX5) (N := 8) hx hb hts iX5 hown hK.1 hP 0 rfl rfl 2 (by decide) f0 (fun _ h9 => h9) rfl dX5_weightOf_1 ?_
  refine lv_iload_n hx hb dX5_weightOf_4 rfl (lv_at hl 1 rfl) ?_
  refine va_iald hx hb hK.1 hP 1 1 rfl rfl h.1 dX5_weightOf_5 ?_
  replace h := h.2
  refine lv_aload_n hx hb dX5_weightOf_6 rfl (lv_at hl 0 rfl) ?_
  refine va_get (D := D) (ci := 5) (v := .ref A_t_stricts) (C := RX5) (T := TX5) (N := 8) hx hb hts iX5 hown hK.1 hP 0 rfl rfl 3 (by decide) f1 (fun _ h9 => h9) rfl dX5_weightOf_7 ?_
  refine lv_iload_n hx hb dX5_weightOf_10 rfl (lv_at hl 1 rfl) ?_
  refine va_iald hx hb hK.1 hP 2 1 rfl rfl h.1 dX5_weightOf_11 ?_
  replace h := h.2
  refine lv_aload_n hx hb dX5_weightOf_12 rfl (lv_at hl 0 rfl) ?_
  refine va_get (D := D) (ci := 5) (v := .int t_wholeness) (C := RX5) (T := TX5) (N := 8) hx hb hts iX5 hown hK.1 hP 0 rfl rfl 7 (by decide) f2 (fun _ h9 => h9) rfl dX5_weightOf_13 ?_
  refine vp_callSl (va_Run.run (va_runSN (As := [.int (t_limits x1.toNatClampNeg), .int (t_stricts x1.toNatClampNeg), .int t_wholeness]) (rest := []) CF (c_X7_weigh l (t_limits x1.toNatClampNeg) (t_stricts x1.toNatClampNeg) t_wholeness _ h) ⟨va_cnB 3 hts gX5_weightOf_X7_weigh_n43 rfl rfl rfl (hK.nest (w := .methodLinkNest RX5 43 yX7_weigh RX7) (List.mem_of_getElem? (i := 10) rfl)) f3 qX7_weigh.2 ⟨Nat.le_of_ble_eq_true rfl, Nat.le_of_ble_eq_true rfl⟩, f4, trivial⟩ mpSN rfl rfl hl.1 rfl (lv_room (Nat.le_of_ble_eq_true rfl)) dX5_weightOf_16 ⟨Nat.zero_le _, Nat.zero_le _⟩)) (fun r1 h => ?_)
  subst hQ
  exact W.lret (v := r1) hx hb hr (fun t ht _ => ⟨r1, rfl, h, ht⟩) (fun _ hq => absurd hq List.not_mem_nil) dX5_weightOf_19
theorem qX5_append : yX5_append.cls = RX5 ∧ yX5_append.cls ≠ "java/lang/invoke/MethodHandle" ∧ yX5_append.cls ≠ "java/lang/invoke/VarHandle" ∧ (parseMethodDescriptor yX5_append.desc).map (fun d => d.parameters.length) = some 4 := by decide +kernel
def P_X5_append (post : Int32 → (Nat → Int32) → (Nat → Int32) → (Nat → Int32) → (Nat → Int32) → Prop) (t_size : Int32) (t_upper : Nat → Int32) (t_lower : Nat → Int32) (t_limits : Nat → Int32) (t_stricts : Nat → Int32) (x1 : Int32) (x2 : Int32) (x3 : Int32) (x4 : Int32) : Prop :=
  (((24 : Int32) ≤ t_size → post t_size t_upper t_lower t_limits t_stricts) ∧ (¬ (24 : Int32) ≤ t_size → (vp_in t_size 24 ∧ (vp_in t_size 24 ∧ (vp_in t_size 24 ∧ (vp_in t_size 24 ∧ post (t_size + (1 : Int32)) (upd t_upper t_size.toNatClampNeg x1) (upd t_lower t_size.toNatClampNeg x2) (upd t_limits t_size.toNatClampNeg x3) (upd t_stricts t_size.toNatClampNeg x4)))))))
set_option maxHeartbeats 4000000 in
set_option maxRecDepth 100000 in
theorem c_X5_append (l : Launch) (D : va_G) (cy : Nat → ClassId) (sz : Nat) (A_t A_t_upper A_t_lower A_t_limits A_t_stricts A_t_marks : Nat) (t_size : Int32) (t_marked : Int32) (t_wholeness : Int32) (t_upper : Nat → Int32) (t_lower : Nat → Int32) (t_limits : Nat → Int32) (t_stricts : Nat → Int32) (x1 : Int32) (x2 : Int32) (x3 : Int32) (x4 : Int32) (post : Int32 → (Nat → Int32) → (Nat → Int32) → (Nat → Int32) → (Nat → Int32) → Prop) (h : P_X5_append post t_size t_upper t_lower t_limits t_stricts x1 x2 x3 x4) : Met l yX5_append wsX5_append { frames := 0, cells := 0, slots := 0, locals := 0 } (pcW D cy [(A_t, .inr (5, [.ref A_t_upper, .ref A_t_lower, .ref A_t_limits, .ref A_t_stricts, .ref A_t_marks, .int t_size, .int t_marked, .int t_wholeness])), (A_t_upper, .inl (cy 1, 24, .inl t_upper)), (A_t_lower, .inl (cy 1, 24, .inl t_lower)), (A_t_limits, .inl (cy 1, 24, .inl t_limits)), (A_t_stricts, .inl (cy 1, 24, .inl t_stricts))] sz [.ref A_t, .int x1, .int x2, .int x3, .int x4]) (va_Qv (fun (u : Int32 × (Nat → Int32) × (Nat → Int32) × (Nat → Int32) × (Nat → Int32)) => post u.1 u.2.1 u.2.2.1 u.2.2.2.1 u.2.2.2.2) (bW D [(A_t, .inr (5, [.ref A_t_upper, .ref A_t_lower, .ref A_t_limits, .ref A_t_stricts, .ref A_t_marks, .int t_size, .int t_marked, .int t_wholeness])), (A_t_upper, .inl (cy 1, 24, .inl t_upper)), (A_t_lower, .inl (cy 1, 24, .inl t_lower)), (A_t_limits, .inl (cy 1, 24, .inl t_limits)), (A_t_stricts, .inl (cy 1, 24, .inl t_stricts))] sz (fun u => [(A_t, .inr (5, [.ref A_t_upper, .ref A_t_lower, .ref A_t_limits, .ref A_t_stricts, .ref A_t_marks, .int (u.1), .int t_marked, .int t_wholeness])), (A_t_upper, .inl (cy 1, 24, .inl u.2.1)), (A_t_lower, .inl (cy 1, 24, .inl u.2.2.1)), (A_t_limits, .inl (cy 1, 24, .inl u.2.2.2.1)), (A_t_stricts, .inl (cy 1, 24, .inl u.2.2.2.2))])) (va_A [(A_t, .inr (5, [.ref A_t_upper, .ref A_t_lower, .ref A_t_limits, .ref A_t_stricts, .ref A_t_marks, .int t_size, .int t_marked, .int t_wholeness])), (A_t_upper, .inl (cy 1, 24, .inl t_upper)), (A_t_lower, .inl (cy 1, 24, .inl t_lower)), (A_t_limits, .inl (cy 1, 24, .inl t_limits)), (A_t_stricts, .inl (cy 1, 24, .inl t_stricts))] sz)) 0 0 (va_A [(A_t, .inr (5, [.ref A_t_upper, .ref A_t_lower, .ref A_t_limits, .ref A_t_stricts, .ref A_t_marks, .int t_size, .int t_marked, .int t_wholeness])), (A_t_upper, .inl (cy 1, 24, .inl t_upper)), (A_t_lower, .inl (cy 1, 24, .inl t_lower)), (A_t_limits, .inl (cy 1, 24, .inl t_limits)), (A_t_stricts, .inl (cy 1, 24, .inl t_stricts))] sz) := by
  refine Met.ofW (cc := cX5_append) (maxL := 5) (ret := none) (by decide) rfl ?_
  intro p e s m args below meth c s₁ B hml hv
  obtain ⟨rfl, hsz, hP, hK, hD0⟩ := hv
  have hx := B.exec
  have hb := B.bytes
  have hr := B.returns
  have hts := atoms_spec (ws := wsX5_append) B.pre
  have hown : s.vm.findClass RX5 = some m.cls := findClass_of_methodNamed B.named
  have hlocks := B.notSynchronized
  have CF : CallFix p m c cX5_append 5 s ([.ref A_t, .int x1, .int x2, .int x3, .int x4] : List Value).toArray wsX5_append RX5 := ⟨hx, hb, hml, hown, hts⟩
  have f0 := hts (.fieldLink RX5 31 "GapBounds$Store" "size" "I") (by decide +kernel)
  have f1 := hts (.fieldLink RX5 9 "GapBounds$Store" "upper" "[I") (by decide +kernel)
  have f2 := hts (.fieldLink RX5 15 "GapBounds$Store" "lower" "[I") (by decide +kernel)
  have f3 := hts (.fieldLink RX5 18 "GapBounds$Store" "limits" "[I") (by decide +kernel)
  have f4 := hts (.fieldLink RX5 21 "GapBounds$Store" "stricts" "[I") (by decide +kernel)
  have iX5 : ∀ w ∈ u_ws RX5 TX5 8, w ∈ wsX5_append := by decide +kernel
  subst hsz
  obtain ⟨A, hAe⟩ : ∃ A, A = va_A [(A_t, .inr (5, [.ref A_t_upper, .ref A_t_lower, .ref A_t_limits, .ref A_t_stricts, .ref A_t_marks, .int t_size, .int t_marked, .int t_wholeness])), (A_t_upper, .inl (cy 1, 24, .inl t_upper)), (A_t_lower, .inl (cy 1, 24, .inl t_lower)), (A_t_limits, .inl (cy 1, 24, .inl t_limits)), (A_t_stricts, .inl (cy 1, 24, .inl t_stricts))] s.heap.size := ⟨_, rfl⟩
  have hD : va_D A [(A_t, .inr (5, [.ref A_t_upper, .ref A_t_lower, .ref A_t_limits, .ref A_t_stricts, .ref A_t_marks, .int t_size, .int t_marked, .int t_wholeness])), (A_t_upper, .inl (cy 1, 24, .inl t_upper)), (A_t_lower, .inl (cy 1, 24, .inl t_lower)), (A_t_limits, .inl (cy 1, 24, .inl t_limits)), (A_t_stricts, .inl (cy 1, 24, .inl t_stricts))] := by rw [hAe]; exact hD0.self
  have hA : ∀ q : Nat, s.heap.size ≤ q → A q := fun q hq => by rw [hAe]; exact Or.inr hq
  have hS : va_S A s.heap s.heap [] := va_S.rf
  have hl := lv_entry [.ref A_t, .int x1, .int x2, .int x3, .int x4] (n := 5) (Nat.le_of_ble_eq_true rfl)
  rw [lg_entry_eq]
  generalize (lg_sl [.ref A_t, .int x1, .int x2, .int x3, .int x4] ++ List.replicate (5 - (lg_sl [.ref A_t, .int x1, .int x2, .int x3, .int x4]).length) Slot.unset).toArray = ls at hl ⊢
  have hl : lv_has ls 5 [(0, .ref A_t), (1, .int x1), (2, .int x2), (3, .int x3), (4, .int x4)] := hl
  refine W.gen (fun Q0 hQ => ?_)
  unfold P_X5_append at h
  refine lv_aload_n hx hb dX5_append_0 rfl (lv_at hl 0 rfl) ?_
  refine va_get (D := D) (ci := 5) (v := .int t_size) (C := RX5) (T := TX5) (N := 8) hx hb hts iX5 hown hK.1 hP 0 rfl rfl 5 (by decide) f0 (fun _ h9 => h9) rfl dX5_append_1 ?_
  refine lv_bipush (v := 24) hx hb dX5_append_4 (by decide) ?_
  refine lv_icmp_ge (tgt := 60) hx hb dX5_append_6 (by decide) (fun hc => ?_) (fun hc => ?_)
  · replace h := h.1 hc
    subst hQ
    subst hAe
    exact W.vret hx hb hr (fun t ht _ => ⟨⟨(t_size, t_upper, t_lower, t_limits, t_stricts), rfl, h, by rw [ht]; exact hP, hD⟩, hS.F ht⟩) hS.2.2 dX5_append_60
  · replace h := h.2 hc
    refine lv_aload_n hx hb dX5_append_9 rfl (lv_at hl 0 rfl) ?_
    refine va_get (D := D) (ci := 5) (v := .ref A_t_upper) (C := RX5) (T := TX5) (N := 8) hx hb hts iX5 hown hK.1 hP 0 rfl rfl 0 (by decide) f1 (fun _ h9 => h9) rfl dX5_append_10 ?_
    refine lv_aload_n hx hb dX5_append_13 rfl (lv_at hl 0 rfl) ?_
    refine va_get (D := D) (ci := 5) (v := .int t_size) (C := RX5) (T := TX5) (N := 8) hx hb hts iX5 hown hK.1 hP 0 rfl rfl 5 (by decide) f0 (fun _ h9 => h9) rfl dX5_append_14 ?_
    refine lv_iload_n hx hb dX5_append_17 rfl (lv_at hl 1 rfl) ?_
    refine va_iast hx hb hK.1 hP hD hS 1 1 rfl rfl h.1 dX5_append_18 (fun H locs hP hD hS => ?_)
    replace h := h.2
    have hP : va_P D vwCl [(A_t, .inr (5, [.ref A_t_upper, .ref A_t_lower, .ref A_t_limits, .ref A_t_stricts, .ref A_t_marks, .int t_size, .int t_marked, .int t_wholeness])), (A_t_upper, .inl (cy 1, 24, .inl (upd t_upper t_size.toNatClampNeg x1))), (A_t_lower, .inl (cy 1, 24, .inl t_lower)), (A_t_limits, .inl (cy 1, 24, .inl t_limits)), (A_t_stricts, .inl (cy 1, 24, .inl t_stricts))] H := hP
    have hD : va_D A [(A_t, .inr (5, [.ref A_t_upper, .ref A_t_lower, .ref A_t_limits, .ref A_t_stricts, .ref A_t_marks, .int t_size, .int t_marked, .int t_wholeness])), (A_t_upper, .inl (cy 1, 24, .inl (upd t_upper t_size.toNatClampNeg x1))), (A_t_lower, .inl (cy 1, 24, .inl t_lower)), (A_t_limits, .inl (cy 1, 24, .inl t_limits)), (A_t_stricts, .inl (cy 1, 24, .inl t_stricts))] := hD
    refine lv_aload_n hx hb dX5_append_19 rfl (lv_at hl 0 rfl) ?_
    refine va_get (D := D) (ci := 5) (v := .ref A_t_lower) (C := RX5) (T := TX5) (N := 8) hx hb hts iX5 hown hK.1 hP 0 rfl rfl 1 (by decide) f2 (fun _ h9 => h9) rfl dX5_append_20 ?_
    refine lv_aload_n hx hb dX5_append_23 rfl (lv_at hl 0 rfl) ?_
    refine va_get (D := D) (ci := 5) (v := .int t_size) (C := RX5) (T := TX5) (N := 8) hx hb hts iX5 hown hK.1 hP 0 rfl rfl 5 (by decide) f0 (fun _ h9 => h9) rfl dX5_append_24 ?_
    refine lv_iload_n hx hb dX5_append_27 rfl (lv_at hl 2 rfl) ?_
    refine va_iast hx hb hK.1 hP hD hS 2 1 rfl rfl h.1 dX5_append_28 (fun H locs hP hD hS => ?_)
    replace h := h.2
    have hP : va_P D vwCl [(A_t, .inr (5, [.ref A_t_upper, .ref A_t_lower, .ref A_t_limits, .ref A_t_stricts, .ref A_t_marks, .int t_size, .int t_marked, .int t_wholeness])), (A_t_upper, .inl (cy 1, 24, .inl (upd t_upper t_size.toNatClampNeg x1))), (A_t_lower, .inl (cy 1, 24, .inl (upd t_lower t_size.toNatClampNeg x2))), (A_t_limits, .inl (cy 1, 24, .inl t_limits)), (A_t_stricts, .inl (cy 1, 24, .inl t_stricts))] H := hP
    have hD : va_D A [(A_t, .inr (5, [.ref A_t_upper, .ref A_t_lower, .ref A_t_limits, .ref A_t_stricts, .ref A_t_marks, .int t_size, .int t_marked, .int t_wholeness])), (A_t_upper, .inl (cy 1, 24, .inl (upd t_upper t_size.toNatClampNeg x1))), (A_t_lower, .inl (cy 1, 24, .inl (upd t_lower t_size.toNatClampNeg x2))), (A_t_limits, .inl (cy 1, 24, .inl t_limits)), (A_t_stricts, .inl (cy 1, 24, .inl t_stricts))] := hD
    refine lv_aload_n hx hb dX5_append_29 rfl (lv_at hl 0 rfl) ?_
    refine va_get (D := D) (ci := 5) (v := .ref A_t_limits) (C := RX5) (T := TX5) (N := 8) hx hb hts iX5 hown hK.1 hP 0 rfl rfl 2 (by decide) f3 (fun _ h9 => h9) rfl dX5_append_30 ?_
    refine lv_aload_n hx hb dX5_append_33 rfl (lv_at hl 0 rfl) ?_
    refine va_get (D := D) (ci := 5) (v := .int t_size) (C := RX5) (T := TX5) (N := 8) hx hb hts iX5 hown hK.1 hP 0 rfl rfl 5 (by decide) f0 (fun _ h9 => h9) rfl dX5_append_34 ?_
    refine lv_iload_n hx hb dX5_append_37 rfl (lv_at hl 3 rfl) ?_
    refine va_iast hx hb hK.1 hP hD hS 3 1 rfl rfl h.1 dX5_append_38 (fun H locs hP hD hS => ?_)
    replace h := h.2
    have hP : va_P D vwCl [(A_t, .inr (5, [.ref A_t_upper, .ref A_t_lower, .ref A_t_limits, .ref A_t_stricts, .ref A_t_marks, .int t_size, .int t_marked, .int t_wholeness])), (A_t_upper, .inl (cy 1, 24, .inl (upd t_upper t_size.toNatClampNeg x1))), (A_t_lower, .inl (cy 1, 24, .inl (upd t_lower t_size.toNatClampNeg x2))), (A_t_limits, .inl (cy 1, 24, .inl (upd t_limits t_size.toNatClampNeg x3))), (A_t_stricts, .inl (cy 1, 24, .inl t_stricts))] H := hP
    have hD : va_D A [(A_t, .inr (5, [.ref A_t_upper, .ref A_t_lower, .ref A_t_limits, .ref A_t_stricts, .ref A_t_marks, .int t_size, .int t_marked, .int t_wholeness])), (A_t_upper, .inl (cy 1, 24, .inl (upd t_upper t_size.toNatClampNeg x1))), (A_t_lower, .inl (cy 1, 24, .inl (upd t_lower t_size.toNatClampNeg x2))), (A_t_limits, .inl (cy 1, 24, .inl (upd t_limits t_size.toNatClampNeg x3))), (A_t_stricts, .inl (cy 1, 24, .inl t_stricts))] := hD
    refine lv_aload_n hx hb dX5_append_39 rfl (lv_at hl 0 rfl) ?_
    refine va_get (D := D) (ci := 5) (v := .ref A_t_stricts) (C := RX5) (T := TX5) (N := 8) hx hb hts iX5 hown hK.1 hP 0 rfl rfl 3 (by decide) f4 (fun _ h9 => h9) rfl dX5_append_40 ?_
    refine lv_aload_n hx hb dX5_append_43 rfl (lv_at hl 0 rfl) ?_
    refine va_get (D := D) (ci := 5) (v := .int t_size) (C := RX5) (T := TX5) (N := 8) hx hb hts iX5 hown hK.1 hP 0 rfl rfl 5 (by decide) f0 (fun _ h9 => h9) rfl dX5_append_44 ?_
    refine lv_iload hx hb dX5_append_47 (lv_at hl 4 rfl) ?_
    refine va_iast hx hb hK.1 hP hD hS 4 1 rfl rfl h.1 dX5_append_49 (fun H locs hP hD hS => ?_)
    replace h := h.2
    have hP : va_P D vwCl [(A_t, .inr (5, [.ref A_t_upper, .ref A_t_lower, .ref A_t_limits, .ref A_t_stricts, .ref A_t_marks, .int t_size, .int t_marked, .int t_wholeness])), (A_t_upper, .inl (cy 1, 24, .inl (upd t_upper t_size.toNatClampNeg x1))), (A_t_lower, .inl (cy 1, 24, .inl (upd t_lower t_size.toNatClampNeg x2))), (A_t_limits, .inl (cy 1, 24, .inl (upd t_limits t_size.toNatClampNeg x3))), (A_t_stricts, .inl (cy 1, 24, .inl (upd t_stricts t_size.toNatClampNeg x4)))] H := hP
    have hD : va_D A [(A_t, .inr (5, [.ref A_t_upper, .ref A_t_lower, .ref A_t_limits, .ref A_t_stricts, .ref A_t_marks, .int t_size, .int t_marked, .int t_wholeness])), (A_t_upper, .inl (cy 1, 24, .inl (upd t_upper t_size.toNatClampNeg x1))), (A_t_lower, .inl (cy 1, 24, .inl (upd t_lower t_size.toNatClampNeg x2))), (A_t_limits, .inl (cy 1, 24, .inl (upd t_limits t_size.toNatClampNeg x3))), (A_t_stricts, .inl (cy 1, 24, .inl (upd t_stricts t_size.toNatClampNeg x4)))] := hD
    refine lv_aload_n hx hb dX5_append_50 rfl (lv_at hl 0 rfl) ?_
    refine lv_dup hx hb dX5_append_51 rfl ?_
    refine va_get (D := D) (ci := 5) (v := .int t_size) (C := RX5) (T := TX5) (N := 8) hx hb hts iX5 hown hK.1 hP 0 rfl rfl 5 (by decide) f0 (fun _ h9 => h9) rfl dX5_append_52 ?_
    refine lv_iconst (v := 1) hx hb dX5_append_55 (by decide) ?_
    refine lv_iadd hx hb dX5_append_56 ?_
    refine va_put (D := D) (ci := 5) (v := .int (t_size + (1 : Int32))) (ty := .int) (C := RX5) (T := TX5) (N := 8) hx hb hts iX5 tyX5 tyX5_ok nmX5 hown hK.1 hP hD hS 0 rfl rfl 5 (by decide) f0 (fun _ h9 => h9) rfl (tyX5_ok 5 (by decide)) rfl rfl (Nat.le_of_ble_eq_true rfl) dX5_append_57 (fun H locs hP hD hS => ?_)
    have hP : va_P D vwCl [(A_t, .inr (5, [.ref A_t_upper, .ref A_t_lower, .ref A_t_limits, .ref A_t_stricts, .ref A_t_marks, .int (t_size + (1 : Int32)), .int t_marked, .int t_wholeness])), (A_t_upper, .inl (cy 1, 24, .inl (upd t_upper t_size.toNatClampNeg x1))), (A_t_lower, .inl (cy 1, 24, .inl (upd t_lower t_size.toNatClampNeg x2))), (A_t_limits, .inl (cy 1, 24, .inl (upd t_limits t_size.toNatClampNeg x3))), (A_t_stricts, .inl (cy 1, 24, .inl (upd t_stricts t_size.toNatClampNeg x4)))] H := hP
    have hD : va_D A [(A_t, .inr (5, [.ref A_t_upper, .ref A_t_lower, .ref A_t_limits, .ref A_t_stricts, .ref A_t_marks, .int (t_size + (1 : Int32)), .int t_marked, .int t_wholeness])), (A_t_upper, .inl (cy 1, 24, .inl (upd t_upper t_size.toNatClampNeg x1))), (A_t_lower, .inl (cy 1, 24, .inl (upd t_lower t_size.toNatClampNeg x2))), (A_t_limits, .inl (cy 1, 24, .inl (upd t_limits t_size.toNatClampNeg x3))), (A_t_stricts, .inl (cy 1, 24, .inl (upd t_stricts t_size.toNatClampNeg x4)))] := hD
    subst hQ
    subst hAe
    exact W.vret hx hb hr (fun t ht _ => ⟨⟨(t_size + (1 : Int32), upd t_upper t_size.toNatClampNeg x1, upd t_lower t_size.toNatClampNeg x2, upd t_limits t_size.toNatClampNeg x3, upd t_stricts t_size.toNatClampNeg x4), rfl, h, by rw [ht]; exact hP, hD⟩, hS.F ht⟩) hS.2.2 dX5_append_60
theorem qX5_remove : yX5_remove.cls = RX5 ∧ yX5_remove.cls ≠ "java/lang/invoke/MethodHandle" ∧ yX5_remove.cls ≠ "java/lang/invoke/VarHandle" ∧ (parseMethodDescriptor yX5_remove.desc).map (fun d => d.parameters.length) = some 1 := by decide +kernel
def B_X5_remove_114 (K_86 : (Nat → Int32) → Int32 → Prop) (t_marks : Nat → Int32) (x2 : Int32) : Prop :=
  K_86 t_marks (x2 + (1 : Int32))
def LB_X5_remove_86 (post : Int32 → (Nat → Int32) → (Nat → Int32) → (Nat → Int32) → (Nat → Int32) → (Nat → Int32) → Prop) (t_size : Int32) (t_marked : Int32) (t_upper : Nat → Int32) (t_lower : Nat → Int32) (t_limits : Nat → Int32) (t_stricts : Nat → Int32) (x1 : Int32) (K_86 : (Nat → Int32) → Int32 → Prop) (t_marks : Nat → Int32) (x2 : Int32) : Prop :=
  ((t_marked ≤ x2 → post t_size t_upper t_marks t_lower t_limits t_stricts) ∧ (¬ t_marked ≤ x2 → (vp_in x2 8 ∧ ((t_marks x2.toNatClampNeg ≤ x1 → B_X5_remove_114 K_86 t_marks x2) ∧ (¬ t_marks x2.toNatClampNeg ≤ x1 → (vp_in x2 8 ∧ (vp_in x2 8 ∧ B_X5_remove_114 K_86 (upd t_marks x2.toNatClampNeg ((t_marks x2.toNatClampNeg) - (1 : Int32))) x2)))))))
noncomputable def L_X5_remove_86 (post : Int32 → (Nat → Int32) → (Nat → Int32) → (Nat → Int32) → (Nat → Int32) → (Nat → Int32) → Prop) (t_size : Int32) (t_marked : Int32) (t_upper : Nat → Int32) (t_lower : Nat → Int32) (t_limits : Nat → Int32) (t_stricts : Nat → Int32) (x1 : Int32) (n : Nat) : (Nat → Int32) → Int32 → Prop := Nat.rec (motive := fun _ => (Nat → Int32) → Int32 → Prop) (fun _ _ => False) (fun _ K => LB_X5_remove_86 post t_size t_marked t_upper t_lower t_limits t_stricts x1 K) n
def LB_X5_remove_4 (post : Int32 → (Nat → Int32) → (Nat → Int32) → (Nat → Int32) → (Nat → Int32) → (Nat → Int32) → Prop) (t_size : Int32) (t_marked : Int32) (t_marks : Nat → Int32) (x1 : Int32) (K_4 : (Nat → Int32) → (Nat → Int32) → (Nat → Int32) → (Nat → Int32) → Int32 → Prop) (t_upper : Nat → Int32) (t_lower : Nat → Int32) (t_limits : Nat → Int32) (t_stricts : Nat → Int32) (x2 : Int32) : Prop :=
  ((t_size ≤ x2 → ∃ n : Nat, L_X5_remove_86 post (t_size - (1 : Int32)) t_marked t_upper t_lower t_limits t_stricts x1 n t_marks (0 : Int32)) ∧ (¬ t_size ≤ x2 → (vp_in x2 24 ∧ (vp_in (x2 - (1 : Int32)) 24 ∧ (vp_in x2 24 ∧ (vp_in (x2 - (1 : Int32)) 24 ∧ (vp_in x2 24 ∧ (vp_in (x2 - (1 : Int32)) 24 ∧ (vp_in x2 24 ∧ (vp_in (x2 - (1 : Int32)) 24 ∧ K_4 (upd t_upper (x2 - (1 : Int32)).toNatClampNeg (t_upper x2.toNatClampNeg)) (upd t_lower (x2 - (1 : Int32)).toNatClampNeg (t_lower x2.toNatClampNeg)) (upd t_limits (x2 - (1 : Int32)).toNatClampNeg (t_limits x2.toNatClampNeg)) (upd t_stricts (x2 - (1 : Int32)).toNatClampNeg (t_stricts x2.toNatClampNeg)) (x2 + (1 : Int32))))))))))))
noncomputable def L_X5_remove_4 (post : Int32 → (Nat → Int32) → (Nat → Int32) → (Nat → Int32) → (Nat → Int32) → (Nat → Int32) → Prop) (t_size : Int32) (t_marked : Int32) (t_marks : Nat → Int32) (x1 : Int32) (n : Nat) : (Nat → Int32) → (Nat → Int32) → (Nat → Int32) → (Nat → Int32) → Int32 → Prop := Nat.rec (motive := fun _ => (Nat → Int32) → (Nat → Int32) → (Nat → Int32) → (Nat → Int32) → Int32 → Prop) (fun _ _ _ _ _ => False) (fun _ K => LB_X5_remove_4 post t_size t_marked t_marks x1 K) n
def P_X5_remove (post : Int32 → (Nat → Int32) → (Nat → Int32) → (Nat → Int32) → (Nat → Int32) → (Nat → Int32) → Prop) (t_size : Int32) (t_marked : Int32) (t_upper : Nat → Int32) (t_marks : Nat → Int32) (t_lower : Nat → Int32) (t_limits : Nat → Int32) (t_stricts : Nat → Int32) (x1 : Int32) : Prop :=
  ∃ n : Nat, L_X5_remove_4 post t_size t_marked t_marks x1 n t_upper t_lower t_limits t_stricts (x1 + (1 : Int32))
set_option maxHeartbeats 4000000 in
set_option maxRecDepth 100000 in
theorem c_X5_remove (l : Launch) (D : va_G) (cy : Nat → ClassId) (sz : Nat) (A_t A_t_upper A_t_lower A_t_limits A_t_stricts A_t_marks : Nat) (t_size : Int32) (t_marked : Int32) (t_wholeness : Int32) (t_upper : Nat → Int32) (t_marks : Nat → Int32) (t_lower : Nat → Int32) (t_limits : Nat → Int32) (t_stricts : Nat → Int32) (x1 : Int32) (post : Int32 → (Nat → Int32) → (Nat → Int32) → (Nat → Int32) → (Nat → Int32) → (Nat → Int32) → Prop) (h : P_X5_remove post t_size t_marked t_upper t_marks t_lower t_limits t_stricts x1) : Met l yX5_remove wsX5_remove { frames := 0, cells := 0, slots := 0, locals := 0 } (pcW D cy [(A_t, .inr (5, [.ref A_t_upper, .ref A_t_lower, .ref A_t_limits, .ref A_t_stricts, .ref A_t_marks, .int t_size, .int t_marked, .int t_wholeness])), (A_t_upper, .inl (cy 1, 24, .inl t_upper)), (A_t_marks, .inl (cy 1, 8, .inl t_marks)), (A_t_lower, .inl (cy 1, 24, .inl t_lower)), (A_t_limits, .inl (cy 1, 24, .inl t_limits)), (A_t_stricts, .inl (cy 1, 24, .inl t_stricts))] sz [.ref A_t, .int x1]) (va_Qv (fun (u : Int32 × (Nat → Int32) × (Nat → Int32) × (Nat → Int32) × (Nat → Int32) × (Nat → Int32)) => post u.1 u.2.1 u.2.2.1 u.2.2.2.1 u.2.2.2.2.1 u.2.2.2.2.2) (bW D [(A_t, .inr (5, [.ref A_t_upper, .ref A_t_lower, .ref A_t_limits, .ref A_t_stricts, .ref A_t_marks, .int t_size, .int t_marked, .int t_wholeness])), (A_t_upper, .inl (cy 1, 24, .inl t_upper)), (A_t_marks, .inl (cy 1, 8, .inl t_marks)), (A_t_lower, .inl (cy 1, 24, .inl t_lower)), (A_t_limits, .inl (cy 1, 24, .inl t_limits)), (A_t_stricts, .inl (cy 1, 24, .inl t_stricts))] sz (fun u => [(A_t, .inr (5, [.ref A_t_upper, .ref A_t_lower, .ref A_t_limits, .ref A_t_stricts, .ref A_t_marks, .int (u.1), .int t_marked, .int t_wholeness])), (A_t_upper, .inl (cy 1, 24, .inl u.2.1)), (A_t_marks, .inl (cy 1, 8, .inl u.2.2.1)), (A_t_lower, .inl (cy 1, 24, .inl u.2.2.2.1)), (A_t_limits, .inl (cy 1, 24, .inl u.2.2.2.2.1)), (A_t_stricts, .inl (cy 1, 24, .inl u.2.2.2.2.2))])) (va_A [(A_t, .inr (5, [.ref A_t_upper, .ref A_t_lower, .ref A_t_limits, .ref A_t_stricts, .ref A_t_marks, .int t_size, .int t_marked, .int t_wholeness])), (A_t_upper, .inl (cy 1, 24, .inl t_upper)), (A_t_marks, .inl (cy 1, 8, .inl t_marks)), (A_t_lower, .inl (cy 1, 24, .inl t_lower)), (A_t_limits, .inl (cy 1, 24, .inl t_limits)), (A_t_stricts, .inl (cy 1, 24, .inl t_stricts))] sz)) 0 0 (va_A [(A_t, .inr (5, [.ref A_t_upper, .ref A_t_lower, .ref A_t_limits, .ref A_t_stricts, .ref A_t_marks, .int t_size, .int t_marked, .int t_wholeness])), (A_t_upper, .inl (cy 1, 24, .inl t_upper)), (A_t_marks, .inl (cy 1, 8, .inl t_marks)), (A_t_lower, .inl (cy 1, 24, .inl t_lower)), (A_t_limits, .inl (cy 1, 24, .inl t_limits)), (A_t_stricts, .inl (cy 1, 24, .inl t_stricts))] sz) := by
  refine Met.ofW (cc := cX5_remove) (maxL := 3) (ret := none) (by decide) rfl ?_
  intro p e s m args below meth c s₁ B hml hv
  obtain ⟨rfl, hsz, hP, hK, hD0⟩ := hv
  have hx := B.exec
  have hb := B.bytes
  have hr := B.returns
  have hts := atoms_spec (ws := wsX5_remove) B.pre
  have hown : s.vm.findClass RX5 = some m.cls := findClass_of_methodNamed B.named
  have hlocks := B.notSynchronized
  have CF : CallFix p m c cX5_remove 3 s ([.ref A_t, .int x1] : List Value).toArray wsX5_remove RX5 := ⟨hx, hb, hml, hown, hts⟩
  have f0 := hts (.fieldLink RX5 31 "GapBounds$Store" "size" "I") (by decide +kernel)
  have f1 := hts (.fieldLink RX5 34 "GapBounds$Store" "marked" "I") (by decide +kernel)
  have f2 := hts (.fieldLink RX5 24 "GapBounds$Store" "marks" "[I") (by decide +kernel)
  have f3 := hts (.fieldLink RX5 9 "GapBounds$Store" "upper" "[I") (by decide +kernel)
  have f4 := hts (.fieldLink RX5 15 "GapBounds$Store" "lower" "[I") (by decide +kernel)
  have f5 := hts (.fieldLink RX5 18 "GapBounds$Store" "limits" "[I") (by decide +kernel)
  have f6 := hts (.fieldLink RX5 21 "GapBounds$Store" "stricts" "[I") (by decide +kernel)
  have iX5 : ∀ w ∈ u_ws RX5 TX5 8, w ∈ wsX5_remove := by decide +kernel
  subst hsz
  obtain ⟨A, hAe⟩ : ∃ A, A = va_A [(A_t, .inr (5, [.ref A_t_upper, .ref A_t_lower, .ref A_t_limits, .ref A_t_stricts, .ref A_t_marks, .int t_size, .int t_marked, .int t_wholeness])), (A_t_upper, .inl (cy 1, 24, .inl t_upper)), (A_t_marks, .inl (cy 1, 8, .inl t_marks)), (A_t_lower, .inl (cy 1, 24, .inl t_lower)), (A_t_limits, .inl (cy 1, 24, .inl t_limits)), (A_t_stricts, .inl (cy 1, 24, .inl t_stricts))] s.heap.size := ⟨_, rfl⟩
  have hD : va_D A [(A_t, .inr (5, [.ref A_t_upper, .ref A_t_lower, .ref A_t_limits, .ref A_t_stricts, .ref A_t_marks, .int t_size, .int t_marked, .int t_wholeness])), (A_t_upper, .inl (cy 1, 24, .inl t_upper)), (A_t_marks, .inl (cy 1, 8, .inl t_marks)), (A_t_lower, .inl (cy 1, 24, .inl t_lower)), (A_t_limits, .inl (cy 1, 24, .inl t_limits)), (A_t_stricts, .inl (cy 1, 24, .inl t_stricts))] := by rw [hAe]; exact hD0.self
  have hA : ∀ q : Nat, s.heap.size ≤ q → A q := fun q hq => by rw [hAe]; exact Or.inr hq
  have hS : va_S A s.heap s.heap [] := va_S.rf
  have hl := lv_entry [.ref A_t, .int x1] (n := 3) (Nat.le_of_ble_eq_true rfl)
  rw [lg_entry_eq]
  generalize (lg_sl [.ref A_t, .int x1] ++ List.replicate (3 - (lg_sl [.ref A_t, .int x1]).length) Slot.unset).toArray = ls at hl ⊢
  have hl : lv_has ls 3 [(0, .ref A_t), (1, .int x1)] := hl
  refine W.gen (fun Q0 hQ => ?_)
  have L86 : ∀ (n86 : Nat) (t_size : Int32) (t_upper : Nat → Int32) (t_marks : Nat → Int32) (t_lower : Nat → Int32) (t_limits : Nat → Int32) (t_stricts : Nat → Int32) (x2 : Int32) (H : Heap) (locs : List Loc) (ls : Array Slot), L_X5_remove_86 post t_size t_marked t_upper t_lower t_limits t_stricts x1 n86 t_marks x2 → va_P D vwCl [(A_t, .inr (5, [.ref A_t_upper, .ref A_t_lower, .ref A_t_limits, .ref A_t_stricts, .ref A_t_marks, .int t_size, .int t_marked, .int t_wholeness])), (A_t_upper, .inl (cy 1, 24, .inl t_upper)), (A_t_marks, .inl (cy 1, 8, .inl t_marks)), (A_t_lower, .inl (cy 1, 24, .inl t_lower)), (A_t_limits, .inl (cy 1, 24, .inl t_limits)), (A_t_stricts, .inl (cy 1, 24, .inl t_stricts))] H → va_D A [(A_t, .inr (5, [.ref A_t_upper, .ref A_t_lower, .ref A_t_limits, .ref A_t_stricts, .ref A_t_marks, .int t_size, .int t_marked, .int t_wholeness])), (A_t_upper, .inl (cy 1, 24, .inl t_upper)), (A_t_marks, .inl (cy 1, 8, .inl t_marks)), (A_t_lower, .inl (cy 1, 24, .inl t_lower)), (A_t_limits, .inl (cy 1, 24, .inl t_limits)), (A_t_stricts, .inl (cy 1, 24, .inl t_stricts))] → va_S A s.heap H locs → lv_has ls 3 [(0, .ref A_t), (1, .int x1), (2, .int x2)] → W p l e (headSpec wsX5_remove { frames := 0, cells := 0, slots := 0, locals := 0 }).room s m ([.ref A_t, .int x1] : List Value).toArray below meth c H locs 0 0 Q0 (F0 m 86 ls []) := by
    intro n86
    induction n86 with
    | zero => intro t_size t_upper t_marks t_lower t_limits t_stricts x2 H locs ls h; exact False.elim h
    | succ n86 ih86 =>
      intro t_size t_upper t_marks t_lower t_limits t_stricts x2 H locs ls h hP hD hS hl
      have h : LB_X5_remove_86 post t_size t_marked t_upper t_lower t_limits t_stricts x1 (L_X5_remove_86 post t_size t_marked t_upper t_lower t_limits t_stricts x1 n86) t_marks x2 := h
      unfold LB_X5_remove_86 at h
      have J114 : ∀ (t_size : Int32) (t_upper : Nat → Int32) (t_marks : Nat → Int32) (t_lower : Nat → Int32) (t_limits : Nat → Int32) (t_stricts : Nat → Int32) (x2 : Int32) (H : Heap) (locs : List Loc) (ls : Array Slot), B_X5_remove_114 (L_X5_remove_86 post t_size t_marked t_upper t_lower t_limits t_stricts x1 n86) t_marks x2 → va_P D vwCl [(A_t, .inr (5, [.ref A_t_upper, .ref A_t_lower, .ref A_t_limits, .ref A_t_stricts, .ref A_t_marks, .int t_size, .int t_marked, .int t_wholeness])), (A_t_upper, .inl (cy 1, 24, .inl t_upper)), (A_t_marks, .inl (cy 1, 8, .inl t_marks)), (A_t_lower, .inl (cy 1, 24, .inl t_lower)), (A_t_limits, .inl (cy 1, 24, .inl t_limits)), (A_t_stricts, .inl (cy 1, 24, .inl t_stricts))] H → va_D A [(A_t, .inr (5, [.ref A_t_upper, .ref A_t_lower, .ref A_t_limits, .ref A_t_stricts, .ref A_t_marks, .int t_size, .int t_marked, .int t_wholeness])), (A_t_upper, .inl (cy 1, 24, .inl t_upper)), (A_t_marks, .inl (cy 1, 8, .inl t_marks)), (A_t_lower, .inl (cy 1, 24, .inl t_lower)), (A_t_limits, .inl (cy 1, 24, .inl t_limits)), (A_t_stricts, .inl (cy 1, 24, .inl t_stricts))] → va_S A s.heap H locs → lv_has ls 3 [(0, .ref A_t), (1, .int x1), (2, .int x2)] → W p l e (headSpec wsX5_remove { frames := 0, cells := 0, slots := 0, locals := 0 }).room s m ([.ref A_t, .int x1] : List Value).toArray below meth c H locs 0 0 Q0 (F0 m 114 ls []) := by
        intro t_size t_upper t_marks t_lower t_limits t_stricts x2 H locs ls h hP hD hS hl
        unfold B_X5_remove_114 at h
        refine lv_iinc (v := x2 + (1 : Int32)) (lv' := [(2, .int (x2 + (1 : Int32))), (0, .ref A_t), (1, .int x1)]) hx hb dX5_remove_114 hl (k := 2) rfl rfl (by decide) rfl (fun ls hl => ?_)
        refine lv_goto (tgt := 86) hx hb dX5_remove_117 (by decide) ?_
        exact ih86 t_size t_upper t_marks t_lower t_limits t_stricts (x2 + (1 : Int32)) H locs ls h hP hD hS (lv_sub hl [1, 2, 0] rfl)
      refine lv_iload_n hx hb dX5_remove_86 rfl (lv_at hl 2 rfl) ?_
      refine lv_aload_n hx hb dX5_remove_87 rfl (lv_at hl 0 rfl) ?_
      refine va_get (D := D) (ci := 5) (v := .int t_marked) (C := RX5) (T := TX5) (N := 8) hx hb hts iX5 hown hK.1 hP 0 rfl rfl 6 (by decide) f1 (fun _ h9 => h9) rfl dX5_remove_88 ?_
      refine lv_icmp_ge (tgt := 120) hx hb dX5_remove_91 (by decide) (fun hc => ?_) (fun hc => ?_)
      · replace h := h.1 hc
        subst hQ
        subst hAe
        exact W.vret hx hb hr (fun t ht _ => ⟨⟨(t_size, t_upper, t_marks, t_lower, t_limits, t_stricts), rfl, h, by rw [ht]; exact hP, hD⟩, hS.F ht⟩) hS.2.2 dX5_remove_120
      · replace h := h.2 hc
        refine lv_aload_n hx hb dX5_remove_94 rfl (lv_at hl 0 rfl) ?_
        refine va_get (D := D) (ci := 5) (v := .ref A_t_marks) (C := RX5) (T := TX5) (N := 8) hx hb hts iX5 hown hK.1 hP 0 rfl rfl 4 (by decide) f2 (fun _ h9 => h9) rfl dX5_remove_95 ?_
        refine lv_iload_n hx hb dX5_remove_98 rfl (lv_at hl 2 rfl) ?_
        refine va_iald hx hb hK.1 hP 2 1 rfl rfl h.1 dX5_remove_99 ?_
        replace h := h.2
        refine lv_iload_n hx hb dX5_remove_100 rfl (lv_at hl 1 rfl) ?_
        refine lv_icmp_le (tgt := 114) hx hb dX5_remove_101 (by decide) (fun hc => ?_) (fun hc => ?_)
        · replace h := h.1 hc
          exact J114 t_size t_upper t_marks t_lower t_limits t_stricts x2 H locs ls h hP hD hS (lv_sub hl [0, 1, 2] rfl)
        · replace h := h.2 hc
          refine lv_aload_n hx hb dX5_remove_104 rfl (lv_at hl 0 rfl) ?_
          refine va_get (D := D) (ci := 5) (v := .ref A_t_marks) (C := RX5) (T := TX5) (N := 8) hx hb hts iX5 hown hK.1 hP 0 rfl rfl 4 (by decide) f2 (fun _ h9 => h9) rfl dX5_remove_105 ?_
          refine lv_iload_n hx hb dX5_remove_108 rfl (lv_at hl 2 rfl) ?_
          refine lv_dup2_11 hx hb dX5_remove_109 rfl rfl ?_
          refine va_iald hx hb hK.1 hP 2 1 rfl rfl h.1 dX5_remove_110 ?_
          replace h := h.2
          refine lv_iconst (v := 1) hx hb dX5_remove_111 (by decide) ?_
          refine lv_isub hx hb dX5_remove_112 ?_
          refine va_iast hx hb hK.1 hP hD hS 2 1 rfl rfl h.1 dX5_remove_113 (fun H locs hP hD hS => ?_)
          replace h := h.2
          have hP : va_P D vwCl [(A_t, .inr (5, [.ref A_t_upper, .ref A_t_lower, .ref A_t_limits, .ref A_t_stricts, .ref A_t_marks, .int t_size, .int t_marked, .int t_wholeness])), (A_t_upper, .inl (cy 1, 24, .inl t_upper)), (A_t_marks, .inl (cy 1, 8, .inl (upd t_marks x2.toNatClampNeg ((t_marks x2.toNatClampNeg) - (1 : Int32))))), (A_t_lower, .inl (cy 1, 24, .inl t_lower)), (A_t_limits, .inl (cy 1, 24, .inl t_limits)), (A_t_stricts, .inl (cy 1, 24, .inl t_stricts))] H := hP
          have hD : va_D A [(A_t, .inr (5, [.ref A_t_upper, .ref A_t_lower, .ref A_t_limits, .ref A_t_stricts, .ref A_t_marks, .int t_size, .int t_marked, .int t_wholeness])), (A_t_upper, .inl (cy 1, 24, .inl t_upper)), (A_t_marks, .inl (cy 1, 8, .inl (upd t_marks x2.toNatClampNeg ((t_marks x2.toNatClampNeg) - (1 : Int32))))), (A_t_lower, .inl (cy 1, 24, .inl t_lower)), (A_t_limits, .inl (cy 1, 24, .inl t_limits)), (A_t_stricts, .inl (cy 1, 24, .inl t_stricts))] := hD
          exact J114 t_size t_upper (upd t_marks x2.toNatClampNeg ((t_marks x2.toNatClampNeg) - (1 : Int32))) t_lower t_limits t_stricts x2 H locs ls h hP hD hS (lv_sub hl [0, 1, 2] rfl)
  have L4 : ∀ (n4 : Nat) (t_size : Int32) (t_upper : Nat → Int32) (t_marks : Nat → Int32) (t_lower : Nat → Int32) (t_limits : Nat → Int32) (t_stricts : Nat → Int32) (x2 : Int32) (H : Heap) (locs : List Loc) (ls : Array Slot), L_X5_remove_4 post t_size t_marked t_marks x1 n4 t_upper t_lower t_limits t_stricts x2 → va_P D vwCl [(A_t, .inr (5, [.ref A_t_upper, .ref A_t_lower, .ref A_t_limits, .ref A_t_stricts, .ref A_t_marks, .int t_size, .int t_marked, .int t_wholeness])), (A_t_upper, .inl (cy 1, 24, .inl t_upper)), (A_t_marks, .inl (cy 1, 8, .inl t_marks)), (A_t_lower, .inl (cy 1, 24, .inl t_lower)), (A_t_limits, .inl (cy 1, 24, .inl t_limits)), (A_t_stricts, .inl (cy 1, 24, .inl t_stricts))] H → va_D A [(A_t, .inr (5, [.ref A_t_upper, .ref A_t_lower, .ref A_t_limits, .ref A_t_stricts, .ref A_t_marks, .int t_size, .int t_marked, .int t_wholeness])), (A_t_upper, .inl (cy 1, 24, .inl t_upper)), (A_t_marks, .inl (cy 1, 8, .inl t_marks)), (A_t_lower, .inl (cy 1, 24, .inl t_lower)), (A_t_limits, .inl (cy 1, 24, .inl t_limits)), (A_t_stricts, .inl (cy 1, 24, .inl t_stricts))] → va_S A s.heap H locs → lv_has ls 3 [(0, .ref A_t), (1, .int x1), (2, .int x2)] → W p l e (headSpec wsX5_remove { frames := 0, cells := 0, slots := 0, locals := 0 }).room s m ([.ref A_t, .int x1] : List Value).toArray below meth c H locs 0 0 Q0 (F0 m 4 ls []) := by
    intro n4
    induction n4 with
    | zero => intro t_size t_upper t_marks t_lower t_limits t_stricts x2 H locs ls h; exact False.elim h
    | succ n4 ih4 =>
      intro t_size t_upper t_marks t_lower t_limits t_stricts x2 H locs ls h hP hD hS hl
      have h : LB_X5_remove_4 post t_size t_marked t_marks x1 (L_X5_remove_4 post t_size t_marked t_marks x1 n4) t_upper t_lower t_limits t_stricts x2 := h
      unfold LB_X5_remove_4 at h
      refine lv_iload_n hx hb dX5_remove_4 rfl (lv_at hl 2 rfl) ?_
      refine lv_aload_n hx hb dX5_remove_5 rfl (lv_at hl 0 rfl) ?_
      refine va_get (D := D) (ci := 5) (v := .int t_size) (C := RX5) (T := TX5) (N := 8) hx hb hts iX5 hown hK.1 hP 0 rfl rfl 5 (by decide) f0 (fun _ h9 => h9) rfl dX5_remove_6 ?_
      refine lv_icmp_ge (tgt := 74) hx hb dX5_remove_9 (by decide) (fun hc => ?_) (fun hc => ?_)
      · replace h := h.1 hc
        refine lv_aload_n hx hb dX5_remove_74 rfl (lv_at hl 0 rfl) ?_
        refine lv_dup hx hb dX5_remove_75 rfl ?_
        refine va_get (D := D) (ci := 5) (v := .int t_size) (C := RX5) (T := TX5) (N := 8) hx hb hts iX5 hown hK.1 hP 0 rfl rfl 5 (by decide) f0 (fun _ h9 => h9) rfl dX5_remove_76 ?_
        refine lv_iconst (v := 1) hx hb dX5_remove_79 (by decide) ?_
        refine lv_isub hx hb dX5_remove_80 ?_
        refine va_put (D := D) (ci := 5) (v := .int (t_size - (1 : Int32))) (ty := .int) (C := RX5) (T := TX5) (N := 8) hx hb hts iX5 tyX5 tyX5_ok nmX5 hown hK.1 hP hD hS 0 rfl rfl 5 (by decide) f0 (fun _ h9 => h9) rfl (tyX5_ok 5 (by decide)) rfl rfl (Nat.le_of_ble_eq_true rfl) dX5_remove_81 (fun H locs hP hD hS => ?_)
        have hP : va_P D vwCl [(A_t, .inr (5, [.ref A_t_upper, .ref A_t_lower, .ref A_t_limits, .ref A_t_stricts, .ref A_t_marks, .int (t_size - (1 : Int32)), .int t_marked, .int t_wholeness])), (A_t_upper, .inl (cy 1, 24, .inl t_upper)), (A_t_marks, .inl (cy 1, 8, .inl t_marks)), (A_t_lower, .inl (cy 1, 24, .inl t_lower)), (A_t_limits, .inl (cy 1, 24, .inl t_limits)), (A_t_stricts, .inl (cy 1, 24, .inl t_stricts))] H := hP
        have hD : va_D A [(A_t, .inr (5, [.ref A_t_upper, .ref A_t_lower, .ref A_t_limits, .ref A_t_stricts, .ref A_t_marks, .int (t_size - (1 : Int32)), .int t_marked, .int t_wholeness])), (A_t_upper, .inl (cy 1, 24, .inl t_upper)), (A_t_marks, .inl (cy 1, 8, .inl t_marks)), (A_t_lower, .inl (cy 1, 24, .inl t_lower)), (A_t_limits, .inl (cy 1, 24, .inl t_limits)), (A_t_stricts, .inl (cy 1, 24, .inl t_stricts))] := hD
        refine lv_iconst (v := 0) hx hb dX5_remove_84 (by decide) ?_
        refine lv_istore_n (lv' := [(2, .int (0 : Int32)), (0, .ref A_t), (1, .int x1)]) hx hb dX5_remove_85 rfl hl (by decide) rfl (fun ls hl => ?_)
        obtain ⟨nn, h⟩ := h
        exact L86 nn (t_size - (1 : Int32)) t_upper t_marks t_lower t_limits t_stricts (0 : Int32) H locs ls h hP hD hS (lv_sub hl [1, 2, 0] rfl)
      · replace h := h.2 hc
        refine lv_aload_n hx hb dX5_remove_12 rfl (lv_at hl 0 rfl) ?_
        refine va_get (D := D) (ci := 5) (v := .ref A_t_upper) (C := RX5) (T := TX5) (N := 8) hx hb hts iX5 hown hK.1 hP 0 rfl rfl 0 (by decide) f3 (fun _ h9 => h9) rfl dX5_remove_13 ?_
        refine lv_iload_n hx hb dX5_remove_16 rfl (lv_at hl 2 rfl) ?_
        refine lv_iconst (v := 1) hx hb dX5_remove_17 (by decide) ?_
        refine lv_isub hx hb dX5_remove_18 ?_
        refine lv_aload_n hx hb dX5_remove_19 rfl (lv_at hl 0 rfl) ?_
        refine va_get (D := D) (ci := 5) (v := .ref A_t_upper) (C := RX5) (T := TX5) (N := 8) hx hb hts iX5 hown hK.1 hP 0 rfl rfl 0 (by decide) f3 (fun _ h9 => h9) rfl dX5_remove_20 ?_
        refine lv_iload_n hx hb dX5_remove_23 rfl (lv_at hl 2 rfl) ?_
        refine va_iald hx hb hK.1 hP 1 1 rfl rfl h.1 dX5_remove_24 ?_
        replace h := h.2
        refine va_iast hx hb hK.1 hP hD hS 1 1 rfl rfl h.1 dX5_remove_25 (fun H locs hP hD hS => ?_)
        replace h := h.2
        have hP : va_P D vwCl [(A_t, .inr (5, [.ref A_t_upper, .ref A_t_lower, .ref A_t_limits, .ref A_t_stricts, .ref A_t_marks, .int t_size, .int t_marked, .int t_wholeness])), (A_t_upper, .inl (cy 1, 24, .inl (upd t_upper (x2 - (1 : Int32)).toNatClampNeg (t_upper x2.toNatClampNeg)))), (A_t_marks, .inl (cy 1, 8, .inl t_marks)), (A_t_lower, .inl (cy 1, 24, .inl t_lower)), (A_t_limits, .inl (cy 1, 24, .inl t_limits)), (A_t_stricts, .inl (cy 1, 24, .inl t_stricts))] H := hP
        have hD : va_D A [(A_t, .inr (5, [.ref A_t_upper, .ref A_t_lower, .ref A_t_limits, .ref A_t_stricts, .ref A_t_marks, .int t_size, .int t_marked, .int t_wholeness])), (A_t_upper, .inl (cy 1, 24, .inl (upd t_upper (x2 - (1 : Int32)).toNatClampNeg (t_upper x2.toNatClampNeg)))), (A_t_marks, .inl (cy 1, 8, .inl t_marks)), (A_t_lower, .inl (cy 1, 24, .inl t_lower)), (A_t_limits, .inl (cy 1, 24, .inl t_limits)), (A_t_stricts, .inl (cy 1, 24, .inl t_stricts))] := hD
        refine lv_aload_n hx hb dX5_remove_26 rfl (lv_at hl 0 rfl) ?_
        refine va_get (D := D) (ci := 5) (v := .ref A_t_lower) (C := RX5) (T := TX5) (N := 8) hx hb hts iX5 hown hK.1 hP 0 rfl rfl 1 (by decide) f4 (fun _ h9 => h9) rfl dX5_remove_27 ?_
        refine lv_iload_n hx hb dX5_remove_30 rfl (lv_at hl 2 rfl) ?_
        refine lv_iconst (v := 1) hx hb dX5_remove_31 (by decide) ?_
        refine lv_isub hx hb dX5_remove_32 ?_
        refine lv_aload_n hx hb dX5_remove_33 rfl (lv_at hl 0 rfl) ?_
        refine va_get (D := D) (ci := 5) (v := .ref A_t_lower) (C := RX5) (T := TX5) (N := 8) hx hb hts iX5 hown hK.1 hP 0 rfl rfl 1 (by decide) f4 (fun _ h9 => h9) rfl dX5_remove_34 ?_
        refine lv_iload_n hx hb dX5_remove_37 rfl (lv_at hl 2 rfl) ?_
        refine va_iald hx hb hK.1 hP 3 1 rfl rfl h.1 dX5_remove_38 ?_
        replace h := h.2
        refine va_iast hx hb hK.1 hP hD hS 3 1 rfl rfl h.1 dX5_remove_39 (fun H locs hP hD hS => ?_)
        replace h := h.2
        have hP : va_P D vwCl [(A_t, .inr (5, [.ref A_t_upper, .ref A_t_lower, .ref A_t_limits, .ref A_t_stricts, .ref A_t_marks, .int t_size, .int t_marked, .int t_wholeness])), (A_t_upper, .inl (cy 1, 24, .inl (upd t_upper (x2 - (1 : Int32)).toNatClampNeg (t_upper x2.toNatClampNeg)))), (A_t_marks, .inl (cy 1, 8, .inl t_marks)), (A_t_lower, .inl (cy 1, 24, .inl (upd t_lower (x2 - (1 : Int32)).toNatClampNeg (t_lower x2.toNatClampNeg)))), (A_t_limits, .inl (cy 1, 24, .inl t_limits)), (A_t_stricts, .inl (cy 1, 24, .inl t_stricts))] H := hP
        have hD : va_D A [(A_t, .inr (5, [.ref A_t_upper, .ref A_t_lower, .ref A_t_limits, .ref A_t_stricts, .ref A_t_marks, .int t_size, .int t_marked, .int t_wholeness])), (A_t_upper, .inl (cy 1, 24, .inl (upd t_upper (x2 - (1 : Int32)).toNatClampNeg (t_upper x2.toNatClampNeg)))), (A_t_marks, .inl (cy 1, 8, .inl t_marks)), (A_t_lower, .inl (cy 1, 24, .inl (upd t_lower (x2 - (1 : Int32)).toNatClampNeg (t_lower x2.toNatClampNeg)))), (A_t_limits, .inl (cy 1, 24, .inl t_limits)), (A_t_stricts, .inl (cy 1, 24, .inl t_stricts))] := hD
        refine lv_aload_n hx hb dX5_remove_40 rfl (lv_at hl 0 rfl) ?_
        refine va_get (D := D) (ci := 5) (v := .ref A_t_limits) (C := RX5) (T := TX5) (N := 8) hx hb hts iX5 hown hK.1 hP 0 rfl rfl 2 (by decide) f5 (fun _ h9 => h9) rfl dX5_remove_41 ?_
        refine lv_iload_n hx hb dX5_remove_44 rfl (lv_at hl 2 rfl) ?_
        refine lv_iconst (v := 1) hx hb dX5_remove_45 (by decide) ?_
        refine lv_isub hx hb dX5_remove_46 ?_
        refine lv_aload_n hx hb dX5_remove_47 rfl (lv_at hl 0 rfl) ?_
        refine va_get (D := D) (ci := 5) (v := .ref A_t_limits) (C := RX5) (T := TX5) (N := 8) hx hb hts iX5 hown hK.1 hP 0 rfl rfl 2 (by decide) f5 (fun _ h9 => h9) rfl dX5_remove_48 ?_
        refine lv_iload_n hx hb dX5_remove_51 rfl (lv_at hl 2 rfl) ?_
        refine va_iald hx hb hK.1 hP 4 1 rfl rfl h.1 dX5_remove_52 ?_
        replace h := h.2
        refine va_iast hx hb hK.1 hP hD hS 4 1 rfl rfl h.1 dX5_remove_53 (fun H locs hP hD hS => ?_)
        replace h := h.2
        have hP : va_P D vwCl [(A_t, .inr (5, [.ref A_t_upper, .ref A_t_lower, .ref A_t_limits, .ref A_t_stricts, .ref A_t_marks, .int t_size, .int t_marked, .int t_wholeness])), (A_t_upper, .inl (cy 1, 24, .inl (upd t_upper (x2 - (1 : Int32)).toNatClampNeg (t_upper x2.toNatClampNeg)))), (A_t_marks, .inl (cy 1, 8, .inl t_marks)), (A_t_lower, .inl (cy 1, 24, .inl (upd t_lower (x2 - (1 : Int32)).toNatClampNeg (t_lower x2.toNatClampNeg)))), (A_t_limits, .inl (cy 1, 24, .inl (upd t_limits (x2 - (1 : Int32)).toNatClampNeg (t_limits x2.toNatClampNeg)))), (A_t_stricts, .inl (cy 1, 24, .inl t_stricts))] H := hP
        have hD : va_D A [(A_t, .inr (5, [.ref A_t_upper, .ref A_t_lower, .ref A_t_limits, .ref A_t_stricts, .ref A_t_marks, .int t_size, .int t_marked, .int t_wholeness])), (A_t_upper, .inl (cy 1, 24, .inl (upd t_upper (x2 - (1 : Int32)).toNatClampNeg (t_upper x2.toNatClampNeg)))), (A_t_marks, .inl (cy 1, 8, .inl t_marks)), (A_t_lower, .inl (cy 1, 24, .inl (upd t_lower (x2 - (1 : Int32)).toNatClampNeg (t_lower x2.toNatClampNeg)))), (A_t_limits, .inl (cy 1, 24, .inl (upd t_limits (x2 - (1 : Int32)).toNatClampNeg (t_limits x2.toNatClampNeg)))), (A_t_stricts, .inl (cy 1, 24, .inl t_stricts))] := hD
        refine lv_aload_n hx hb dX5_remove_54 rfl (lv_at hl 0 rfl) ?_
        refine va_get (D := D) (ci := 5) (v := .ref A_t_stricts) (C := RX5) (T := TX5) (N := 8) hx hb hts iX5 hown hK.1 hP 0 rfl rfl 3 (by decide) f6 (fun _ h9 => h9) rfl dX5_remove_55 ?_
        refine lv_iload_n hx hb dX5_remove_58 rfl (lv_at hl 2 rfl) ?_
        refine lv_iconst (v := 1) hx hb dX5_remove_59 (by decide) ?_
        refine lv_isub hx hb dX5_remove_60 ?_
        refine lv_aload_n hx hb dX5_remove_61 rfl (lv_at hl 0 rfl) ?_
        refine va_get (D := D) (ci := 5) (v := .ref A_t_stricts) (C := RX5) (T := TX5) (N := 8) hx hb hts iX5 hown hK.1 hP 0 rfl rfl 3 (by decide) f6 (fun _ h9 => h9) rfl dX5_remove_62 ?_
        refine lv_iload_n hx hb dX5_remove_65 rfl (lv_at hl 2 rfl) ?_
        refine va_iald hx hb hK.1 hP 5 1 rfl rfl h.1 dX5_remove_66 ?_
        replace h := h.2
        refine va_iast hx hb hK.1 hP hD hS 5 1 rfl rfl h.1 dX5_remove_67 (fun H locs hP hD hS => ?_)
        replace h := h.2
        have hP : va_P D vwCl [(A_t, .inr (5, [.ref A_t_upper, .ref A_t_lower, .ref A_t_limits, .ref A_t_stricts, .ref A_t_marks, .int t_size, .int t_marked, .int t_wholeness])), (A_t_upper, .inl (cy 1, 24, .inl (upd t_upper (x2 - (1 : Int32)).toNatClampNeg (t_upper x2.toNatClampNeg)))), (A_t_marks, .inl (cy 1, 8, .inl t_marks)), (A_t_lower, .inl (cy 1, 24, .inl (upd t_lower (x2 - (1 : Int32)).toNatClampNeg (t_lower x2.toNatClampNeg)))), (A_t_limits, .inl (cy 1, 24, .inl (upd t_limits (x2 - (1 : Int32)).toNatClampNeg (t_limits x2.toNatClampNeg)))), (A_t_stricts, .inl (cy 1, 24, .inl (upd t_stricts (x2 - (1 : Int32)).toNatClampNeg (t_stricts x2.toNatClampNeg))))] H := hP
        have hD : va_D A [(A_t, .inr (5, [.ref A_t_upper, .ref A_t_lower, .ref A_t_limits, .ref A_t_stricts, .ref A_t_marks, .int t_size, .int t_marked, .int t_wholeness])), (A_t_upper, .inl (cy 1, 24, .inl (upd t_upper (x2 - (1 : Int32)).toNatClampNeg (t_upper x2.toNatClampNeg)))), (A_t_marks, .inl (cy 1, 8, .inl t_marks)), (A_t_lower, .inl (cy 1, 24, .inl (upd t_lower (x2 - (1 : Int32)).toNatClampNeg (t_lower x2.toNatClampNeg)))), (A_t_limits, .inl (cy 1, 24, .inl (upd t_limits (x2 - (1 : Int32)).toNatClampNeg (t_limits x2.toNatClampNeg)))), (A_t_stricts, .inl (cy 1, 24, .inl (upd t_stricts (x2 - (1 : Int32)).toNatClampNeg (t_stricts x2.toNatClampNeg))))] := hD
        refine lv_iinc (v := x2 + (1 : Int32)) (lv' := [(2, .int (x2 + (1 : Int32))), (0, .ref A_t), (1, .int x1)]) hx hb dX5_remove_68 hl (k := 2) rfl rfl (by decide) rfl (fun ls hl => ?_)
        refine lv_goto (tgt := 4) hx hb dX5_remove_71 (by decide) ?_
        exact ih4 t_size (upd t_upper (x2 - (1 : Int32)).toNatClampNeg (t_upper x2.toNatClampNeg)) t_marks (upd t_lower (x2 - (1 : Int32)).toNatClampNeg (t_lower x2.toNatClampNeg)) (upd t_limits (x2 - (1 : Int32)).toNatClampNeg (t_limits x2.toNatClampNeg)) (upd t_stricts (x2 - (1 : Int32)).toNatClampNeg (t_stricts x2.toNatClampNeg)) (x2 + (1 : Int32)) H locs ls h hP hD hS (lv_sub hl [1, 2, 0] rfl)
  unfold P_X5_remove at h
  refine lv_iload_n hx hb dX5_remove_0 rfl (lv_at hl 1 rfl) ?_
  refine lv_iconst (v := 1) hx hb dX5_remove_1 (by decide) ?_
  refine lv_iadd hx hb dX5_remove_2 ?_
  refine lv_istore_n (lv' := [(2, .int (x1 + (1 : Int32))), (0, .ref A_t), (1, .int x1)]) hx hb dX5_remove_3 rfl hl (by decide) rfl (fun ls hl => ?_)
  obtain ⟨nn, h⟩ := h
  exact L4 nn t_size t_upper t_marks t_lower t_limits t_stricts (x1 + (1 : Int32)) s.heap [] ls h hP hD hS (lv_sub hl [1, 2, 0] rfl)
theorem qX5_shiftedLimit : yX5_shiftedLimit.cls = RX5 ∧ yX5_shiftedLimit.cls ≠ "java/lang/invoke/MethodHandle" ∧ yX5_shiftedLimit.cls ≠ "java/lang/invoke/VarHandle" ∧ (parseMethodDescriptor yX5_shiftedLimit.desc).map (fun d => d.parameters.length) = some 3 := by decide +kernel
def P_X5_shiftedLimit (post : Int64 → Prop) (t_upper : Nat → Int32) (t_lower : Nat → Int32) (t_limits : Nat → Int32) (x1 : Int32) (x2 : Int32) (x3 : Int32) : Prop :=
  (vp_in x1 24 ∧ ((¬ t_upper x1.toNatClampNeg = x2 → (vp_in x1 24 ∧ ((¬ t_lower x1.toNatClampNeg = x2 → (vp_in x1 24 ∧ post ((t_limits x1.toNatClampNeg).toInt64))) ∧ (t_lower x1.toNatClampNeg = x2 → (vp_in x1 24 ∧ post (((t_limits x1.toNatClampNeg).toInt64) - x3.toInt64)))))) ∧ (t_upper x1.toNatClampNeg = x2 → (vp_in x1 24 ∧ post (((t_limits x1.toNatClampNeg).toInt64) + x3.toInt64)))))
set_option maxHeartbeats 4000000 in
set_option maxRecDepth 100000 in
theorem c_X5_shiftedLimit (l : Launch) (D : va_G) (cy : Nat → ClassId) (A_t A_t_upper A_t_lower A_t_limits A_t_stricts A_t_marks : Nat) (t_size : Int32) (t_marked : Int32) (t_wholeness : Int32) (t_upper : Nat → Int32) (t_lower : Nat → Int32) (t_limits : Nat → Int32) (x1 : Int32) (x2 : Int32) (x3 : Int32) (post : Int64 → Prop) (h : P_X5_shiftedLimit post t_upper t_lower t_limits x1 x2 x3) : Met l yX5_shiftedLimit wsX5_shiftedLimit { frames := 0, cells := 0, slots := 0, locals := 0 } (pcR D cy [(A_t, .inr (5, [.ref A_t_upper, .ref A_t_lower, .ref A_t_limits, .ref A_t_stricts, .ref A_t_marks, .int t_size, .int t_marked, .int t_wholeness])), (A_t_upper, .inl (cy 1, 24, .inl t_upper)), (A_t_lower, .inl (cy 1, 24, .inl t_lower)), (A_t_limits, .inl (cy 1, 24, .inl t_limits))] [.ref A_t, .int x1, .int x2, .int x3]) (vp_Sl post) 0 0 (fun _ => False) := by
  refine Met.ofW (cc := cX5_shiftedLimit) (maxL := 4) (ret := (some .long)) (by decide) rfl ?_
  intro p e s m args below meth c s₁ B hml hv
  obtain ⟨rfl, hP, hK⟩ := hv
  have hx := B.exec
  have hb := B.bytes
  have hr := B.returns
  have hts := atoms_spec (ws := wsX5_shiftedLimit) B.pre
  have hown : s.vm.findClass RX5 = some m.cls := findClass_of_methodNamed B.named
  have hlocks := B.notSynchronized
  have CF : CallFix p m c cX5_shiftedLimit 4 s ([.ref A_t, .int x1, .int x2, .int x3] : List Value).toArray wsX5_shiftedLimit RX5 := ⟨hx, hb, hml, hown, hts⟩
  have f0 := hts (.fieldLink RX5 9 "GapBounds$Store" "upper" "[I") (by decide +kernel)
  have f1 := hts (.fieldLink RX5 15 "GapBounds$Store" "lower" "[I") (by decide +kernel)
  have f2 := hts (.fieldLink RX5 18 "GapBounds$Store" "limits" "[I") (by decide +kernel)
  have iX5 : ∀ w ∈ u_ws RX5 TX5 8, w ∈ wsX5_shiftedLimit := by decide +kernel
  have hl := lv_entry [.ref A_t, .int x1, .int x2, .int x3] (n := 4) (Nat.le_of_ble_eq_true rfl)
  rw [lg_entry_eq]
  generalize (lg_sl [.ref A_t, .int x1, .int x2, .int x3] ++ List.replicate (4 - (lg_sl [.ref A_t, .int x1, .int x2, .int x3]).length) Slot.unset).toArray = ls at hl ⊢
  have hl : lv_has ls 4 [(0, .ref A_t), (1, .int x1), (2, .int x2), (3, .int x3)] := hl
  refine W.gen (fun Q0 hQ => ?_)
  unfold P_X5_shiftedLimit at h
  refine lv_aload_n hx hb dX5_shiftedLimit_0 rfl (lv_at hl 0 rfl) ?_
  refine va_get (D := D) (ci := 5) (v := .ref A_t_upper) (C := RX5) (T := TX5) (N := 8) hx hb hts iX5 hown hK.1 hP 0 rfl rfl 0 (by decide) f0 (fun _ h9 => h9) rfl dX5_shiftedLimit_1 ?_
  refine lv_iload_n hx hb dX5_shiftedLimit_4 rfl (lv_at hl 1 rfl) ?_
  refine va_iald hx hb hK.1 hP 1 1 rfl rfl h.1 dX5_shiftedLimit_5 ?_
  replace h := h.2
  refine lv_iload_n hx hb dX5_shiftedLimit_6 rfl (lv_at hl 2 rfl) ?_
  refine lv_icmp_ne (tgt := 21) hx hb dX5_shiftedLimit_7 (by decide) (fun hc => ?_) (fun hc => ?_)
  · replace h := h.1 hc
    refine lv_aload_n hx hb dX5_shiftedLimit_21 rfl (lv_at hl 0 rfl) ?_
    refine va_get (D := D) (ci := 5) (v := .ref A_t_lower) (C := RX5) (T := TX5) (N := 8) hx hb hts iX5 hown hK.1 hP 0 rfl rfl 1 (by decide) f1 (fun _ h9 => h9) rfl dX5_shiftedLimit_22 ?_
    refine lv_iload_n hx hb dX5_shiftedLimit_25 rfl (lv_at hl 1 rfl) ?_
    refine va_iald hx hb hK.1 hP 2 1 rfl rfl h.1 dX5_shiftedLimit_26 ?_
    replace h := h.2
    refine lv_iload_n hx hb dX5_shiftedLimit_27 rfl (lv_at hl 2 rfl) ?_
    refine lv_icmp_ne (tgt := 44) hx hb dX5_shiftedLimit_28 (by decide) (fun hc => ?_) (fun hc => ?_)
    · replace h := h.1 hc
      refine lv_aload_n hx hb dX5_shiftedLimit_44 rfl (lv_at hl 0 rfl) ?_
      refine va_get (D := D) (ci := 5) (v := .ref A_t_limits) (C := RX5) (T := TX5) (N := 8) hx hb hts iX5 hown hK.1 hP 0 rfl rfl 2 (by decide) f2 (fun _ h9 => h9) rfl dX5_shiftedLimit_45 ?_
      refine lv_iload_n hx hb dX5_shiftedLimit_48 rfl (lv_at hl 1 rfl) ?_
      refine va_iald hx hb hK.1 hP 3 1 rfl rfl h.1 dX5_shiftedLimit_49 ?_
      replace h := h.2
      refine lv_i2l (v := (t_limits x1.toNatClampNeg).toInt64) hx hb dX5_shiftedLimit_50 rfl ?_
      subst hQ
      exact W.lret (v := (t_limits x1.toNatClampNeg).toInt64) hx hb hr (fun t ht _ => ⟨(t_limits x1.toNatClampNeg).toInt64, rfl, h, ht⟩) (fun _ hq => absurd hq List.not_mem_nil) dX5_shiftedLimit_51
    · replace h := h.2 hc
      refine lv_aload_n hx hb dX5_shiftedLimit_31 rfl (lv_at hl 0 rfl) ?_
      refine va_get (D := D) (ci := 5) (v := .ref A_t_limits) (C := RX5) (T := TX5) (N := 8) hx hb hts iX5 hown hK.1 hP 0 rfl rfl 2 (by decide) f2 (fun _ h9 => h9) rfl dX5_shiftedLimit_32 ?_
      refine lv_iload_n hx hb dX5_shiftedLimit_35 rfl (lv_at hl 1 rfl) ?_
      refine va_iald hx hb hK.1 hP 3 1 rfl rfl h.1 dX5_shiftedLimit_36 ?_
      replace h := h.2
      refine lv_i2l (v := (t_limits x1.toNatClampNeg).toInt64) hx hb dX5_shiftedLimit_37 rfl ?_
      refine lv_iload_n hx hb dX5_shiftedLimit_38 rfl (lv_at hl 3 rfl) ?_
      refine lv_i2l (v := x3.toInt64) hx hb dX5_shiftedLimit_39 rfl ?_
      refine lv_lsub hx hb dX5_shiftedLimit_40 ?_
      refine lv_goto (tgt := 51) hx hb dX5_shiftedLimit_41 (by decide) ?_
      subst hQ
      exact W.lret (v := ((t_limits x1.toNatClampNeg).toInt64) - x3.toInt64) hx hb hr (fun t ht _ => ⟨((t_limits x1.toNatClampNeg).toInt64) - x3.toInt64, rfl, h, ht⟩) (fun _ hq => absurd hq List.not_mem_nil) dX5_shiftedLimit_51
  · replace h := h.2 hc
    refine lv_aload_n hx hb dX5_shiftedLimit_10 rfl (lv_at hl 0 rfl) ?_
    refine va_get (D := D) (ci := 5) (v := .ref A_t_limits) (C := RX5) (T := TX5) (N := 8) hx hb hts iX5 hown hK.1 hP 0 rfl rfl 2 (by decide) f2 (fun _ h9 => h9) rfl dX5_shiftedLimit_11 ?_
    refine lv_iload_n hx hb dX5_shiftedLimit_14 rfl (lv_at hl 1 rfl) ?_
    refine va_iald hx hb hK.1 hP 3 1 rfl rfl h.1 dX5_shiftedLimit_15 ?_
    replace h := h.2
    refine lv_i2l (v := (t_limits x1.toNatClampNeg).toInt64) hx hb dX5_shiftedLimit_16 rfl ?_
    refine lv_iload_n hx hb dX5_shiftedLimit_17 rfl (lv_at hl 3 rfl) ?_
    refine lv_i2l (v := x3.toInt64) hx hb dX5_shiftedLimit_18 rfl ?_
    refine lv_ladd hx hb dX5_shiftedLimit_19 ?_
    subst hQ
    exact W.lret (v := ((t_limits x1.toNatClampNeg).toInt64) + x3.toInt64) hx hb hr (fun t ht _ => ⟨((t_limits x1.toNatClampNeg).toInt64) + x3.toInt64, rfl, h, ht⟩) (fun _ hq => absurd hq List.not_mem_nil) dX5_shiftedLimit_20
theorem qX5_isFirstOfPair : yX5_isFirstOfPair.cls = RX5 ∧ yX5_isFirstOfPair.cls ≠ "java/lang/invoke/MethodHandle" ∧ yX5_isFirstOfPair.cls ≠ "java/lang/invoke/VarHandle" ∧ (parseMethodDescriptor yX5_isFirstOfPair.desc).map (fun d => d.parameters.length) = some 1 := by decide +kernel
def LB_X5_isFirstOfPair_2 (post : Int32 → Prop) (t_upper : Nat → Int32) (t_lower : Nat → Int32) (x1 : Int32) (K_2 : Int32 → Prop) (x2 : Int32) : Prop :=
  ((x1 ≤ x2 → post (1 : Int32)) ∧ (¬ x1 ≤ x2 → (vp_in x1 24 ∧ (vp_in x1 24 ∧ P_X5_isOf (fun (r1 : Int32) => ((r1 = 0 → K_2 (x2 + (1 : Int32))) ∧ (¬ r1 = 0 → post (0 : Int32)))) t_upper t_lower x2 (t_upper x1.toNatClampNeg) (t_lower x1.toNatClampNeg)))))
noncomputable def L_X5_isFirstOfPair_2 (post : Int32 → Prop) (t_upper : Nat → Int32) (t_lower : Nat → Int32) (x1 : Int32) (n : Nat) : Int32 → Prop := Nat.rec (motive := fun _ => Int32 → Prop) (fun _ => False) (fun _ K => LB_X5_isFirstOfPair_2 post t_upper t_lower x1 K) n
def P_X5_isFirstOfPair (post : Int32 → Prop) (t_upper : Nat → Int32) (t_lower : Nat → Int32) (x1 : Int32) : Prop :=
  ∃ n : Nat, L_X5_isFirstOfPair_2 post t_upper t_lower x1 n (0 : Int32)
set_option maxHeartbeats 4000000 in
set_option maxRecDepth 100000 in
theorem c_X5_isFirstOfPair (l : Launch) (D : va_G) (cy : Nat → ClassId) (A_t A_t_upper A_t_lower A_t_limits A_t_stricts A_t_marks : Nat) (t_size : Int32) (t_marked : Int32) (t_wholeness : Int32) (t_upper : Nat → Int32) (t_lower : Nat → Int32) (x1 : Int32) (post : Int32 → Prop) (h : P_X5_isFirstOfPair post t_upper t_lower x1) : Met l yX5_isFirstOfPair wsX5_isFirstOfPair { frames := 1, cells := 0, slots := 0, locals := 23 } (pcR D cy [(A_t, .inr (5, [.ref A_t_upper, .ref A_t_lower, .ref A_t_limits, .ref A_t_stricts, .ref A_t_marks, .int t_size, .int t_marked, .int t_wholeness])), (A_t_upper, .inl (cy 1, 24, .inl t_upper)), (A_t_lower, .inl (cy 1, 24, .inl t_lower))] [.ref A_t, .int x1]) (vp_Si post) 0 0 (fun _ => False) := by
  refine Met.ofW (cc := cX5_isFirstOfPair) (maxL := 3) (ret := (some .boolean)) (by decide) rfl ?_
  intro p e s m args below meth c s₁ B hml hv
  obtain ⟨rfl, hP, hK⟩ := hv
  have hx := B.exec
  have hb := B.bytes
  have hr := B.returns
  have hts := atoms_spec (ws := wsX5_isFirstOfPair) B.pre
  have hown : s.vm.findClass RX5 = some m.cls := findClass_of_methodNamed B.named
  have hlocks := B.notSynchronized
  have CF : CallFix p m c cX5_isFirstOfPair 3 s ([.ref A_t, .int x1] : List Value).toArray wsX5_isFirstOfPair RX5 := ⟨hx, hb, hml, hown, hts⟩
  have f0 := hts (.fieldLink RX5 9 "GapBounds$Store" "upper" "[I") (by decide +kernel)
  have f1 := hts (.fieldLink RX5 15 "GapBounds$Store" "lower" "[I") (by decide +kernel)
  have iX5 : ∀ w ∈ u_ws RX5 TX5 8, w ∈ wsX5_isFirstOfPair := by decide +kernel
  have hl := lv_entry [.ref A_t, .int x1] (n := 3) (Nat.le_of_ble_eq_true rfl)
  rw [lg_entry_eq]
  generalize (lg_sl [.ref A_t, .int x1] ++ List.replicate (3 - (lg_sl [.ref A_t, .int x1]).length) Slot.unset).toArray = ls at hl ⊢
  have hl : lv_has ls 3 [(0, .ref A_t), (1, .int x1)] := hl
  refine W.gen (fun Q0 hQ => ?_)
  have L2 : ∀ (n2 : Nat) (x2 : Int32) (ls : Array Slot), L_X5_isFirstOfPair_2 post t_upper t_lower x1 n2 x2 → lv_has ls 3 [(0, .ref A_t), (1, .int x1), (2, .int x2)] → W p l e (headSpec wsX5_isFirstOfPair { frames := 1, cells := 0, slots := 0, locals := 23 }).room s m ([.ref A_t, .int x1] : List Value).toArray below meth c s.heap [] 0 0 Q0 (F0 m 2 ls []) := by
    intro n2
    induction n2 with
    | zero => intro x2 ls h; exact False.elim h
    | succ n2 ih2 =>
      intro x2 ls h hl
      have h : LB_X5_isFirstOfPair_2 post t_upper t_lower x1 (L_X5_isFirstOfPair_2 post t_upper t_lower x1 n2) x2 := h
      unfold LB_X5_isFirstOfPair_2 at h
      refine lv_iload_n hx hb dX5_isFirstOfPair_2 rfl (lv_at hl 2 rfl) ?_
      refine lv_iload_n hx hb dX5_isFirstOfPair_3 rfl (lv_at hl 1 rfl) ?_
      refine lv_icmp_ge (tgt := 35) hx hb dX5_isFirstOfPair_4 (by decide) (fun hc => ?_) (fun hc => ?_)
      · replace h := h.1 hc
        refine lv_iconst (v := 1) hx hb dX5_isFirstOfPair_35 (by decide) ?_
        subst hQ
        exact W.zret (v := (1 : Int32)) hx hb hr bz1 (fun t ht _ => ⟨(1 : Int32), rfl, h, ht⟩) (fun _ hq => absurd hq List.not_mem_nil) dX5_isFirstOfPair_36
      · replace h := h.2 hc
        refine lv_aload_n hx hb dX5_isFirstOfPair_7 rfl (lv_at hl 0 rfl) ?_
        refine lv_iload_n hx hb dX5_isFirstOfPair_8 rfl (lv_at hl 2 rfl) ?_
        refine lv_aload_n hx hb dX5_isFirstOfPair_9 rfl (lv_at hl 0 rfl) ?_
        refine va_get (D := D) (ci := 5) (v := .ref A_t_upper) (C := RX5) (T := TX5) (N := 8) hx hb hts iX5 hown hK.1 hP 0 rfl rfl 0 (by decide) f0 (fun _ h9 => h9) rfl dX5_isFirstOfPair_10 ?_
        refine lv_iload_n hx hb dX5_isFirstOfPair_13 rfl (lv_at hl 1 rfl) ?_
        refine va_iald hx hb hK.1 hP 1 1 rfl rfl h.1 dX5_isFirstOfPair_14 ?_
        replace h := h.2
        refine lv_aload_n hx hb dX5_isFirstOfPair_15 rfl (lv_at hl 0 rfl) ?_
        refine va_get (D := D) (ci := 5) (v := .ref A_t_lower) (C := RX5) (T := TX5) (N := 8) hx hb hts iX5 hown hK.1 hP 0 rfl rfl 1 (by decide) f1 (fun _ h9 => h9) rfl dX5_isFirstOfPair_16 ?_
        refine lv_iload_n hx hb dX5_isFirstOfPair_19 rfl (lv_at hl 1 rfl) ?_
        refine va_iald hx hb hK.1 hP 2 1 rfl rfl h.1 dX5_isFirstOfPair_20 ?_
        replace h := h.2
        have hPc := hP.sub (ws' := [(A_t, .inr (5, [.ref A_t_upper, .ref A_t_lower, .ref A_t_limits, .ref A_t_stricts, .ref A_t_marks, .int t_size, .int t_marked, .int t_wholeness])), (A_t_upper, .inl (cy 1, 24, .inl t_upper)), (A_t_lower, .inl (cy 1, 24, .inl t_lower))]) [0, 1, 2] rfl
        refine vp_callSi (W.runV (As := [.int x2, .int (t_upper x1.toNatClampNeg), .int (t_lower x1.toNatClampNeg)]) (rest := []) CF (c_X5_isOf l D cy A_t A_t_upper A_t_lower A_t_limits A_t_stricts A_t_marks t_size t_marked t_wholeness t_upper t_lower x2 (t_upper x1.toNatClampNeg) (t_lower x1.toNatClampNeg) _ h) (cwV 3 hts gX5_isFirstOfPair_X5_isOf rfl rfl rfl qX5_isOf ⟨Nat.le_of_ble_eq_true rfl, Nat.le_of_ble_eq_true rfl⟩) (mpVR hK hPc (ci := 5) (q := (RX5, TX5, 8)) (q0 := 0) rfl rfl) rfl rfl hl.1 rfl (lv_room (Nat.le_of_ble_eq_true rfl)) dX5_isFirstOfPair_21 ⟨Nat.zero_le _, Nat.zero_le _⟩) (fun r1 h => ?_)
        refine lv_if_eq (tgt := 29) hx hb dX5_isFirstOfPair_24 (by decide) (fun hc => ?_) (fun hc => ?_)
        · replace h := h.1 hc
          refine lv_iinc (v := x2 + (1 : Int32)) (lv' := [(2, .int (x2 + (1 : Int32))), (0, .ref A_t), (1, .int x1)]) hx hb dX5_isFirstOfPair_29 hl (k := 2) rfl rfl (by decide) rfl (fun ls hl => ?_)
          refine lv_goto (tgt := 2) hx hb dX5_isFirstOfPair_32 (by decide) ?_
          exact ih2 (x2 + (1 : Int32)) ls h (lv_sub hl [1, 2, 0] rfl)
        · replace h := h.2 hc
          refine lv_iconst (v := 0) hx hb dX5_isFirstOfPair_27 (by decide) ?_
          subst hQ
          exact W.zret (v := (0 : Int32)) hx hb hr bz0 (fun t ht _ => ⟨(0 : Int32), rfl, h, ht⟩) (fun _ hq => absurd hq List.not_mem_nil) dX5_isFirstOfPair_28
  unfold P_X5_isFirstOfPair at h
  refine lv_iconst (v := 0) hx hb dX5_isFirstOfPair_0 (by decide) ?_
  refine lv_istore_n (lv' := [(2, .int (0 : Int32)), (0, .ref A_t), (1, .int x1)]) hx hb dX5_isFirstOfPair_1 rfl hl (by decide) rfl (fun ls hl => ?_)
  obtain ⟨nn, h⟩ := h
  exact L2 nn (0 : Int32) ls h (lv_sub hl [1, 2, 0] rfl)
theorem qX5_isFirstOfLimit : yX5_isFirstOfLimit.cls = RX5 ∧ yX5_isFirstOfLimit.cls ≠ "java/lang/invoke/MethodHandle" ∧ yX5_isFirstOfLimit.cls ≠ "java/lang/invoke/VarHandle" ∧ (parseMethodDescriptor yX5_isFirstOfLimit.desc).map (fun d => d.parameters.length) = some 1 := by decide +kernel
def LB_X5_isFirstOfLimit_2 (post : Int32 → Prop) (t_limits : Nat → Int32) (x1 : Int32) (K_2 : Int32 → Prop) (x2 : Int32) : Prop :=
  ((x1 ≤ x2 → post (1 : Int32)) ∧ (¬ x1 ≤ x2 → (vp_in x2 24 ∧ (vp_in x1 24 ∧ ((¬ t_limits x2.toNatClampNeg = t_limits x1.toNatClampNeg → K_2 (x2 + (1 : Int32))) ∧ (t_limits x2.toNatClampNeg = t_limits x1.toNatClampNeg → post (0 : Int32)))))))
noncomputable def L_X5_isFirstOfLimit_2 (post : Int32 → Prop) (t_limits : Nat → Int32) (x1 : Int32) (n : Nat) : Int32 → Prop := Nat.rec (motive := fun _ => Int32 → Prop) (fun _ => False) (fun _ K => LB_X5_isFirstOfLimit_2 post t_limits x1 K) n
def P_X5_isFirstOfLimit (post : Int32 → Prop) (t_limits : Nat → Int32) (x1 : Int32) : Prop :=
  ∃ n : Nat, L_X5_isFirstOfLimit_2 post t_limits x1 n (0 : Int32)
set_option maxHeartbeats 4000000 in
set_option maxRecDepth 100000 in
theorem c_X5_isFirstOfLimit (l : Launch) (D : va_G) (cy : Nat → ClassId) (A_t A_t_upper A_t_lower A_t_limits A_t_stricts A_t_marks : Nat) (t_size : Int32) (t_marked : Int32) (t_wholeness : Int32) (t_limits : Nat → Int32) (x1 : Int32) (post : Int32 → Prop) (h : P_X5_isFirstOfLimit post t_limits x1) : Met l yX5_isFirstOfLimit wsX5_isFirstOfLimit { frames := 0, cells := 0, slots := 0, locals := 0 } (pcR D cy [(A_t, .inr (5, [.ref A_t_upper, .ref A_t_lower, .ref A_t_limits, .ref A_t_stricts, .ref A_t_marks, .int t_size, .int t_marked, .int t_wholeness])), (A_t_limits, .inl (cy 1, 24, .inl t_limits))] [.ref A_t, .int x1]) (vp_Si post) 0 0 (fun _ => False) := by
  refine Met.ofW (cc := cX5_isFirstOfLimit) (maxL := 3) (ret := (some .boolean)) (by decide) rfl ?_
  intro p e s m args below meth c s₁ B hml hv
  obtain ⟨rfl, hP, hK⟩ := hv
  have hx := B.exec
  have hb := B.bytes
  have hr := B.returns
  have hts := atoms_spec (ws := wsX5_isFirstOfLimit) B.pre
  have hown : s.vm.findClass RX5 = some m.cls := findClass_of_methodNamed B.named
  have hlocks := B.notSynchronized
  have CF : CallFix p m c cX5_isFirstOfLimit 3 s ([.ref A_t, .int x1] : List Value).toArray wsX5_isFirstOfLimit RX5 := ⟨hx, hb, hml, hown, hts⟩
  have f0 := hts (.fieldLink RX5 18 "GapBounds$Store" "limits" "[I") (by decide +kernel)
  have iX5 : ∀ w ∈ u_ws RX5 TX5 8, w ∈ wsX5_isFirstOfLimit := by decide +kernel
  have hl := lv_entry [.ref A_t, .int x1] (n := 3) (Nat.le_of_ble_eq_true rfl)
  rw [lg_entry_eq]
  generalize (lg_sl [.ref A_t, .int x1] ++ List.replicate (3 - (lg_sl [.ref A_t, .int x1]).length) Slot.unset).toArray = ls at hl ⊢
  have hl : lv_has ls 3 [(0, .ref A_t), (1, .int x1)] := hl
  refine W.gen (fun Q0 hQ => ?_)
  have L2 : ∀ (n2 : Nat) (x2 : Int32) (ls : Array Slot), L_X5_isFirstOfLimit_2 post t_limits x1 n2 x2 → lv_has ls 3 [(0, .ref A_t), (1, .int x1), (2, .int x2)] → W p l e (headSpec wsX5_isFirstOfLimit { frames := 0, cells := 0, slots := 0, locals := 0 }).room s m ([.ref A_t, .int x1] : List Value).toArray below meth c s.heap [] 0 0 Q0 (F0 m 2 ls []) := by
    intro n2
    induction n2 with
    | zero => intro x2 ls h; exact False.elim h
    | succ n2 ih2 =>
      intro x2 ls h hl
      have h : LB_X5_isFirstOfLimit_2 post t_limits x1 (L_X5_isFirstOfLimit_2 post t_limits x1 n2) x2 := h
      unfold LB_X5_isFirstOfLimit_2 at h
      refine lv_iload_n hx hb dX5_isFirstOfLimit_2 rfl (lv_at hl 2 rfl) ?_
      refine lv_iload_n hx hb dX5_isFirstOfLimit_3 rfl (lv_at hl 1 rfl) ?_
      refine lv_icmp_ge (tgt := 30) hx hb dX5_isFirstOfLimit_4 (by decide) (fun hc => ?_) (fun hc => ?_)
      · replace h := h.1 hc
        refine lv_iconst (v := 1) hx hb dX5_isFirstOfLimit_30 (by decide) ?_
        subst hQ
        exact W.zret (v := (1 : Int32)) hx hb hr bz1 (fun t ht _ => ⟨(1 : Int32), rfl, h, ht⟩) (fun _ hq => absurd hq List.not_mem_nil) dX5_isFirstOfLimit_31
      · replace h := h.2 hc
        refine lv_aload_n hx hb dX5_isFirstOfLimit_7 rfl (lv_at hl 0 rfl) ?_
        refine va_get (D := D) (ci := 5) (v := .ref A_t_limits) (C := RX5) (T := TX5) (N := 8) hx hb hts iX5 hown hK.1 hP 0 rfl rfl 2 (by decide) f0 (fun _ h9 => h9) rfl dX5_isFirstOfLimit_8 ?_
        refine lv_iload_n hx hb dX5_isFirstOfLimit_11 rfl (lv_at hl 2 rfl) ?_
        refine va_iald hx hb hK.1 hP 1 1 rfl rfl h.1 dX5_isFirstOfLimit_12 ?_
        replace h := h.2
        refine lv_aload_n hx hb dX5_isFirstOfLimit_13 rfl (lv_at hl 0 rfl) ?_
        refine va_get (D := D) (ci := 5) (v := .ref A_t_limits) (C := RX5) (T := TX5) (N := 8) hx hb hts iX5 hown hK.1 hP 0 rfl rfl 2 (by decide) f0 (fun _ h9 => h9) rfl dX5_isFirstOfLimit_14 ?_
        refine lv_iload_n hx hb dX5_isFirstOfLimit_17 rfl (lv_at hl 1 rfl) ?_
        refine va_iald hx hb hK.1 hP 1 1 rfl rfl h.1 dX5_isFirstOfLimit_18 ?_
        replace h := h.2
        refine lv_icmp_ne (tgt := 24) hx hb dX5_isFirstOfLimit_19 (by decide) (fun hc => ?_) (fun hc => ?_)
        · replace h := h.1 hc
          refine lv_iinc (v := x2 + (1 : Int32)) (lv' := [(2, .int (x2 + (1 : Int32))), (0, .ref A_t), (1, .int x1)]) hx hb dX5_isFirstOfLimit_24 hl (k := 2) rfl rfl (by decide) rfl (fun ls hl => ?_)
          refine lv_goto (tgt := 2) hx hb dX5_isFirstOfLimit_27 (by decide) ?_
          exact ih2 (x2 + (1 : Int32)) ls h (lv_sub hl [1, 2, 0] rfl)
        · replace h := h.2 hc
          refine lv_iconst (v := 0) hx hb dX5_isFirstOfLimit_22 (by decide) ?_
          subst hQ
          exact W.zret (v := (0 : Int32)) hx hb hr bz0 (fun t ht _ => ⟨(0 : Int32), rfl, h, ht⟩) (fun _ hq => absurd hq List.not_mem_nil) dX5_isFirstOfLimit_23
  unfold P_X5_isFirstOfLimit at h
  refine lv_iconst (v := 0) hx hb dX5_isFirstOfLimit_0 (by decide) ?_
  refine lv_istore_n (lv' := [(2, .int (0 : Int32)), (0, .ref A_t), (1, .int x1)]) hx hb dX5_isFirstOfLimit_1 rfl hl (by decide) rfl (fun ls hl => ?_)
  obtain ⟨nn, h⟩ := h
  exact L2 nn (0 : Int32) ls h (lv_sub hl [1, 2, 0] rfl)
theorem qX5_pairs : yX5_pairs.cls = RX5 ∧ yX5_pairs.cls ≠ "java/lang/invoke/MethodHandle" ∧ yX5_pairs.cls ≠ "java/lang/invoke/VarHandle" ∧ (parseMethodDescriptor yX5_pairs.desc).map (fun d => d.parameters.length) = some 0 := by decide +kernel
def B_X5_pairs_23 (K_4 : Int32 → Int32 → Prop) (x1 : Int32) (x2 : Int32) : Prop :=
  K_4 x1 (x2 + (1 : Int32))
def LB_X5_pairs_4 (post : Int32 → Prop) (t_size : Int32) (t_upper : Nat → Int32) (t_lower : Nat → Int32) (K_4 : Int32 → Int32 → Prop) (x1 : Int32) (x2 : Int32) : Prop :=
  ((t_size ≤ x2 → post x1) ∧ (¬ t_size ≤ x2 → P_X5_isFirstOfPair (fun (r1 : Int32) => ((r1 = 0 → B_X5_pairs_23 K_4 x1 x2) ∧ (¬ r1 = 0 → B_X5_pairs_23 K_4 (x1 + (1 : Int32)) x2))) t_upper t_lower x2))
noncomputable def L_X5_pairs_4 (post : Int32 → Prop) (t_size : Int32) (t_upper : Nat → Int32) (t_lower : Nat → Int32) (n : Nat) : Int32 → Int32 → Prop := Nat.rec (motive := fun _ => Int32 → Int32 → Prop) (fun _ _ => False) (fun _ K => LB_X5_pairs_4 post t_size t_upper t_lower K) n
def P_X5_pairs (post : Int32 → Prop) (t_size : Int32) (t_upper : Nat → Int32) (t_lower : Nat → Int32) : Prop :=
  ∃ n : Nat, L_X5_pairs_4 post t_size t_upper t_lower n (0 : Int32) (0 : Int32)
set_option maxHeartbeats 4000000 in
set_option maxRecDepth 100000 in
theorem c_X5_pairs (l : Launch) (D : va_G) (cy : Nat → ClassId) (A_t A_t_upper A_t_lower A_t_limits A_t_stricts A_t_marks : Nat) (t_size : Int32) (t_marked : Int32) (t_wholeness : Int32) (t_upper : Nat → Int32) (t_lower : Nat → Int32) (post : Int32 → Prop) (h : P_X5_pairs post t_size t_upper t_lower) : Met l yX5_pairs wsX5_pairs { frames := 2, cells := 0, slots := 0, locals := 45 } (pcR D cy [(A_t, .inr (5, [.ref A_t_upper, .ref A_t_lower, .ref A_t_limits, .ref A_t_stricts, .ref A_t_marks, .int t_size, .int t_marked, .int t_wholeness])), (A_t_upper, .inl (cy 1, 24, .inl t_upper)), (A_t_lower, .inl (cy 1, 24, .inl t_lower))] [.ref A_t]) (vp_Si post) 0 0 (fun _ => False) := by
  refine Met.ofW (cc := cX5_pairs) (maxL := 3) (ret := (some .int)) (by decide) rfl ?_
  intro p e s m args below meth c s₁ B hml hv
  obtain ⟨rfl, hP, hK⟩ := hv
  have hx := B.exec
  have hb := B.bytes
  have hr := B.returns
  have hts := atoms_spec (ws := wsX5_pairs) B.pre
  have hown : s.vm.findClass RX5 = some m.cls := findClass_of_methodNamed B.named
  have hlocks := B.notSynchronized
  have CF : CallFix p m c cX5_pairs 3 s ([.ref A_t] : List Value).toArray wsX5_pairs RX5 := ⟨hx, hb, hml, hown, hts⟩
  have f0 := hts (.fieldLink RX5 31 "GapBounds$Store" "size" "I") (by decide +kernel)
  have iX5 : ∀ w ∈ u_ws RX5 TX5 8, w ∈ wsX5_pairs := by decide +kernel
  have hl := lv_entry [.ref A_t] (n := 3) (Nat.le_of_ble_eq_true rfl)
  rw [lg_entry_eq]
  generalize (lg_sl [.ref A_t] ++ List.replicate (3 - (lg_sl [.ref A_t]).length) Slot.unset).toArray = ls at hl ⊢
  have hl : lv_has ls 3 [(0, .ref A_t)] := hl
  refine W.gen (fun Q0 hQ => ?_)
  have L4 : ∀ (n4 : Nat) (x1 : Int32) (x2 : Int32) (ls : Array Slot), L_X5_pairs_4 post t_size t_upper t_lower n4 x1 x2 → lv_has ls 3 [(0, .ref A_t), (1, .int x1), (2, .int x2)] → W p l e (headSpec wsX5_pairs { frames := 2, cells := 0, slots := 0, locals := 45 }).room s m ([.ref A_t] : List Value).toArray below meth c s.heap [] 0 0 Q0 (F0 m 4 ls []) := by
    intro n4
    induction n4 with
    | zero => intro x1 x2 ls h; exact False.elim h
    | succ n4 ih4 =>
      intro x1 x2 ls h hl
      have h : LB_X5_pairs_4 post t_size t_upper t_lower (L_X5_pairs_4 post t_size t_upper t_lower n4) x1 x2 := h
      unfold LB_X5_pairs_4 at h
      have J23 : ∀ (x1 : Int32) (x2 : Int32) (ls : Array Slot), B_X5_pairs_23 (L_X5_pairs_4 post t_size t_upper t_lower n4) x1 x2 → lv_has ls 3 [(0, .ref A_t), (1, .int x1), (2, .int x2)] → W p l e (headSpec wsX5_pairs { frames := 2, cells := 0, slots := 0, locals := 45 }).room s m ([.ref A_t] : List Value).toArray below meth c s.heap [] 0 0 Q0 (F0 m 23 ls []) := by
        intro x1 x2 ls h hl
        unfold B_X5_pairs_23 at h
        refine lv_iinc (v := x2 + (1 : Int32)) (lv' := [(2, .int (x2 + (1 : Int32))), (0, .ref A_t), (1, .int x1)]) hx hb dX5_pairs_23 hl (k := 2) rfl rfl (by decide) rfl (fun ls hl => ?_)
        refine lv_goto (tgt := 4) hx hb dX5_pairs_26 (by decide) ?_
        exact ih4 x1 (x2 + (1 : Int32)) ls h (lv_sub hl [1, 2, 0] rfl)
      refine lv_iload_n hx hb dX5_pairs_4 rfl (lv_at hl 2 rfl) ?_
      refine lv_aload_n hx hb dX5_pairs_5 rfl (lv_at hl 0 rfl) ?_
      refine va_get (D := D) (ci := 5) (v := .int t_size) (C := RX5) (T := TX5) (N := 8) hx hb hts iX5 hown hK.1 hP 0 rfl rfl 5 (by decide) f0 (fun _ h9 => h9) rfl dX5_pairs_6 ?_
      refine lv_icmp_ge (tgt := 29) hx hb dX5_pairs_9 (by decide) (fun hc => ?_) (fun hc => ?_)
      · replace h := h.1 hc
        refine lv_iload_n hx hb dX5_pairs_29 rfl (lv_at hl 1 rfl) ?_
        subst hQ
        exact W.iret (v := x1) hx hb hr (fun t ht _ => ⟨x1, rfl, h, ht⟩) (fun _ hq => absurd hq List.not_mem_nil) dX5_pairs_30
      · replace h := h.2 hc
        refine lv_aload_n hx hb dX5_pairs_12 rfl (lv_at hl 0 rfl) ?_
        refine lv_iload_n hx hb dX5_pairs_13 rfl (lv_at hl 2 rfl) ?_
        have hPc := hP.sub (ws' := [(A_t, .inr (5, [.ref A_t_upper, .ref A_t_lower, .ref A_t_limits, .ref A_t_stricts, .ref A_t_marks, .int t_size, .int t_marked, .int t_wholeness])), (A_t_upper, .inl (cy 1, 24, .inl t_upper)), (A_t_lower, .inl (cy 1, 24, .inl t_lower))]) [0, 1, 2] rfl
        refine vp_callSi (W.runV (As := [.int x2]) (rest := []) CF (c_X5_isFirstOfPair l D cy A_t A_t_upper A_t_lower A_t_limits A_t_stricts A_t_marks t_size t_marked t_wholeness t_upper t_lower x2 _ h) (cwV 1 hts gX5_pairs_X5_isFirstOfPair rfl rfl rfl qX5_isFirstOfPair ⟨Nat.le_of_ble_eq_true rfl, Nat.le_of_ble_eq_true rfl⟩) (mpVR hK hPc (ci := 5) (q := (RX5, TX5, 8)) (q0 := 0) rfl rfl) rfl rfl hl.1 rfl (lv_room (Nat.le_of_ble_eq_true rfl)) dX5_pairs_14 ⟨Nat.zero_le _, Nat.zero_le _⟩) (fun r1 h => ?_)
        refine lv_if_eq (tgt := 23) hx hb dX5_pairs_17 (by decide) (fun hc => ?_) (fun hc => ?_)
        · replace h := h.1 hc
          exact J23 x1 x2 ls h (lv_sub hl [0, 1, 2] rfl)
        · replace h := h.2 hc
          refine lv_iinc (v := x1 + (1 : Int32)) (lv' := [(1, .int (x1 + (1 : Int32))), (0, .ref A_t), (2, .int x2)]) hx hb dX5_pairs_20 hl (k := 1) rfl rfl (by decide) rfl (fun ls hl => ?_)
          exact J23 (x1 + (1 : Int32)) x2 ls h (lv_sub hl [1, 0, 2] rfl)
  unfold P_X5_pairs at h
  refine lv_iconst (v := 0) hx hb dX5_pairs_0 (by decide) ?_
  refine lv_istore_n (lv' := [(1, .int (0 : Int32)), (0, .ref A_t)]) hx hb dX5_pairs_1 rfl hl (by decide) rfl (fun ls hl => ?_)
  refine lv_iconst (v := 0) hx hb dX5_pairs_2 (by decide) ?_
  refine lv_istore_n (lv' := [(2, .int (0 : Int32)), (1, .int (0 : Int32)), (0, .ref A_t)]) hx hb dX5_pairs_3 rfl hl (by decide) rfl (fun ls hl => ?_)
  obtain ⟨nn, h⟩ := h
  exact L4 nn (0 : Int32) (0 : Int32) ls h (lv_sub hl [2, 1, 0] rfl)
theorem qX5_differentLimits : yX5_differentLimits.cls = RX5 ∧ yX5_differentLimits.cls ≠ "java/lang/invoke/MethodHandle" ∧ yX5_differentLimits.cls ≠ "java/lang/invoke/VarHandle" ∧ (parseMethodDescriptor yX5_differentLimits.desc).map (fun d => d.parameters.length) = some 0 := by decide +kernel
def B_X5_differentLimits_23 (K_4 : Int32 → Int32 → Prop) (x1 : Int32) (x2 : Int32) : Prop :=
  K_4 x1 (x2 + (1 : Int32))
def LB_X5_differentLimits_4 (post : Int32 → Prop) (t_size : Int32) (t_limits : Nat → Int32) (K_4 : Int32 → Int32 → Prop) (x1 : Int32) (x2 : Int32) : Prop :=
  ((t_size ≤ x2 → post x1) ∧ (¬ t_size ≤ x2 → P_X5_isFirstOfLimit (fun (r1 : Int32) => ((r1 = 0 → B_X5_differentLimits_23 K_4 x1 x2) ∧ (¬ r1 = 0 → B_X5_differentLimits_23 K_4 (x1 + (1 : Int32)) x2))) t_limits x2))
noncomputable def L_X5_differentLimits_4 (post : Int32 → Prop) (t_size : Int32) (t_limits : Nat → Int32) (n : Nat) : Int32 → Int32 → Prop := Nat.rec (motive := fun _ => Int32 → Int32 → Prop) (fun _ _ => False) (fun _ K => LB_X5_differentLimits_4 post t_size t_limits K) n
def P_X5_differentLimits (post : Int32 → Prop) (t_size : Int32) (t_limits : Nat → Int32) : Prop :=
  ∃ n : Nat, L_X5_differentLimits_4 post t_size t_limits n (0 : Int32) (0 : Int32)
set_option maxHeartbeats 4000000 in
set_option maxRecDepth 100000 in
theorem c_X5_differentLimits (l : Launch) (D : va_G) (cy : Nat → ClassId) (A_t A_t_upper A_t_lower A_t_limits A_t_stricts A_t_marks : Nat) (t_size : Int32) (t_marked : Int32) (t_wholeness : Int32) (t_limits : Nat → Int32) (post : Int32 → Prop) (h : P_X5_differentLimits post t_size t_limits) : Met l yX5_differentLimits wsX5_differentLimits { frames := 1, cells := 0, slots := 0, locals := 22 } (pcR D cy [(A_t, .inr (5, [.ref A_t_upper, .ref A_t_lower, .ref A_t_limits, .ref A_t_stricts, .ref A_t_marks, .int t_size, .int t_marked, .int t_wholeness])), (A_t_limits, .inl (cy 1, 24, .inl t_limits))] [.ref A_t]) (vp_Si post) 0 0 (fun _ => False) := by
  refine Met.ofW (cc := cX5_differentLimits) (maxL := 3) (ret := (some .int)) (by decide) rfl ?_
  intro p e s m args below meth c s₁ B hml hv
  obtain ⟨rfl, hP, hK⟩ := hv
  have hx := B.exec
  have hb := B.bytes
  have hr := B.returns
  have hts := atoms_spec (ws := wsX5_differentLimits) B.pre
  have hown : s.vm.findClass RX5 = some m.cls := findClass_of_methodNamed B.named
  have hlocks := B.notSynchronized
  have CF : CallFix p m c cX5_differentLimits 3 s ([.ref A_t] : List Value).toArray wsX5_differentLimits RX5 := ⟨hx, hb, hml, hown, hts⟩
  have f0 := hts (.fieldLink RX5 31 "GapBounds$Store" "size" "I") (by decide +kernel)
  have iX5 : ∀ w ∈ u_ws RX5 TX5 8, w ∈ wsX5_differentLimits := by decide +kernel
  have hl := lv_entry [.ref A_t] (n := 3) (Nat.le_of_ble_eq_true rfl)
  rw [lg_entry_eq]
  generalize (lg_sl [.ref A_t] ++ List.replicate (3 - (lg_sl [.ref A_t]).length) Slot.unset).toArray = ls at hl ⊢
  have hl : lv_has ls 3 [(0, .ref A_t)] := hl
  refine W.gen (fun Q0 hQ => ?_)
  have L4 : ∀ (n4 : Nat) (x1 : Int32) (x2 : Int32) (ls : Array Slot), L_X5_differentLimits_4 post t_size t_limits n4 x1 x2 → lv_has ls 3 [(0, .ref A_t), (1, .int x1), (2, .int x2)] → W p l e (headSpec wsX5_differentLimits { frames := 1, cells := 0, slots := 0, locals := 22 }).room s m ([.ref A_t] : List Value).toArray below meth c s.heap [] 0 0 Q0 (F0 m 4 ls []) := by
    intro n4
    induction n4 with
    | zero => intro x1 x2 ls h; exact False.elim h
    | succ n4 ih4 =>
      intro x1 x2 ls h hl
      have h : LB_X5_differentLimits_4 post t_size t_limits (L_X5_differentLimits_4 post t_size t_limits n4) x1 x2 := h
      unfold LB_X5_differentLimits_4 at h
      have J23 : ∀ (x1 : Int32) (x2 : Int32) (ls : Array Slot), B_X5_differentLimits_23 (L_X5_differentLimits_4 post t_size t_limits n4) x1 x2 → lv_has ls 3 [(0, .ref A_t), (1, .int x1), (2, .int x2)] → W p l e (headSpec wsX5_differentLimits { frames := 1, cells := 0, slots := 0, locals := 22 }).room s m ([.ref A_t] : List Value).toArray below meth c s.heap [] 0 0 Q0 (F0 m 23 ls []) := by
        intro x1 x2 ls h hl
        unfold B_X5_differentLimits_23 at h
        refine lv_iinc (v := x2 + (1 : Int32)) (lv' := [(2, .int (x2 + (1 : Int32))), (0, .ref A_t), (1, .int x1)]) hx hb dX5_differentLimits_23 hl (k := 2) rfl rfl (by decide) rfl (fun ls hl => ?_)
        refine lv_goto (tgt := 4) hx hb dX5_differentLimits_26 (by decide) ?_
        exact ih4 x1 (x2 + (1 : Int32)) ls h (lv_sub hl [1, 2, 0] rfl)
      refine lv_iload_n hx hb dX5_differentLimits_4 rfl (lv_at hl 2 rfl) ?_
      refine lv_aload_n hx hb dX5_differentLimits_5 rfl (lv_at hl 0 rfl) ?_
      refine va_get (D := D) (ci := 5) (v := .int t_size) (C := RX5) (T := TX5) (N := 8) hx hb hts iX5 hown hK.1 hP 0 rfl rfl 5 (by decide) f0 (fun _ h9 => h9) rfl dX5_differentLimits_6 ?_
      refine lv_icmp_ge (tgt := 29) hx hb dX5_differentLimits_9 (by decide) (fun hc => ?_) (fun hc => ?_)
      · replace h := h.1 hc
        refine lv_iload_n hx hb dX5_differentLimits_29 rfl (lv_at hl 1 rfl) ?_
        subst hQ
        exact W.iret (v := x1) hx hb hr (fun t ht _ => ⟨x1, rfl, h, ht⟩) (fun _ hq => absurd hq List.not_mem_nil) dX5_differentLimits_30
      · replace h := h.2 hc
        refine lv_aload_n hx hb dX5_differentLimits_12 rfl (lv_at hl 0 rfl) ?_
        refine lv_iload_n hx hb dX5_differentLimits_13 rfl (lv_at hl 2 rfl) ?_
        have hPc := hP.sub (ws' := [(A_t, .inr (5, [.ref A_t_upper, .ref A_t_lower, .ref A_t_limits, .ref A_t_stricts, .ref A_t_marks, .int t_size, .int t_marked, .int t_wholeness])), (A_t_limits, .inl (cy 1, 24, .inl t_limits))]) [0, 1] rfl
        refine vp_callSi (W.runV (As := [.int x2]) (rest := []) CF (c_X5_isFirstOfLimit l D cy A_t A_t_upper A_t_lower A_t_limits A_t_stricts A_t_marks t_size t_marked t_wholeness t_limits x2 _ h) (cwV 1 hts gX5_differentLimits_X5_isFirstOfLimit rfl rfl rfl qX5_isFirstOfLimit ⟨Nat.le_of_ble_eq_true rfl, Nat.le_of_ble_eq_true rfl⟩) (mpVR hK hPc (ci := 5) (q := (RX5, TX5, 8)) (q0 := 0) rfl rfl) rfl rfl hl.1 rfl (lv_room (Nat.le_of_ble_eq_true rfl)) dX5_differentLimits_14 ⟨Nat.zero_le _, Nat.zero_le _⟩) (fun r1 h => ?_)
        refine lv_if_eq (tgt := 23) hx hb dX5_differentLimits_17 (by decide) (fun hc => ?_) (fun hc => ?_)
        · replace h := h.1 hc
          exact J23 x1 x2 ls h (lv_sub hl [0, 1, 2] rfl)
        · replace h := h.2 hc
          refine lv_iinc (v := x1 + (1 : Int32)) (lv' := [(1, .int (x1 + (1 : Int32))), (0, .ref A_t), (2, .int x2)]) hx hb dX5_differentLimits_20 hl (k := 1) rfl rfl (by decide) rfl (fun ls hl => ?_)
          exact J23 (x1 + (1 : Int32)) x2 ls h (lv_sub hl [1, 0, 2] rfl)
  unfold P_X5_differentLimits at h
  refine lv_iconst (v := 0) hx hb dX5_differentLimits_0 (by decide) ?_
  refine lv_istore_n (lv' := [(1, .int (0 : Int32)), (0, .ref A_t)]) hx hb dX5_differentLimits_1 rfl hl (by decide) rfl (fun ls hl => ?_)
  refine lv_iconst (v := 0) hx hb dX5_differentLimits_2 (by decide) ?_
  refine lv_istore_n (lv' := [(2, .int (0 : Int32)), (1, .int (0 : Int32)), (0, .ref A_t)]) hx hb dX5_differentLimits_3 rfl hl (by decide) rfl (fun ls hl => ?_)
  obtain ⟨nn, h⟩ := h
  exact L4 nn (0 : Int32) (0 : Int32) ls h (lv_sub hl [2, 1, 0] rfl)
theorem qX5_ofPair : yX5_ofPair.cls = RX5 ∧ yX5_ofPair.cls ≠ "java/lang/invoke/MethodHandle" ∧ yX5_ofPair.cls ≠ "java/lang/invoke/VarHandle" ∧ (parseMethodDescriptor yX5_ofPair.desc).map (fun d => d.parameters.length) = some 2 := by decide +kernel
def B_X5_ofPair_28 (K_5 : Int32 → Int32 → Prop) (x3 : Int32) (x4 : Int32) : Prop :=
  K_5 x3 (x4 + (1 : Int32))
def LB_X5_ofPair_5 (post : Int32 → Prop) (t_size : Int32) (t_upper : Nat → Int32) (t_lower : Nat → Int32) (x1 : Int32) (x2 : Int32) (K_5 : Int32 → Int32 → Prop) (x3 : Int32) (x4 : Int32) : Prop :=
  ((t_size ≤ x4 → post x3) ∧ (¬ t_size ≤ x4 → P_X5_isOf (fun (r1 : Int32) => ((r1 = 0 → B_X5_ofPair_28 K_5 x3 x4) ∧ (¬ r1 = 0 → B_X5_ofPair_28 K_5 (x3 + (1 : Int32)) x4))) t_upper t_lower x4 x1 x2))
noncomputable def L_X5_ofPair_5 (post : Int32 → Prop) (t_size : Int32) (t_upper : Nat → Int32) (t_lower : Nat → Int32) (x1 : Int32) (x2 : Int32) (n : Nat) : Int32 → Int32 → Prop := Nat.rec (motive := fun _ => Int32 → Int32 → Prop) (fun _ _ => False) (fun _ K => LB_X5_ofPair_5 post t_size t_upper t_lower x1 x2 K) n
def P_X5_ofPair (post : Int32 → Prop) (t_size : Int32) (t_upper : Nat → Int32) (t_lower : Nat → Int32) (x1 : Int32) (x2 : Int32) : Prop :=
  ∃ n : Nat, L_X5_ofPair_5 post t_size t_upper t_lower x1 x2 n (0 : Int32) (0 : Int32)
set_option maxHeartbeats 4000000 in
set_option maxRecDepth 100000 in
theorem c_X5_ofPair (l : Launch) (D : va_G) (cy : Nat → ClassId) (A_t A_t_upper A_t_lower A_t_limits A_t_stricts A_t_marks : Nat) (t_size : Int32) (t_marked : Int32) (t_wholeness : Int32) (t_upper : Nat → Int32) (t_lower : Nat → Int32) (x1 : Int32) (x2 : Int32) (post : Int32 → Prop) (h : P_X5_ofPair post t_size t_upper t_lower x1 x2) : Met l yX5_ofPair wsX5_ofPair { frames := 1, cells := 0, slots := 0, locals := 23 } (pcR D cy [(A_t, .inr (5, [.ref A_t_upper, .ref A_t_lower, .ref A_t_limits, .ref A_t_stricts, .ref A_t_marks, .int t_size, .int t_marked, .int t_wholeness])), (A_t_upper, .inl (cy 1, 24, .inl t_upper)), (A_t_lower, .inl (cy 1, 24, .inl t_lower))] [.ref A_t, .int x1, .int x2]) (vp_Si post) 0 0 (fun _ => False) := by
  refine Met.ofW (cc := cX5_ofPair) (maxL := 5) (ret := (some .int)) (by decide) rfl ?_
  intro p e s m args below meth c s₁ B hml hv
  obtain ⟨rfl, hP, hK⟩ := hv
  have hx := B.exec
  have hb := B.bytes
  have hr := B.returns
  have hts := atoms_spec (ws := wsX5_ofPair) B.pre
  have hown : s.vm.findClass RX5 = some m.cls := findClass_of_methodNamed B.named
  have hlocks := B.notSynchronized
  have CF : CallFix p m c cX5_ofPair 5 s ([.ref A_t, .int x1, .int x2] : List Value).toArray wsX5_ofPair RX5 := ⟨hx, hb, hml, hown, hts⟩
  have f0 := hts (.fieldLink RX5 31 "GapBounds$Store" "size" "I") (by decide +kernel)
  have iX5 : ∀ w ∈ u_ws RX5 TX5 8, w ∈ wsX5_ofPair := by decide +kernel
  have hl := lv_entry [.ref A_t, .int x1, .int x2] (n := 5) (Nat.le_of_ble_eq_true rfl)
  rw [lg_entry_eq]
  generalize (lg_sl [.ref A_t, .int x1, .int x2] ++ List.replicate (5 - (lg_sl [.ref A_t, .int x1, .int x2]).length) Slot.unset).toArray = ls at hl ⊢
  have hl : lv_has ls 5 [(0, .ref A_t), (1, .int x1), (2, .int x2)] := hl
  refine W.gen (fun Q0 hQ => ?_)
  have L5 : ∀ (n5 : Nat) (x3 : Int32) (x4 : Int32) (ls : Array Slot), L_X5_ofPair_5 post t_size t_upper t_lower x1 x2 n5 x3 x4 → lv_has ls 5 [(0, .ref A_t), (1, .int x1), (2, .int x2), (3, .int x3), (4, .int x4)] → W p l e (headSpec wsX5_ofPair { frames := 1, cells := 0, slots := 0, locals := 23 }).room s m ([.ref A_t, .int x1, .int x2] : List Value).toArray below meth c s.heap [] 0 0 Q0 (F0 m 5 ls []) := by
    intro n5
    induction n5 with
    | zero => intro x3 x4 ls h; exact False.elim h
    | succ n5 ih5 =>
      intro x3 x4 ls h hl
      have h : LB_X5_ofPair_5 post t_size t_upper t_lower x1 x2 (L_X5_ofPair_5 post t_size t_upper t_lower x1 x2 n5) x3 x4 := h
      unfold LB_X5_ofPair_5 at h
      have J28 : ∀ (x3 : Int32) (x4 : Int32) (ls : Array Slot), B_X5_ofPair_28 (L_X5_ofPair_5 post t_size t_upper t_lower x1 x2 n5) x3 x4 → lv_has ls 5 [(0, .ref A_t), (1, .int x1), (2, .int x2), (3, .int x3), (4, .int x4)] → W p l e (headSpec wsX5_ofPair { frames := 1, cells := 0, slots := 0, locals := 23 }).room s m ([.ref A_t, .int x1, .int x2] : List Value).toArray below meth c s.heap [] 0 0 Q0 (F0 m 28 ls []) := by
        intro x3 x4 ls h hl
        unfold B_X5_ofPair_28 at h
        refine lv_iinc (v := x4 + (1 : Int32)) (lv' := [(4, .int (x4 + (1 : Int32))), (0, .ref A_t), (1, .int x1), (2, .int x2), (3, .int x3)]) hx hb dX5_ofPair_28 hl (k := 4) rfl rfl (by decide) rfl (fun ls hl => ?_)
        refine lv_goto (tgt := 5) hx hb dX5_ofPair_31 (by decide) ?_
        exact ih5 x3 (x4 + (1 : Int32)) ls h (lv_sub hl [1, 2, 3, 4, 0] rfl)
      refine lv_iload hx hb dX5_ofPair_5 (lv_at hl 4 rfl) ?_
      refine lv_aload_n hx hb dX5_ofPair_7 rfl (lv_at hl 0 rfl) ?_
      refine va_get (D := D) (ci := 5) (v := .int t_size) (C := RX5) (T := TX5) (N := 8) hx hb hts iX5 hown hK.1 hP 0 rfl rfl 5 (by decide) f0 (fun _ h9 => h9) rfl dX5_ofPair_8 ?_
      refine lv_icmp_ge (tgt := 34) hx hb dX5_ofPair_11 (by decide) (fun hc => ?_) (fun hc => ?_)
      · replace h := h.1 hc
        refine lv_iload_n hx hb dX5_ofPair_34 rfl (lv_at hl 3 rfl) ?_
        subst hQ
        exact W.iret (v := x3) hx hb hr (fun t ht _ => ⟨x3, rfl, h, ht⟩) (fun _ hq => absurd hq List.not_mem_nil) dX5_ofPair_35
      · replace h := h.2 hc
        refine lv_aload_n hx hb dX5_ofPair_14 rfl (lv_at hl 0 rfl) ?_
        refine lv_iload hx hb dX5_ofPair_15 (lv_at hl 4 rfl) ?_
        refine lv_iload_n hx hb dX5_ofPair_17 rfl (lv_at hl 1 rfl) ?_
        refine lv_iload_n hx hb dX5_ofPair_18 rfl (lv_at hl 2 rfl) ?_
        have hPc := hP.sub (ws' := [(A_t, .inr (5, [.ref A_t_upper, .ref A_t_lower, .ref A_t_limits, .ref A_t_stricts, .ref A_t_marks, .int t_size, .int t_marked, .int t_wholeness])), (A_t_upper, .inl (cy 1, 24, .inl t_upper)), (A_t_lower, .inl (cy 1, 24, .inl t_lower))]) [0, 1, 2] rfl
        refine vp_callSi (W.runV (As := [.int x4, .int x1, .int x2]) (rest := []) CF (c_X5_isOf l D cy A_t A_t_upper A_t_lower A_t_limits A_t_stricts A_t_marks t_size t_marked t_wholeness t_upper t_lower x4 x1 x2 _ h) (cwV 3 hts gX5_ofPair_X5_isOf rfl rfl rfl qX5_isOf ⟨Nat.le_of_ble_eq_true rfl, Nat.le_of_ble_eq_true rfl⟩) (mpVR hK hPc (ci := 5) (q := (RX5, TX5, 8)) (q0 := 0) rfl rfl) rfl rfl hl.1 rfl (lv_room (Nat.le_of_ble_eq_true rfl)) dX5_ofPair_19 ⟨Nat.zero_le _, Nat.zero_le _⟩) (fun r1 h => ?_)
        refine lv_if_eq (tgt := 28) hx hb dX5_ofPair_22 (by decide) (fun hc => ?_) (fun hc => ?_)
        · replace h := h.1 hc
          exact J28 x3 x4 ls h (lv_sub hl [0, 1, 2, 3, 4] rfl)
        · replace h := h.2 hc
          refine lv_iinc (v := x3 + (1 : Int32)) (lv' := [(3, .int (x3 + (1 : Int32))), (0, .ref A_t), (1, .int x1), (2, .int x2), (4, .int x4)]) hx hb dX5_ofPair_25 hl (k := 3) rfl rfl (by decide) rfl (fun ls hl => ?_)
          exact J28 (x3 + (1 : Int32)) x4 ls h (lv_sub hl [1, 2, 3, 0, 4] rfl)
  unfold P_X5_ofPair at h
  refine lv_iconst (v := 0) hx hb dX5_ofPair_0 (by decide) ?_
  refine lv_istore_n (lv' := [(3, .int (0 : Int32)), (0, .ref A_t), (1, .int x1), (2, .int x2)]) hx hb dX5_ofPair_1 rfl hl (by decide) rfl (fun ls hl => ?_)
  refine lv_iconst (v := 0) hx hb dX5_ofPair_2 (by decide) ?_
  refine lv_istore (lv' := [(4, .int (0 : Int32)), (3, .int (0 : Int32)), (0, .ref A_t), (1, .int x1), (2, .int x2)]) hx hb dX5_ofPair_3 hl (by decide) rfl (fun ls hl => ?_)
  obtain ⟨nn, h⟩ := h
  exact L5 nn (0 : Int32) (0 : Int32) ls h (lv_sub hl [2, 3, 4, 1, 0] rfl)
theorem qX5_strictBounds : yX5_strictBounds.cls = RX5 ∧ yX5_strictBounds.cls ≠ "java/lang/invoke/MethodHandle" ∧ yX5_strictBounds.cls ≠ "java/lang/invoke/VarHandle" ∧ (parseMethodDescriptor yX5_strictBounds.desc).map (fun d => d.parameters.length) = some 0 := by decide +kernel
def LB_X5_strictBounds_4 (post : Int32 → Prop) (t_size : Int32) (t_stricts : Nat → Int32) (K_4 : Int32 → Int32 → Prop) (x1 : Int32) (x2 : Int32) : Prop :=
  ((t_size ≤ x2 → post x1) ∧ (¬ t_size ≤ x2 → (vp_in x2 24 ∧ K_4 (x1 + (t_stricts x2.toNatClampNeg)) (x2 + (1 : Int32)))))
noncomputable def L_X5_strictBounds_4 (post : Int32 → Prop) (t_size : Int32) (t_stricts : Nat → Int32) (n : Nat) : Int32 → Int32 → Prop := Nat.rec (motive := fun _ => Int32 → Int32 → Prop) (fun _ _ => False) (fun _ K => LB_X5_strictBounds_4 post t_size t_stricts K) n
def P_X5_strictBounds (post : Int32 → Prop) (t_size : Int32) (t_stricts : Nat → Int32) : Prop :=
  ∃ n : Nat, L_X5_strictBounds_4 post t_size t_stricts n (0 : Int32) (0 : Int32)
set_option maxHeartbeats 4000000 in
set_option maxRecDepth 100000 in
theorem c_X5_strictBounds (l : Launch) (D : va_G) (cy : Nat → ClassId) (A_t A_t_upper A_t_lower A_t_limits A_t_stricts A_t_marks : Nat) (t_size : Int32) (t_marked : Int32) (t_wholeness : Int32) (t_stricts : Nat → Int32) (post : Int32 → Prop) (h : P_X5_strictBounds post t_size t_stricts) : Met l yX5_strictBounds wsX5_strictBounds { frames := 0, cells := 0, slots := 0, locals := 0 } (pcR D cy [(A_t, .inr (5, [.ref A_t_upper, .ref A_t_lower, .ref A_t_limits, .ref A_t_stricts, .ref A_t_marks, .int t_size, .int t_marked, .int t_wholeness])), (A_t_stricts, .inl (cy 1, 24, .inl t_stricts))] [.ref A_t]) (vp_Si post) 0 0 (fun _ => False) := by
  refine Met.ofW (cc := cX5_strictBounds) (maxL := 3) (ret := (some .int)) (by decide) rfl ?_
  intro p e s m args below meth c s₁ B hml hv
  obtain ⟨rfl, hP, hK⟩ := hv
  have hx := B.exec
  have hb := B.bytes
  have hr := B.returns
  have hts := atoms_spec (ws := wsX5_strictBounds) B.pre
  have hown : s.vm.findClass RX5 = some m.cls := findClass_of_methodNamed B.named
  have hlocks := B.notSynchronized
  have CF : CallFix p m c cX5_strictBounds 3 s ([.ref A_t] : List Value).toArray wsX5_strictBounds RX5 := ⟨hx, hb, hml, hown, hts⟩
  have f0 := hts (.fieldLink RX5 31 "GapBounds$Store" "size" "I") (by decide +kernel)
  have f1 := hts (.fieldLink RX5 21 "GapBounds$Store" "stricts" "[I") (by decide +kernel)
  have iX5 : ∀ w ∈ u_ws RX5 TX5 8, w ∈ wsX5_strictBounds := by decide +kernel
  have hl := lv_entry [.ref A_t] (n := 3) (Nat.le_of_ble_eq_true rfl)
  rw [lg_entry_eq]
  generalize (lg_sl [.ref A_t] ++ List.replicate (3 - (lg_sl [.ref A_t]).length) Slot.unset).toArray = ls at hl ⊢
  have hl : lv_has ls 3 [(0, .ref A_t)] := hl
  refine W.gen (fun Q0 hQ => ?_)
  have L4 : ∀ (n4 : Nat) (x1 : Int32) (x2 : Int32) (ls : Array Slot), L_X5_strictBounds_4 post t_size t_stricts n4 x1 x2 → lv_has ls 3 [(0, .ref A_t), (1, .int x1), (2, .int x2)] → W p l e (headSpec wsX5_strictBounds { frames := 0, cells := 0, slots := 0, locals := 0 }).room s m ([.ref A_t] : List Value).toArray below meth c s.heap [] 0 0 Q0 (F0 m 4 ls []) := by
    intro n4
    induction n4 with
    | zero => intro x1 x2 ls h; exact False.elim h
    | succ n4 ih4 =>
      intro x1 x2 ls h hl
      have h : LB_X5_strictBounds_4 post t_size t_stricts (L_X5_strictBounds_4 post t_size t_stricts n4) x1 x2 := h
      unfold LB_X5_strictBounds_4 at h
      refine lv_iload_n hx hb dX5_strictBounds_4 rfl (lv_at hl 2 rfl) ?_
      refine lv_aload_n hx hb dX5_strictBounds_5 rfl (lv_at hl 0 rfl) ?_
      refine va_get (D := D) (ci := 5) (v := .int t_size) (C := RX5) (T := TX5) (N := 8) hx hb hts iX5 hown hK.1 hP 0 rfl rfl 5 (by decide) f0 (fun _ h9 => h9) rfl dX5_strictBounds_6 ?_
      refine lv_icmp_ge (tgt := 27) hx hb dX5_strictBounds_9 (by decide) (fun hc => ?_) (fun hc => ?_)
      · replace h := h.1 hc
        refine lv_iload_n hx hb dX5_strictBounds_27 rfl (lv_at hl 1 rfl) ?_
        subst hQ
        exact W.iret (v := x1) hx hb hr (fun t ht _ => ⟨x1, rfl, h, ht⟩) (fun _ hq => absurd hq List.not_mem_nil) dX5_strictBounds_28
      · replace h := h.2 hc
        refine lv_iload_n hx hb dX5_strictBounds_12 rfl (lv_at hl 1 rfl) ?_
        refine lv_aload_n hx hb dX5_strictBounds_13 rfl (lv_at hl 0 rfl) ?_
        refine va_get (D := D) (ci := 5) (v := .ref A_t_stricts) (C := RX5) (T := TX5) (N := 8) hx hb hts iX5 hown hK.1 hP 0 rfl rfl 3 (by decide) f1 (fun _ h9 => h9) rfl dX5_strictBounds_14 ?_
        refine lv_iload_n hx hb dX5_strictBounds_17 rfl (lv_at hl 2 rfl) ?_
        refine va_iald hx hb hK.1 hP 1 1 rfl rfl h.1 dX5_strictBounds_18 ?_
        replace h := h.2
        refine lv_iadd hx hb dX5_strictBounds_19 ?_
        refine lv_istore_n (lv' := [(1, .int (x1 + (t_stricts x2.toNatClampNeg))), (0, .ref A_t), (2, .int x2)]) hx hb dX5_strictBounds_20 rfl hl (by decide) rfl (fun ls hl => ?_)
        refine lv_iinc (v := x2 + (1 : Int32)) (lv' := [(2, .int (x2 + (1 : Int32))), (1, .int (x1 + (t_stricts x2.toNatClampNeg))), (0, .ref A_t)]) hx hb dX5_strictBounds_21 hl (k := 2) rfl rfl (by decide) rfl (fun ls hl => ?_)
        refine lv_goto (tgt := 4) hx hb dX5_strictBounds_24 (by decide) ?_
        exact ih4 (x1 + (t_stricts x2.toNatClampNeg)) (x2 + (1 : Int32)) ls h (lv_sub hl [2, 1, 0] rfl)
  unfold P_X5_strictBounds at h
  refine lv_iconst (v := 0) hx hb dX5_strictBounds_0 (by decide) ?_
  refine lv_istore_n (lv' := [(1, .int (0 : Int32)), (0, .ref A_t)]) hx hb dX5_strictBounds_1 rfl hl (by decide) rfl (fun ls hl => ?_)
  refine lv_iconst (v := 0) hx hb dX5_strictBounds_2 (by decide) ?_
  refine lv_istore_n (lv' := [(2, .int (0 : Int32)), (1, .int (0 : Int32)), (0, .ref A_t)]) hx hb dX5_strictBounds_3 rfl hl (by decide) rfl (fun ls hl => ?_)
  obtain ⟨nn, h⟩ := h
  exact L4 nn (0 : Int32) (0 : Int32) ls h (lv_sub hl [2, 1, 0] rfl)
theorem qX3_renew : yX3_renew.cls = RX3 ∧ yX3_renew.cls ≠ "java/lang/invoke/MethodHandle" ∧ yX3_renew.cls ≠ "java/lang/invoke/VarHandle" ∧ (parseMethodDescriptor yX3_renew.desc).map (fun d => d.parameters.length) = some 2 := by decide +kernel
def P_X3_renew (post : Int32 → Int32 → (Nat → Int32) → Prop) (t_cells : Nat → Int32) (x1 : Int32) (x2 : Int32) : Prop :=
  P_J7_fill_53178 (fun (t_cells_v1 : Nat → Int32) => post x1 x2 t_cells_v1) 40 t_cells (0 : Int32)
set_option maxHeartbeats 4000000 in
set_option maxRecDepth 100000 in
theorem c_X3_renew (l : Launch) (D : va_G) (cy : Nat → ClassId) (sz : Nat) (A_t A_t_cells : Nat) (t_laneOf : Int32) (t_size : Int32) (t_cells : Nat → Int32) (x1 : Int32) (x2 : Int32) (post : Int32 → Int32 → (Nat → Int32) → Prop) (h : P_X3_renew post t_cells x1 x2) : Met l yX3_renew wsX3_renew { frames := 1, cells := 0, slots := 0, locals := 23 } (pcW D cy [(A_t, .inr (3, [.ref A_t_cells, .int t_laneOf, .int t_size])), (A_t_cells, .inl (cy 1, 40, .inl t_cells))] sz [.ref A_t, .int x1, .int x2]) (va_Qv (fun (u : Int32 × Int32 × (Nat → Int32)) => post u.1 u.2.1 u.2.2) (bW D [(A_t, .inr (3, [.ref A_t_cells, .int t_laneOf, .int t_size])), (A_t_cells, .inl (cy 1, 40, .inl t_cells))] sz (fun u => [(A_t, .inr (3, [.ref A_t_cells, .int (u.1), .int (u.2.1)])), (A_t_cells, .inl (cy 1, 40, .inl u.2.2))])) (va_A [(A_t, .inr (3, [.ref A_t_cells, .int t_laneOf, .int t_size])), (A_t_cells, .inl (cy 1, 40, .inl t_cells))] sz)) 0 0 (va_A [(A_t, .inr (3, [.ref A_t_cells, .int t_laneOf, .int t_size])), (A_t_cells, .inl (cy 1, 40, .inl t_cells))] sz) := by
  refine Met.ofW (cc := cX3_renew) (maxL := 3) (ret := none) (by decide) rfl ?_
  intro p e s m args below meth c s₁ B hml hv
  obtain ⟨rfl, hsz, hP, hK, hD0⟩ := hv
  have hx := B.exec
  have hb := B.bytes
  have hr := B.returns
  have hts := atoms_spec (ws := wsX3_renew) B.pre
  have hown : s.vm.findClass RX3 = some m.cls := findClass_of_methodNamed B.named
  have hlocks := B.notSynchronized
  have CF : CallFix p m c cX3_renew 3 s ([.ref A_t, .int x1, .int x2] : List Value).toArray wsX3_renew RX3 := ⟨hx, hb, hml, hown, hts⟩
  have f0 := hts (.fieldLink RX3 9 "GapBounds$Sheet" "cells" "[I") (by decide +kernel)
  have f1 := hts (.fieldLink RX3 15 "GapBounds$Sheet" "laneOf" "I") (by decide +kernel)
  have f2 := hts (.fieldLink RX3 25 "GapBounds$Sheet" "size" "I") (by decide +kernel)
  have iX3 : ∀ w ∈ u_ws RX3 TX3 3, w ∈ wsX3_renew := by decide +kernel
  subst hsz
  obtain ⟨A, hAe⟩ : ∃ A, A = va_A [(A_t, .inr (3, [.ref A_t_cells, .int t_laneOf, .int t_size])), (A_t_cells, .inl (cy 1, 40, .inl t_cells))] s.heap.size := ⟨_, rfl⟩
  have hD : va_D A [(A_t, .inr (3, [.ref A_t_cells, .int t_laneOf, .int t_size])), (A_t_cells, .inl (cy 1, 40, .inl t_cells))] := by rw [hAe]; exact hD0.self
  have hA : ∀ q : Nat, s.heap.size ≤ q → A q := fun q hq => by rw [hAe]; exact Or.inr hq
  have hS : va_S A s.heap s.heap [] := va_S.rf
  have hl := lv_entry [.ref A_t, .int x1, .int x2] (n := 3) (Nat.le_of_ble_eq_true rfl)
  rw [lg_entry_eq]
  generalize (lg_sl [.ref A_t, .int x1, .int x2] ++ List.replicate (3 - (lg_sl [.ref A_t, .int x1, .int x2]).length) Slot.unset).toArray = ls at hl ⊢
  have hl : lv_has ls 3 [(0, .ref A_t), (1, .int x1), (2, .int x2)] := hl
  refine W.gen (fun Q0 hQ => ?_)
  unfold P_X3_renew at h
  refine lv_aload_n hx hb dX3_renew_0 rfl (lv_at hl 0 rfl) ?_
  refine va_get (D := D) (ci := 3) (v := .ref A_t_cells) (C := RX3) (T := TX3) (N := 3) hx hb hts iX3 hown hK.1 hP 0 rfl rfl 0 (by decide) f0 (fun _ h9 => h9) rfl dX3_renew_1 ?_
  refine lv_iconst (v := 0) hx hb dX3_renew_4 (by decide) ?_
  have hPn : va_P D vwCl ([(A_t, .inr (3, [.ref A_t_cells, .int t_laneOf, .int t_size]))] ++ [(A_t_cells, .inl (cy 1, 40, .inl t_cells))]) s.heap := hP.sub [0, 1] rfl
  have hDn : va_D A ([(A_t, .inr (3, [.ref A_t_cells, .int t_laneOf, .int t_size]))] ++ [(A_t_cells, .inl (cy 1, 40, .inl t_cells))]) := hD.sub [0, 1] (by decide) rfl
  have hPc := gPR hPn
  have hDc := gDR hDn
  refine mw_v (va_runS (As := [.ref A_t_cells, .int (0 : Int32)]) (rest := []) CF (c_J7_fill_53178 l D cy s.heap.size A_t_cells 40 t_cells (0 : Int32) _ h) (va_cwS 2 hts gX3_renew_J7_fill_53178 rfl rfl rfl qJ7_fill_53178.2 ⟨Nat.le_of_ble_eq_true rfl, Nat.le_of_ble_eq_true rfl⟩) (mpSW hK hPc hDc) rfl rfl hl.1 rfl (lv_room (Nat.le_of_ble_eq_true rfl)) dX3_renew_5 ⟨Nat.zero_le _, Nat.zero_le _⟩) hPn hDn hS hA (fun t_cells_v1 H locs h hP hD hS => ?_)
  have hP : va_P D vwCl [(A_t, .inr (3, [.ref A_t_cells, .int t_laneOf, .int t_size])), (A_t_cells, .inl (cy 1, 40, .inl t_cells_v1))] H := hP.sub [0, 1] rfl
  have hD : va_D A [(A_t, .inr (3, [.ref A_t_cells, .int t_laneOf, .int t_size])), (A_t_cells, .inl (cy 1, 40, .inl t_cells_v1))] := hD.sub [0, 1] (by decide) rfl
  refine lv_aload_n hx hb dX3_renew_8 rfl (lv_at hl 0 rfl) ?_
  refine lv_iload_n hx hb dX3_renew_9 rfl (lv_at hl 1 rfl) ?_
  refine va_put (D := D) (ci := 3) (v := .int x1) (ty := .int) (C := RX3) (T := TX3) (N := 3) hx hb hts iX3 tyX3 tyX3_ok nmX3 hown hK.1 hP hD hS 0 rfl rfl 1 (by decide) f1 (fun _ h9 => h9) rfl (tyX3_ok 1 (by decide)) rfl rfl (Nat.le_of_ble_eq_true rfl) dX3_renew_10 (fun H locs hP hD hS => ?_)
  have hP : va_P D vwCl [(A_t, .inr (3, [.ref A_t_cells, .int x1, .int t_size])), (A_t_cells, .inl (cy 1, 40, .inl t_cells_v1))] H := hP
  have hD : va_D A [(A_t, .inr (3, [.ref A_t_cells, .int x1, .int t_size])), (A_t_cells, .inl (cy 1, 40, .inl t_cells_v1))] := hD
  refine lv_aload_n hx hb dX3_renew_13 rfl (lv_at hl 0 rfl) ?_
  refine lv_iload_n hx hb dX3_renew_14 rfl (lv_at hl 2 rfl) ?_
  refine va_put (D := D) (ci := 3) (v := .int x2) (ty := .int) (C := RX3) (T := TX3) (N := 3) hx hb hts iX3 tyX3 tyX3_ok nmX3 hown hK.1 hP hD hS 0 rfl rfl 2 (by decide) f2 (fun _ h9 => h9) rfl (tyX3_ok 2 (by decide)) rfl rfl (Nat.le_of_ble_eq_true rfl) dX3_renew_15 (fun H locs hP hD hS => ?_)
  have hP : va_P D vwCl [(A_t, .inr (3, [.ref A_t_cells, .int x1, .int x2])), (A_t_cells, .inl (cy 1, 40, .inl t_cells_v1))] H := hP
  have hD : va_D A [(A_t, .inr (3, [.ref A_t_cells, .int x1, .int x2])), (A_t_cells, .inl (cy 1, 40, .inl t_cells_v1))] := hD
  subst hQ
  subst hAe
  exact W.vret hx hb hr (fun t ht _ => ⟨⟨(x1, x2, t_cells_v1), rfl, h, by rw [ht]; exact hP, hD⟩, hS.F ht⟩) hS.2.2 dX3_renew_18
theorem qX3_faultAt : yX3_faultAt.cls = RX3 ∧ yX3_faultAt.cls ≠ "java/lang/invoke/MethodHandle" ∧ yX3_faultAt.cls ≠ "java/lang/invoke/VarHandle" ∧ (parseMethodDescriptor yX3_faultAt.desc).map (fun d => d.parameters.length) = some 3 := by decide +kernel
def P_X3_faultAt (post : Int32 → Prop) (t_laneOf : Int32) (t_size : Int32) (x1 : Int32) (x4 : Int32) (y2 : Int64) : Prop :=
  ((¬ t_laneOf = (-1 : Int32) → ((t_laneOf = x1 → ((y2 < (0 : Int64) → post (2 : Int32)) ∧ (¬ y2 < (0 : Int64) → ((y2 + x4.toInt64 ≤ t_size.toInt64 → post (0 : Int32)) ∧ (¬ y2 + x4.toInt64 ≤ t_size.toInt64 → post (2 : Int32)))))) ∧ (¬ t_laneOf = x1 → post (3 : Int32)))) ∧ (t_laneOf = (-1 : Int32) → post (1 : Int32)))
set_option maxHeartbeats 4000000 in
set_option maxRecDepth 100000 in
theorem c_X3_faultAt (l : Launch) (D : va_G) (cy : Nat → ClassId) (A_t A_t_cells : Nat) (t_laneOf : Int32) (t_size : Int32) (x1 : Int32) (y2 : Int64) (x4 : Int32) (post : Int32 → Prop) (h : P_X3_faultAt post t_laneOf t_size x1 x4 y2) : Met l yX3_faultAt wsX3_faultAt { frames := 0, cells := 0, slots := 0, locals := 0 } (pcR D cy [(A_t, .inr (3, [.ref A_t_cells, .int t_laneOf, .int t_size]))] [.ref A_t, .int x1, .long y2, .int x4]) (vp_Si post) 0 0 (fun _ => False) := by
  refine Met.ofW (cc := cX3_faultAt) (maxL := 5) (ret := (some .int)) (by decide) rfl ?_
  intro p e s m args below meth c s₁ B hml hv
  obtain ⟨rfl, hP, hK⟩ := hv
  have hx := B.exec
  have hb := B.bytes
  have hr := B.returns
  have hts := atoms_spec (ws := wsX3_faultAt) B.pre
  have hown : s.vm.findClass RX3 = some m.cls := findClass_of_methodNamed B.named
  have hlocks := B.notSynchronized
  have CF : CallFix p m c cX3_faultAt 5 s ([.ref A_t, .int x1, .long y2, .int x4] : List Value).toArray wsX3_faultAt RX3 := ⟨hx, hb, hml, hown, hts⟩
  have f0 := hts (.fieldLink RX3 15 "GapBounds$Sheet" "laneOf" "I") (by decide +kernel)
  have f1 := hts (.fieldLink RX3 25 "GapBounds$Sheet" "size" "I") (by decide +kernel)
  have iX3 : ∀ w ∈ u_ws RX3 TX3 3, w ∈ wsX3_faultAt := by decide +kernel
  have hl := lv_entry [.ref A_t, .int x1, .long y2, .int x4] (n := 5) (Nat.le_of_ble_eq_true rfl)
  rw [lg_entry_eq]
  generalize (lg_sl [.ref A_t, .int x1, .long y2, .int x4] ++ List.replicate (5 - (lg_sl [.ref A_t, .int x1, .long y2, .int x4]).length) Slot.unset).toArray = ls at hl ⊢
  have hl : lv_has ls 5 [(0, .ref A_t), (1, .int x1), (2, .long y2), (4, .int x4)] := hl
  refine W.gen (fun Q0 hQ => ?_)
  unfold P_X3_faultAt at h
  refine lv_aload_n hx hb dX3_faultAt_0 rfl (lv_at hl 0 rfl) ?_
  refine va_get (D := D) (ci := 3) (v := .int t_laneOf) (C := RX3) (T := TX3) (N := 3) hx hb hts iX3 hown hK.1 hP 0 rfl rfl 1 (by decide) f0 (fun _ h9 => h9) rfl dX3_faultAt_1 ?_
  refine lv_iconst (v := -1) hx hb dX3_faultAt_4 (by decide) ?_
  refine lv_icmp_ne (tgt := 10) hx hb dX3_faultAt_5 (by decide) (fun hc => ?_) (fun hc => ?_)
  · replace h := h.1 hc
    refine lv_aload_n hx hb dX3_faultAt_10 rfl (lv_at hl 0 rfl) ?_
    refine va_get (D := D) (ci := 3) (v := .int t_laneOf) (C := RX3) (T := TX3) (N := 3) hx hb hts iX3 hown hK.1 hP 0 rfl rfl 1 (by decide) f0 (fun _ h9 => h9) rfl dX3_faultAt_11 ?_
    refine lv_iload_n hx hb dX3_faultAt_14 rfl (lv_at hl 1 rfl) ?_
    refine lv_icmp_eq (tgt := 20) hx hb dX3_faultAt_15 (by decide) (fun hc => ?_) (fun hc => ?_)
    · replace h := h.1 hc
      refine lv_lload_n hx hb dX3_faultAt_20 rfl (lv_at hl 2 rfl) ?_
      refine lv_lconst (v := 0) hx hb dX3_faultAt_21 (by decide) ?_
      refine lx_lt (tgt := 40) hx hb dX3_faultAt_22 dX3_faultAt_23 (by decide) (fun hc => ?_) (fun hc => ?_)
      · replace h := h.1 hc
        refine lv_iconst (v := 2) hx hb dX3_faultAt_40 (by decide) ?_
        refine lv_goto (tgt := 45) hx hb dX3_faultAt_41 (by decide) ?_
        subst hQ
        exact W.iret (v := (2 : Int32)) hx hb hr (fun t ht _ => ⟨(2 : Int32), rfl, h, ht⟩) (fun _ hq => absurd hq List.not_mem_nil) dX3_faultAt_45
      · replace h := h.2 hc
        refine lv_lload_n hx hb dX3_faultAt_26 rfl (lv_at hl 2 rfl) ?_
        refine lv_iload hx hb dX3_faultAt_27 (lv_at hl 3 rfl) ?_
        refine lv_i2l (v := x4.toInt64) hx hb dX3_faultAt_29 rfl ?_
        refine lv_ladd hx hb dX3_faultAt_30 ?_
        refine lv_aload_n hx hb dX3_faultAt_31 rfl (lv_at hl 0 rfl) ?_
        refine va_get (D := D) (ci := 3) (v := .int t_size) (C := RX3) (T := TX3) (N := 3) hx hb hts iX3 hown hK.1 hP 0 rfl rfl 2 (by decide) f1 (fun _ h9 => h9) rfl dX3_faultAt_32 ?_
        refine lv_i2l (v := t_size.toInt64) hx hb dX3_faultAt_35 rfl ?_
        refine lx_le (tgt := 44) hx hb dX3_faultAt_36 dX3_faultAt_37 (by decide) (fun hc => ?_) (fun hc => ?_)
        · replace h := h.1 hc
          refine lv_iconst (v := 0) hx hb dX3_faultAt_44 (by decide) ?_
          subst hQ
          exact W.iret (v := (0 : Int32)) hx hb hr (fun t ht _ => ⟨(0 : Int32), rfl, h, ht⟩) (fun _ hq => absurd hq List.not_mem_nil) dX3_faultAt_45
        · replace h := h.2 hc
          refine lv_iconst (v := 2) hx hb dX3_faultAt_40 (by decide) ?_
          refine lv_goto (tgt := 45) hx hb dX3_faultAt_41 (by decide) ?_
          subst hQ
          exact W.iret (v := (2 : Int32)) hx hb hr (fun t ht _ => ⟨(2 : Int32), rfl, h, ht⟩) (fun _ hq => absurd hq List.not_mem_nil) dX3_faultAt_45
    · replace h := h.2 hc
      refine lv_iconst (v := 3) hx hb dX3_faultAt_18 (by decide) ?_
      subst hQ
      exact W.iret (v := (3 : Int32)) hx hb hr (fun t ht _ => ⟨(3 : Int32), rfl, h, ht⟩) (fun _ hq => absurd hq List.not_mem_nil) dX3_faultAt_19
  · replace h := h.2 hc
    refine lv_iconst (v := 1) hx hb dX3_faultAt_8 (by decide) ?_
    subst hQ
    exact W.iret (v := (1 : Int32)) hx hb hr (fun t ht _ => ⟨(1 : Int32), rfl, h, ht⟩) (fun _ hq => absurd hq List.not_mem_nil) dX3_faultAt_9
theorem qX3_put : yX3_put.cls = RX3 ∧ yX3_put.cls ≠ "java/lang/invoke/MethodHandle" ∧ yX3_put.cls ≠ "java/lang/invoke/VarHandle" ∧ (parseMethodDescriptor yX3_put.desc).map (fun d => d.parameters.length) = some 2 := by decide +kernel
def P_X3_put (post : (Nat → Int32) → Prop) (t_laneOf : Int32) (t_cells : Nat → Int32) (x1 : Int32) (x2 : Int32) : Prop :=
  ((t_laneOf = (0 : Int32) → (vp_in x1 40 ∧ post (upd t_cells x1.toNatClampNeg x2.toInt8.toInt32))) ∧ (¬ t_laneOf = (0 : Int32) → ((t_laneOf = (1 : Int32) → (vp_in x1 40 ∧ post (upd t_cells x1.toNatClampNeg x2.toInt16.toInt32))) ∧ (¬ t_laneOf = (1 : Int32) → (vp_in x1 40 ∧ post (upd t_cells x1.toNatClampNeg x2))))))
set_option maxHeartbeats 4000000 in
set_option maxRecDepth 100000 in
theorem c_X3_put (l : Launch) (D : va_G) (cy : Nat → ClassId) (sz : Nat) (A_t A_t_cells : Nat) (t_laneOf : Int32) (t_size : Int32) (t_cells : Nat → Int32) (x1 : Int32) (x2 : Int32) (post : (Nat → Int32) → Prop) (h : P_X3_put post t_laneOf t_cells x1 x2) : Met l yX3_put wsX3_put { frames := 0, cells := 0, slots := 0, locals := 0 } (pcW D cy [(A_t, .inr (3, [.ref A_t_cells, .int t_laneOf, .int t_size])), (A_t_cells, .inl (cy 1, 40, .inl t_cells))] sz [.ref A_t, .int x1, .int x2]) (va_Qv (fun (u : (Nat → Int32)) => post u) (bW D [(A_t, .inr (3, [.ref A_t_cells, .int t_laneOf, .int t_size])), (A_t_cells, .inl (cy 1, 40, .inl t_cells))] sz (fun u => [(A_t, .inr (3, [.ref A_t_cells, .int t_laneOf, .int t_size])), (A_t_cells, .inl (cy 1, 40, .inl u))])) (va_A [(A_t, .inr (3, [.ref A_t_cells, .int t_laneOf, .int t_size])), (A_t_cells, .inl (cy 1, 40, .inl t_cells))] sz)) 0 0 (va_A [(A_t, .inr (3, [.ref A_t_cells, .int t_laneOf, .int t_size])), (A_t_cells, .inl (cy 1, 40, .inl t_cells))] sz) := by
  refine Met.ofW (cc := cX3_put) (maxL := 3) (ret := none) (by decide) rfl ?_
  intro p e s m args below meth c s₁ B hml hv
  obtain ⟨rfl, hsz, hP, hK, hD0⟩ := hv
  have hx := B.exec
  have hb := B.bytes
  have hr := B.returns
  have hts := atoms_spec (ws := wsX3_put) B.pre
  have hown : s.vm.findClass RX3 = some m.cls := findClass_of_methodNamed B.named
  have hlocks := B.notSynchronized
  have CF : CallFix p m c cX3_put 3 s ([.ref A_t, .int x1, .int x2] : List Value).toArray wsX3_put RX3 := ⟨hx, hb, hml, hown, hts⟩
  have f0 := hts (.fieldLink RX3 15 "GapBounds$Sheet" "laneOf" "I") (by decide +kernel)
  have f1 := hts (.fieldLink RX3 9 "GapBounds$Sheet" "cells" "[I") (by decide +kernel)
  have iX3 : ∀ w ∈ u_ws RX3 TX3 3, w ∈ wsX3_put := by decide +kernel
  subst hsz
  obtain ⟨A, hAe⟩ : ∃ A, A = va_A [(A_t, .inr (3, [.ref A_t_cells, .int t_laneOf, .int t_size])), (A_t_cells, .inl (cy 1, 40, .inl t_cells))] s.heap.size := ⟨_, rfl⟩
  have hD : va_D A [(A_t, .inr (3, [.ref A_t_cells, .int t_laneOf, .int t_size])), (A_t_cells, .inl (cy 1, 40, .inl t_cells))] := by rw [hAe]; exact hD0.self
  have hA : ∀ q : Nat, s.heap.size ≤ q → A q := fun q hq => by rw [hAe]; exact Or.inr hq
  have hS : va_S A s.heap s.heap [] := va_S.rf
  have hl := lv_entry [.ref A_t, .int x1, .int x2] (n := 3) (Nat.le_of_ble_eq_true rfl)
  rw [lg_entry_eq]
  generalize (lg_sl [.ref A_t, .int x1, .int x2] ++ List.replicate (3 - (lg_sl [.ref A_t, .int x1, .int x2]).length) Slot.unset).toArray = ls at hl ⊢
  have hl : lv_has ls 3 [(0, .ref A_t), (1, .int x1), (2, .int x2)] := hl
  refine W.gen (fun Q0 hQ => ?_)
  unfold P_X3_put at h
  refine lv_aload_n hx hb dX3_put_0 rfl (lv_at hl 0 rfl) ?_
  refine va_get (D := D) (ci := 3) (v := .int t_laneOf) (C := RX3) (T := TX3) (N := 3) hx hb hts iX3 hown hK.1 hP 0 rfl rfl 1 (by decide) f0 (fun _ h9 => h9) rfl dX3_put_1 ?_
  by_cases hc0 : t_laneOf = (0 : Int32)
  · replace h := h.1 hc0
    refine lv_lookup (tgt := 32) hx hb dX3_put_4 (by decide) (by rw [hc0]) (by decide) ?_
    refine lv_aload_n hx hb dX3_put_32 rfl (lv_at hl 0 rfl) ?_
    refine va_get (D := D) (ci := 3) (v := .ref A_t_cells) (C := RX3) (T := TX3) (N := 3) hx hb hts iX3 hown hK.1 hP 0 rfl rfl 0 (by decide) f1 (fun _ h9 => h9) rfl dX3_put_33 ?_
    refine lv_iload_n hx hb dX3_put_36 rfl (lv_at hl 1 rfl) ?_
    refine lv_iload_n hx hb dX3_put_37 rfl (lv_at hl 2 rfl) ?_
    refine lv_i2b (v := x2.toInt8.toInt32) hx hb dX3_put_38 rfl ?_
    refine va_iast hx hb hK.1 hP hD hS 1 1 rfl rfl h.1 dX3_put_39 (fun H locs hP hD hS => ?_)
    replace h := h.2
    have hP : va_P D vwCl [(A_t, .inr (3, [.ref A_t_cells, .int t_laneOf, .int t_size])), (A_t_cells, .inl (cy 1, 40, .inl (upd t_cells x1.toNatClampNeg x2.toInt8.toInt32)))] H := hP
    have hD : va_D A [(A_t, .inr (3, [.ref A_t_cells, .int t_laneOf, .int t_size])), (A_t_cells, .inl (cy 1, 40, .inl (upd t_cells x1.toNatClampNeg x2.toInt8.toInt32)))] := hD
    refine lv_goto (tgt := 61) hx hb dX3_put_40 (by decide) ?_
    subst hQ
    subst hAe
    exact W.vret hx hb hr (fun t ht _ => ⟨⟨upd t_cells x1.toNatClampNeg x2.toInt8.toInt32, rfl, h, by rw [ht]; exact hP, hD⟩, hS.F ht⟩) hS.2.2 dX3_put_61
  · replace h := h.2 hc0
    by_cases hc1 : t_laneOf = (1 : Int32)
    · replace h := h.1 hc1
      refine lv_lookup (tgt := 43) hx hb dX3_put_4 (by decide) (by rw [hc1]) (by decide) ?_
      refine lv_aload_n hx hb dX3_put_43 rfl (lv_at hl 0 rfl) ?_
      refine va_get (D := D) (ci := 3) (v := .ref A_t_cells) (C := RX3) (T := TX3) (N := 3) hx hb hts iX3 hown hK.1 hP 0 rfl rfl 0 (by decide) f1 (fun _ h9 => h9) rfl dX3_put_44 ?_
      refine lv_iload_n hx hb dX3_put_47 rfl (lv_at hl 1 rfl) ?_
      refine lv_iload_n hx hb dX3_put_48 rfl (lv_at hl 2 rfl) ?_
      refine lv_i2s (v := x2.toInt16.toInt32) hx hb dX3_put_49 rfl ?_
      refine va_iast hx hb hK.1 hP hD hS 1 1 rfl rfl h.1 dX3_put_50 (fun H locs hP hD hS => ?_)
      replace h := h.2
      have hP : va_P D vwCl [(A_t, .inr (3, [.ref A_t_cells, .int t_laneOf, .int t_size])), (A_t_cells, .inl (cy 1, 40, .inl (upd t_cells x1.toNatClampNeg x2.toInt16.toInt32)))] H := hP
      have hD : va_D A [(A_t, .inr (3, [.ref A_t_cells, .int t_laneOf, .int t_size])), (A_t_cells, .inl (cy 1, 40, .inl (upd t_cells x1.toNatClampNeg x2.toInt16.toInt32)))] := hD
      refine lv_goto (tgt := 61) hx hb dX3_put_51 (by decide) ?_
      subst hQ
      subst hAe
      exact W.vret hx hb hr (fun t ht _ => ⟨⟨upd t_cells x1.toNatClampNeg x2.toInt16.toInt32, rfl, h, by rw [ht]; exact hP, hD⟩, hS.F ht⟩) hS.2.2 dX3_put_61
    · replace h := h.2 hc1
      refine lv_lookup (tgt := 54) (off := 50) hx hb dX3_put_4 (by decide) ((lv_osw hc0 (by decide)).trans ((lv_osw hc1 (by decide)).trans rfl)) (by decide) ?_
      refine lv_aload_n hx hb dX3_put_54 rfl (lv_at hl 0 rfl) ?_
      refine va_get (D := D) (ci := 3) (v := .ref A_t_cells) (C := RX3) (T := TX3) (N := 3) hx hb hts iX3 hown hK.1 hP 0 rfl rfl 0 (by decide) f1 (fun _ h9 => h9) rfl dX3_put_55 ?_
      refine lv_iload_n hx hb dX3_put_58 rfl (lv_at hl 1 rfl) ?_
      refine lv_iload_n hx hb dX3_put_59 rfl (lv_at hl 2 rfl) ?_
      refine va_iast hx hb hK.1 hP hD hS 1 1 rfl rfl h.1 dX3_put_60 (fun H locs hP hD hS => ?_)
      replace h := h.2
      have hP : va_P D vwCl [(A_t, .inr (3, [.ref A_t_cells, .int t_laneOf, .int t_size])), (A_t_cells, .inl (cy 1, 40, .inl (upd t_cells x1.toNatClampNeg x2)))] H := hP
      have hD : va_D A [(A_t, .inr (3, [.ref A_t_cells, .int t_laneOf, .int t_size])), (A_t_cells, .inl (cy 1, 40, .inl (upd t_cells x1.toNatClampNeg x2)))] := hD
      subst hQ
      subst hAe
      exact W.vret hx hb hr (fun t ht _ => ⟨⟨upd t_cells x1.toNatClampNeg x2, rfl, h, by rw [ht]; exact hP, hD⟩, hS.F ht⟩) hS.2.2 dX3_put_61
theorem qX3_cellAt : yX3_cellAt.cls = RX3 ∧ yX3_cellAt.cls ≠ "java/lang/invoke/MethodHandle" ∧ yX3_cellAt.cls ≠ "java/lang/invoke/VarHandle" ∧ (parseMethodDescriptor yX3_cellAt.desc).map (fun d => d.parameters.length) = some 1 := by decide +kernel
def P_X3_cellAt (post : Int32 → Prop) (t_size : Int32) (t_cells : Nat → Int32) (y1 : Int64) : Prop :=
  ((y1 < (0 : Int64) → post (0 : Int32)) ∧ (¬ y1 < (0 : Int64) → ((t_size.toInt64 ≤ y1 → post (0 : Int32)) ∧ (¬ t_size.toInt64 ≤ y1 → (vp_in y1.toInt32 40 ∧ post (t_cells y1.toInt32.toNatClampNeg))))))
set_option maxHeartbeats 4000000 in
set_option maxRecDepth 100000 in
theorem c_X3_cellAt (l : Launch) (D : va_G) (cy : Nat → ClassId) (A_t A_t_cells : Nat) (t_laneOf : Int32) (t_size : Int32) (t_cells : Nat → Int32) (y1 : Int64) (post : Int32 → Prop) (h : P_X3_cellAt post t_size t_cells y1) : Met l yX3_cellAt wsX3_cellAt { frames := 0, cells := 0, slots := 0, locals := 0 } (pcR D cy [(A_t, .inr (3, [.ref A_t_cells, .int t_laneOf, .int t_size])), (A_t_cells, .inl (cy 1, 40, .inl t_cells))] [.ref A_t, .long y1]) (vp_Si post) 0 0 (fun _ => False) := by
  refine Met.ofW (cc := cX3_cellAt) (maxL := 3) (ret := (some .int)) (by decide) rfl ?_
  intro p e s m args below meth c s₁ B hml hv
  obtain ⟨rfl, hP, hK⟩ := hv
  have hx := B.exec
  have hb := B.bytes
  have hr := B.returns
  have hts := atoms_spec (ws := wsX3_cellAt) B.pre
  have hown : s.vm.findClass RX3 = some m.cls := findClass_of_methodNamed B.named
  have hlocks := B.notSynchronized
  have CF : CallFix p m c cX3_cellAt 3 s ([.ref A_t, .long y1] : List Value).toArray wsX3_cellAt RX3 := ⟨hx, hb, hml, hown, hts⟩
  have f0 := hts (.fieldLink RX3 25 "GapBounds$Sheet" "size" "I") (by decide +kernel)
  have f1 := hts (.fieldLink RX3 9 "GapBounds$Sheet" "cells" "[I") (by decide +kernel)
  have iX3 : ∀ w ∈ u_ws RX3 TX3 3, w ∈ wsX3_cellAt := by decide +kernel
  have hl := lv_entry [.ref A_t, .long y1] (n := 3) (Nat.le_of_ble_eq_true rfl)
  rw [lg_entry_eq]
  generalize (lg_sl [.ref A_t, .long y1] ++ List.replicate (3 - (lg_sl [.ref A_t, .long y1]).length) Slot.unset).toArray = ls at hl ⊢
  have hl : lv_has ls 3 [(0, .ref A_t), (1, .long y1)] := hl
  refine W.gen (fun Q0 hQ => ?_)
  unfold P_X3_cellAt at h
  refine lv_lload_n hx hb dX3_cellAt_0 rfl (lv_at hl 1 rfl) ?_
  refine lv_lconst (v := 0) hx hb dX3_cellAt_1 (by decide) ?_
  refine lx_lt (tgt := 26) hx hb dX3_cellAt_2 dX3_cellAt_3 (by decide) (fun hc => ?_) (fun hc => ?_)
  · replace h := h.1 hc
    refine lv_iconst (v := 0) hx hb dX3_cellAt_26 (by decide) ?_
    subst hQ
    exact W.iret (v := (0 : Int32)) hx hb hr (fun t ht _ => ⟨(0 : Int32), rfl, h, ht⟩) (fun _ hq => absurd hq List.not_mem_nil) dX3_cellAt_27
  · replace h := h.2 hc
    refine lv_lload_n hx hb dX3_cellAt_6 rfl (lv_at hl 1 rfl) ?_
    refine lv_aload_n hx hb dX3_cellAt_7 rfl (lv_at hl 0 rfl) ?_
    refine va_get (D := D) (ci := 3) (v := .int t_size) (C := RX3) (T := TX3) (N := 3) hx hb hts iX3 hown hK.1 hP 0 rfl rfl 2 (by decide) f0 (fun _ h9 => h9) rfl dX3_cellAt_8 ?_
    refine lv_i2l (v := t_size.toInt64) hx hb dX3_cellAt_11 rfl ?_
    refine lx_ge (tgt := 26) hx hb dX3_cellAt_12 dX3_cellAt_13 (by decide) (fun hc => ?_) (fun hc => ?_)
    · replace h := h.1 hc
      refine lv_iconst (v := 0) hx hb dX3_cellAt_26 (by decide) ?_
      subst hQ
      exact W.iret (v := (0 : Int32)) hx hb hr (fun t ht _ => ⟨(0 : Int32), rfl, h, ht⟩) (fun _ hq => absurd hq List.not_mem_nil) dX3_cellAt_27
    · replace h := h.2 hc
      refine lv_aload_n hx hb dX3_cellAt_16 rfl (lv_at hl 0 rfl) ?_
      refine va_get (D := D) (ci := 3) (v := .ref A_t_cells) (C := RX3) (T := TX3) (N := 3) hx hb hts iX3 hown hK.1 hP 0 rfl rfl 0 (by decide) f1 (fun _ h9 => h9) rfl dX3_cellAt_17 ?_
      refine lv_lload_n hx hb dX3_cellAt_20 rfl (lv_at hl 1 rfl) ?_
      refine lv_l2i (v := y1.toInt32) hx hb dX3_cellAt_21 rfl ?_
      refine va_iald hx hb hK.1 hP 1 1 rfl rfl h.1 dX3_cellAt_22 ?_
      replace h := h.2
      refine lv_goto (tgt := 27) hx hb dX3_cellAt_23 (by decide) ?_
      subst hQ
      exact W.iret (v := t_cells y1.toInt32.toNatClampNeg) hx hb hr (fun t ht _ => ⟨t_cells y1.toInt32.toNatClampNeg, rfl, h, ht⟩) (fun _ hq => absurd hq List.not_mem_nil) dX3_cellAt_27
