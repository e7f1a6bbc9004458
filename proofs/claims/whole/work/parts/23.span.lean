theorem qX4_prepare : yX4_prepare.cls = RX4 ∧ yX4_prepare.cls ≠ "java/lang/invoke/MethodHandle" ∧ yX4_prepare.cls ≠ "java/lang/invoke/VarHandle" ∧ (parseMethodDescriptor yX4_prepare.desc).map (fun d => d.parameters.length) = some 3 := by decide +kernel
def B_X4_prepare_120 (K_41 : (Nat → Nat → Int64) → Int32 → Prop) (t_caps : Nat → Nat → Int64) (x4 : Int32) : Prop :=
  K_41 t_caps (x4 + (1 : Int32))
def LB_X4_prepare_41 (post : Int32 → Int32 → (Nat → Nat → Int64) → Prop) (t_things : Int32) (t_top : Int32) (s_size : Int32) (s_upper : Nat → Int32) (s_lower : Nat → Int32) (s_limits : Nat → Int32) (s_stricts : Nat → Int32) (x2 : Int32) (K_41 : (Nat → Nat → Int64) → Int32 → Prop) (t_caps : Nat → Nat → Int64) (x4 : Int32) : Prop :=
  ((s_size ≤ x4 → post t_things t_top t_caps) ∧ (¬ s_size ≤ x4 → (vp_in x4 24 ∧ (vp_in x4 24 ∧ ((x2 ≤ s_upper x4.toNatClampNeg → B_X4_prepare_120 K_41 t_caps x4) ∧ (¬ x2 ≤ s_upper x4.toNatClampNeg → ((x2 ≤ s_lower x4.toNatClampNeg → B_X4_prepare_120 K_41 t_caps x4) ∧ (¬ x2 ≤ s_lower x4.toNatClampNeg → (vp_in (s_upper x4.toNatClampNeg) 5 ∧ (vp_in (s_upper x4.toNatClampNeg) 5 ∧ (vp_in (s_lower x4.toNatClampNeg) 5 ∧ (vp_in x4 24 ∧ (vp_in x4 24 ∧ (vp_in (s_lower x4.toNatClampNeg) 5 ∧ B_X4_prepare_120 K_41 (va_up t_caps (s_upper x4.toNatClampNeg).toNatClampNeg (vp_updL (t_caps (s_upper x4.toNatClampNeg).toNatClampNeg) (s_lower x4.toNatClampNeg).toNatClampNeg (if ((s_limits x4.toNatClampNeg).toInt64) - ((s_stricts x4.toNatClampNeg).toInt64) < t_caps (s_upper x4.toNatClampNeg).toNatClampNeg (s_lower x4.toNatClampNeg).toNatClampNeg then ((s_limits x4.toNatClampNeg).toInt64) - ((s_stricts x4.toNatClampNeg).toInt64) else t_caps (s_upper x4.toNatClampNeg).toNatClampNeg (s_lower x4.toNatClampNeg).toNatClampNeg))) x4))))))))))))))
noncomputable def L_X4_prepare_41 (post : Int32 → Int32 → (Nat → Nat → Int64) → Prop) (t_things : Int32) (t_top : Int32) (s_size : Int32) (s_upper : Nat → Int32) (s_lower : Nat → Int32) (s_limits : Nat → Int32) (s_stricts : Nat → Int32) (x2 : Int32) (n : Nat) : (Nat → Nat → Int64) → Int32 → Prop := Nat.rec (motive := fun _ => (Nat → Nat → Int64) → Int32 → Prop) (fun _ _ => False) (fun _ K => LB_X4_prepare_41 post t_things t_top s_size s_upper s_lower s_limits s_stricts x2 K) n
def LB_X4_prepare_13 (post : Int32 → Int32 → (Nat → Nat → Int64) → Prop) (t_things : Int32) (t_top : Int32) (s_size : Int32) (s_upper : Nat → Int32) (s_lower : Nat → Int32) (s_limits : Nat → Int32) (s_stricts : Nat → Int32) (x2 : Int32) (K_13 : (Nat → Nat → Int64) → Int32 → Prop) (t_caps : Nat → Nat → Int64) (x4 : Int32) : Prop :=
  (((5 : Int32) ≤ x4 → ∃ n : Nat, L_X4_prepare_41 post t_things t_top s_size s_upper s_lower s_limits s_stricts x2 n t_caps (0 : Int32)) ∧ (¬ (5 : Int32) ≤ x4 → (vp_in x4 5 ∧ P_J7_fill_d0a16 (fun (a_v4 : Nat → Int64) => K_13 (va_up t_caps x4.toNatClampNeg a_v4) (x4 + (1 : Int32))) 5 (t_caps x4.toNatClampNeg) (1099511627776 : Int64))))
noncomputable def L_X4_prepare_13 (post : Int32 → Int32 → (Nat → Nat → Int64) → Prop) (t_things : Int32) (t_top : Int32) (s_size : Int32) (s_upper : Nat → Int32) (s_lower : Nat → Int32) (s_limits : Nat → Int32) (s_stricts : Nat → Int32) (x2 : Int32) (n : Nat) : (Nat → Nat → Int64) → Int32 → Prop := Nat.rec (motive := fun _ => (Nat → Nat → Int64) → Int32 → Prop) (fun _ _ => False) (fun _ K => LB_X4_prepare_13 post t_things t_top s_size s_upper s_lower s_limits s_stricts x2 K) n
def P_X4_prepare (post : Int32 → Int32 → (Nat → Nat → Int64) → Prop) (s_size : Int32) (s_upper : Nat → Int32) (s_lower : Nat → Int32) (s_limits : Nat → Int32) (s_stricts : Nat → Int32) (t_caps : Nat → Nat → Int64) (x2 : Int32) (x3 : Int32) : Prop :=
  ∃ n : Nat, L_X4_prepare_13 post x2 x3 s_size s_upper s_lower s_limits s_stricts x2 n t_caps (0 : Int32)
set_option maxHeartbeats 4000000 in
set_option maxRecDepth 100000 in
theorem c_X4_prepare (l : Launch) (D : va_G) (cy : Nat → ClassId) (sz : Nat) (A_t A_t_caps A_t_values A_s A_s_upper A_s_lower A_s_limits A_s_stricts A_s_marks : Nat) (R_t_caps : Nat → Nat) (t_things : Int32) (t_top : Int32) (s_size : Int32) (s_marked : Int32) (s_wholeness : Int32) (s_upper : Nat → Int32) (s_lower : Nat → Int32) (s_limits : Nat → Int32) (s_stricts : Nat → Int32) (t_caps : Nat → Nat → Int64) (x2 : Int32) (x3 : Int32) (post : Int32 → Int32 → (Nat → Nat → Int64) → Prop) (h : P_X4_prepare post s_size s_upper s_lower s_limits s_stricts t_caps x2 x3) : Met l yX4_prepare wsX4_prepare { frames := 1, cells := 0, slots := 0, locals := 60 } (pcW D cy ([(A_t, .inr (4, [.ref A_t_caps, .ref A_t_values, .int t_things, .int t_top])), (A_s, .inr (5, [.ref A_s_upper, .ref A_s_lower, .ref A_s_limits, .ref A_s_stricts, .ref A_s_marks, .int s_size, .int s_marked, .int s_wholeness])), (A_s_upper, .inl (cy 1, 24, .inl s_upper)), (A_s_lower, .inl (cy 1, 24, .inl s_lower)), (A_s_limits, .inl (cy 1, 24, .inl s_limits)), (A_s_stricts, .inl (cy 1, 24, .inl s_stricts)), (A_t_caps, .inl (cy 4, 5, .inr (.inr (.inr (.inr (gx R_t_caps 5))))))] ++ gp R_t_caps t_caps 5 (cy 2) 5) sz [.ref A_t, .ref A_s, .int x2, .int x3]) (va_Qv (fun (u : Int32 × Int32 × (Nat → Nat → Int64)) => post u.1 u.2.1 u.2.2) (bW D ([(A_t, .inr (4, [.ref A_t_caps, .ref A_t_values, .int t_things, .int t_top])), (A_s, .inr (5, [.ref A_s_upper, .ref A_s_lower, .ref A_s_limits, .ref A_s_stricts, .ref A_s_marks, .int s_size, .int s_marked, .int s_wholeness])), (A_s_upper, .inl (cy 1, 24, .inl s_upper)), (A_s_lower, .inl (cy 1, 24, .inl s_lower)), (A_s_limits, .inl (cy 1, 24, .inl s_limits)), (A_s_stricts, .inl (cy 1, 24, .inl s_stricts)), (A_t_caps, .inl (cy 4, 5, .inr (.inr (.inr (.inr (gx R_t_caps 5))))))] ++ gp R_t_caps t_caps 5 (cy 2) 5) sz (fun u => ([(A_t, .inr (4, [.ref A_t_caps, .ref A_t_values, .int (u.1), .int (u.2.1)])), (A_s, .inr (5, [.ref A_s_upper, .ref A_s_lower, .ref A_s_limits, .ref A_s_stricts, .ref A_s_marks, .int s_size, .int s_marked, .int s_wholeness])), (A_s_upper, .inl (cy 1, 24, .inl s_upper)), (A_s_lower, .inl (cy 1, 24, .inl s_lower)), (A_s_limits, .inl (cy 1, 24, .inl s_limits)), (A_s_stricts, .inl (cy 1, 24, .inl s_stricts)), (A_t_caps, .inl (cy 4, 5, .inr (.inr (.inr (.inr (gx R_t_caps 5))))))] ++ gp R_t_caps u.2.2 5 (cy 2) 5))) (va_A ([(A_t, .inr (4, [.ref A_t_caps, .ref A_t_values, .int t_things, .int t_top])), (A_s, .inr (5, [.ref A_s_upper, .ref A_s_lower, .ref A_s_limits, .ref A_s_stricts, .ref A_s_marks, .int s_size, .int s_marked, .int s_wholeness])), (A_s_upper, .inl (cy 1, 24, .inl s_upper)), (A_s_lower, .inl (cy 1, 24, .inl s_lower)), (A_s_limits, .inl (cy 1, 24, .inl s_limits)), (A_s_stricts, .inl (cy 1, 24, .inl s_stricts)), (A_t_caps, .inl (cy 4, 5, .inr (.inr (.inr (.inr (gx R_t_caps 5))))))] ++ gp R_t_caps t_caps 5 (cy 2) 5) sz)) 0 0 (va_A ([(A_t, .inr (4, [.ref A_t_caps, .ref A_t_values, .int t_things, .int t_top])), (A_s, .inr (5, [.ref A_s_upper, .ref A_s_lower, .ref A_s_limits, .ref A_s_stricts, .ref A_s_marks, .int s_size, .int s_marked, .int s_wholeness])), (A_s_upper, .inl (cy 1, 24, .inl s_upper)), (A_s_lower, .inl (cy 1, 24, .inl s_lower)), (A_s_limits, .inl (cy 1, 24, .inl s_limits)), (A_s_stricts, .inl (cy 1, 24, .inl s_stricts)), (A_t_caps, .inl (cy 4, 5, .inr (.inr (.inr (.inr (gx R_t_caps 5))))))] ++ gp R_t_caps t_caps 5 (cy 2) 5) sz) := by
  refine Met.ofW (cc := cX4_prepare) (maxL := 7) (ret := none) (by decide) rfl ?_
  intro p e s m args below meth c s₁ B hml hv
  obtain ⟨rfl, hsz, hP, hK, hD0⟩ := hv
  have hx := B.exec
  have hb := B.bytes
  have hr := B.returns
  have hts := atoms_spec (ws := wsX4_prepare) B.pre
  have hown : s.vm.findClass RX4 = some m.cls := findClass_of_methodNamed B.named
  have hlocks := B.notSynchronized
  have CF : CallFix p m c cX4_prepare 7 s ([.ref A_t, .ref A_s, .int x2, .int x3] : List Value).toArray wsX4_prepare RX4 := ⟨hx, hb, hml, hown, hts⟩
  have f0 := hts (.fieldLink RX4 20 "GapBounds$Span" "things" "I") (by decide +kernel)
  have f1 := hts (.fieldLink RX4 24 "GapBounds$Span" "top" "I") (by decide +kernel)
  have f2 := hts (.fieldLink RX4 35 "GapBounds$Store" "size" "I") (by decide +kernel)
  have f3 := hts (.fieldLink RX4 40 "GapBounds$Store" "upper" "[I") (by decide +kernel)
  have f4 := hts (.fieldLink RX4 44 "GapBounds$Store" "lower" "[I") (by decide +kernel)
  have f5 := hts (.fieldLink RX4 11 "GapBounds$Span" "caps" "[[J") (by decide +kernel)
  have f6 := hts (.fieldLink RX4 47 "GapBounds$Store" "limits" "[I") (by decide +kernel)
  have f7 := hts (.fieldLink RX4 50 "GapBounds$Store" "stricts" "[I") (by decide +kernel)
  have f8 := hts (.methodLink RX4 53 Lib.MathLoose.min_long.x) (by decide +kernel)
  have f9 := hts (.static Lib.MathLoose.min_long.x) (by decide +kernel)
  have f10 := hts (.initialized "java/lang/Math") (by decide +kernel)
  have f11 := hts (.code Lib.MathLoose.min_long.x Lib.MathLoose.min_long.code 4 (some .long)) (by decide +kernel)
  have f12 := hts (.constantLong RX4 27 (1099511627776)) (by decide +kernel)
  have iX4 : ∀ w ∈ u_ws RX4 TX4 4, w ∈ wsX4_prepare := by decide +kernel
  have iX5 : ∀ w ∈ u_ws RX5 TX5 8, w ∈ wsX4_prepare := by decide +kernel
  subst hsz
  obtain ⟨A, hAe⟩ : ∃ A, A = va_A ([(A_t, .inr (4, [.ref A_t_caps, .ref A_t_values, .int t_things, .int t_top])), (A_s, .inr (5, [.ref A_s_upper, .ref A_s_lower, .ref A_s_limits, .ref A_s_stricts, .ref A_s_marks, .int s_size, .int s_marked, .int s_wholeness])), (A_s_upper, .inl (cy 1, 24, .inl s_upper)), (A_s_lower, .inl (cy 1, 24, .inl s_lower)), (A_s_limits, .inl (cy 1, 24, .inl s_limits)), (A_s_stricts, .inl (cy 1, 24, .inl s_stricts)), (A_t_caps, .inl (cy 4, 5, .inr (.inr (.inr (.inr (gx R_t_caps 5))))))] ++ gp R_t_caps t_caps 5 (cy 2) 5) s.heap.size := ⟨_, rfl⟩
  have hD : va_D A ([(A_t, .inr (4, [.ref A_t_caps, .ref A_t_values, .int t_things, .int t_top])), (A_s, .inr (5, [.ref A_s_upper, .ref A_s_lower, .ref A_s_limits, .ref A_s_stricts, .ref A_s_marks, .int s_size, .int s_marked, .int s_wholeness])), (A_s_upper, .inl (cy 1, 24, .inl s_upper)), (A_s_lower, .inl (cy 1, 24, .inl s_lower)), (A_s_limits, .inl (cy 1, 24, .inl s_limits)), (A_s_stricts, .inl (cy 1, 24, .inl s_stricts)), (A_t_caps, .inl (cy 4, 5, .inr (.inr (.inr (.inr (gx R_t_caps 5))))))] ++ gp R_t_caps t_caps 5 (cy 2) 5) := by rw [hAe]; exact hD0.self
  have hA : ∀ q : Nat, s.heap.size ≤ q → A q := fun q hq => by rw [hAe]; exact Or.inr hq
  have hS : va_S A s.heap s.heap [] := va_S.rf
  have hl := lv_entry [.ref A_t, .ref A_s, .int x2, .int x3] (n := 7) (Nat.le_of_ble_eq_true rfl)
  rw [lg_entry_eq]
  generalize (lg_sl [.ref A_t, .ref A_s, .int x2, .int x3] ++ List.replicate (7 - (lg_sl [.ref A_t, .ref A_s, .int x2, .int x3]).length) Slot.unset).toArray = ls at hl ⊢
  have hl : lv_has ls 7 [(0, .ref A_t), (1, .ref A_s), (2, .int x2), (3, .int x3)] := hl
  refine W.gen (fun Q0 hQ => ?_)
  have L41 : ∀ (n41 : Nat) (t_things : Int32) (t_top : Int32) (t_caps : Nat → Nat → Int64) (x4 : Int32) (H : Heap) (locs : List Loc) (ls : Array Slot), L_X4_prepare_41 post t_things t_top s_size s_upper s_lower s_limits s_stricts x2 n41 t_caps x4 → va_P D vwCl ([(A_t, .inr (4, [.ref A_t_caps, .ref A_t_values, .int t_things, .int t_top])), (A_s, .inr (5, [.ref A_s_upper, .ref A_s_lower, .ref A_s_limits, .ref A_s_stricts, .ref A_s_marks, .int s_size, .int s_marked, .int s_wholeness])), (A_s_upper, .inl (cy 1, 24, .inl s_upper)), (A_s_lower, .inl (cy 1, 24, .inl s_lower)), (A_s_limits, .inl (cy 1, 24, .inl s_limits)), (A_s_stricts, .inl (cy 1, 24, .inl s_stricts)), (A_t_caps, .inl (cy 4, 5, .inr (.inr (.inr (.inr (gx R_t_caps 5))))))] ++ gp R_t_caps t_caps 5 (cy 2) 5) H → va_D A ([(A_t, .inr (4, [.ref A_t_caps, .ref A_t_values, .int t_things, .int t_top])), (A_s, .inr (5, [.ref A_s_upper, .ref A_s_lower, .ref A_s_limits, .ref A_s_stricts, .ref A_s_marks, .int s_size, .int s_marked, .int s_wholeness])), (A_s_upper, .inl (cy 1, 24, .inl s_upper)), (A_s_lower, .inl (cy 1, 24, .inl s_lower)), (A_s_limits, .inl (cy 1, 24, .inl s_limits)), (A_s_stricts, .inl (cy 1, 24, .inl s_stricts)), (A_t_caps, .inl (cy 4, 5, .inr (.inr (.inr (.inr (gx R_t_caps 5))))))] ++ gp R_t_caps t_caps 5 (cy 2) 5) → va_S A s.heap H locs → lv_has ls 7 [(0, .ref A_t), (1, .ref A_s), (2, .int x2), (4, .int x4)] → W p l e (headSpec wsX4_prepare { frames := 1, cells := 0, slots := 0, locals := 60 }).room s m ([.ref A_t, .ref A_s, .int x2, .int x3] : List Value).toArray below meth c H locs 0 0 Q0 (F0 m 41 ls []) := by
    intro n41
    induction n41 with
    | zero => intro t_things t_top t_caps x4 H locs ls h; exact False.elim h
    | succ n41 ih41 =>
      intro t_things t_top t_caps x4 H locs ls h hP hD hS hl
      have h : LB_X4_prepare_41 post t_things t_top s_size s_upper s_lower s_limits s_stricts x2 (L_X4_prepare_41 post t_things t_top s_size s_upper s_lower s_limits s_stricts x2 n41) t_caps x4 := h
      unfold LB_X4_prepare_41 at h
      have J120 : ∀ (t_things : Int32) (t_top : Int32) (t_caps : Nat → Nat → Int64) (x4 : Int32) (H : Heap) (locs : List Loc) (ls : Array Slot), B_X4_prepare_120 (L_X4_prepare_41 post t_things t_top s_size s_upper s_lower s_limits s_stricts x2 n41) t_caps x4 → va_P D vwCl ([(A_t, .inr (4, [.ref A_t_caps, .ref A_t_values, .int t_things, .int t_top])), (A_s, .inr (5, [.ref A_s_upper, .ref A_s_lower, .ref A_s_limits, .ref A_s_stricts, .ref A_s_marks, .int s_size, .int s_marked, .int s_wholeness])), (A_s_upper, .inl (cy 1, 24, .inl s_upper)), (A_s_lower, .inl (cy 1, 24, .inl s_lower)), (A_s_limits, .inl (cy 1, 24, .inl s_limits)), (A_s_stricts, .inl (cy 1, 24, .inl s_stricts)), (A_t_caps, .inl (cy 4, 5, .inr (.inr (.inr (.inr (gx R_t_caps 5))))))] ++ gp R_t_caps t_caps 5 (cy 2) 5) H → va_D A ([(A_t, .inr (4, [.ref A_t_caps, .ref A_t_values, .int t_things, .int t_top])), (A_s, .inr (5, [.ref A_s_upper, .ref A_s_lower, .ref A_s_limits, .ref A_s_stricts, .ref A_s_marks, .int s_size, .int s_marked, .int s_wholeness])), (A_s_upper, .inl (cy 1, 24, .inl s_upper)), (A_s_lower, .inl (cy 1, 24, .inl s_lower)), (A_s_limits, .inl (cy 1, 24, .inl s_limits)), (A_s_stricts, .inl (cy 1, 24, .inl s_stricts)), (A_t_caps, .inl (cy 4, 5, .inr (.inr (.inr (.inr (gx R_t_caps 5))))))] ++ gp R_t_caps t_caps 5 (cy 2) 5) → va_S A s.heap H locs → lv_has ls 7 [(0, .ref A_t), (1, .ref A_s), (2, .int x2), (4, .int x4)] → W p l e (headSpec wsX4_prepare { frames := 1, cells := 0, slots := 0, locals := 60 }).room s m ([.ref A_t, .ref A_s, .int x2, .int x3] : List Value).toArray below meth c H locs 0 0 Q0 (F0 m 120 ls []) := by
        intro t_things t_top t_caps x4 H locs ls h hP hD hS hl
        unfold B_X4_prepare_120 at h
        refine lv_iinc (v := x4 + (1 : Int32)) (lv' := [(4, .int (x4 + (1 : Int32))), (0, .ref A_t), (1, .ref A_s), (2, .int x2)]) hx hb dX4_prepare_120 hl (k := 3) rfl rfl (by decide) rfl (fun ls hl => ?_)
        refine lv_goto (tgt := 41) hx hb dX4_prepare_123 (by decide) ?_
        exact ih41 t_things t_top t_caps (x4 + (1 : Int32)) H locs ls h hP hD hS (lv_sub hl [1, 2, 3, 0] rfl)
      refine lv_iload hx hb dX4_prepare_41 (lv_at hl 3 rfl) ?_
      refine lv_aload_n hx hb dX4_prepare_43 rfl (lv_at hl 1 rfl) ?_
      refine va_get (D := D) (ci := 5) (v := .int s_size) (C := RX5) (T := TX5) (N := 8) hx hb hts iX5 hown hK.1 hP 1 rfl rfl 5 (by decide) f2 (fun _ h9 => h9) rfl dX4_prepare_44 ?_
      refine lv_icmp_ge (tgt := 126) hx hb dX4_prepare_47 (by decide) (fun hc => ?_) (fun hc => ?_)
      · replace h := h.1 hc
        subst hQ
        subst hAe
        exact W.vret hx hb hr (fun t ht _ => ⟨⟨(t_things, t_top, t_caps), rfl, h, by rw [ht]; exact hP, hD⟩, hS.F ht⟩) hS.2.2 dX4_prepare_126
      · replace h := h.2 hc
        refine lv_aload_n hx hb dX4_prepare_50 rfl (lv_at hl 1 rfl) ?_
        refine va_get (D := D) (ci := 5) (v := .ref A_s_upper) (C := RX5) (T := TX5) (N := 8) hx hb hts iX5 hown hK.1 hP 1 rfl rfl 0 (by decide) f3 (fun _ h9 => h9) rfl dX4_prepare_51 ?_
        refine lv_iload hx hb dX4_prepare_54 (lv_at hl 3 rfl) ?_
        refine va_iald hx hb hK.1 hP 2 1 rfl rfl h.1 dX4_prepare_56 ?_
        replace h := h.2
        refine lv_istore (lv' := [(5, .int (s_upper x4.toNatClampNeg)), (0, .ref A_t), (1, .ref A_s), (2, .int x2), (4, .int x4)]) hx hb dX4_prepare_57 hl (by decide) rfl (fun ls hl => ?_)
        refine lv_aload_n hx hb dX4_prepare_59 rfl (lv_at hl 2 rfl) ?_
        refine va_get (D := D) (ci := 5) (v := .ref A_s_lower) (C := RX5) (T := TX5) (N := 8) hx hb hts iX5 hown hK.1 hP 1 rfl rfl 1 (by decide) f4 (fun _ h9 => h9) rfl dX4_prepare_60 ?_
        refine lv_iload hx hb dX4_prepare_63 (lv_at hl 4 rfl) ?_
        refine va_iald hx hb hK.1 hP 3 1 rfl rfl h.1 dX4_prepare_65 ?_
        replace h := h.2
        refine lv_istore (lv' := [(6, .int (s_lower x4.toNatClampNeg)), (5, .int (s_upper x4.toNatClampNeg)), (0, .ref A_t), (1, .ref A_s), (2, .int x2), (4, .int x4)]) hx hb dX4_prepare_66 hl (by decide) rfl (fun ls hl => ?_)
        refine lv_iload hx hb dX4_prepare_68 (lv_at hl 1 rfl) ?_
        refine lv_iload_n hx hb dX4_prepare_70 rfl (lv_at hl 4 rfl) ?_
        refine lv_icmp_ge (tgt := 120) hx hb dX4_prepare_71 (by decide) (fun hc => ?_) (fun hc => ?_)
        · replace h := h.1 hc
          exact J120 t_things t_top t_caps x4 H locs ls h hP hD hS (lv_sub hl [2, 3, 4, 5] rfl)
        · replace h := h.2 hc
          refine lv_iload hx hb dX4_prepare_74 (lv_at hl 0 rfl) ?_
          refine lv_iload_n hx hb dX4_prepare_76 rfl (lv_at hl 4 rfl) ?_
          refine lv_icmp_ge (tgt := 120) hx hb dX4_prepare_77 (by decide) (fun hc => ?_) (fun hc => ?_)
          · replace h := h.1 hc
            exact J120 t_things t_top t_caps x4 H locs ls h hP hD hS (lv_sub hl [2, 3, 4, 5] rfl)
          · replace h := h.2 hc
            refine lv_aload_n hx hb dX4_prepare_80 rfl (lv_at hl 2 rfl) ?_
            refine va_get (D := D) (ci := 4) (v := .ref A_t_caps) (C := RX4) (T := TX4) (N := 4) hx hb hts iX4 hown hK.1 hP 0 rfl rfl 0 (by decide) f5 (fun _ h9 => h9) rfl dX4_prepare_81 ?_
            refine lv_iload hx hb dX4_prepare_84 (lv_at hl 1 rfl) ?_
            refine mx_alda hx hb hK.1 hP 6 4 rfl rfl h.1 dX4_prepare_86 ?_
            have hv1 := h.1
            replace h := h.2
            refine lv_iload hx hb dX4_prepare_87 (lv_at hl 0 rfl) ?_
            refine lv_aload_n hx hb dX4_prepare_89 rfl (lv_at hl 2 rfl) ?_
            refine va_get (D := D) (ci := 4) (v := .ref A_t_caps) (C := RX4) (T := TX4) (N := 4) hx hb hts iX4 hown hK.1 hP 0 rfl rfl 0 (by decide) f5 (fun _ h9 => h9) rfl dX4_prepare_90 ?_
            refine lv_iload hx hb dX4_prepare_93 (lv_at hl 1 rfl) ?_
            refine mx_alda hx hb hK.1 hP 6 4 rfl rfl h.1 dX4_prepare_95 ?_
            have hv2 := h.1
            replace h := h.2
            refine lv_iload hx hb dX4_prepare_96 (lv_at hl 0 rfl) ?_
            refine va_lald hx hb hK.1 hP (7 + (s_upper x4.toNatClampNeg).toNatClampNeg) 2 (gp_at (X := [(A_t, .inr (4, [.ref A_t_caps, .ref A_t_values, .int t_things, .int t_top])), (A_s, .inr (5, [.ref A_s_upper, .ref A_s_lower, .ref A_s_limits, .ref A_s_stricts, .ref A_s_marks, .int s_size, .int s_marked, .int s_wholeness])), (A_s_upper, .inl (cy 1, 24, .inl s_upper)), (A_s_lower, .inl (cy 1, 24, .inl s_lower)), (A_s_limits, .inl (cy 1, 24, .inl s_limits)), (A_s_stricts, .inl (cy 1, 24, .inl s_stricts)), (A_t_caps, .inl (cy 4, 5, .inr (.inr (.inr (.inr (gx R_t_caps 5))))))]) (vp_lt (n := 5) (by assumption))) rfl h.1 dX4_prepare_98 ?_
            replace h := h.2
            refine lv_aload_n hx hb dX4_prepare_99 rfl (lv_at hl 3 rfl) ?_
            refine va_get (D := D) (ci := 5) (v := .ref A_s_limits) (C := RX5) (T := TX5) (N := 8) hx hb hts iX5 hown hK.1 hP 1 rfl rfl 2 (by decide) f6 (fun _ h9 => h9) rfl dX4_prepare_100 ?_
            refine lv_iload hx hb dX4_prepare_103 (lv_at hl 5 rfl) ?_
            refine va_iald hx hb hK.1 hP 4 1 rfl rfl h.1 dX4_prepare_105 ?_
            replace h := h.2
            refine lv_i2l (v := (s_limits x4.toNatClampNeg).toInt64) hx hb dX4_prepare_106 rfl ?_
            refine lv_aload_n hx hb dX4_prepare_107 rfl (lv_at hl 3 rfl) ?_
            refine va_get (D := D) (ci := 5) (v := .ref A_s_stricts) (C := RX5) (T := TX5) (N := 8) hx hb hts iX5 hown hK.1 hP 1 rfl rfl 3 (by decide) f7 (fun _ h9 => h9) rfl dX4_prepare_108 ?_
            refine lv_iload hx hb dX4_prepare_111 (lv_at hl 5 rfl) ?_
            refine va_iald hx hb hK.1 hP 5 1 rfl rfl h.1 dX4_prepare_113 ?_
            replace h := h.2
            refine lv_i2l (v := (s_stricts x4.toNatClampNeg).toInt64) hx hb dX4_prepare_114 rfl ?_
            refine lv_lsub hx hb dX4_prepare_115 ?_
            refine va_mmin_long hx hb (hml.trans hl.1.symm) hown f8 f9 f10 f11 (Nat.le_of_ble_eq_true rfl) (Nat.le_of_ble_eq_true rfl) (Nat.le_of_ble_eq_true rfl) (Nat.le_of_ble_eq_true rfl) dX4_prepare_116 ?_
            refine va_last hx hb hK.1 hP hD hS (7 + (s_upper x4.toNatClampNeg).toNatClampNeg) 2 (gp_at (X := [(A_t, .inr (4, [.ref A_t_caps, .ref A_t_values, .int t_things, .int t_top])), (A_s, .inr (5, [.ref A_s_upper, .ref A_s_lower, .ref A_s_limits, .ref A_s_stricts, .ref A_s_marks, .int s_size, .int s_marked, .int s_wholeness])), (A_s_upper, .inl (cy 1, 24, .inl s_upper)), (A_s_lower, .inl (cy 1, 24, .inl s_lower)), (A_s_limits, .inl (cy 1, 24, .inl s_limits)), (A_s_stricts, .inl (cy 1, 24, .inl s_stricts)), (A_t_caps, .inl (cy 4, 5, .inr (.inr (.inr (.inr (gx R_t_caps 5))))))]) (vp_lt (n := 5) (by assumption))) rfl h.1 dX4_prepare_119 (fun H locs hP hD hS => ?_)
            replace h := h.2
            have hP := (gp_set (X := [(A_t, .inr (4, [.ref A_t_caps, .ref A_t_values, .int t_things, .int t_top])), (A_s, .inr (5, [.ref A_s_upper, .ref A_s_lower, .ref A_s_limits, .ref A_s_stricts, .ref A_s_marks, .int s_size, .int s_marked, .int s_wholeness])), (A_s_upper, .inl (cy 1, 24, .inl s_upper)), (A_s_lower, .inl (cy 1, 24, .inl s_lower)), (A_s_limits, .inl (cy 1, 24, .inl s_limits)), (A_s_stricts, .inl (cy 1, 24, .inl s_stricts)), (A_t_caps, .inl (cy 4, 5, .inr (.inr (.inr (.inr (gx R_t_caps 5))))))]) (vp_lt (n := 5) (by assumption)) _).subst (motive := fun z => va_P D vwCl z H) hP
            have hD := (gp_set (X := [(A_t, .inr (4, [.ref A_t_caps, .ref A_t_values, .int t_things, .int t_top])), (A_s, .inr (5, [.ref A_s_upper, .ref A_s_lower, .ref A_s_limits, .ref A_s_stricts, .ref A_s_marks, .int s_size, .int s_marked, .int s_wholeness])), (A_s_upper, .inl (cy 1, 24, .inl s_upper)), (A_s_lower, .inl (cy 1, 24, .inl s_lower)), (A_s_limits, .inl (cy 1, 24, .inl s_limits)), (A_s_stricts, .inl (cy 1, 24, .inl s_stricts)), (A_t_caps, .inl (cy 4, 5, .inr (.inr (.inr (.inr (gx R_t_caps 5))))))]) (vp_lt (n := 5) (by assumption)) _).subst (motive := fun z => va_D A z) hD
            have hP : va_P D vwCl ([(A_t, .inr (4, [.ref A_t_caps, .ref A_t_values, .int t_things, .int t_top])), (A_s, .inr (5, [.ref A_s_upper, .ref A_s_lower, .ref A_s_limits, .ref A_s_stricts, .ref A_s_marks, .int s_size, .int s_marked, .int s_wholeness])), (A_s_upper, .inl (cy 1, 24, .inl s_upper)), (A_s_lower, .inl (cy 1, 24, .inl s_lower)), (A_s_limits, .inl (cy 1, 24, .inl s_limits)), (A_s_stricts, .inl (cy 1, 24, .inl s_stricts)), (A_t_caps, .inl (cy 4, 5, .inr (.inr (.inr (.inr (gx R_t_caps 5))))))] ++ gp R_t_caps (va_up t_caps (s_upper x4.toNatClampNeg).toNatClampNeg (vp_updL (t_caps (s_upper x4.toNatClampNeg).toNatClampNeg) (s_lower x4.toNatClampNeg).toNatClampNeg (if ((s_limits x4.toNatClampNeg).toInt64) - ((s_stricts x4.toNatClampNeg).toInt64) < t_caps (s_upper x4.toNatClampNeg).toNatClampNeg (s_lower x4.toNatClampNeg).toNatClampNeg then ((s_limits x4.toNatClampNeg).toInt64) - ((s_stricts x4.toNatClampNeg).toInt64) else t_caps (s_upper x4.toNatClampNeg).toNatClampNeg (s_lower x4.toNatClampNeg).toNatClampNeg))) 5 (cy 2) 5) H := hP
            have hD : va_D A ([(A_t, .inr (4, [.ref A_t_caps, .ref A_t_values, .int t_things, .int t_top])), (A_s, .inr (5, [.ref A_s_upper, .ref A_s_lower, .ref A_s_limits, .ref A_s_stricts, .ref A_s_marks, .int s_size, .int s_marked, .int s_wholeness])), (A_s_upper, .inl (cy 1, 24, .inl s_upper)), (A_s_lower, .inl (cy 1, 24, .inl s_lower)), (A_s_limits, .inl (cy 1, 24, .inl s_limits)), (A_s_stricts, .inl (cy 1, 24, .inl s_stricts)), (A_t_caps, .inl (cy 4, 5, .inr (.inr (.inr (.inr (gx R_t_caps 5))))))] ++ gp R_t_caps (va_up t_caps (s_upper x4.toNatClampNeg).toNatClampNeg (vp_updL (t_caps (s_upper x4.toNatClampNeg).toNatClampNeg) (s_lower x4.toNatClampNeg).toNatClampNeg (if ((s_limits x4.toNatClampNeg).toInt64) - ((s_stricts x4.toNatClampNeg).toInt64) < t_caps (s_upper x4.toNatClampNeg).toNatClampNeg (s_lower x4.toNatClampNeg).toNatClampNeg then ((s_limits x4.toNatClampNeg).toInt64) - ((s_stricts x4.toNatClampNeg).toInt64) else t_caps (s_upper x4.toNatClampNeg).toNatClampNeg (s_lower x4.toNatClampNeg).toNatClampNeg))) 5 (cy 2) 5) := hD
            exact J120 t_things t_top (va_up t_caps (s_upper x4.toNatClampNeg).toNatClampNeg (vp_updL (t_caps (s_upper x4.toNatClampNeg).toNatClampNeg) (s_lower x4.toNatClampNeg).toNatClampNeg (if ((s_limits x4.toNatClampNeg).toInt64) - ((s_stricts x4.toNatClampNeg).toInt64) < t_caps (s_upper x4.toNatClampNeg).toNatClampNeg (s_lower x4.toNatClampNeg).toNatClampNeg then ((s_limits x4.toNatClampNeg).toInt64) - ((s_stricts x4.toNatClampNeg).toInt64) else t_caps (s_upper x4.toNatClampNeg).toNatClampNeg (s_lower x4.toNatClampNeg).toNatClampNeg))) x4 H locs ls h hP hD hS (lv_sub hl [2, 3, 4, 5] rfl)
  have L13 : ∀ (n13 : Nat) (t_things : Int32) (t_top : Int32) (t_caps : Nat → Nat → Int64) (x4 : Int32) (H : Heap) (locs : List Loc) (ls : Array Slot), L_X4_prepare_13 post t_things t_top s_size s_upper s_lower s_limits s_stricts x2 n13 t_caps x4 → va_P D vwCl ([(A_t, .inr (4, [.ref A_t_caps, .ref A_t_values, .int t_things, .int t_top])), (A_s, .inr (5, [.ref A_s_upper, .ref A_s_lower, .ref A_s_limits, .ref A_s_stricts, .ref A_s_marks, .int s_size, .int s_marked, .int s_wholeness])), (A_s_upper, .inl (cy 1, 24, .inl s_upper)), (A_s_lower, .inl (cy 1, 24, .inl s_lower)), (A_s_limits, .inl (cy 1, 24, .inl s_limits)), (A_s_stricts, .inl (cy 1, 24, .inl s_stricts)), (A_t_caps, .inl (cy 4, 5, .inr (.inr (.inr (.inr (gx R_t_caps 5))))))] ++ gp R_t_caps t_caps 5 (cy 2) 5) H → va_D A ([(A_t, .inr (4, [.ref A_t_caps, .ref A_t_values, .int t_things, .int t_top])), (A_s, .inr (5, [.ref A_s_upper, .ref A_s_lower, .ref A_s_limits, .ref A_s_stricts, .ref A_s_marks, .int s_size, .int s_marked, .int s_wholeness])), (A_s_upper, .inl (cy 1, 24, .inl s_upper)), (A_s_lower, .inl (cy 1, 24, .inl s_lower)), (A_s_limits, .inl (cy 1, 24, .inl s_limits)), (A_s_stricts, .inl (cy 1, 24, .inl s_stricts)), (A_t_caps, .inl (cy 4, 5, .inr (.inr (.inr (.inr (gx R_t_caps 5))))))] ++ gp R_t_caps t_caps 5 (cy 2) 5) → va_S A s.heap H locs → lv_has ls 7 [(0, .ref A_t), (1, .ref A_s), (2, .int x2), (4, .int x4)] → W p l e (headSpec wsX4_prepare { frames := 1, cells := 0, slots := 0, locals := 60 }).room s m ([.ref A_t, .ref A_s, .int x2, .int x3] : List Value).toArray below meth c H locs 0 0 Q0 (F0 m 13 ls []) := by
    intro n13
    induction n13 with
    | zero => intro t_things t_top t_caps x4 H locs ls h; exact False.elim h
    | succ n13 ih13 =>
      intro t_things t_top t_caps x4 H locs ls h hP hD hS hl
      have h : LB_X4_prepare_13 post t_things t_top s_size s_upper s_lower s_limits s_stricts x2 (L_X4_prepare_13 post t_things t_top s_size s_upper s_lower s_limits s_stricts x2 n13) t_caps x4 := h
      unfold LB_X4_prepare_13 at h
      refine lv_iload hx hb dX4_prepare_13 (lv_at hl 3 rfl) ?_
      refine lv_iconst (v := 5) hx hb dX4_prepare_15 (by decide) ?_
      refine lv_icmp_ge (tgt := 38) hx hb dX4_prepare_16 (by decide) (fun hc => ?_) (fun hc => ?_)
      · replace h := h.1 hc
        refine lv_iconst (v := 0) hx hb dX4_prepare_38 (by decide) ?_
        refine lv_istore (lv' := [(4, .int (0 : Int32)), (0, .ref A_t), (1, .ref A_s), (2, .int x2)]) hx hb dX4_prepare_39 hl (by decide) rfl (fun ls hl => ?_)
        obtain ⟨nn, h⟩ := h
        exact L41 nn t_things t_top t_caps (0 : Int32) H locs ls h hP hD hS (lv_sub hl [1, 2, 3, 0] rfl)
      · replace h := h.2 hc
        refine lv_aload_n hx hb dX4_prepare_19 rfl (lv_at hl 0 rfl) ?_
        refine va_get (D := D) (ci := 4) (v := .ref A_t_caps) (C := RX4) (T := TX4) (N := 4) hx hb hts iX4 hown hK.1 hP 0 rfl rfl 0 (by decide) f5 (fun _ h9 => h9) rfl dX4_prepare_20 ?_
        refine lv_iload hx hb dX4_prepare_23 (lv_at hl 3 rfl) ?_
        refine mx_alda hx hb hK.1 hP 6 4 rfl rfl h.1 dX4_prepare_25 ?_
        have hv3 := h.1
        replace h := h.2
        refine lv_ldc2 (v := 1099511627776) hx hb hown f12 dX4_prepare_26 ?_
        have hg4 := gp_at (X := [(A_t, .inr (4, [.ref A_t_caps, .ref A_t_values, .int t_things, .int t_top])), (A_s, .inr (5, [.ref A_s_upper, .ref A_s_lower, .ref A_s_limits, .ref A_s_stricts, .ref A_s_marks, .int s_size, .int s_marked, .int s_wholeness])), (A_s_upper, .inl (cy 1, 24, .inl s_upper)), (A_s_lower, .inl (cy 1, 24, .inl s_lower)), (A_s_limits, .inl (cy 1, 24, .inl s_limits)), (A_s_stricts, .inl (cy 1, 24, .inl s_stricts)), (A_t_caps, .inl (cy 4, 5, .inr (.inr (.inr (.inr (gx R_t_caps 5))))))]) (r := R_t_caps) (M := t_caps) (n := 5) (k := 5) (cA := cy 2) (i := x4.toNatClampNeg) (vp_lt (n := 5) (by assumption))
        have hPc := va_P1 hP hg4
        have hDc := va_D1 hD hg4
        refine mw_1 (va_runS (As := [.ref (R_t_caps x4.toNatClampNeg), .long (1099511627776 : Int64)]) (rest := []) CF (c_J7_fill_d0a16 l D cy H.size (R_t_caps x4.toNatClampNeg) 5 (t_caps x4.toNatClampNeg) (1099511627776 : Int64) _ h) (va_cwS 2 hts gX4_prepare_J7_fill_d0a16 rfl rfl rfl qJ7_fill_d0a16.2 ⟨Nat.le_of_ble_eq_true rfl, Nat.le_of_ble_eq_true rfl⟩) (mpSW hK hPc hDc) rfl rfl hl.1 rfl (lv_room (Nat.le_of_ble_eq_true rfl)) dX4_prepare_29 ⟨Nat.zero_le _, Nat.zero_le _⟩) hP hD hS hA _ hg4 (fun a_v4 H locs h hP hD hS => ?_)
        have hP := (gp_set (X := [(A_t, .inr (4, [.ref A_t_caps, .ref A_t_values, .int t_things, .int t_top])), (A_s, .inr (5, [.ref A_s_upper, .ref A_s_lower, .ref A_s_limits, .ref A_s_stricts, .ref A_s_marks, .int s_size, .int s_marked, .int s_wholeness])), (A_s_upper, .inl (cy 1, 24, .inl s_upper)), (A_s_lower, .inl (cy 1, 24, .inl s_lower)), (A_s_limits, .inl (cy 1, 24, .inl s_limits)), (A_s_stricts, .inl (cy 1, 24, .inl s_stricts)), (A_t_caps, .inl (cy 4, 5, .inr (.inr (.inr (.inr (gx R_t_caps 5))))))]) (vp_lt (n := 5) (by assumption)) _).subst (motive := fun z => va_P D vwCl z H) hP
        have hD := (gp_set (X := [(A_t, .inr (4, [.ref A_t_caps, .ref A_t_values, .int t_things, .int t_top])), (A_s, .inr (5, [.ref A_s_upper, .ref A_s_lower, .ref A_s_limits, .ref A_s_stricts, .ref A_s_marks, .int s_size, .int s_marked, .int s_wholeness])), (A_s_upper, .inl (cy 1, 24, .inl s_upper)), (A_s_lower, .inl (cy 1, 24, .inl s_lower)), (A_s_limits, .inl (cy 1, 24, .inl s_limits)), (A_s_stricts, .inl (cy 1, 24, .inl s_stricts)), (A_t_caps, .inl (cy 4, 5, .inr (.inr (.inr (.inr (gx R_t_caps 5))))))]) (vp_lt (n := 5) (by assumption)) _).subst (motive := fun z => va_D A z) hD
        have hP : va_P D vwCl ([(A_t, .inr (4, [.ref A_t_caps, .ref A_t_values, .int t_things, .int t_top])), (A_s, .inr (5, [.ref A_s_upper, .ref A_s_lower, .ref A_s_limits, .ref A_s_stricts, .ref A_s_marks, .int s_size, .int s_marked, .int s_wholeness])), (A_s_upper, .inl (cy 1, 24, .inl s_upper)), (A_s_lower, .inl (cy 1, 24, .inl s_lower)), (A_s_limits, .inl (cy 1, 24, .inl s_limits)), (A_s_stricts, .inl (cy 1, 24, .inl s_stricts)), (A_t_caps, .inl (cy 4, 5, .inr (.inr (.inr (.inr (gx R_t_caps 5))))))] ++ gp R_t_caps (va_up t_caps x4.toNatClampNeg a_v4) 5 (cy 2) 5) H := hP
        have hD : va_D A ([(A_t, .inr (4, [.ref A_t_caps, .ref A_t_values, .int t_things, .int t_top])), (A_s, .inr (5, [.ref A_s_upper, .ref A_s_lower, .ref A_s_limits, .ref A_s_stricts, .ref A_s_marks, .int s_size, .int s_marked, .int s_wholeness])), (A_s_upper, .inl (cy 1, 24, .inl s_upper)), (A_s_lower, .inl (cy 1, 24, .inl s_lower)), (A_s_limits, .inl (cy 1, 24, .inl s_limits)), (A_s_stricts, .inl (cy 1, 24, .inl s_stricts)), (A_t_caps, .inl (cy 4, 5, .inr (.inr (.inr (.inr (gx R_t_caps 5))))))] ++ gp R_t_caps (va_up t_caps x4.toNatClampNeg a_v4) 5 (cy 2) 5) := hD
        refine lv_iinc (v := x4 + (1 : Int32)) (lv' := [(4, .int (x4 + (1 : Int32))), (0, .ref A_t), (1, .ref A_s), (2, .int x2)]) hx hb dX4_prepare_32 hl (k := 3) rfl rfl (by decide) rfl (fun ls hl => ?_)
        refine lv_goto (tgt := 13) hx hb dX4_prepare_35 (by decide) ?_
        exact ih13 t_things t_top (va_up t_caps x4.toNatClampNeg a_v4) (x4 + (1 : Int32)) H locs ls h hP hD hS (lv_sub hl [1, 2, 3, 0] rfl)
  unfold P_X4_prepare at h
  refine lv_aload_n hx hb dX4_prepare_0 rfl (lv_at hl 0 rfl) ?_
  refine lv_iload_n hx hb dX4_prepare_1 rfl (lv_at hl 2 rfl) ?_
  refine va_put (D := D) (ci := 4) (v := .int x2) (ty := .int) (C := RX4) (T := TX4) (N := 4) hx hb hts iX4 tyX4 tyX4_ok nmX4 hown hK.1 hP hD hS 0 rfl rfl 2 (by decide) f0 (fun _ h9 => h9) rfl (tyX4_ok 2 (by decide)) rfl rfl (Nat.le_of_ble_eq_true rfl) dX4_prepare_2 (fun H locs hP hD hS => ?_)
  have hP : va_P D vwCl ([(A_t, .inr (4, [.ref A_t_caps, .ref A_t_values, .int x2, .int t_top])), (A_s, .inr (5, [.ref A_s_upper, .ref A_s_lower, .ref A_s_limits, .ref A_s_stricts, .ref A_s_marks, .int s_size, .int s_marked, .int s_wholeness])), (A_s_upper, .inl (cy 1, 24, .inl s_upper)), (A_s_lower, .inl (cy 1, 24, .inl s_lower)), (A_s_limits, .inl (cy 1, 24, .inl s_limits)), (A_s_stricts, .inl (cy 1, 24, .inl s_stricts)), (A_t_caps, .inl (cy 4, 5, .inr (.inr (.inr (.inr (gx R_t_caps 5))))))] ++ gp R_t_caps t_caps 5 (cy 2) 5) H := hP
  have hD : va_D A ([(A_t, .inr (4, [.ref A_t_caps, .ref A_t_values, .int x2, .int t_top])), (A_s, .inr (5, [.ref A_s_upper, .ref A_s_lower, .ref A_s_limits, .ref A_s_stricts, .ref A_s_marks, .int s_size, .int s_marked, .int s_wholeness])), (A_s_upper, .inl (cy 1, 24, .inl s_upper)), (A_s_lower, .inl (cy 1, 24, .inl s_lower)), (A_s_limits, .inl (cy 1, 24, .inl s_limits)), (A_s_stricts, .inl (cy 1, 24, .inl s_stricts)), (A_t_caps, .inl (cy 4, 5, .inr (.inr (.inr (.inr (gx R_t_caps 5))))))] ++ gp R_t_caps t_caps 5 (cy 2) 5) := hD
  refine lv_aload_n hx hb dX4_prepare_5 rfl (lv_at hl 0 rfl) ?_
  refine lv_iload_n hx hb dX4_prepare_6 rfl (lv_at hl 3 rfl) ?_
  refine va_put (D := D) (ci := 4) (v := .int x3) (ty := .int) (C := RX4) (T := TX4) (N := 4) hx hb hts iX4 tyX4 tyX4_ok nmX4 hown hK.1 hP hD hS 0 rfl rfl 3 (by decide) f1 (fun _ h9 => h9) rfl (tyX4_ok 3 (by decide)) rfl rfl (Nat.le_of_ble_eq_true rfl) dX4_prepare_7 (fun H locs hP hD hS => ?_)
  have hP : va_P D vwCl ([(A_t, .inr (4, [.ref A_t_caps, .ref A_t_values, .int x2, .int x3])), (A_s, .inr (5, [.ref A_s_upper, .ref A_s_lower, .ref A_s_limits, .ref A_s_stricts, .ref A_s_marks, .int s_size, .int s_marked, .int s_wholeness])), (A_s_upper, .inl (cy 1, 24, .inl s_upper)), (A_s_lower, .inl (cy 1, 24, .inl s_lower)), (A_s_limits, .inl (cy 1, 24, .inl s_limits)), (A_s_stricts, .inl (cy 1, 24, .inl s_stricts)), (A_t_caps, .inl (cy 4, 5, .inr (.inr (.inr (.inr (gx R_t_caps 5))))))] ++ gp R_t_caps t_caps 5 (cy 2) 5) H := hP
  have hD : va_D A ([(A_t, .inr (4, [.ref A_t_caps, .ref A_t_values, .int x2, .int x3])), (A_s, .inr (5, [.ref A_s_upper, .ref A_s_lower, .ref A_s_limits, .ref A_s_stricts, .ref A_s_marks, .int s_size, .int s_marked, .int s_wholeness])), (A_s_upper, .inl (cy 1, 24, .inl s_upper)), (A_s_lower, .inl (cy 1, 24, .inl s_lower)), (A_s_limits, .inl (cy 1, 24, .inl s_limits)), (A_s_stricts, .inl (cy 1, 24, .inl s_stricts)), (A_t_caps, .inl (cy 4, 5, .inr (.inr (.inr (.inr (gx R_t_caps 5))))))] ++ gp R_t_caps t_caps 5 (cy 2) 5) := hD
  refine lv_iconst (v := 0) hx hb dX4_prepare_10 (by decide) ?_
  refine lv_istore (lv' := [(4, .int (0 : Int32)), (0, .ref A_t), (1, .ref A_s), (2, .int x2), (3, .int x3)]) hx hb dX4_prepare_11 hl (by decide) rfl (fun ls hl => ?_)
  obtain ⟨nn, h⟩ := h
  exact L13 nn x2 x3 t_caps (0 : Int32) H locs ls h hP hD hS (lv_sub hl [1, 2, 3, 0] rfl)
theorem qX4_waysFrom : yX4_waysFrom.cls = RX4 ∧ yX4_waysFrom.cls ≠ "java/lang/invoke/MethodHandle" ∧ yX4_waysFrom.cls ≠ "java/lang/invoke/VarHandle" ∧ (parseMethodDescriptor yX4_waysFrom.desc).map (fun d => d.parameters.length) = some 2 := by decide +kernel
def LB_X4_ways0_109 (post : Int32 → (Nat → Int64) → Prop) (x1 : Int32) (y4 : Int64) (K_109 : (Nat → Int64) → Int32 → Int64 → Prop) (t_values : Nat → Int64) (x6 : Int32) (y7 : Int64) : Prop :=
  ((y4 < y7 → post x6 t_values) ∧ (¬ y4 < y7 → (vp_in x1 5 ∧ False)))
noncomputable def L_X4_ways0_109 (post : Int32 → (Nat → Int64) → Prop) (x1 : Int32) (y4 : Int64) (n : Nat) : (Nat → Int64) → Int32 → Int64 → Prop := Nat.rec (motive := fun _ => (Nat → Int64) → Int32 → Int64 → Prop) (fun _ _ _ => False) (fun _ K => LB_X4_ways0_109 post x1 y4 K) n
def LB_X4_ways0_23 (post : Int32 → (Nat → Int64) → Prop) (t_things : Int32) (t_values : Nat → Int64) (t_caps : Nat → Nat → Int64) (x1 : Int32) (K_23 : Int64 → Int64 → Int32 → Prop) (y2 : Int64) (y4 : Int64) (x6 : Int32) : Prop :=
  ((x1 ≤ x6 → ((¬ x1 = t_things - (1 : Int32) → ∃ n : Nat, L_X4_ways0_109 post x1 y4 n t_values (0 : Int32) y2) ∧ (x1 = t_things - (1 : Int32) → post ((if (y4 - y2) + (1 : Int64) < (0 : Int64) then (0 : Int64) else (y4 - y2) + (1 : Int64)).toInt32) t_values))) ∧ (¬ x1 ≤ x6 → (vp_in x6 5 ∧ (vp_in x6 5 ∧ (vp_in x1 5 ∧ (vp_in x6 5 ∧ (vp_in x1 5 ∧ (vp_in x6 5 ∧ K_23 (if (t_values x6.toNatClampNeg) - (t_caps x6.toNatClampNeg x1.toNatClampNeg) < y2 then y2 else (t_values x6.toNatClampNeg) - (t_caps x6.toNatClampNeg x1.toNatClampNeg)) (if (t_values x6.toNatClampNeg) + (t_caps x1.toNatClampNeg x6.toNatClampNeg) < y4 then (t_values x6.toNatClampNeg) + (t_caps x1.toNatClampNeg x6.toNatClampNeg) else y4) (x6 + (1 : Int32))))))))))
noncomputable def L_X4_ways0_23 (post : Int32 → (Nat → Int64) → Prop) (t_things : Int32) (t_values : Nat → Int64) (t_caps : Nat → Nat → Int64) (x1 : Int32) (n : Nat) : Int64 → Int64 → Int32 → Prop := Nat.rec (motive := fun _ => Int64 → Int64 → Int32 → Prop) (fun _ _ _ => False) (fun _ K => LB_X4_ways0_23 post t_things t_values t_caps x1 K) n
def P_X4_ways0 (post : Int32 → (Nat → Int64) → Prop) (t_things : Int32) (t_top : Int32) (t_values : Nat → Int64) (t_caps : Nat → Nat → Int64) (x1 : Int32) : Prop :=
  ((x1 < 0 → post (0 : Int32) t_values) ∧ (¬ x1 < 0 → ((x1 < (5 : Int32) → ∃ n : Nat, L_X4_ways0_23 post t_things t_values t_caps x1 n (0 : Int64) t_top.toInt64 (0 : Int32)) ∧ (¬ x1 < (5 : Int32) → post (0 : Int32) t_values))))
set_option maxHeartbeats 4000000 in
set_option maxRecDepth 100000 in
theorem c_X4_ways0 (l : Launch) (D : va_G) (cy : Nat → ClassId) (sz : Nat) (A_t A_t_caps A_t_values : Nat) (R_t_caps : Nat → Nat) (t_things : Int32) (t_top : Int32) (t_values : Nat → Int64) (t_caps : Nat → Nat → Int64) (x1 : Int32) (post : Int32 → (Nat → Int64) → Prop) (h : P_X4_ways0 post t_things t_top t_values t_caps x1) : Met l yX4_waysFrom wsX4_waysFrom { frames := 1, cells := 0, slots := 0, locals := 60 } (pcW D cy ([(A_t, .inr (4, [.ref A_t_caps, .ref A_t_values, .int t_things, .int t_top])), (A_t_values, .inl (cy 2, 5, .inr (.inl t_values))), (A_t_caps, .inl (cy 4, 5, .inr (.inr (.inr (.inr (gx R_t_caps 5))))))] ++ gp R_t_caps t_caps 5 (cy 2) 5) sz [.ref A_t, .int x1]) (va_Qi (fun r (u : (Nat → Int64)) => post r u) (bW D ([(A_t, .inr (4, [.ref A_t_caps, .ref A_t_values, .int t_things, .int t_top])), (A_t_values, .inl (cy 2, 5, .inr (.inl t_values))), (A_t_caps, .inl (cy 4, 5, .inr (.inr (.inr (.inr (gx R_t_caps 5))))))] ++ gp R_t_caps t_caps 5 (cy 2) 5) sz (fun u => ([(A_t, .inr (4, [.ref A_t_caps, .ref A_t_values, .int t_things, .int t_top])), (A_t_values, .inl (cy 2, 5, .inr (.inl u))), (A_t_caps, .inl (cy 4, 5, .inr (.inr (.inr (.inr (gx R_t_caps 5))))))] ++ gp R_t_caps t_caps 5 (cy 2) 5))) (va_A ([(A_t, .inr (4, [.ref A_t_caps, .ref A_t_values, .int t_things, .int t_top])), (A_t_values, .inl (cy 2, 5, .inr (.inl t_values))), (A_t_caps, .inl (cy 4, 5, .inr (.inr (.inr (.inr (gx R_t_caps 5))))))] ++ gp R_t_caps t_caps 5 (cy 2) 5) sz)) 0 0 (va_A ([(A_t, .inr (4, [.ref A_t_caps, .ref A_t_values, .int t_things, .int t_top])), (A_t_values, .inl (cy 2, 5, .inr (.inl t_values))), (A_t_caps, .inl (cy 4, 5, .inr (.inr (.inr (.inr (gx R_t_caps 5))))))] ++ gp R_t_caps t_caps 5 (cy 2) 5) sz) := by
  refine Met.ofW (cc := cX4_waysFrom) (maxL := 9) (ret := (some .int)) (by decide) rfl ?_
  intro p e s m args below meth c s₁ B hml hv
  obtain ⟨rfl, hsz, hP, hK, hD0⟩ := hv
  have hx := B.exec
  have hb := B.bytes
  have hr := B.returns
  have hts := atoms_spec (ws := wsX4_waysFrom) B.pre
  have hown : s.vm.findClass RX4 = some m.cls := findClass_of_methodNamed B.named
  have hlocks := B.notSynchronized
  have CF : CallFix p m c cX4_waysFrom 9 s ([.ref A_t, .int x1] : List Value).toArray wsX4_waysFrom RX4 := ⟨hx, hb, hml, hown, hts⟩
  have f0 := hts (.fieldLink RX4 24 "GapBounds$Span" "top" "I") (by decide +kernel)
  have f1 := hts (.fieldLink RX4 20 "GapBounds$Span" "things" "I") (by decide +kernel)
  have f2 := hts (.fieldLink RX4 16 "GapBounds$Span" "values" "[J") (by decide +kernel)
  have f3 := hts (.methodLink RX4 59 Lib.MathLoose.max_long.x) (by decide +kernel)
  have f4 := hts (.static Lib.MathLoose.max_long.x) (by decide +kernel)
  have f5 := hts (.initialized "java/lang/Math") (by decide +kernel)
  have f6 := hts (.code Lib.MathLoose.max_long.x Lib.MathLoose.max_long.code 4 (some .long)) (by decide +kernel)
  have f7 := hts (.fieldLink RX4 11 "GapBounds$Span" "caps" "[[J") (by decide +kernel)
  have f8 := hts (.methodLink RX4 53 Lib.MathLoose.min_long.x) (by decide +kernel)
  have f9 := hts (.static Lib.MathLoose.min_long.x) (by decide +kernel)
  have f10 := hts (.code Lib.MathLoose.min_long.x Lib.MathLoose.min_long.code 4 (some .long)) (by decide +kernel)
  have iX4 : ∀ w ∈ u_ws RX4 TX4 4, w ∈ wsX4_waysFrom := by decide +kernel
  subst hsz
  obtain ⟨A, hAe⟩ : ∃ A, A = va_A ([(A_t, .inr (4, [.ref A_t_caps, .ref A_t_values, .int t_things, .int t_top])), (A_t_values, .inl (cy 2, 5, .inr (.inl t_values))), (A_t_caps, .inl (cy 4, 5, .inr (.inr (.inr (.inr (gx R_t_caps 5))))))] ++ gp R_t_caps t_caps 5 (cy 2) 5) s.heap.size := ⟨_, rfl⟩
  have hD : va_D A ([(A_t, .inr (4, [.ref A_t_caps, .ref A_t_values, .int t_things, .int t_top])), (A_t_values, .inl (cy 2, 5, .inr (.inl t_values))), (A_t_caps, .inl (cy 4, 5, .inr (.inr (.inr (.inr (gx R_t_caps 5))))))] ++ gp R_t_caps t_caps 5 (cy 2) 5) := by rw [hAe]; exact hD0.self
  have hA : ∀ q : Nat, s.heap.size ≤ q → A q := fun q hq => by rw [hAe]; exact Or.inr hq
  have hS : va_S A s.heap s.heap [] := va_S.rf
  have hl := lv_entry [.ref A_t, .int x1] (n := 9) (Nat.le_of_ble_eq_true rfl)
  rw [lg_entry_eq]
  generalize (lg_sl [.ref A_t, .int x1] ++ List.replicate (9 - (lg_sl [.ref A_t, .int x1]).length) Slot.unset).toArray = ls at hl ⊢
  have hl : lv_has ls 9 [(0, .ref A_t), (1, .int x1)] := hl
  refine W.gen (fun Q0 hQ => ?_)
  have L109 : ∀ (n109 : Nat) (t_values : Nat → Int64) (y4 : Int64) (x6 : Int32) (y7 : Int64) (H : Heap) (locs : List Loc) (ls : Array Slot), L_X4_ways0_109 post x1 y4 n109 t_values x6 y7 → va_P D vwCl ([(A_t, .inr (4, [.ref A_t_caps, .ref A_t_values, .int t_things, .int t_top])), (A_t_values, .inl (cy 2, 5, .inr (.inl t_values))), (A_t_caps, .inl (cy 4, 5, .inr (.inr (.inr (.inr (gx R_t_caps 5))))))] ++ gp R_t_caps t_caps 5 (cy 2) 5) H → va_D A ([(A_t, .inr (4, [.ref A_t_caps, .ref A_t_values, .int t_things, .int t_top])), (A_t_values, .inl (cy 2, 5, .inr (.inl t_values))), (A_t_caps, .inl (cy 4, 5, .inr (.inr (.inr (.inr (gx R_t_caps 5))))))] ++ gp R_t_caps t_caps 5 (cy 2) 5) → va_S A s.heap H locs → lv_has ls 9 [(0, .ref A_t), (1, .int x1), (4, .long y4), (6, .int x6), (7, .long y7)] → W p l e (headSpec wsX4_waysFrom { frames := 1, cells := 0, slots := 0, locals := 60 }).room s m ([.ref A_t, .int x1] : List Value).toArray below meth c H locs 0 0 Q0 (F0 m 109 ls []) := by
    intro n109
    induction n109 with
    | zero => intro t_values y4 x6 y7 H locs ls h; exact False.elim h
    | succ n109 ih109 =>
      intro t_values y4 x6 y7 H locs ls h hP hD hS hl
      have h : LB_X4_ways0_109 post x1 y4 (L_X4_ways0_109 post x1 y4 n109) t_values x6 y7 := h
      unfold LB_X4_ways0_109 at h
      refine lv_lload hx hb dX4_waysFrom_109 (lv_at hl 4 rfl) ?_
      refine lv_lload hx hb dX4_waysFrom_111 (lv_at hl 2 rfl) ?_
      refine lx_gt (tgt := 146) hx hb dX4_waysFrom_113 dX4_waysFrom_114 (by decide) (fun hc => ?_) (fun hc => ?_)
      · replace h := h.1 hc
        refine lv_iload hx hb dX4_waysFrom_146 (lv_at hl 3 rfl) ?_
        subst hQ
        subst hAe
        exact W.iret (v := x6) hx hb hr (fun t ht _ => ⟨⟨x6, t_values, rfl, h, by rw [ht]; exact hP, hD⟩, hS.F ht⟩) hS.2.2 dX4_waysFrom_148
      · replace h := h.2 hc
        refine lv_aload_n hx hb dX4_waysFrom_117 rfl (lv_at hl 0 rfl) ?_
        refine va_get (D := D) (ci := 4) (v := .ref A_t_values) (C := RX4) (T := TX4) (N := 4) hx hb hts iX4 hown hK.1 hP 0 rfl rfl 1 (by decide) f2 (fun _ h9 => h9) rfl dX4_waysFrom_118 ?_
        refine lv_iload_n hx hb dX4_waysFrom_121 rfl (lv_at hl 1 rfl) ?_
        refine lv_lload hx hb dX4_waysFrom_122 (lv_at hl 4 rfl) ?_
        refine va_last hx hb hK.1 hP hD hS 1 2 rfl rfl h.1 dX4_waysFrom_124 (fun H locs hP hD hS => ?_)
        replace h := h.2
        have hP : va_P D vwCl ([(A_t, .inr (4, [.ref A_t_caps, .ref A_t_values, .int t_things, .int t_top])), (A_t_values, .inl (cy 2, 5, .inr (.inl (vp_updL t_values x1.toNatClampNeg y7)))), (A_t_caps, .inl (cy 4, 5, .inr (.inr (.inr (.inr (gx R_t_caps 5))))))] ++ gp R_t_caps t_caps 5 (cy 2) 5) H := hP
        have hD : va_D A ([(A_t, .inr (4, [.ref A_t_caps, .ref A_t_values, .int t_things, .int t_top])), (A_t_values, .inl (cy 2, 5, .inr (.inl (vp_updL t_values x1.toNatClampNeg y7)))), (A_t_caps, .inl (cy 4, 5, .inr (.inr (.inr (.inr (gx R_t_caps 5))))))] ++ gp R_t_caps t_caps 5 (cy 2) 5) := hD
        refine lv_iload hx hb dX4_waysFrom_125 (lv_at hl 3 rfl) ?_
        refine lv_aload_n hx hb dX4_waysFrom_127 rfl (lv_at hl 0 rfl) ?_
        refine lv_iload_n hx hb dX4_waysFrom_128 rfl (lv_at hl 1 rfl) ?_
        refine lv_iconst (v := 1) hx hb dX4_waysFrom_129 (by decide) ?_
        refine lv_iadd hx hb dX4_waysFrom_130 ?_
        exact h.elim
  have L23 : ∀ (n23 : Nat) (t_values : Nat → Int64) (y2 : Int64) (y4 : Int64) (x6 : Int32) (H : Heap) (locs : List Loc) (ls : Array Slot), L_X4_ways0_23 post t_things t_values t_caps x1 n23 y2 y4 x6 → va_P D vwCl ([(A_t, .inr (4, [.ref A_t_caps, .ref A_t_values, .int t_things, .int t_top])), (A_t_values, .inl (cy 2, 5, .inr (.inl t_values))), (A_t_caps, .inl (cy 4, 5, .inr (.inr (.inr (.inr (gx R_t_caps 5))))))] ++ gp R_t_caps t_caps 5 (cy 2) 5) H → va_D A ([(A_t, .inr (4, [.ref A_t_caps, .ref A_t_values, .int t_things, .int t_top])), (A_t_values, .inl (cy 2, 5, .inr (.inl t_values))), (A_t_caps, .inl (cy 4, 5, .inr (.inr (.inr (.inr (gx R_t_caps 5))))))] ++ gp R_t_caps t_caps 5 (cy 2) 5) → va_S A s.heap H locs → lv_has ls 9 [(0, .ref A_t), (1, .int x1), (2, .long y2), (4, .long y4), (6, .int x6)] → W p l e (headSpec wsX4_waysFrom { frames := 1, cells := 0, slots := 0, locals := 60 }).room s m ([.ref A_t, .int x1] : List Value).toArray below meth c H locs 0 0 Q0 (F0 m 23 ls []) := by
    intro n23
    induction n23 with
    | zero => intro t_values y2 y4 x6 H locs ls h; exact False.elim h
    | succ n23 ih23 =>
      intro t_values y2 y4 x6 H locs ls h hP hD hS hl
      have h : LB_X4_ways0_23 post t_things t_values t_caps x1 (L_X4_ways0_23 post t_things t_values t_caps x1 n23) y2 y4 x6 := h
      unfold LB_X4_ways0_23 at h
      refine lv_iload hx hb dX4_waysFrom_23 (lv_at hl 4 rfl) ?_
      refine lv_iload_n hx hb dX4_waysFrom_25 rfl (lv_at hl 1 rfl) ?_
      refine lv_icmp_ge (tgt := 81) hx hb dX4_waysFrom_26 (by decide) (fun hc => ?_) (fun hc => ?_)
      · replace h := h.1 hc
        refine lv_iload_n hx hb dX4_waysFrom_81 rfl (lv_at hl 1 rfl) ?_
        refine lv_aload_n hx hb dX4_waysFrom_82 rfl (lv_at hl 0 rfl) ?_
        refine va_get (D := D) (ci := 4) (v := .int t_things) (C := RX4) (T := TX4) (N := 4) hx hb hts iX4 hown hK.1 hP 0 rfl rfl 2 (by decide) f1 (fun _ h9 => h9) rfl dX4_waysFrom_83 ?_
        refine lv_iconst (v := 1) hx hb dX4_waysFrom_86 (by decide) ?_
        refine lv_isub hx hb dX4_waysFrom_87 ?_
        refine lv_icmp_ne (tgt := 103) hx hb dX4_waysFrom_88 (by decide) (fun hc => ?_) (fun hc => ?_)
        · replace h := h.1 hc
          refine lv_iconst (v := 0) hx hb dX4_waysFrom_103 (by decide) ?_
          refine lv_istore (lv' := [(6, .int (0 : Int32)), (0, .ref A_t), (1, .int x1), (2, .long y2), (4, .long y4)]) hx hb dX4_waysFrom_104 hl (by decide) rfl (fun ls hl => ?_)
          refine lv_lload_n hx hb dX4_waysFrom_106 rfl (lv_at hl 3 rfl) ?_
          refine lv_lstore (lv' := [(7, .long y2), (6, .int (0 : Int32)), (0, .ref A_t), (1, .int x1), (2, .long y2), (4, .long y4)]) hx hb dX4_waysFrom_107 hl (by decide) rfl (fun ls hl => ?_)
          obtain ⟨nn, h⟩ := h
          exact L109 nn t_values y4 (0 : Int32) y2 H locs ls h hP hD hS (lv_sub hl [2, 3, 5, 1, 0] rfl)
        · replace h := h.2 hc
          refine lv_lconst (v := 0) hx hb dX4_waysFrom_91 (by decide) ?_
          refine lv_lload hx hb dX4_waysFrom_92 (lv_at hl 3 rfl) ?_
          refine lv_lload_n hx hb dX4_waysFrom_94 rfl (lv_at hl 2 rfl) ?_
          refine lv_lsub hx hb dX4_waysFrom_95 ?_
          refine lv_lconst (v := 1) hx hb dX4_waysFrom_96 (by decide) ?_
          refine lv_ladd hx hb dX4_waysFrom_97 ?_
          refine va_mmax_long hx hb (hml.trans hl.1.symm) hown f3 f4 f5 f6 (Nat.le_of_ble_eq_true rfl) (Nat.le_of_ble_eq_true rfl) (Nat.le_of_ble_eq_true rfl) (Nat.le_of_ble_eq_true rfl) dX4_waysFrom_98 ?_
          refine lv_l2i (v := (if (y4 - y2) + (1 : Int64) < (0 : Int64) then (0 : Int64) else (y4 - y2) + (1 : Int64)).toInt32) hx hb dX4_waysFrom_101 rfl ?_
          subst hQ
          subst hAe
          exact W.iret (v := (if (y4 - y2) + (1 : Int64) < (0 : Int64) then (0 : Int64) else (y4 - y2) + (1 : Int64)).toInt32) hx hb hr (fun t ht _ => ⟨⟨(if (y4 - y2) + (1 : Int64) < (0 : Int64) then (0 : Int64) else (y4 - y2) + (1 : Int64)).toInt32, t_values, rfl, h, by rw [ht]; exact hP, hD⟩, hS.F ht⟩) hS.2.2 dX4_waysFrom_102
      · replace h := h.2 hc
        refine lv_lload_n hx hb dX4_waysFrom_29 rfl (lv_at hl 2 rfl) ?_
        refine lv_aload_n hx hb dX4_waysFrom_30 rfl (lv_at hl 0 rfl) ?_
        refine va_get (D := D) (ci := 4) (v := .ref A_t_values) (C := RX4) (T := TX4) (N := 4) hx hb hts iX4 hown hK.1 hP 0 rfl rfl 1 (by decide) f2 (fun _ h9 => h9) rfl dX4_waysFrom_31 ?_
        refine lv_iload hx hb dX4_waysFrom_34 (lv_at hl 4 rfl) ?_
        refine va_lald hx hb hK.1 hP 1 2 rfl rfl h.1 dX4_waysFrom_36 ?_
        replace h := h.2
        refine lv_aload_n hx hb dX4_waysFrom_37 rfl (lv_at hl 0 rfl) ?_
        refine va_get (D := D) (ci := 4) (v := .ref A_t_caps) (C := RX4) (T := TX4) (N := 4) hx hb hts iX4 hown hK.1 hP 0 rfl rfl 0 (by decide) f7 (fun _ h9 => h9) rfl dX4_waysFrom_38 ?_
        refine lv_iload hx hb dX4_waysFrom_41 (lv_at hl 4 rfl) ?_
        refine mx_alda hx hb hK.1 hP 2 4 rfl rfl h.1 dX4_waysFrom_43 ?_
        have hv1 := h.1
        replace h := h.2
        refine lv_iload_n hx hb dX4_waysFrom_44 rfl (lv_at hl 1 rfl) ?_
        refine va_lald hx hb hK.1 hP (3 + x6.toNatClampNeg) 2 (gp_at (X := [(A_t, .inr (4, [.ref A_t_caps, .ref A_t_values, .int t_things, .int t_top])), (A_t_values, .inl (cy 2, 5, .inr (.inl t_values))), (A_t_caps, .inl (cy 4, 5, .inr (.inr (.inr (.inr (gx R_t_caps 5))))))]) (vp_lt (n := 5) (by assumption))) rfl h.1 dX4_waysFrom_45 ?_
        replace h := h.2
        refine lv_lsub hx hb dX4_waysFrom_46 ?_
        refine va_mmax_long hx hb (hml.trans hl.1.symm) hown f3 f4 f5 f6 (Nat.le_of_ble_eq_true rfl) (Nat.le_of_ble_eq_true rfl) (Nat.le_of_ble_eq_true rfl) (Nat.le_of_ble_eq_true rfl) dX4_waysFrom_47 ?_
        refine lv_lstore_n (lv' := [(2, .long (if (t_values x6.toNatClampNeg) - (t_caps x6.toNatClampNeg x1.toNatClampNeg) < y2 then y2 else (t_values x6.toNatClampNeg) - (t_caps x6.toNatClampNeg x1.toNatClampNeg))), (0, .ref A_t), (1, .int x1), (4, .long y4), (6, .int x6)]) hx hb dX4_waysFrom_50 rfl hl (by decide) rfl (fun ls hl => ?_)
        refine lv_lload hx hb dX4_waysFrom_51 (lv_at hl 3 rfl) ?_
        refine lv_aload_n hx hb dX4_waysFrom_53 rfl (lv_at hl 1 rfl) ?_
        refine va_get (D := D) (ci := 4) (v := .ref A_t_values) (C := RX4) (T := TX4) (N := 4) hx hb hts iX4 hown hK.1 hP 0 rfl rfl 1 (by decide) f2 (fun _ h9 => h9) rfl dX4_waysFrom_54 ?_
        refine lv_iload hx hb dX4_waysFrom_57 (lv_at hl 4 rfl) ?_
        refine va_lald hx hb hK.1 hP 1 2 rfl rfl h.1 dX4_waysFrom_59 ?_
        replace h := h.2
        refine lv_aload_n hx hb dX4_waysFrom_60 rfl (lv_at hl 1 rfl) ?_
        refine va_get (D := D) (ci := 4) (v := .ref A_t_caps) (C := RX4) (T := TX4) (N := 4) hx hb hts iX4 hown hK.1 hP 0 rfl rfl 0 (by decide) f7 (fun _ h9 => h9) rfl dX4_waysFrom_61 ?_
        refine lv_iload_n hx hb dX4_waysFrom_64 rfl (lv_at hl 2 rfl) ?_
        refine mx_alda hx hb hK.1 hP 2 4 rfl rfl h.1 dX4_waysFrom_65 ?_
        have hv2 := h.1
        replace h := h.2
        refine lv_iload hx hb dX4_waysFrom_66 (lv_at hl 4 rfl) ?_
        refine va_lald hx hb hK.1 hP (3 + x1.toNatClampNeg) 2 (gp_at (X := [(A_t, .inr (4, [.ref A_t_caps, .ref A_t_values, .int t_things, .int t_top])), (A_t_values, .inl (cy 2, 5, .inr (.inl t_values))), (A_t_caps, .inl (cy 4, 5, .inr (.inr (.inr (.inr (gx R_t_caps 5))))))]) (vp_lt (n := 5) (by assumption))) rfl h.1 dX4_waysFrom_68 ?_
        replace h := h.2
        refine lv_ladd hx hb dX4_waysFrom_69 ?_
        refine va_mmin_long hx hb (hml.trans hl.1.symm) hown f8 f9 f5 f10 (Nat.le_of_ble_eq_true rfl) (Nat.le_of_ble_eq_true rfl) (Nat.le_of_ble_eq_true rfl) (Nat.le_of_ble_eq_true rfl) dX4_waysFrom_70 ?_
        refine lv_lstore (lv' := [(4, .long (if (t_values x6.toNatClampNeg) + (t_caps x1.toNatClampNeg x6.toNatClampNeg) < y4 then (t_values x6.toNatClampNeg) + (t_caps x1.toNatClampNeg x6.toNatClampNeg) else y4)), (2, .long (if (t_values x6.toNatClampNeg) - (t_caps x6.toNatClampNeg x1.toNatClampNeg) < y2 then y2 else (t_values x6.toNatClampNeg) - (t_caps x6.toNatClampNeg x1.toNatClampNeg))), (0, .ref A_t), (1, .int x1), (6, .int x6)]) hx hb dX4_waysFrom_73 hl (by decide) rfl (fun ls hl => ?_)
        refine lv_iinc (v := x6 + (1 : Int32)) (lv' := [(6, .int (x6 + (1 : Int32))), (4, .long (if (t_values x6.toNatClampNeg) + (t_caps x1.toNatClampNeg x6.toNatClampNeg) < y4 then (t_values x6.toNatClampNeg) + (t_caps x1.toNatClampNeg x6.toNatClampNeg) else y4)), (2, .long (if (t_values x6.toNatClampNeg) - (t_caps x6.toNatClampNeg x1.toNatClampNeg) < y2 then y2 else (t_values x6.toNatClampNeg) - (t_caps x6.toNatClampNeg x1.toNatClampNeg))), (0, .ref A_t), (1, .int x1)]) hx hb dX4_waysFrom_75 hl (k := 4) rfl rfl (by decide) rfl (fun ls hl => ?_)
        refine lv_goto (tgt := 23) hx hb dX4_waysFrom_78 (by decide) ?_
        exact ih23 t_values (if (t_values x6.toNatClampNeg) - (t_caps x6.toNatClampNeg x1.toNatClampNeg) < y2 then y2 else (t_values x6.toNatClampNeg) - (t_caps x6.toNatClampNeg x1.toNatClampNeg)) (if (t_values x6.toNatClampNeg) + (t_caps x1.toNatClampNeg x6.toNatClampNeg) < y4 then (t_values x6.toNatClampNeg) + (t_caps x1.toNatClampNeg x6.toNatClampNeg) else y4) (x6 + (1 : Int32)) H locs ls h hP hD hS (lv_sub hl [3, 4, 2, 1, 0] rfl)
  unfold P_X4_ways0 at h
  refine lv_iload_n hx hb dX4_waysFrom_0 rfl (lv_at hl 1 rfl) ?_
  refine lv_if_lt (tgt := 9) hx hb dX4_waysFrom_1 (by decide) (fun hc => ?_) (fun hc => ?_)
  · replace h := h.1 hc
    refine lv_iconst (v := 0) hx hb dX4_waysFrom_9 (by decide) ?_
    subst hQ
    subst hAe
    exact W.iret (v := (0 : Int32)) hx hb hr (fun t ht _ => ⟨⟨(0 : Int32), t_values, rfl, h, by rw [ht]; exact hP, hD⟩, hS.F ht⟩) hS.2.2 dX4_waysFrom_10
  · replace h := h.2 hc
    refine lv_iload_n hx hb dX4_waysFrom_4 rfl (lv_at hl 1 rfl) ?_
    refine lv_iconst (v := 5) hx hb dX4_waysFrom_5 (by decide) ?_
    refine lv_icmp_lt (tgt := 11) hx hb dX4_waysFrom_6 (by decide) (fun hc => ?_) (fun hc => ?_)
    · replace h := h.1 hc
      refine lv_lconst (v := 0) hx hb dX4_waysFrom_11 (by decide) ?_
      refine lv_lstore_n (lv' := [(2, .long (0 : Int64)), (0, .ref A_t), (1, .int x1)]) hx hb dX4_waysFrom_12 rfl hl (by decide) rfl (fun ls hl => ?_)
      refine lv_aload_n hx hb dX4_waysFrom_13 rfl (lv_at hl 1 rfl) ?_
      refine va_get (D := D) (ci := 4) (v := .int t_top) (C := RX4) (T := TX4) (N := 4) hx hb hts iX4 hown hK.1 hP 0 rfl rfl 3 (by decide) f0 (fun _ h9 => h9) rfl dX4_waysFrom_14 ?_
      refine lv_i2l (v := t_top.toInt64) hx hb dX4_waysFrom_17 rfl ?_
      refine lv_lstore (lv' := [(4, .long t_top.toInt64), (2, .long (0 : Int64)), (0, .ref A_t), (1, .int x1)]) hx hb dX4_waysFrom_18 hl (by decide) rfl (fun ls hl => ?_)
      refine lv_iconst (v := 0) hx hb dX4_waysFrom_20 (by decide) ?_
      refine lv_istore (lv' := [(6, .int (0 : Int32)), (4, .long t_top.toInt64), (2, .long (0 : Int64)), (0, .ref A_t), (1, .int x1)]) hx hb dX4_waysFrom_21 hl (by decide) rfl (fun ls hl => ?_)
      obtain ⟨nn, h⟩ := h
      exact L23 nn t_values (0 : Int64) t_top.toInt64 (0 : Int32) s.heap [] ls h hP hD hS (lv_sub hl [3, 4, 2, 1, 0] rfl)
    · replace h := h.2 hc
      refine lv_iconst (v := 0) hx hb dX4_waysFrom_9 (by decide) ?_
      subst hQ
      subst hAe
      exact W.iret (v := (0 : Int32)) hx hb hr (fun t ht _ => ⟨⟨(0 : Int32), t_values, rfl, h, by rw [ht]; exact hP, hD⟩, hS.F ht⟩) hS.2.2 dX4_waysFrom_10
def LB_X4_ways1_109 (post : Int32 → (Nat → Int64) → Prop) (t_things : Int32) (t_top : Int32) (t_caps : Nat → Nat → Int64) (x1 : Int32) (y4 : Int64) (K_109 : (Nat → Int64) → Int32 → Int64 → Prop) (t_values : Nat → Int64) (x6 : Int32) (y7 : Int64) : Prop :=
  ((y4 < y7 → post x6 t_values) ∧ (¬ y4 < y7 → (vp_in x1 5 ∧ P_X4_ways0 (fun (r1 : Int32) (t_values_v1 : Nat → Int64) => K_109 t_values_v1 (x6 + r1) (y7 + (1 : Int64))) t_things t_top (vp_updL t_values x1.toNatClampNeg y7) t_caps (x1 + (1 : Int32)))))
noncomputable def L_X4_ways1_109 (post : Int32 → (Nat → Int64) → Prop) (t_things : Int32) (t_top : Int32) (t_caps : Nat → Nat → Int64) (x1 : Int32) (y4 : Int64) (n : Nat) : (Nat → Int64) → Int32 → Int64 → Prop := Nat.rec (motive := fun _ => (Nat → Int64) → Int32 → Int64 → Prop) (fun _ _ _ => False) (fun _ K => LB_X4_ways1_109 post t_things t_top t_caps x1 y4 K) n
def LB_X4_ways1_23 (post : Int32 → (Nat → Int64) → Prop) (t_things : Int32) (t_top : Int32) (t_values : Nat → Int64) (t_caps : Nat → Nat → Int64) (x1 : Int32) (K_23 : Int64 → Int64 → Int32 → Prop) (y2 : Int64) (y4 : Int64) (x6 : Int32) : Prop :=
  ((x1 ≤ x6 → ((¬ x1 = t_things - (1 : Int32) → ∃ n : Nat, L_X4_ways1_109 post t_things t_top t_caps x1 y4 n t_values (0 : Int32) y2) ∧ (x1 = t_things - (1 : Int32) → post ((if (y4 - y2) + (1 : Int64) < (0 : Int64) then (0 : Int64) else (y4 - y2) + (1 : Int64)).toInt32) t_values))) ∧ (¬ x1 ≤ x6 → (vp_in x6 5 ∧ (vp_in x6 5 ∧ (vp_in x1 5 ∧ (vp_in x6 5 ∧ (vp_in x1 5 ∧ (vp_in x6 5 ∧ K_23 (if (t_values x6.toNatClampNeg) - (t_caps x6.toNatClampNeg x1.toNatClampNeg) < y2 then y2 else (t_values x6.toNatClampNeg) - (t_caps x6.toNatClampNeg x1.toNatClampNeg)) (if (t_values x6.toNatClampNeg) + (t_caps x1.toNatClampNeg x6.toNatClampNeg) < y4 then (t_values x6.toNatClampNeg) + (t_caps x1.toNatClampNeg x6.toNatClampNeg) else y4) (x6 + (1 : Int32))))))))))
noncomputable def L_X4_ways1_23 (post : Int32 → (Nat → Int64) → Prop) (t_things : Int32) (t_top : Int32) (t_values : Nat → Int64) (t_caps : Nat → Nat → Int64) (x1 : Int32) (n : Nat) : Int64 → Int64 → Int32 → Prop := Nat.rec (motive := fun _ => Int64 → Int64 → Int32 → Prop) (fun _ _ _ => False) (fun _ K => LB_X4_ways1_23 post t_things t_top t_values t_caps x1 K) n
def P_X4_ways1 (post : Int32 → (Nat → Int64) → Prop) (t_things : Int32) (t_top : Int32) (t_values : Nat → Int64) (t_caps : Nat → Nat → Int64) (x1 : Int32) : Prop :=
  ((x1 < 0 → post (0 : Int32) t_values) ∧ (¬ x1 < 0 → ((x1 < (5 : Int32) → ∃ n : Nat, L_X4_ways1_23 post t_things t_top t_values t_caps x1 n (0 : Int64) t_top.toInt64 (0 : Int32)) ∧ (¬ x1 < (5 : Int32) → post (0 : Int32) t_values))))
set_option maxHeartbeats 4000000 in
set_option maxRecDepth 100000 in
theorem c_X4_ways1 (l : Launch) (D : va_G) (cy : Nat → ClassId) (sz : Nat) (A_t A_t_caps A_t_values : Nat) (R_t_caps : Nat → Nat) (t_things : Int32) (t_top : Int32) (t_values : Nat → Int64) (t_caps : Nat → Nat → Int64) (x1 : Int32) (post : Int32 → (Nat → Int64) → Prop) (h : P_X4_ways1 post t_things t_top t_values t_caps x1) : Met l yX4_waysFrom wsX4_waysFrom { frames := 2, cells := 0, slots := 0, locals := 88 } (pcW D cy ([(A_t, .inr (4, [.ref A_t_caps, .ref A_t_values, .int t_things, .int t_top])), (A_t_values, .inl (cy 2, 5, .inr (.inl t_values))), (A_t_caps, .inl (cy 4, 5, .inr (.inr (.inr (.inr (gx R_t_caps 5))))))] ++ gp R_t_caps t_caps 5 (cy 2) 5) sz [.ref A_t, .int x1]) (va_Qi (fun r (u : (Nat → Int64)) => post r u) (bW D ([(A_t, .inr (4, [.ref A_t_caps, .ref A_t_values, .int t_things, .int t_top])), (A_t_values, .inl (cy 2, 5, .inr (.inl t_values))), (A_t_caps, .inl (cy 4, 5, .inr (.inr (.inr (.inr (gx R_t_caps 5))))))] ++ gp R_t_caps t_caps 5 (cy 2) 5) sz (fun u => ([(A_t, .inr (4, [.ref A_t_caps, .ref A_t_values, .int t_things, .int t_top])), (A_t_values, .inl (cy 2, 5, .inr (.inl u))), (A_t_caps, .inl (cy 4, 5, .inr (.inr (.inr (.inr (gx R_t_caps 5))))))] ++ gp R_t_caps t_caps 5 (cy 2) 5))) (va_A ([(A_t, .inr (4, [.ref A_t_caps, .ref A_t_values, .int t_things, .int t_top])), (A_t_values, .inl (cy 2, 5, .inr (.inl t_values))), (A_t_caps, .inl (cy 4, 5, .inr (.inr (.inr (.inr (gx R_t_caps 5))))))] ++ gp R_t_caps t_caps 5 (cy 2) 5) sz)) 0 0 (va_A ([(A_t, .inr (4, [.ref A_t_caps, .ref A_t_values, .int t_things, .int t_top])), (A_t_values, .inl (cy 2, 5, .inr (.inl t_values))), (A_t_caps, .inl (cy 4, 5, .inr (.inr (.inr (.inr (gx R_t_caps 5))))))] ++ gp R_t_caps t_caps 5 (cy 2) 5) sz) := by
  refine Met.ofW (cc := cX4_waysFrom) (maxL := 9) (ret := (some .int)) (by decide) rfl ?_
  intro p e s m args below meth c s₁ B hml hv
  obtain ⟨rfl, hsz, hP, hK, hD0⟩ := hv
  have hx := B.exec
  have hb := B.bytes
  have hr := B.returns
  have hts := atoms_spec (ws := wsX4_waysFrom) B.pre
  have hown : s.vm.findClass RX4 = some m.cls := findClass_of_methodNamed B.named
  have hlocks := B.notSynchronized
  have CF : CallFix p m c cX4_waysFrom 9 s ([.ref A_t, .int x1] : List Value).toArray wsX4_waysFrom RX4 := ⟨hx, hb, hml, hown, hts⟩
  have f0 := hts (.fieldLink RX4 24 "GapBounds$Span" "top" "I") (by decide +kernel)
  have f1 := hts (.fieldLink RX4 20 "GapBounds$Span" "things" "I") (by decide +kernel)
  have f2 := hts (.fieldLink RX4 16 "GapBounds$Span" "values" "[J") (by decide +kernel)
  have f3 := hts (.methodLink RX4 59 Lib.MathLoose.max_long.x) (by decide +kernel)
  have f4 := hts (.static Lib.MathLoose.max_long.x) (by decide +kernel)
  have f5 := hts (.initialized "java/lang/Math") (by decide +kernel)
  have f6 := hts (.code Lib.MathLoose.max_long.x Lib.MathLoose.max_long.code 4 (some .long)) (by decide +kernel)
  have f7 := hts (.fieldLink RX4 11 "GapBounds$Span" "caps" "[[J") (by decide +kernel)
  have f8 := hts (.methodLink RX4 53 Lib.MathLoose.min_long.x) (by decide +kernel)
  have f9 := hts (.static Lib.MathLoose.min_long.x) (by decide +kernel)
  have f10 := hts (.code Lib.MathLoose.min_long.x Lib.MathLoose.min_long.code 4 (some .long)) (by decide +kernel)
  have iX4 : ∀ w ∈ u_ws RX4 TX4 4, w ∈ wsX4_waysFrom := by decide +kernel
  subst hsz
  obtain ⟨A, hAe⟩ : ∃ A, A = va_A ([(A_t, .inr (4, [.ref A_t_caps, .ref A_t_values, .int t_things, .int t_top])), (A_t_values, .inl (cy 2, 5, .inr (.inl t_values))), (A_t_caps, .inl (cy 4, 5, .inr (.inr (.inr (.inr (gx R_t_caps 5))))))] ++ gp R_t_caps t_caps 5 (cy 2) 5) s.heap.size := ⟨_, rfl⟩
  have hD : va_D A ([(A_t, .inr (4, [.ref A_t_caps, .ref A_t_values, .int t_things, .int t_top])), (A_t_values, .inl (cy 2, 5, .inr (.inl t_values))), (A_t_caps, .inl (cy 4, 5, .inr (.inr (.inr (.inr (gx R_t_caps 5))))))] ++ gp R_t_caps t_caps 5 (cy 2) 5) := by rw [hAe]; exact hD0.self
  have hA : ∀ q : Nat, s.heap.size ≤ q → A q := fun q hq => by rw [hAe]; exact Or.inr hq
  have hS : va_S A s.heap s.heap [] := va_S.rf
  have hl := lv_entry [.ref A_t, .int x1] (n := 9) (Nat.le_of_ble_eq_true rfl)
  rw [lg_entry_eq]
  generalize (lg_sl [.ref A_t, .int x1] ++ List.replicate (9 - (lg_sl [.ref A_t, .int x1]).length) Slot.unset).toArray = ls at hl ⊢
  have hl : lv_has ls 9 [(0, .ref A_t), (1, .int x1)] := hl
  refine W.gen (fun Q0 hQ => ?_)
  have L109 : ∀ (n109 : Nat) (t_values : Nat → Int64) (y4 : Int64) (x6 : Int32) (y7 : Int64) (H : Heap) (locs : List Loc) (ls : Array Slot), L_X4_ways1_109 post t_things t_top t_caps x1 y4 n109 t_values x6 y7 → va_P D vwCl ([(A_t, .inr (4, [.ref A_t_caps, .ref A_t_values, .int t_things, .int t_top])), (A_t_values, .inl (cy 2, 5, .inr (.inl t_values))), (A_t_caps, .inl (cy 4, 5, .inr (.inr (.inr (.inr (gx R_t_caps 5))))))] ++ gp R_t_caps t_caps 5 (cy 2) 5) H → va_D A ([(A_t, .inr (4, [.ref A_t_caps, .ref A_t_values, .int t_things, .int t_top])), (A_t_values, .inl (cy 2, 5, .inr (.inl t_values))), (A_t_caps, .inl (cy 4, 5, .inr (.inr (.inr (.inr (gx R_t_caps 5))))))] ++ gp R_t_caps t_caps 5 (cy 2) 5) → va_S A s.heap H locs → lv_has ls 9 [(0, .ref A_t), (1, .int x1), (4, .long y4), (6, .int x6), (7, .long y7)] → W p l e (headSpec wsX4_waysFrom { frames := 2, cells := 0, slots := 0, locals := 88 }).room s m ([.ref A_t, .int x1] : List Value).toArray below meth c H locs 0 0 Q0 (F0 m 109 ls []) := by
    intro n109
    induction n109 with
    | zero => intro t_values y4 x6 y7 H locs ls h; exact False.elim h
    | succ n109 ih109 =>
      intro t_values y4 x6 y7 H locs ls h hP hD hS hl
      have h : LB_X4_ways1_109 post t_things t_top t_caps x1 y4 (L_X4_ways1_109 post t_things t_top t_caps x1 y4 n109) t_values x6 y7 := h
      unfold LB_X4_ways1_109 at h
      refine lv_lload hx hb dX4_waysFrom_109 (lv_at hl 4 rfl) ?_
      refine lv_lload hx hb dX4_waysFrom_111 (lv_at hl 2 rfl) ?_
      refine lx_gt (tgt := 146) hx hb dX4_waysFrom_113 dX4_waysFrom_114 (by decide) (fun hc => ?_) (fun hc => ?_)
      · replace h := h.1 hc
        refine lv_iload hx hb dX4_waysFrom_146 (lv_at hl 3 rfl) ?_
        subst hQ
        subst hAe
        exact W.iret (v := x6) hx hb hr (fun t ht _ => ⟨⟨x6, t_values, rfl, h, by rw [ht]; exact hP, hD⟩, hS.F ht⟩) hS.2.2 dX4_waysFrom_148
      · replace h := h.2 hc
        refine lv_aload_n hx hb dX4_waysFrom_117 rfl (lv_at hl 0 rfl) ?_
        refine va_get (D := D) (ci := 4) (v := .ref A_t_values) (C := RX4) (T := TX4) (N := 4) hx hb hts iX4 hown hK.1 hP 0 rfl rfl 1 (by decide) f2 (fun _ h9 => h9) rfl dX4_waysFrom_118 ?_
        refine lv_iload_n hx hb dX4_waysFrom_121 rfl (lv_at hl 1 rfl) ?_
        refine lv_lload hx hb dX4_waysFrom_122 (lv_at hl 4 rfl) ?_
        refine va_last hx hb hK.1 hP hD hS 1 2 rfl rfl h.1 dX4_waysFrom_124 (fun H locs hP hD hS => ?_)
        replace h := h.2
        have hP : va_P D vwCl ([(A_t, .inr (4, [.ref A_t_caps, .ref A_t_values, .int t_things, .int t_top])), (A_t_values, .inl (cy 2, 5, .inr (.inl (vp_updL t_values x1.toNatClampNeg y7)))), (A_t_caps, .inl (cy 4, 5, .inr (.inr (.inr (.inr (gx R_t_caps 5))))))] ++ gp R_t_caps t_caps 5 (cy 2) 5) H := hP
        have hD : va_D A ([(A_t, .inr (4, [.ref A_t_caps, .ref A_t_values, .int t_things, .int t_top])), (A_t_values, .inl (cy 2, 5, .inr (.inl (vp_updL t_values x1.toNatClampNeg y7)))), (A_t_caps, .inl (cy 4, 5, .inr (.inr (.inr (.inr (gx R_t_caps 5))))))] ++ gp R_t_caps t_caps 5 (cy 2) 5) := hD
        refine lv_iload hx hb dX4_waysFrom_125 (lv_at hl 3 rfl) ?_
        refine lv_aload_n hx hb dX4_waysFrom_127 rfl (lv_at hl 0 rfl) ?_
        refine lv_iload_n hx hb dX4_waysFrom_128 rfl (lv_at hl 1 rfl) ?_
        refine lv_iconst (v := 1) hx hb dX4_waysFrom_129 (by decide) ?_
        refine lv_iadd hx hb dX4_waysFrom_130 ?_
        have hPn := gPa (a := []) (b := [(A_t, .inr (4, [.ref A_t_caps, .ref A_t_values, .int t_things, .int t_top])), (A_t_values, .inl (cy 2, 5, .inr (.inl (vp_updL t_values x1.toNatClampNeg y7)))), (A_t_caps, .inl (cy 4, 5, .inr (.inr (.inr (.inr (gx R_t_caps 5))))))]) (gPs hP [0, 1, 2] rfl)
        have hDn := gDa (a := []) (b := [(A_t, .inr (4, [.ref A_t_caps, .ref A_t_values, .int t_things, .int t_top])), (A_t_values, .inl (cy 2, 5, .inr (.inl (vp_updL t_values x1.toNatClampNeg y7)))), (A_t_caps, .inl (cy 4, 5, .inr (.inr (.inr (.inr (gx R_t_caps 5))))))]) (gDs hD [0, 1, 2] (by decide) rfl)
        have hPc := gPR hPn
        have hDc := gDR hDn
        refine mw_i (va_runS (As := [.ref A_t, .int (x1 + (1 : Int32))]) (rest := [.int x6]) CF (c_X4_ways0 l D cy H.size A_t A_t_caps A_t_values R_t_caps t_things t_top (vp_updL t_values x1.toNatClampNeg y7) t_caps (x1 + (1 : Int32)) _ h) (va_cwS 2 hts gX4_waysFrom_X4_waysFrom rfl rfl rfl qX4_waysFrom.2 ⟨Nat.le_of_ble_eq_true rfl, Nat.le_of_ble_eq_true rfl⟩) (mpSW hK hPc hDc) rfl rfl hl.1 rfl (lv_room (Nat.le_of_ble_eq_true rfl)) dX4_waysFrom_131 ⟨Nat.zero_le _, Nat.zero_le _⟩) hPn hDn hS hA (fun r1 t_values_v1 H locs h hP hD hS => ?_)
        have hP : va_P D vwCl ([(A_t, .inr (4, [.ref A_t_caps, .ref A_t_values, .int t_things, .int t_top])), (A_t_values, .inl (cy 2, 5, .inr (.inl t_values_v1))), (A_t_caps, .inl (cy 4, 5, .inr (.inr (.inr (.inr (gx R_t_caps 5))))))] ++ gp R_t_caps t_caps 5 (cy 2) 5) H := gPs (gPb (a := []) (b := [(A_t, .inr (4, [.ref A_t_caps, .ref A_t_values, .int t_things, .int t_top])), (A_t_values, .inl (cy 2, 5, .inr (.inl t_values_v1))), (A_t_caps, .inl (cy 4, 5, .inr (.inr (.inr (.inr (gx R_t_caps 5))))))]) (c := gp R_t_caps t_caps 5 (cy 2) 5) hP) [0, 1, 2] rfl
        have hD : va_D A ([(A_t, .inr (4, [.ref A_t_caps, .ref A_t_values, .int t_things, .int t_top])), (A_t_values, .inl (cy 2, 5, .inr (.inl t_values_v1))), (A_t_caps, .inl (cy 4, 5, .inr (.inr (.inr (.inr (gx R_t_caps 5))))))] ++ gp R_t_caps t_caps 5 (cy 2) 5) := gDs (gDb (a := []) (b := [(A_t, .inr (4, [.ref A_t_caps, .ref A_t_values, .int t_things, .int t_top])), (A_t_values, .inl (cy 2, 5, .inr (.inl t_values_v1))), (A_t_caps, .inl (cy 4, 5, .inr (.inr (.inr (.inr (gx R_t_caps 5))))))]) (c := gp R_t_caps t_caps 5 (cy 2) 5) hD) [0, 1, 2] (by decide) rfl
        refine lv_iadd hx hb dX4_waysFrom_134 ?_
        refine lv_istore (lv' := [(6, .int (x6 + r1)), (0, .ref A_t), (1, .int x1), (4, .long y4), (7, .long y7)]) hx hb dX4_waysFrom_135 hl (by decide) rfl (fun ls hl => ?_)
        refine lv_lload hx hb dX4_waysFrom_137 (lv_at hl 4 rfl) ?_
        refine lv_lconst (v := 1) hx hb dX4_waysFrom_139 (by decide) ?_
        refine lv_ladd hx hb dX4_waysFrom_140 ?_
        refine lv_lstore (lv' := [(7, .long (y7 + (1 : Int64))), (6, .int (x6 + r1)), (0, .ref A_t), (1, .int x1), (4, .long y4)]) hx hb dX4_waysFrom_141 hl (by decide) rfl (fun ls hl => ?_)
        refine lv_goto (tgt := 109) hx hb dX4_waysFrom_143 (by decide) ?_
        exact ih109 t_values_v1 y4 (x6 + r1) (y7 + (1 : Int64)) H locs ls h hP hD hS (lv_sub hl [2, 3, 4, 1, 0] rfl)
  have L23 : ∀ (n23 : Nat) (t_values : Nat → Int64) (y2 : Int64) (y4 : Int64) (x6 : Int32) (H : Heap) (locs : List Loc) (ls : Array Slot), L_X4_ways1_23 post t_things t_top t_values t_caps x1 n23 y2 y4 x6 → va_P D vwCl ([(A_t, .inr (4, [.ref A_t_caps, .ref A_t_values, .int t_things, .int t_top])), (A_t_values, .inl (cy 2, 5, .inr (.inl t_values))), (A_t_caps, .inl (cy 4, 5, .inr (.inr (.inr (.inr (gx R_t_caps 5))))))] ++ gp R_t_caps t_caps 5 (cy 2) 5) H → va_D A ([(A_t, .inr (4, [.ref A_t_caps, .ref A_t_values, .int t_things, .int t_top])), (A_t_values, .inl (cy 2, 5, .inr (.inl t_values))), (A_t_caps, .inl (cy 4, 5, .inr (.inr (.inr (.inr (gx R_t_caps 5))))))] ++ gp R_t_caps t_caps 5 (cy 2) 5) → va_S A s.heap H locs → lv_has ls 9 [(0, .ref A_t), (1, .int x1), (2, .long y2), (4, .long y4), (6, .int x6)] → W p l e (headSpec wsX4_waysFrom { frames := 2, cells := 0, slots := 0, locals := 88 }).room s m ([.ref A_t, .int x1] : List Value).toArray below meth c H locs 0 0 Q0 (F0 m 23 ls []) := by
    intro n23
    induction n23 with
    | zero => intro t_values y2 y4 x6 H locs ls h; exact False.elim h
    | succ n23 ih23 =>
      intro t_values y2 y4 x6 H locs ls h hP hD hS hl
      have h : LB_X4_ways1_23 post t_things t_top t_values t_caps x1 (L_X4_ways1_23 post t_things t_top t_values t_caps x1 n23) y2 y4 x6 := h
      unfold LB_X4_ways1_23 at h
      refine lv_iload hx hb dX4_waysFrom_23 (lv_at hl 4 rfl) ?_
      refine lv_iload_n hx hb dX4_waysFrom_25 rfl (lv_at hl 1 rfl) ?_
      refine lv_icmp_ge (tgt := 81) hx hb dX4_waysFrom_26 (by decide) (fun hc => ?_) (fun hc => ?_)
      · replace h := h.1 hc
        refine lv_iload_n hx hb dX4_waysFrom_81 rfl (lv_at hl 1 rfl) ?_
        refine lv_aload_n hx hb dX4_waysFrom_82 rfl (lv_at hl 0 rfl) ?_
        refine va_get (D := D) (ci := 4) (v := .int t_things) (C := RX4) (T := TX4) (N := 4) hx hb hts iX4 hown hK.1 hP 0 rfl rfl 2 (by decide) f1 (fun _ h9 => h9) rfl dX4_waysFrom_83 ?_
        refine lv_iconst (v := 1) hx hb dX4_waysFrom_86 (by decide) ?_
        refine lv_isub hx hb dX4_waysFrom_87 ?_
        refine lv_icmp_ne (tgt := 103) hx hb dX4_waysFrom_88 (by decide) (fun hc => ?_) (fun hc => ?_)
        · replace h := h.1 hc
          refine lv_iconst (v := 0) hx hb dX4_waysFrom_103 (by decide) ?_
          refine lv_istore (lv' := [(6, .int (0 : Int32)), (0, .ref A_t), (1, .int x1), (2, .long y2), (4, .long y4)]) hx hb dX4_waysFrom_104 hl (by decide) rfl (fun ls hl => ?_)
          refine lv_lload_n hx hb dX4_waysFrom_106 rfl (lv_at hl 3 rfl) ?_
          refine lv_lstore (lv' := [(7, .long y2), (6, .int (0 : Int32)), (0, .ref A_t), (1, .int x1), (2, .long y2), (4, .long y4)]) hx hb dX4_waysFrom_107 hl (by decide) rfl (fun ls hl => ?_)
          obtain ⟨nn, h⟩ := h
          exact L109 nn t_values y4 (0 : Int32) y2 H locs ls h hP hD hS (lv_sub hl [2, 3, 5, 1, 0] rfl)
        · replace h := h.2 hc
          refine lv_lconst (v := 0) hx hb dX4_waysFrom_91 (by decide) ?_
          refine lv_lload hx hb dX4_waysFrom_92 (lv_at hl 3 rfl) ?_
          refine lv_lload_n hx hb dX4_waysFrom_94 rfl (lv_at hl 2 rfl) ?_
          refine lv_lsub hx hb dX4_waysFrom_95 ?_
          refine lv_lconst (v := 1) hx hb dX4_waysFrom_96 (by decide) ?_
          refine lv_ladd hx hb dX4_waysFrom_97 ?_
          refine va_mmax_long hx hb (hml.trans hl.1.symm) hown f3 f4 f5 f6 (Nat.le_of_ble_eq_true rfl) (Nat.le_of_ble_eq_true rfl) (Nat.le_of_ble_eq_true rfl) (Nat.le_of_ble_eq_true rfl) dX4_waysFrom_98 ?_
          refine lv_l2i (v := (if (y4 - y2) + (1 : Int64) < (0 : Int64) then (0 : Int64) else (y4 - y2) + (1 : Int64)).toInt32) hx hb dX4_waysFrom_101 rfl ?_
          subst hQ
          subst hAe
          exact W.iret (v := (if (y4 - y2) + (1 : Int64) < (0 : Int64) then (0 : Int64) else (y4 - y2) + (1 : Int64)).toInt32) hx hb hr (fun t ht _ => ⟨⟨(if (y4 - y2) + (1 : Int64) < (0 : Int64) then (0 : Int64) else (y4 - y2) + (1 : Int64)).toInt32, t_values, rfl, h, by rw [ht]; exact hP, hD⟩, hS.F ht⟩) hS.2.2 dX4_waysFrom_102
      · replace h := h.2 hc
        refine lv_lload_n hx hb dX4_waysFrom_29 rfl (lv_at hl 2 rfl) ?_
        refine lv_aload_n hx hb dX4_waysFrom_30 rfl (lv_at hl 0 rfl) ?_
        refine va_get (D := D) (ci := 4) (v := .ref A_t_values) (C := RX4) (T := TX4) (N := 4) hx hb hts iX4 hown hK.1 hP 0 rfl rfl 1 (by decide) f2 (fun _ h9 => h9) rfl dX4_waysFrom_31 ?_
        refine lv_iload hx hb dX4_waysFrom_34 (lv_at hl 4 rfl) ?_
        refine va_lald hx hb hK.1 hP 1 2 rfl rfl h.1 dX4_waysFrom_36 ?_
        replace h := h.2
        refine lv_aload_n hx hb dX4_waysFrom_37 rfl (lv_at hl 0 rfl) ?_
        refine va_get (D := D) (ci := 4) (v := .ref A_t_caps) (C := RX4) (T := TX4) (N := 4) hx hb hts iX4 hown hK.1 hP 0 rfl rfl 0 (by decide) f7 (fun _ h9 => h9) rfl dX4_waysFrom_38 ?_
        refine lv_iload hx hb dX4_waysFrom_41 (lv_at hl 4 rfl) ?_
        refine mx_alda hx hb hK.1 hP 2 4 rfl rfl h.1 dX4_waysFrom_43 ?_
        have hv2 := h.1
        replace h := h.2
        refine lv_iload_n hx hb dX4_waysFrom_44 rfl (lv_at hl 1 rfl) ?_
        refine va_lald hx hb hK.1 hP (3 + x6.toNatClampNeg) 2 (gp_at (X := [(A_t, .inr (4, [.ref A_t_caps, .ref A_t_values, .int t_things, .int t_top])), (A_t_values, .inl (cy 2, 5, .inr (.inl t_values))), (A_t_caps, .inl (cy 4, 5, .inr (.inr (.inr (.inr (gx R_t_caps 5))))))]) (vp_lt (n := 5) (by assumption))) rfl h.1 dX4_waysFrom_45 ?_
        replace h := h.2
        refine lv_lsub hx hb dX4_waysFrom_46 ?_
        refine va_mmax_long hx hb (hml.trans hl.1.symm) hown f3 f4 f5 f6 (Nat.le_of_ble_eq_true rfl) (Nat.le_of_ble_eq_true rfl) (Nat.le_of_ble_eq_true rfl) (Nat.le_of_ble_eq_true rfl) dX4_waysFrom_47 ?_
        refine lv_lstore_n (lv' := [(2, .long (if (t_values x6.toNatClampNeg) - (t_caps x6.toNatClampNeg x1.toNatClampNeg) < y2 then y2 else (t_values x6.toNatClampNeg) - (t_caps x6.toNatClampNeg x1.toNatClampNeg))), (0, .ref A_t), (1, .int x1), (4, .long y4), (6, .int x6)]) hx hb dX4_waysFrom_50 rfl hl (by decide) rfl (fun ls hl => ?_)
        refine lv_lload hx hb dX4_waysFrom_51 (lv_at hl 3 rfl) ?_
        refine lv_aload_n hx hb dX4_waysFrom_53 rfl (lv_at hl 1 rfl) ?_
        refine va_get (D := D) (ci := 4) (v := .ref A_t_values) (C := RX4) (T := TX4) (N := 4) hx hb hts iX4 hown hK.1 hP 0 rfl rfl 1 (by decide) f2 (fun _ h9 => h9) rfl dX4_waysFrom_54 ?_
        refine lv_iload hx hb dX4_waysFrom_57 (lv_at hl 4 rfl) ?_
        refine va_lald hx hb hK.1 hP 1 2 rfl rfl h.1 dX4_waysFrom_59 ?_
        replace h := h.2
        refine lv_aload_n hx hb dX4_waysFrom_60 rfl (lv_at hl 1 rfl) ?_
        refine va_get (D := D) (ci := 4) (v := .ref A_t_caps) (C := RX4) (T := TX4) (N := 4) hx hb hts iX4 hown hK.1 hP 0 rfl rfl 0 (by decide) f7 (fun _ h9 => h9) rfl dX4_waysFrom_61 ?_
        refine lv_iload_n hx hb dX4_waysFrom_64 rfl (lv_at hl 2 rfl) ?_
        refine mx_alda hx hb hK.1 hP 2 4 rfl rfl h.1 dX4_waysFrom_65 ?_
        have hv3 := h.1
        replace h := h.2
        refine lv_iload hx hb dX4_waysFrom_66 (lv_at hl 4 rfl) ?_
        refine va_lald hx hb hK.1 hP (3 + x1.toNatClampNeg) 2 (gp_at (X := [(A_t, .inr (4, [.ref A_t_caps, .ref A_t_values, .int t_things, .int t_top])), (A_t_values, .inl (cy 2, 5, .inr (.inl t_values))), (A_t_caps, .inl (cy 4, 5, .inr (.inr (.inr (.inr (gx R_t_caps 5))))))]) (vp_lt (n := 5) (by assumption))) rfl h.1 dX4_waysFrom_68 ?_
        replace h := h.2
        refine lv_ladd hx hb dX4_waysFrom_69 ?_
        refine va_mmin_long hx hb (hml.trans hl.1.symm) hown f8 f9 f5 f10 (Nat.le_of_ble_eq_true rfl) (Nat.le_of_ble_eq_true rfl) (Nat.le_of_ble_eq_true rfl) (Nat.le_of_ble_eq_true rfl) dX4_waysFrom_70 ?_
        refine lv_lstore (lv' := [(4, .long (if (t_values x6.toNatClampNeg) + (t_caps x1.toNatClampNeg x6.toNatClampNeg) < y4 then (t_values x6.toNatClampNeg) + (t_caps x1.toNatClampNeg x6.toNatClampNeg) else y4)), (2, .long (if (t_values x6.toNatClampNeg) - (t_caps x6.toNatClampNeg x1.toNatClampNeg) < y2 then y2 else (t_values x6.toNatClampNeg) - (t_caps x6.toNatClampNeg x1.toNatClampNeg))), (0, .ref A_t), (1, .int x1), (6, .int x6)]) hx hb dX4_waysFrom_73 hl (by decide) rfl (fun ls hl => ?_)
        refine lv_iinc (v := x6 + (1 : Int32)) (lv' := [(6, .int (x6 + (1 : Int32))), (4, .long (if (t_values x6.toNatClampNeg) + (t_caps x1.toNatClampNeg x6.toNatClampNeg) < y4 then (t_values x6.toNatClampNeg) + (t_caps x1.toNatClampNeg x6.toNatClampNeg) else y4)), (2, .long (if (t_values x6.toNatClampNeg) - (t_caps x6.toNatClampNeg x1.toNatClampNeg) < y2 then y2 else (t_values x6.toNatClampNeg) - (t_caps x6.toNatClampNeg x1.toNatClampNeg))), (0, .ref A_t), (1, .int x1)]) hx hb dX4_waysFrom_75 hl (k := 4) rfl rfl (by decide) rfl (fun ls hl => ?_)
        refine lv_goto (tgt := 23) hx hb dX4_waysFrom_78 (by decide) ?_
        exact ih23 t_values (if (t_values x6.toNatClampNeg) - (t_caps x6.toNatClampNeg x1.toNatClampNeg) < y2 then y2 else (t_values x6.toNatClampNeg) - (t_caps x6.toNatClampNeg x1.toNatClampNeg)) (if (t_values x6.toNatClampNeg) + (t_caps x1.toNatClampNeg x6.toNatClampNeg) < y4 then (t_values x6.toNatClampNeg) + (t_caps x1.toNatClampNeg x6.toNatClampNeg) else y4) (x6 + (1 : Int32)) H locs ls h hP hD hS (lv_sub hl [3, 4, 2, 1, 0] rfl)
  unfold P_X4_ways1 at h
  refine lv_iload_n hx hb dX4_waysFrom_0 rfl (lv_at hl 1 rfl) ?_
  refine lv_if_lt (tgt := 9) hx hb dX4_waysFrom_1 (by decide) (fun hc => ?_) (fun hc => ?_)
  · replace h := h.1 hc
    refine lv_iconst (v := 0) hx hb dX4_waysFrom_9 (by decide) ?_
    subst hQ
    subst hAe
    exact W.iret (v := (0 : Int32)) hx hb hr (fun t ht _ => ⟨⟨(0 : Int32), t_values, rfl, h, by rw [ht]; exact hP, hD⟩, hS.F ht⟩) hS.2.2 dX4_waysFrom_10
  · replace h := h.2 hc
    refine lv_iload_n hx hb dX4_waysFrom_4 rfl (lv_at hl 1 rfl) ?_
    refine lv_iconst (v := 5) hx hb dX4_waysFrom_5 (by decide) ?_
    refine lv_icmp_lt (tgt := 11) hx hb dX4_waysFrom_6 (by decide) (fun hc => ?_) (fun hc => ?_)
    · replace h := h.1 hc
      refine lv_lconst (v := 0) hx hb dX4_waysFrom_11 (by decide) ?_
      refine lv_lstore_n (lv' := [(2, .long (0 : Int64)), (0, .ref A_t), (1, .int x1)]) hx hb dX4_waysFrom_12 rfl hl (by decide) rfl (fun ls hl => ?_)
      refine lv_aload_n hx hb dX4_waysFrom_13 rfl (lv_at hl 1 rfl) ?_
      refine va_get (D := D) (ci := 4) (v := .int t_top) (C := RX4) (T := TX4) (N := 4) hx hb hts iX4 hown hK.1 hP 0 rfl rfl 3 (by decide) f0 (fun _ h9 => h9) rfl dX4_waysFrom_14 ?_
      refine lv_i2l (v := t_top.toInt64) hx hb dX4_waysFrom_17 rfl ?_
      refine lv_lstore (lv' := [(4, .long t_top.toInt64), (2, .long (0 : Int64)), (0, .ref A_t), (1, .int x1)]) hx hb dX4_waysFrom_18 hl (by decide) rfl (fun ls hl => ?_)
      refine lv_iconst (v := 0) hx hb dX4_waysFrom_20 (by decide) ?_
      refine lv_istore (lv' := [(6, .int (0 : Int32)), (4, .long t_top.toInt64), (2, .long (0 : Int64)), (0, .ref A_t), (1, .int x1)]) hx hb dX4_waysFrom_21 hl (by decide) rfl (fun ls hl => ?_)
      obtain ⟨nn, h⟩ := h
      exact L23 nn t_values (0 : Int64) t_top.toInt64 (0 : Int32) s.heap [] ls h hP hD hS (lv_sub hl [3, 4, 2, 1, 0] rfl)
    · replace h := h.2 hc
      refine lv_iconst (v := 0) hx hb dX4_waysFrom_9 (by decide) ?_
      subst hQ
      subst hAe
      exact W.iret (v := (0 : Int32)) hx hb hr (fun t ht _ => ⟨⟨(0 : Int32), t_values, rfl, h, by rw [ht]; exact hP, hD⟩, hS.F ht⟩) hS.2.2 dX4_waysFrom_10
def LB_X4_ways2_109 (post : Int32 → (Nat → Int64) → Prop) (t_things : Int32) (t_top : Int32) (t_caps : Nat → Nat → Int64) (x1 : Int32) (y4 : Int64) (K_109 : (Nat → Int64) → Int32 → Int64 → Prop) (t_values : Nat → Int64) (x6 : Int32) (y7 : Int64) : Prop :=
  ((y4 < y7 → post x6 t_values) ∧ (¬ y4 < y7 → (vp_in x1 5 ∧ P_X4_ways1 (fun (r1 : Int32) (t_values_v1 : Nat → Int64) => K_109 t_values_v1 (x6 + r1) (y7 + (1 : Int64))) t_things t_top (vp_updL t_values x1.toNatClampNeg y7) t_caps (x1 + (1 : Int32)))))
noncomputable def L_X4_ways2_109 (post : Int32 → (Nat → Int64) → Prop) (t_things : Int32) (t_top : Int32) (t_caps : Nat → Nat → Int64) (x1 : Int32) (y4 : Int64) (n : Nat) : (Nat → Int64) → Int32 → Int64 → Prop := Nat.rec (motive := fun _ => (Nat → Int64) → Int32 → Int64 → Prop) (fun _ _ _ => False) (fun _ K => LB_X4_ways2_109 post t_things t_top t_caps x1 y4 K) n
def LB_X4_ways2_23 (post : Int32 → (Nat → Int64) → Prop) (t_things : Int32) (t_top : Int32) (t_values : Nat → Int64) (t_caps : Nat → Nat → Int64) (x1 : Int32) (K_23 : Int64 → Int64 → Int32 → Prop) (y2 : Int64) (y4 : Int64) (x6 : Int32) : Prop :=
  ((x1 ≤ x6 → ((¬ x1 = t_things - (1 : Int32) → ∃ n : Nat, L_X4_ways2_109 post t_things t_top t_caps x1 y4 n t_values (0 : Int32) y2) ∧ (x1 = t_things - (1 : Int32) → post ((if (y4 - y2) + (1 : Int64) < (0 : Int64) then (0 : Int64) else (y4 - y2) + (1 : Int64)).toInt32) t_values))) ∧ (¬ x1 ≤ x6 → (vp_in x6 5 ∧ (vp_in x6 5 ∧ (vp_in x1 5 ∧ (vp_in x6 5 ∧ (vp_in x1 5 ∧ (vp_in x6 5 ∧ K_23 (if (t_values x6.toNatClampNeg) - (t_caps x6.toNatClampNeg x1.toNatClampNeg) < y2 then y2 else (t_values x6.toNatClampNeg) - (t_caps x6.toNatClampNeg x1.toNatClampNeg)) (if (t_values x6.toNatClampNeg) + (t_caps x1.toNatClampNeg x6.toNatClampNeg) < y4 then (t_values x6.toNatClampNeg) + (t_caps x1.toNatClampNeg x6.toNatClampNeg) else y4) (x6 + (1 : Int32))))))))))
noncomputable def L_X4_ways2_23 (post : Int32 → (Nat → Int64) → Prop) (t_things : Int32) (t_top : Int32) (t_values : Nat → Int64) (t_caps : Nat → Nat → Int64) (x1 : Int32) (n : Nat) : Int64 → Int64 → Int32 → Prop := Nat.rec (motive := fun _ => Int64 → Int64 → Int32 → Prop) (fun _ _ _ => False) (fun _ K => LB_X4_ways2_23 post t_things t_top t_values t_caps x1 K) n
def P_X4_ways2 (post : Int32 → (Nat → Int64) → Prop) (t_things : Int32) (t_top : Int32) (t_values : Nat → Int64) (t_caps : Nat → Nat → Int64) (x1 : Int32) : Prop :=
  ((x1 < 0 → post (0 : Int32) t_values) ∧ (¬ x1 < 0 → ((x1 < (5 : Int32) → ∃ n : Nat, L_X4_ways2_23 post t_things t_top t_values t_caps x1 n (0 : Int64) t_top.toInt64 (0 : Int32)) ∧ (¬ x1 < (5 : Int32) → post (0 : Int32) t_values))))
set_option maxHeartbeats 4000000 in
set_option maxRecDepth 100000 in
theorem c_X4_ways2 (l : Launch) (D : va_G) (cy : Nat → ClassId) (sz : Nat) (A_t A_t_caps A_t_values : Nat) (R_t_caps : Nat → Nat) (t_things : Int32) (t_top : Int32) (t_values : Nat → Int64) (t_caps : Nat → Nat → Int64) (x1 : Int32) (post : Int32 → (Nat → Int64) → Prop) (h : P_X4_ways2 post t_things t_top t_values t_caps x1) : Met l yX4_waysFrom wsX4_waysFrom { frames := 3, cells := 0, slots := 0, locals := 116 } (pcW D cy ([(A_t, .inr (4, [.ref A_t_caps, .ref A_t_values, .int t_things, .int t_top])), (A_t_values, .inl (cy 2, 5, .inr (.inl t_values))), (A_t_caps, .inl (cy 4, 5, .inr (.inr (.inr (.inr (gx R_t_caps 5))))))] ++ gp R_t_caps t_caps 5 (cy 2) 5) sz [.ref A_t, .int x1]) (va_Qi (fun r (u : (Nat → Int64)) => post r u) (bW D ([(A_t, .inr (4, [.ref A_t_caps, .ref A_t_values, .int t_things, .int t_top])), (A_t_values, .inl (cy 2, 5, .inr (.inl t_values))), (A_t_caps, .inl (cy 4, 5, .inr (.inr (.inr (.inr (gx R_t_caps 5))))))] ++ gp R_t_caps t_caps 5 (cy 2) 5) sz (fun u => ([(A_t, .inr (4, [.ref A_t_caps, .ref A_t_values, .int t_things, .int t_top])), (A_t_values, .inl (cy 2, 5, .inr (.inl u))), (A_t_caps, .inl (cy 4, 5, .inr (.inr (.inr (.inr (gx R_t_caps 5))))))] ++ gp R_t_caps t_caps 5 (cy 2) 5))) (va_A ([(A_t, .inr (4, [.ref A_t_caps, .ref A_t_values, .int t_things, .int t_top])), (A_t_values, .inl (cy 2, 5, .inr (.inl t_values))), (A_t_caps, .inl (cy 4, 5, .inr (.inr (.inr (.inr (gx R_t_caps 5))))))] ++ gp R_t_caps t_caps 5 (cy 2) 5) sz)) 0 0 (va_A ([(A_t, .inr (4, [.ref A_t_caps, .ref A_t_values, .int t_things, .int t_top])), (A_t_values, .inl (cy 2, 5, .inr (.inl t_values))), (A_t_caps, .inl (cy 4, 5, .inr (.inr (.inr (.inr (gx R_t_caps 5))))))] ++ gp R_t_caps t_caps 5 (cy 2) 5) sz) := by
  refine Met.ofW (cc := cX4_waysFrom) (maxL := 9) (ret := (some .int)) (by decide) rfl ?_
  intro p e s m args below meth c s₁ B hml hv
  obtain ⟨rfl, hsz, hP, hK, hD0⟩ := hv
  have hx := B.exec
  have hb := B.bytes
  have hr := B.returns
  have hts := atoms_spec (ws := wsX4_waysFrom) B.pre
  have hown : s.vm.findClass RX4 = some m.cls := findClass_of_methodNamed B.named
  have hlocks := B.notSynchronized
  have CF : CallFix p m c cX4_waysFrom 9 s ([.ref A_t, .int x1] : List Value).toArray wsX4_waysFrom RX4 := ⟨hx, hb, hml, hown, hts⟩
  have f0 := hts (.fieldLink RX4 24 "GapBounds$Span" "top" "I") (by decide +kernel)
  have f1 := hts (.fieldLink RX4 20 "GapBounds$Span" "things" "I") (by decide +kernel)
  have f2 := hts (.fieldLink RX4 16 "GapBounds$Span" "values" "[J") (by decide +kernel)
  have f3 := hts (.methodLink RX4 59 Lib.MathLoose.max_long.x) (by decide +kernel)
  have f4 := hts (.static Lib.MathLoose.max_long.x) (by decide +kernel)
  have f5 := hts (.initialized "java/lang/Math") (by decide +kernel)
  have f6 := hts (.code Lib.MathLoose.max_long.x Lib.MathLoose.max_long.code 4 (some .long)) (by decide +kernel)
  have f7 := hts (.fieldLink RX4 11 "GapBounds$Span" "caps" "[[J") (by decide +kernel)
  have f8 := hts (.methodLink RX4 53 Lib.MathLoose.min_long.x) (by decide +kernel)
  have f9 := hts (.static Lib.MathLoose.min_long.x) (by decide +kernel)
  have f10 := hts (.code Lib.MathLoose.min_long.x Lib.MathLoose.min_long.code 4 (some .long)) (by decide +kernel)
  have iX4 : ∀ w ∈ u_ws RX4 TX4 4, w ∈ wsX4_waysFrom := by decide +kernel
  subst hsz
  obtain ⟨A, hAe⟩ : ∃ A, A = va_A ([(A_t, .inr (4, [.ref A_t_caps, .ref A_t_values, .int t_things, .int t_top])), (A_t_values, .inl (cy 2, 5, .inr (.inl t_values))), (A_t_caps, .inl (cy 4, 5, .inr (.inr (.inr (.inr (gx R_t_caps 5))))))] ++ gp R_t_caps t_caps 5 (cy 2) 5) s.heap.size := ⟨_, rfl⟩
  have hD : va_D A ([(A_t, .inr (4, [.ref A_t_caps, .ref A_t_values, .int t_things, .int t_top])), (A_t_values, .inl (cy 2, 5, .inr (.inl t_values))), (A_t_caps, .inl (cy 4, 5, .inr (.inr (.inr (.inr (gx R_t_caps 5))))))] ++ gp R_t_caps t_caps 5 (cy 2) 5) := by rw [hAe]; exact hD0.self
  have hA : ∀ q : Nat, s.heap.size ≤ q → A q := fun q hq => by rw [hAe]; exact Or.inr hq
  have hS : va_S A s.heap s.heap [] := va_S.rf
  have hl := lv_entry [.ref A_t, .int x1] (n := 9) (Nat.le_of_ble_eq_true rfl)
  rw [lg_entry_eq]
  generalize (lg_sl [.ref A_t, .int x1] ++ List.replicate (9 - (lg_sl [.ref A_t, .int x1]).length) Slot.unset).toArray = ls at hl ⊢
  have hl : lv_has ls 9 [(0, .ref A_t), (1, .int x1)] := hl
  refine W.gen (fun Q0 hQ => ?_)
  have L109 : ∀ (n109 : Nat) (t_values : Nat → Int64) (y4 : Int64) (x6 : Int32) (y7 : Int64) (H : Heap) (locs : List Loc) (ls : Array Slot), L_X4_ways2_109 post t_things t_top t_caps x1 y4 n109 t_values x6 y7 → va_P D vwCl ([(A_t, .inr (4, [.ref A_t_caps, .ref A_t_values, .int t_things, .int t_top])), (A_t_values, .inl (cy 2, 5, .inr (.inl t_values))), (A_t_caps, .inl (cy 4, 5, .inr (.inr (.inr (.inr (gx R_t_caps 5))))))] ++ gp R_t_caps t_caps 5 (cy 2) 5) H → va_D A ([(A_t, .inr (4, [.ref A_t_caps, .ref A_t_values, .int t_things, .int t_top])), (A_t_values, .inl (cy 2, 5, .inr (.inl t_values))), (A_t_caps, .inl (cy 4, 5, .inr (.inr (.inr (.inr (gx R_t_caps 5))))))] ++ gp R_t_caps t_caps 5 (cy 2) 5) → va_S A s.heap H locs → lv_has ls 9 [(0, .ref A_t), (1, .int x1), (4, .long y4), (6, .int x6), (7, .long y7)] → W p l e (headSpec wsX4_waysFrom { frames := 3, cells := 0, slots := 0, locals := 116 }).room s m ([.ref A_t, .int x1] : List Value).toArray below meth c H locs 0 0 Q0 (F0 m 109 ls []) := by
    intro n109
    induction n109 with
    | zero => intro t_values y4 x6 y7 H locs ls h; exact False.elim h
    | succ n109 ih109 =>
      intro t_values y4 x6 y7 H locs ls h hP hD hS hl
      have h : LB_X4_ways2_109 post t_things t_top t_caps x1 y4 (L_X4_ways2_109 post t_things t_top t_caps x1 y4 n109) t_values x6 y7 := h
      unfold LB_X4_ways2_109 at h
      refine lv_lload hx hb dX4_waysFrom_109 (lv_at hl 4 rfl) ?_
      refine lv_lload hx hb dX4_waysFrom_111 (lv_at hl 2 rfl) ?_
      refine lx_gt (tgt := 146) hx hb dX4_waysFrom_113 dX4_waysFrom_114 (by decide) (fun hc => ?_) (fun hc => ?_)
      · replace h := h.1 hc
        refine lv_iload hx hb dX4_waysFrom_146 (lv_at hl 3 rfl) ?_
        subst hQ
        subst hAe
        exact W.iret (v := x6) hx hb hr (fun t ht _ => ⟨⟨x6, t_values, rfl, h, by rw [ht]; exact hP, hD⟩, hS.F ht⟩) hS.2.2 dX4_waysFrom_148
      · replace h := h.2 hc
        refine lv_aload_n hx hb dX4_waysFrom_117 rfl (lv_at hl 0 rfl) ?_
        refine va_get (D := D) (ci := 4) (v := .ref A_t_values) (C := RX4) (T := TX4) (N := 4) hx hb hts iX4 hown hK.1 hP 0 rfl rfl 1 (by decide) f2 (fun _ h9 => h9) rfl dX4_waysFrom_118 ?_
        refine lv_iload_n hx hb dX4_waysFrom_121 rfl (lv_at hl 1 rfl) ?_
        refine lv_lload hx hb dX4_waysFrom_122 (lv_at hl 4 rfl) ?_
        refine va_last hx hb hK.1 hP hD hS 1 2 rfl rfl h.1 dX4_waysFrom_124 (fun H locs hP hD hS => ?_)
        replace h := h.2
        have hP : va_P D vwCl ([(A_t, .inr (4, [.ref A_t_caps, .ref A_t_values, .int t_things, .int t_top])), (A_t_values, .inl (cy 2, 5, .inr (.inl (vp_updL t_values x1.toNatClampNeg y7)))), (A_t_caps, .inl (cy 4, 5, .inr (.inr (.inr (.inr (gx R_t_caps 5))))))] ++ gp R_t_caps t_caps 5 (cy 2) 5) H := hP
        have hD : va_D A ([(A_t, .inr (4, [.ref A_t_caps, .ref A_t_values, .int t_things, .int t_top])), (A_t_values, .inl (cy 2, 5, .inr (.inl (vp_updL t_values x1.toNatClampNeg y7)))), (A_t_caps, .inl (cy 4, 5, .inr (.inr (.inr (.inr (gx R_t_caps 5))))))] ++ gp R_t_caps t_caps 5 (cy 2) 5) := hD
        refine lv_iload hx hb dX4_waysFrom_125 (lv_at hl 3 rfl) ?_
        refine lv_aload_n hx hb dX4_waysFrom_127 rfl (lv_at hl 0 rfl) ?_
        refine lv_iload_n hx hb dX4_waysFrom_128 rfl (lv_at hl 1 rfl) ?_
        refine lv_iconst (v := 1) hx hb dX4_waysFrom_129 (by decide) ?_
        refine lv_iadd hx hb dX4_waysFrom_130 ?_
        have hPn := gPa (a := []) (b := [(A_t, .inr (4, [.ref A_t_caps, .ref A_t_values, .int t_things, .int t_top])), (A_t_values, .inl (cy 2, 5, .inr (.inl (vp_updL t_values x1.toNatClampNeg y7)))), (A_t_caps, .inl (cy 4, 5, .inr (.inr (.inr (.inr (gx R_t_caps 5))))))]) (gPs hP [0, 1, 2] rfl)
        have hDn := gDa (a := []) (b := [(A_t, .inr (4, [.ref A_t_caps, .ref A_t_values, .int t_things, .int t_top])), (A_t_values, .inl (cy 2, 5, .inr (.inl (vp_updL t_values x1.toNatClampNeg y7)))), (A_t_caps, .inl (cy 4, 5, .inr (.inr (.inr (.inr (gx R_t_caps 5))))))]) (gDs hD [0, 1, 2] (by decide) rfl)
        have hPc := gPR hPn
        have hDc := gDR hDn
        refine mw_i (va_runS (As := [.ref A_t, .int (x1 + (1 : Int32))]) (rest := [.int x6]) CF (c_X4_ways1 l D cy H.size A_t A_t_caps A_t_values R_t_caps t_things t_top (vp_updL t_values x1.toNatClampNeg y7) t_caps (x1 + (1 : Int32)) _ h) (va_cwS 2 hts gX4_waysFrom_X4_waysFrom rfl rfl rfl qX4_waysFrom.2 ⟨Nat.le_of_ble_eq_true rfl, Nat.le_of_ble_eq_true rfl⟩) (mpSW hK hPc hDc) rfl rfl hl.1 rfl (lv_room (Nat.le_of_ble_eq_true rfl)) dX4_waysFrom_131 ⟨Nat.zero_le _, Nat.zero_le _⟩) hPn hDn hS hA (fun r1 t_values_v1 H locs h hP hD hS => ?_)
        have hP : va_P D vwCl ([(A_t, .inr (4, [.ref A_t_caps, .ref A_t_values, .int t_things, .int t_top])), (A_t_values, .inl (cy 2, 5, .inr (.inl t_values_v1))), (A_t_caps, .inl (cy 4, 5, .inr (.inr (.inr (.inr (gx R_t_caps 5))))))] ++ gp R_t_caps t_caps 5 (cy 2) 5) H := gPs (gPb (a := []) (b := [(A_t, .inr (4, [.ref A_t_caps, .ref A_t_values, .int t_things, .int t_top])), (A_t_values, .inl (cy 2, 5, .inr (.inl t_values_v1))), (A_t_caps, .inl (cy 4, 5, .inr (.inr (.inr (.inr (gx R_t_caps 5))))))]) (c := gp R_t_caps t_caps 5 (cy 2) 5) hP) [0, 1, 2] rfl
        have hD : va_D A ([(A_t, .inr (4, [.ref A_t_caps, .ref A_t_values, .int t_things, .int t_top])), (A_t_values, .inl (cy 2, 5, .inr (.inl t_values_v1))), (A_t_caps, .inl (cy 4, 5, .inr (.inr (.inr (.inr (gx R_t_caps 5))))))] ++ gp R_t_caps t_caps 5 (cy 2) 5) := gDs (gDb (a := []) (b := [(A_t, .inr (4, [.ref A_t_caps, .ref A_t_values, .int t_things, .int t_top])), (A_t_values, .inl (cy 2, 5, .inr (.inl t_values_v1))), (A_t_caps, .inl (cy 4, 5, .inr (.inr (.inr (.inr (gx R_t_caps 5))))))]) (c := gp R_t_caps t_caps 5 (cy 2) 5) hD) [0, 1, 2] (by decide) rfl
        refine lv_iadd hx hb dX4_waysFrom_134 ?_
        refine lv_istore (lv' := [(6, .int (x6 + r1)), (0, .ref A_t), (1, .int x1), (4, .long y4), (7, .long y7)]) hx hb dX4_waysFrom_135 hl (by decide) rfl (fun ls hl => ?_)
        refine lv_lload hx hb dX4_waysFrom_137 (lv_at hl 4 rfl) ?_
        refine lv_lconst (v := 1) hx hb dX4_waysFrom_139 (by decide) ?_
        refine lv_ladd hx hb dX4_waysFrom_140 ?_
        refine lv_lstore (lv' := [(7, .long (y7 + (1 : Int64))), (6, .int (x6 + r1)), (0, .ref A_t), (1, .int x1), (4, .long y4)]) hx hb dX4_waysFrom_141 hl (by decide) rfl (fun ls hl => ?_)
        refine lv_goto (tgt := 109) hx hb dX4_waysFrom_143 (by decide) ?_
        exact ih109 t_values_v1 y4 (x6 + r1) (y7 + (1 : Int64)) H locs ls h hP hD hS (lv_sub hl [2, 3, 4, 1, 0] rfl)
  have L23 : ∀ (n23 : Nat) (t_values : Nat → Int64) (y2 : Int64) (y4 : Int64) (x6 : Int32) (H : Heap) (locs : List Loc) (ls : Array Slot), L_X4_ways2_23 post t_things t_top t_values t_caps x1 n23 y2 y4 x6 → va_P D vwCl ([(A_t, .inr (4, [.ref A_t_caps, .ref A_t_values, .int t_things, .int t_top])), (A_t_values, .inl (cy 2, 5, .inr (.inl t_values))), (A_t_caps, .inl (cy 4, 5, .inr (.inr (.inr (.inr (gx R_t_caps 5))))))] ++ gp R_t_caps t_caps 5 (cy 2) 5) H → va_D A ([(A_t, .inr (4, [.ref A_t_caps, .ref A_t_values, .int t_things, .int t_top])), (A_t_values, .inl (cy 2, 5, .inr (.inl t_values))), (A_t_caps, .inl (cy 4, 5, .inr (.inr (.inr (.inr (gx R_t_caps 5))))))] ++ gp R_t_caps t_caps 5 (cy 2) 5) → va_S A s.heap H locs → lv_has ls 9 [(0, .ref A_t), (1, .int x1), (2, .long y2), (4, .long y4), (6, .int x6)] → W p l e (headSpec wsX4_waysFrom { frames := 3, cells := 0, slots := 0, locals := 116 }).room s m ([.ref A_t, .int x1] : List Value).toArray below meth c H locs 0 0 Q0 (F0 m 23 ls []) := by
    intro n23
    induction n23 with
    | zero => intro t_values y2 y4 x6 H locs ls h; exact False.elim h
    | succ n23 ih23 =>
      intro t_values y2 y4 x6 H locs ls h hP hD hS hl
      have h : LB_X4_ways2_23 post t_things t_top t_values t_caps x1 (L_X4_ways2_23 post t_things t_top t_values t_caps x1 n23) y2 y4 x6 := h
      unfold LB_X4_ways2_23 at h
      refine lv_iload hx hb dX4_waysFrom_23 (lv_at hl 4 rfl) ?_
      refine lv_iload_n hx hb dX4_waysFrom_25 rfl (lv_at hl 1 rfl) ?_
      refine lv_icmp_ge (tgt := 81) hx hb dX4_waysFrom_26 (by decide) (fun hc => ?_) (fun hc => ?_)
      · replace h := h.1 hc
        refine lv_iload_n hx hb dX4_waysFrom_81 rfl (lv_at hl 1 rfl) ?_
        refine lv_aload_n hx hb dX4_waysFrom_82 rfl (lv_at hl 0 rfl) ?_
        refine va_get (D := D) (ci := 4) (v := .int t_things) (C := RX4) (T := TX4) (N := 4) hx hb hts iX4 hown hK.1 hP 0 rfl rfl 2 (by decide) f1 (fun _ h9 => h9) rfl dX4_waysFrom_83 ?_
        refine lv_iconst (v := 1) hx hb dX4_waysFrom_86 (by decide) ?_
        refine lv_isub hx hb dX4_waysFrom_87 ?_
        refine lv_icmp_ne (tgt := 103) hx hb dX4_waysFrom_88 (by decide) (fun hc => ?_) (fun hc => ?_)
        · replace h := h.1 hc
          refine lv_iconst (v := 0) hx hb dX4_waysFrom_103 (by decide) ?_
          refine lv_istore (lv' := [(6, .int (0 : Int32)), (0, .ref A_t), (1, .int x1), (2, .long y2), (4, .long y4)]) hx hb dX4_waysFrom_104 hl (by decide) rfl (fun ls hl => ?_)
          refine lv_lload_n hx hb dX4_waysFrom_106 rfl (lv_at hl 3 rfl) ?_
          refine lv_lstore (lv' := [(7, .long y2), (6, .int (0 : Int32)), (0, .ref A_t), (1, .int x1), (2, .long y2), (4, .long y4)]) hx hb dX4_waysFrom_107 hl (by decide) rfl (fun ls hl => ?_)
          obtain ⟨nn, h⟩ := h
          exact L109 nn t_values y4 (0 : Int32) y2 H locs ls h hP hD hS (lv_sub hl [2, 3, 5, 1, 0] rfl)
        · replace h := h.2 hc
          refine lv_lconst (v := 0) hx hb dX4_waysFrom_91 (by decide) ?_
          refine lv_lload hx hb dX4_waysFrom_92 (lv_at hl 3 rfl) ?_
          refine lv_lload_n hx hb dX4_waysFrom_94 rfl (lv_at hl 2 rfl) ?_
          refine lv_lsub hx hb dX4_waysFrom_95 ?_
          refine lv_lconst (v := 1) hx hb dX4_waysFrom_96 (by decide) ?_
          refine lv_ladd hx hb dX4_waysFrom_97 ?_
          refine va_mmax_long hx hb (hml.trans hl.1.symm) hown f3 f4 f5 f6 (Nat.le_of_ble_eq_true rfl) (Nat.le_of_ble_eq_true rfl) (Nat.le_of_ble_eq_true rfl) (Nat.le_of_ble_eq_true rfl) dX4_waysFrom_98 ?_
          refine lv_l2i (v := (if (y4 - y2) + (1 : Int64) < (0 : Int64) then (0 : Int64) else (y4 - y2) + (1 : Int64)).toInt32) hx hb dX4_waysFrom_101 rfl ?_
          subst hQ
          subst hAe
          exact W.iret (v := (if (y4 - y2) + (1 : Int64) < (0 : Int64) then (0 : Int64) else (y4 - y2) + (1 : Int64)).toInt32) hx hb hr (fun t ht _ => ⟨⟨(if (y4 - y2) + (1 : Int64) < (0 : Int64) then (0 : Int64) else (y4 - y2) + (1 : Int64)).toInt32, t_values, rfl, h, by rw [ht]; exact hP, hD⟩, hS.F ht⟩) hS.2.2 dX4_waysFrom_102
      · replace h := h.2 hc
        refine lv_lload_n hx hb dX4_waysFrom_29 rfl (lv_at hl 2 rfl) ?_
        refine lv_aload_n hx hb dX4_waysFrom_30 rfl (lv_at hl 0 rfl) ?_
        refine va_get (D := D) (ci := 4) (v := .ref A_t_values) (C := RX4) (T := TX4) (N := 4) hx hb hts iX4 hown hK.1 hP 0 rfl rfl 1 (by decide) f2 (fun _ h9 => h9) rfl dX4_waysFrom_31 ?_
        refine lv_iload hx hb dX4_waysFrom_34 (lv_at hl 4 rfl) ?_
        refine va_lald hx hb hK.1 hP 1 2 rfl rfl h.1 dX4_waysFrom_36 ?_
        replace h := h.2
        refine lv_aload_n hx hb dX4_waysFrom_37 rfl (lv_at hl 0 rfl) ?_
        refine va_get (D := D) (ci := 4) (v := .ref A_t_caps) (C := RX4) (T := TX4) (N := 4) hx hb hts iX4 hown hK.1 hP 0 rfl rfl 0 (by decide) f7 (fun _ h9 => h9) rfl dX4_waysFrom_38 ?_
        refine lv_iload hx hb dX4_waysFrom_41 (lv_at hl 4 rfl) ?_
        refine mx_alda hx hb hK.1 hP 2 4 rfl rfl h.1 dX4_waysFrom_43 ?_
        have hv2 := h.1
        replace h := h.2
        refine lv_iload_n hx hb dX4_waysFrom_44 rfl (lv_at hl 1 rfl) ?_
        refine va_lald hx hb hK.1 hP (3 + x6.toNatClampNeg) 2 (gp_at (X := [(A_t, .inr (4, [.ref A_t_caps, .ref A_t_values, .int t_things, .int t_top])), (A_t_values, .inl (cy 2, 5, .inr (.inl t_values))), (A_t_caps, .inl (cy 4, 5, .inr (.inr (.inr (.inr (gx R_t_caps 5))))))]) (vp_lt (n := 5) (by assumption))) rfl h.1 dX4_waysFrom_45 ?_
        replace h := h.2
        refine lv_lsub hx hb dX4_waysFrom_46 ?_
        refine va_mmax_long hx hb (hml.trans hl.1.symm) hown f3 f4 f5 f6 (Nat.le_of_ble_eq_true rfl) (Nat.le_of_ble_eq_true rfl) (Nat.le_of_ble_eq_true rfl) (Nat.le_of_ble_eq_true rfl) dX4_waysFrom_47 ?_
        refine lv_lstore_n (lv' := [(2, .long (if (t_values x6.toNatClampNeg) - (t_caps x6.toNatClampNeg x1.toNatClampNeg) < y2 then y2 else (t_values x6.toNatClampNeg) - (t_caps x6.toNatClampNeg x1.toNatClampNeg))), (0, .ref A_t), (1, .int x1), (4, .long y4), (6, .int x6)]) hx hb dX4_waysFrom_50 rfl hl (by decide) rfl (fun ls hl => ?_)
        refine lv_lload hx hb dX4_waysFrom_51 (lv_at hl 3 rfl) ?_
        refine lv_aload_n hx hb dX4_waysFrom_53 rfl (lv_at hl 1 rfl) ?_
        refine va_get (D := D) (ci := 4) (v := .ref A_t_values) (C := RX4) (T := TX4) (N := 4) hx hb hts iX4 hown hK.1 hP 0 rfl rfl 1 (by decide) f2 (fun _ h9 => h9) rfl dX4_waysFrom_54 ?_
        refine lv_iload hx hb dX4_waysFrom_57 (lv_at hl 4 rfl) ?_
        refine va_lald hx hb hK.1 hP 1 2 rfl rfl h.1 dX4_waysFrom_59 ?_
        replace h := h.2
        refine lv_aload_n hx hb dX4_waysFrom_60 rfl (lv_at hl 1 rfl) ?_
        refine va_get (D := D) (ci := 4) (v := .ref A_t_caps) (C := RX4) (T := TX4) (N := 4) hx hb hts iX4 hown hK.1 hP 0 rfl rfl 0 (by decide) f7 (fun _ h9 => h9) rfl dX4_waysFrom_61 ?_
        refine lv_iload_n hx hb dX4_waysFrom_64 rfl (lv_at hl 2 rfl) ?_
        refine mx_alda hx hb hK.1 hP 2 4 rfl rfl h.1 dX4_waysFrom_65 ?_
        have hv3 := h.1
        replace h := h.2
        refine lv_iload hx hb dX4_waysFrom_66 (lv_at hl 4 rfl) ?_
        refine va_lald hx hb hK.1 hP (3 + x1.toNatClampNeg) 2 (gp_at (X := [(A_t, .inr (4, [.ref A_t_caps, .ref A_t_values, .int t_things, .int t_top])), (A_t_values, .inl (cy 2, 5, .inr (.inl t_values))), (A_t_caps, .inl (cy 4, 5, .inr (.inr (.inr (.inr (gx R_t_caps 5))))))]) (vp_lt (n := 5) (by assumption))) rfl h.1 dX4_waysFrom_68 ?_
        replace h := h.2
        refine lv_ladd hx hb dX4_waysFrom_69 ?_
        refine va_mmin_long hx hb (hml.trans hl.1.symm) hown f8 f9 f5 f10 (Nat.le_of_ble_eq_true rfl) (Nat.le_of_ble_eq_true rfl) (Nat.le_of_ble_eq_true rfl) (Nat.le_of_ble_eq_true rfl) dX4_waysFrom_70 ?_
        refine lv_lstore (lv' := [(4, .long (if (t_values x6.toNatClampNeg) + (t_caps x1.toNatClampNeg x6.toNatClampNeg) < y4 then (t_values x6.toNatClampNeg) + (t_caps x1.toNatClampNeg x6.toNatClampNeg) else y4)), (2, .long (if (t_values x6.toNatClampNeg) - (t_caps x6.toNatClampNeg x1.toNatClampNeg) < y2 then y2 else (t_values x6.toNatClampNeg) - (t_caps x6.toNatClampNeg x1.toNatClampNeg))), (0, .ref A_t), (1, .int x1), (6, .int x6)]) hx hb dX4_waysFrom_73 hl (by decide) rfl (fun ls hl => ?_)
        refine lv_iinc (v := x6 + (1 : Int32)) (lv' := [(6, .int (x6 + (1 : Int32))), (4, .long (if (t_values x6.toNatClampNeg) + (t_caps x1.toNatClampNeg x6.toNatClampNeg) < y4 then (t_values x6.toNatClampNeg) + (t_caps x1.toNatClampNeg x6.toNatClampNeg) else y4)), (2, .long (if (t_values x6.toNatClampNeg) - (t_caps x6.toNatClampNeg x1.toNatClampNeg) < y2 then y2 else (t_values x6.toNatClampNeg) - (t_caps x6.toNatClampNeg x1.toNatClampNeg))), (0, .ref A_t), (1, .int x1)]) hx hb dX4_waysFrom_75 hl (k := 4) rfl rfl (by decide) rfl (fun ls hl => ?_)
        refine lv_goto (tgt := 23) hx hb dX4_waysFrom_78 (by decide) ?_
        exact ih23 t_values (if (t_values x6.toNatClampNeg) - (t_caps x6.toNatClampNeg x1.toNatClampNeg) < y2 then y2 else (t_values x6.toNatClampNeg) - (t_caps x6.toNatClampNeg x1.toNatClampNeg)) (if (t_values x6.toNatClampNeg) + (t_caps x1.toNatClampNeg x6.toNatClampNeg) < y4 then (t_values x6.toNatClampNeg) + (t_caps x1.toNatClampNeg x6.toNatClampNeg) else y4) (x6 + (1 : Int32)) H locs ls h hP hD hS (lv_sub hl [3, 4, 2, 1, 0] rfl)
  unfold P_X4_ways2 at h
  refine lv_iload_n hx hb dX4_waysFrom_0 rfl (lv_at hl 1 rfl) ?_
  refine lv_if_lt (tgt := 9) hx hb dX4_waysFrom_1 (by decide) (fun hc => ?_) (fun hc => ?_)
  · replace h := h.1 hc
    refine lv_iconst (v := 0) hx hb dX4_waysFrom_9 (by decide) ?_
    subst hQ
    subst hAe
    exact W.iret (v := (0 : Int32)) hx hb hr (fun t ht _ => ⟨⟨(0 : Int32), t_values, rfl, h, by rw [ht]; exact hP, hD⟩, hS.F ht⟩) hS.2.2 dX4_waysFrom_10
  · replace h := h.2 hc
    refine lv_iload_n hx hb dX4_waysFrom_4 rfl (lv_at hl 1 rfl) ?_
    refine lv_iconst (v := 5) hx hb dX4_waysFrom_5 (by decide) ?_
    refine lv_icmp_lt (tgt := 11) hx hb dX4_waysFrom_6 (by decide) (fun hc => ?_) (fun hc => ?_)
    · replace h := h.1 hc
      refine lv_lconst (v := 0) hx hb dX4_waysFrom_11 (by decide) ?_
      refine lv_lstore_n (lv' := [(2, .long (0 : Int64)), (0, .ref A_t), (1, .int x1)]) hx hb dX4_waysFrom_12 rfl hl (by decide) rfl (fun ls hl => ?_)
      refine lv_aload_n hx hb dX4_waysFrom_13 rfl (lv_at hl 1 rfl) ?_
      refine va_get (D := D) (ci := 4) (v := .int t_top) (C := RX4) (T := TX4) (N := 4) hx hb hts iX4 hown hK.1 hP 0 rfl rfl 3 (by decide) f0 (fun _ h9 => h9) rfl dX4_waysFrom_14 ?_
      refine lv_i2l (v := t_top.toInt64) hx hb dX4_waysFrom_17 rfl ?_
      refine lv_lstore (lv' := [(4, .long t_top.toInt64), (2, .long (0 : Int64)), (0, .ref A_t), (1, .int x1)]) hx hb dX4_waysFrom_18 hl (by decide) rfl (fun ls hl => ?_)
      refine lv_iconst (v := 0) hx hb dX4_waysFrom_20 (by decide) ?_
      refine lv_istore (lv' := [(6, .int (0 : Int32)), (4, .long t_top.toInt64), (2, .long (0 : Int64)), (0, .ref A_t), (1, .int x1)]) hx hb dX4_waysFrom_21 hl (by decide) rfl (fun ls hl => ?_)
      obtain ⟨nn, h⟩ := h
      exact L23 nn t_values (0 : Int64) t_top.toInt64 (0 : Int32) s.heap [] ls h hP hD hS (lv_sub hl [3, 4, 2, 1, 0] rfl)
    · replace h := h.2 hc
      refine lv_iconst (v := 0) hx hb dX4_waysFrom_9 (by decide) ?_
      subst hQ
      subst hAe
      exact W.iret (v := (0 : Int32)) hx hb hr (fun t ht _ => ⟨⟨(0 : Int32), t_values, rfl, h, by rw [ht]; exact hP, hD⟩, hS.F ht⟩) hS.2.2 dX4_waysFrom_10
def LB_X4_ways3_109 (post : Int32 → (Nat → Int64) → Prop) (t_things : Int32) (t_top : Int32) (t_caps : Nat → Nat → Int64) (x1 : Int32) (y4 : Int64) (K_109 : (Nat → Int64) → Int32 → Int64 → Prop) (t_values : Nat → Int64) (x6 : Int32) (y7 : Int64) : Prop :=
  ((y4 < y7 → post x6 t_values) ∧ (¬ y4 < y7 → (vp_in x1 5 ∧ P_X4_ways2 (fun (r1 : Int32) (t_values_v1 : Nat → Int64) => K_109 t_values_v1 (x6 + r1) (y7 + (1 : Int64))) t_things t_top (vp_updL t_values x1.toNatClampNeg y7) t_caps (x1 + (1 : Int32)))))
noncomputable def L_X4_ways3_109 (post : Int32 → (Nat → Int64) → Prop) (t_things : Int32) (t_top : Int32) (t_caps : Nat → Nat → Int64) (x1 : Int32) (y4 : Int64) (n : Nat) : (Nat → Int64) → Int32 → Int64 → Prop := Nat.rec (motive := fun _ => (Nat → Int64) → Int32 → Int64 → Prop) (fun _ _ _ => False) (fun _ K => LB_X4_ways3_109 post t_things t_top t_caps x1 y4 K) n
def LB_X4_ways3_23 (post : Int32 → (Nat → Int64) → Prop) (t_things : Int32) (t_top : Int32) (t_values : Nat → Int64) (t_caps : Nat → Nat → Int64) (x1 : Int32) (K_23 : Int64 → Int64 → Int32 → Prop) (y2 : Int64) (y4 : Int64) (x6 : Int32) : Prop :=
  ((x1 ≤ x6 → ((¬ x1 = t_things - (1 : Int32) → ∃ n : Nat, L_X4_ways3_109 post t_things t_top t_caps x1 y4 n t_values (0 : Int32) y2) ∧ (x1 = t_things - (1 : Int32) → post ((if (y4 - y2) + (1 : Int64) < (0 : Int64) then (0 : Int64) else (y4 - y2) + (1 : Int64)).toInt32) t_values))) ∧ (¬ x1 ≤ x6 → (vp_in x6 5 ∧ (vp_in x6 5 ∧ (vp_in x1 5 ∧ (vp_in x6 5 ∧ (vp_in x1 5 ∧ (vp_in x6 5 ∧ K_23 (if (t_values x6.toNatClampNeg) - (t_caps x6.toNatClampNeg x1.toNatClampNeg) < y2 then y2 else (t_values x6.toNatClampNeg) - (t_caps x6.toNatClampNeg x1.toNatClampNeg)) (if (t_values x6.toNatClampNeg) + (t_caps x1.toNatClampNeg x6.toNatClampNeg) < y4 then (t_values x6.toNatClampNeg) + (t_caps x1.toNatClampNeg x6.toNatClampNeg) else y4) (x6 + (1 : Int32))))))))))
noncomputable def L_X4_ways3_23 (post : Int32 → (Nat → Int64) → Prop) (t_things : Int32) (t_top : Int32) (t_values : Nat → Int64) (t_caps : Nat → Nat → Int64) (x1 : Int32) (n : Nat) : Int64 → Int64 → Int32 → Prop := Nat.rec (motive := fun _ => Int64 → Int64 → Int32 → Prop) (fun _ _ _ => False) (fun _ K => LB_X4_ways3_23 post t_things t_top t_values t_caps x1 K) n
def P_X4_ways3 (post : Int32 → (Nat → Int64) → Prop) (t_things : Int32) (t_top : Int32) (t_values : Nat → Int64) (t_caps : Nat → Nat → Int64) (x1 : Int32) : Prop :=
  ((x1 < 0 → post (0 : Int32) t_values) ∧ (¬ x1 < 0 → ((x1 < (5 : Int32) → ∃ n : Nat, L_X4_ways3_23 post t_things t_top t_values t_caps x1 n (0 : Int64) t_top.toInt64 (0 : Int32)) ∧ (¬ x1 < (5 : Int32) → post (0 : Int32) t_values))))
set_option maxHeartbeats 4000000 in
set_option maxRecDepth 100000 in
theorem c_X4_ways3 (l : Launch) (D : va_G) (cy : Nat → ClassId) (sz : Nat) (A_t A_t_caps A_t_values : Nat) (R_t_caps : Nat → Nat) (t_things : Int32) (t_top : Int32) (t_values : Nat → Int64) (t_caps : Nat → Nat → Int64) (x1 : Int32) (post : Int32 → (Nat → Int64) → Prop) (h : P_X4_ways3 post t_things t_top t_values t_caps x1) : Met l yX4_waysFrom wsX4_waysFrom { frames := 4, cells := 0, slots := 0, locals := 144 } (pcW D cy ([(A_t, .inr (4, [.ref A_t_caps, .ref A_t_values, .int t_things, .int t_top])), (A_t_values, .inl (cy 2, 5, .inr (.inl t_values))), (A_t_caps, .inl (cy 4, 5, .inr (.inr (.inr (.inr (gx R_t_caps 5))))))] ++ gp R_t_caps t_caps 5 (cy 2) 5) sz [.ref A_t, .int x1]) (va_Qi (fun r (u : (Nat → Int64)) => post r u) (bW D ([(A_t, .inr (4, [.ref A_t_caps, .ref A_t_values, .int t_things, .int t_top])), (A_t_values, .inl (cy 2, 5, .inr (.inl t_values))), (A_t_caps, .inl (cy 4, 5, .inr (.inr (.inr (.inr (gx R_t_caps 5))))))] ++ gp R_t_caps t_caps 5 (cy 2) 5) sz (fun u => ([(A_t, .inr (4, [.ref A_t_caps, .ref A_t_values, .int t_things, .int t_top])), (A_t_values, .inl (cy 2, 5, .inr (.inl u))), (A_t_caps, .inl (cy 4, 5, .inr (.inr (.inr (.inr (gx R_t_caps 5))))))] ++ gp R_t_caps t_caps 5 (cy 2) 5))) (va_A ([(A_t, .inr (4, [.ref A_t_caps, .ref A_t_values, .int t_things, .int t_top])), (A_t_values, .inl (cy 2, 5, .inr (.inl t_values))), (A_t_caps, .inl (cy 4, 5, .inr (.inr (.inr (.inr (gx R_t_caps 5))))))] ++ gp R_t_caps t_caps 5 (cy 2) 5) sz)) 0 0 (va_A ([(A_t, .inr (4, [.ref A_t_caps, .ref A_t_values, .int t_things, .int t_top])), (A_t_values, .inl (cy 2, 5, .inr (.inl t_values))), (A_t_caps, .inl (cy 4, 5, .inr (.inr (.inr (.inr (gx R_t_caps 5))))))] ++ gp R_t_caps t_caps 5 (cy 2) 5) sz) := by
  refine Met.ofW (cc := cX4_waysFrom) (maxL := 9) (ret := (some .int)) (by decide) rfl ?_
  intro p e s m args below meth c s₁ B hml hv
  obtain ⟨rfl, hsz, hP, hK, hD0⟩ := hv
  have hx := B.exec
  have hb := B.bytes
  have hr := B.returns
  have hts := atoms_spec (ws := wsX4_waysFrom) B.pre
  have hown : s.vm.findClass RX4 = some m.cls := findClass_of_methodNamed B.named
  have hlocks := B.notSynchronized
  have CF : CallFix p m c cX4_waysFrom 9 s ([.ref A_t, .int x1] : List Value).toArray wsX4_waysFrom RX4 := ⟨hx, hb, hml, hown, hts⟩
  have f0 := hts (.fieldLink RX4 24 "GapBounds$Span" "top" "I") (by decide +kernel)
  have f1 := hts (.fieldLink RX4 20 "GapBounds$Span" "things" "I") (by decide +kernel)
  have f2 := hts (.fieldLink RX4 16 "GapBounds$Span" "values" "[J") (by decide +kernel)
  have f3 := hts (.methodLink RX4 59 Lib.MathLoose.max_long.x) (by decide +kernel)
  have f4 := hts (.static Lib.MathLoose.max_long.x) (by decide +kernel)
  have f5 := hts (.initialized "java/lang/Math") (by decide +kernel)
  have f6 := hts (.code Lib.MathLoose.max_long.x Lib.MathLoose.max_long.code 4 (some .long)) (by decide +kernel)
  have f7 := hts (.fieldLink RX4 11 "GapBounds$Span" "caps" "[[J") (by decide +kernel)
  have f8 := hts (.methodLink RX4 53 Lib.MathLoose.min_long.x) (by decide +kernel)
  have f9 := hts (.static Lib.MathLoose.min_long.x) (by decide +kernel)
  have f10 := hts (.code Lib.MathLoose.min_long.x Lib.MathLoose.min_long.code 4 (some .long)) (by decide +kernel)
  have iX4 : ∀ w ∈ u_ws RX4 TX4 4, w ∈ wsX4_waysFrom := by decide +kernel
  subst hsz
  obtain ⟨A, hAe⟩ : ∃ A, A = va_A ([(A_t, .inr (4, [.ref A_t_caps, .ref A_t_values, .int t_things, .int t_top])), (A_t_values, .inl (cy 2, 5, .inr (.inl t_values))), (A_t_caps, .inl (cy 4, 5, .inr (.inr (.inr (.inr (gx R_t_caps 5))))))] ++ gp R_t_caps t_caps 5 (cy 2) 5) s.heap.size := ⟨_, rfl⟩
  have hD : va_D A ([(A_t, .inr (4, [.ref A_t_caps, .ref A_t_values, .int t_things, .int t_top])), (A_t_values, .inl (cy 2, 5, .inr (.inl t_values))), (A_t_caps, .inl (cy 4, 5, .inr (.inr (.inr (.inr (gx R_t_caps 5))))))] ++ gp R_t_caps t_caps 5 (cy 2) 5) := by rw [hAe]; exact hD0.self
  have hA : ∀ q : Nat, s.heap.size ≤ q → A q := fun q hq => by rw [hAe]; exact Or.inr hq
  have hS : va_S A s.heap s.heap [] := va_S.rf
  have hl := lv_entry [.ref A_t, .int x1] (n := 9) (Nat.le_of_ble_eq_true rfl)
  rw [lg_entry_eq]
  generalize (lg_sl [.ref A_t, .int x1] ++ List.replicate (9 - (lg_sl [.ref A_t, .int x1]).length) Slot.unset).toArray = ls at hl ⊢
  have hl : lv_has ls 9 [(0, .ref A_t), (1, .int x1)] := hl
  refine W.gen (fun Q0 hQ => ?_)
  have L109 : ∀ (n109 : Nat) (t_values : Nat → Int64) (y4 : Int64) (x6 : Int32) (y7 : Int64) (H : Heap) (locs : List Loc) (ls : Array Slot), L_X4_ways3_109 post t_things t_top t_caps x1 y4 n109 t_values x6 y7 → va_P D vwCl ([(A_t, .inr (4, [.ref A_t_caps, .ref A_t_values, .int t_things, .int t_top])), (A_t_values, .inl (cy 2, 5, .inr (.inl t_values))), (A_t_caps, .inl (cy 4, 5, .inr (.inr (.inr (.inr (gx R_t_caps 5))))))] ++ gp R_t_caps t_caps 5 (cy 2) 5) H → va_D A ([(A_t, .inr (4, [.ref A_t_caps, .ref A_t_values, .int t_things, .int t_top])), (A_t_values, .inl (cy 2, 5, .inr (.inl t_values))), (A_t_caps, .inl (cy 4, 5, .inr (.inr (.inr (.inr (gx R_t_caps 5))))))] ++ gp R_t_caps t_caps 5 (cy 2) 5) → va_S A s.heap H locs → lv_has ls 9 [(0, .ref A_t), (1, .int x1), (4, .long y4), (6, .int x6), (7, .long y7)] → W p l e (headSpec wsX4_waysFrom { frames := 4, cells := 0, slots := 0, locals := 144 }).room s m ([.ref A_t, .int x1] : List Value).toArray below meth c H locs 0 0 Q0 (F0 m 109 ls []) := by
    intro n109
    induction n109 with
    | zero => intro t_values y4 x6 y7 H locs ls h; exact False.elim h
    | succ n109 ih109 =>
      intro t_values y4 x6 y7 H locs ls h hP hD hS hl
      have h : LB_X4_ways3_109 post t_things t_top t_caps x1 y4 (L_X4_ways3_109 post t_things t_top t_caps x1 y4 n109) t_values x6 y7 := h
      unfold LB_X4_ways3_109 at h
      refine lv_lload hx hb dX4_waysFrom_109 (lv_at hl 4 rfl) ?_
      refine lv_lload hx hb dX4_waysFrom_111 (lv_at hl 2 rfl) ?_
      refine lx_gt (tgt := 146) hx hb dX4_waysFrom_113 dX4_waysFrom_114 (by decide) (fun hc => ?_) (fun hc => ?_)
      · replace h := h.1 hc
        refine lv_iload hx hb dX4_waysFrom_146 (lv_at hl 3 rfl) ?_
        subst hQ
        subst hAe
        exact W.iret (v := x6) hx hb hr (fun t ht _ => ⟨⟨x6, t_values, rfl, h, by rw [ht]; exact hP, hD⟩, hS.F ht⟩) hS.2.2 dX4_waysFrom_148
      · replace h := h.2 hc
        refine lv_aload_n hx hb dX4_waysFrom_117 rfl (lv_at hl 0 rfl) ?_
        refine va_get (D := D) (ci := 4) (v := .ref A_t_values) (C := RX4) (T := TX4) (N := 4) hx hb hts iX4 hown hK.1 hP 0 rfl rfl 1 (by decide) f2 (fun _ h9 => h9) rfl dX4_waysFrom_118 ?_
        refine lv_iload_n hx hb dX4_waysFrom_121 rfl (lv_at hl 1 rfl) ?_
        refine lv_lload hx hb dX4_waysFrom_122 (lv_at hl 4 rfl) ?_
        refine va_last hx hb hK.1 hP hD hS 1 2 rfl rfl h.1 dX4_waysFrom_124 (fun H locs hP hD hS => ?_)
        replace h := h.2
        have hP : va_P D vwCl ([(A_t, .inr (4, [.ref A_t_caps, .ref A_t_values, .int t_things, .int t_top])), (A_t_values, .inl (cy 2, 5, .inr (.inl (vp_updL t_values x1.toNatClampNeg y7)))), (A_t_caps, .inl (cy 4, 5, .inr (.inr (.inr (.inr (gx R_t_caps 5))))))] ++ gp R_t_caps t_caps 5 (cy 2) 5) H := hP
        have hD : va_D A ([(A_t, .inr (4, [.ref A_t_caps, .ref A_t_values, .int t_things, .int t_top])), (A_t_values, .inl (cy 2, 5, .inr (.inl (vp_updL t_values x1.toNatClampNeg y7)))), (A_t_caps, .inl (cy 4, 5, .inr (.inr (.inr (.inr (gx R_t_caps 5))))))] ++ gp R_t_caps t_caps 5 (cy 2) 5) := hD
        refine lv_iload hx hb dX4_waysFrom_125 (lv_at hl 3 rfl) ?_
        refine lv_aload_n hx hb dX4_waysFrom_127 rfl (lv_at hl 0 rfl) ?_
        refine lv_iload_n hx hb dX4_waysFrom_128 rfl (lv_at hl 1 rfl) ?_
        refine lv_iconst (v := 1) hx hb dX4_waysFrom_129 (by decide) ?_
        refine lv_iadd hx hb dX4_waysFrom_130 ?_
        have hPn := gPa (a := []) (b := [(A_t, .inr (4, [.ref A_t_caps, .ref A_t_values, .int t_things, .int t_top])), (A_t_values, .inl (cy 2, 5, .inr (.inl (vp_updL t_values x1.toNatClampNeg y7)))), (A_t_caps, .inl (cy 4, 5, .inr (.inr (.inr (.inr (gx R_t_caps 5))))))]) (gPs hP [0, 1, 2] rfl)
        have hDn := gDa (a := []) (b := [(A_t, .inr (4, [.ref A_t_caps, .ref A_t_values, .int t_things, .int t_top])), (A_t_values, .inl (cy 2, 5, .inr (.inl (vp_updL t_values x1.toNatClampNeg y7)))), (A_t_caps, .inl (cy 4, 5, .inr (.inr (.inr (.inr (gx R_t_caps 5))))))]) (gDs hD [0, 1, 2] (by decide) rfl)
        have hPc := gPR hPn
        have hDc := gDR hDn
        refine mw_i (va_runS (As := [.ref A_t, .int (x1 + (1 : Int32))]) (rest := [.int x6]) CF (c_X4_ways2 l D cy H.size A_t A_t_caps A_t_values R_t_caps t_things t_top (vp_updL t_values x1.toNatClampNeg y7) t_caps (x1 + (1 : Int32)) _ h) (va_cwS 2 hts gX4_waysFrom_X4_waysFrom rfl rfl rfl qX4_waysFrom.2 ⟨Nat.le_of_ble_eq_true rfl, Nat.le_of_ble_eq_true rfl⟩) (mpSW hK hPc hDc) rfl rfl hl.1 rfl (lv_room (Nat.le_of_ble_eq_true rfl)) dX4_waysFrom_131 ⟨Nat.zero_le _, Nat.zero_le _⟩) hPn hDn hS hA (fun r1 t_values_v1 H locs h hP hD hS => ?_)
        have hP : va_P D vwCl ([(A_t, .inr (4, [.ref A_t_caps, .ref A_t_values, .int t_things, .int t_top])), (A_t_values, .inl (cy 2, 5, .inr (.inl t_values_v1))), (A_t_caps, .inl (cy 4, 5, .inr (.inr (.inr (.inr (gx R_t_caps 5))))))] ++ gp R_t_caps t_caps 5 (cy 2) 5) H := gPs (gPb (a := []) (b := [(A_t, .inr (4, [.ref A_t_caps, .ref A_t_values, .int t_things, .int t_top])), (A_t_values, .inl (cy 2, 5, .inr (.inl t_values_v1))), (A_t_caps, .inl (cy 4, 5, .inr (.inr (.inr (.inr (gx R_t_caps 5))))))]) (c := gp R_t_caps t_caps 5 (cy 2) 5) hP) [0, 1, 2] rfl
        have hD : va_D A ([(A_t, .inr (4, [.ref A_t_caps, .ref A_t_values, .int t_things, .int t_top])), (A_t_values, .inl (cy 2, 5, .inr (.inl t_values_v1))), (A_t_caps, .inl (cy 4, 5, .inr (.inr (.inr (.inr (gx R_t_caps 5))))))] ++ gp R_t_caps t_caps 5 (cy 2) 5) := gDs (gDb (a := []) (b := [(A_t, .inr (4, [.ref A_t_caps, .ref A_t_values, .int t_things, .int t_top])), (A_t_values, .inl (cy 2, 5, .inr (.inl t_values_v1))), (A_t_caps, .inl (cy 4, 5, .inr (.inr (.inr (.inr (gx R_t_caps 5))))))]) (c := gp R_t_caps t_caps 5 (cy 2) 5) hD) [0, 1, 2] (by decide) rfl
        refine lv_iadd hx hb dX4_waysFrom_134 ?_
        refine lv_istore (lv' := [(6, .int (x6 + r1)), (0, .ref A_t), (1, .int x1), (4, .long y4), (7, .long y7)]) hx hb dX4_waysFrom_135 hl (by decide) rfl (fun ls hl => ?_)
        refine lv_lload hx hb dX4_waysFrom_137 (lv_at hl 4 rfl) ?_
        refine lv_lconst (v := 1) hx hb dX4_waysFrom_139 (by decide) ?_
        refine lv_ladd hx hb dX4_waysFrom_140 ?_
        refine lv_lstore (lv' := [(7, .long (y7 + (1 : Int64))), (6, .int (x6 + r1)), (0, .ref A_t), (1, .int x1), (4, .long y4)]) hx hb dX4_waysFrom_141 hl (by decide) rfl (fun ls hl => ?_)
        refine lv_goto (tgt := 109) hx hb dX4_waysFrom_143 (by decide) ?_
        exact ih109 t_values_v1 y4 (x6 + r1) (y7 + (1 : Int64)) H locs ls h hP hD hS (lv_sub hl [2, 3, 4, 1, 0] rfl)
  have L23 : ∀ (n23 : Nat) (t_values : Nat → Int64) (y2 : Int64) (y4 : Int64) (x6 : Int32) (H : Heap) (locs : List Loc) (ls : Array Slot), L_X4_ways3_23 post t_things t_top t_values t_caps x1 n23 y2 y4 x6 → va_P D vwCl ([(A_t, .inr (4, [.ref A_t_caps, .ref A_t_values, .int t_things, .int t_top])), (A_t_values, .inl (cy 2, 5, .inr (.inl t_values))), (A_t_caps, .inl (cy 4, 5, .inr (.inr (.inr (.inr (gx R_t_caps 5))))))] ++ gp R_t_caps t_caps 5 (cy 2) 5) H → va_D A ([(A_t, .inr (4, [.ref A_t_caps, .ref A_t_values, .int t_things, .int t_top])), (A_t_values, .inl (cy 2, 5, .inr (.inl t_values))), (A_t_caps, .inl (cy 4, 5, .inr (.inr (.inr (.inr (gx R_t_caps 5))))))] ++ gp R_t_caps t_caps 5 (cy 2) 5) → va_S A s.heap H locs → lv_has ls 9 [(0, .ref A_t), (1, .int x1), (2, .long y2), (4, .long y4), (6, .int x6)] → W p l e (headSpec wsX4_waysFrom { frames := 4, cells := 0, slots := 0, locals := 144 }).room s m ([.ref A_t, .int x1] : List Value).toArray below meth c H locs 0 0 Q0 (F0 m 23 ls []) := by
    intro n23
    induction n23 with
    | zero => intro t_values y2 y4 x6 H locs ls h; exact False.elim h
    | succ n23 ih23 =>
      intro t_values y2 y4 x6 H locs ls h hP hD hS hl
      have h : LB_X4_ways3_23 post t_things t_top t_values t_caps x1 (L_X4_ways3_23 post t_things t_top t_values t_caps x1 n23) y2 y4 x6 := h
      unfold LB_X4_ways3_23 at h
      refine lv_iload hx hb dX4_waysFrom_23 (lv_at hl 4 rfl) ?_
      refine lv_iload_n hx hb dX4_waysFrom_25 rfl (lv_at hl 1 rfl) ?_
      refine lv_icmp_ge (tgt := 81) hx hb dX4_waysFrom_26 (by decide) (fun hc => ?_) (fun hc => ?_)
      · replace h := h.1 hc
        refine lv_iload_n hx hb dX4_waysFrom_81 rfl (lv_at hl 1 rfl) ?_
        refine lv_aload_n hx hb dX4_waysFrom_82 rfl (lv_at hl 0 rfl) ?_
        refine va_get (D := D) (ci := 4) (v := .int t_things) (C := RX4) (T := TX4) (N := 4) hx hb hts iX4 hown hK.1 hP 0 rfl rfl 2 (by decide) f1 (fun _ h9 => h9) rfl dX4_waysFrom_83 ?_
        refine lv_iconst (v := 1) hx hb dX4_waysFrom_86 (by decide) ?_
        refine lv_isub hx hb dX4_waysFrom_87 ?_
        refine lv_icmp_ne (tgt := 103) hx hb dX4_waysFrom_88 (by decide) (fun hc => ?_) (fun hc => ?_)
        · replace h := h.1 hc
          refine lv_iconst (v := 0) hx hb dX4_waysFrom_103 (by decide) ?_
          refine lv_istore (lv' := [(6, .int (0 : Int32)), (0, .ref A_t), (1, .int x1), (2, .long y2), (4, .long y4)]) hx hb dX4_waysFrom_104 hl (by decide) rfl (fun ls hl => ?_)
          refine lv_lload_n hx hb dX4_waysFrom_106 rfl (lv_at hl 3 rfl) ?_
          refine lv_lstore (lv' := [(7, .long y2), (6, .int (0 : Int32)), (0, .ref A_t), (1, .int x1), (2, .long y2), (4, .long y4)]) hx hb dX4_waysFrom_107 hl (by decide) rfl (fun ls hl => ?_)
          obtain ⟨nn, h⟩ := h
          exact L109 nn t_values y4 (0 : Int32) y2 H locs ls h hP hD hS (lv_sub hl [2, 3, 5, 1, 0] rfl)
        · replace h := h.2 hc
          refine lv_lconst (v := 0) hx hb dX4_waysFrom_91 (by decide) ?_
          refine lv_lload hx hb dX4_waysFrom_92 (lv_at hl 3 rfl) ?_
          refine lv_lload_n hx hb dX4_waysFrom_94 rfl (lv_at hl 2 rfl) ?_
          refine lv_lsub hx hb dX4_waysFrom_95 ?_
          refine lv_lconst (v := 1) hx hb dX4_waysFrom_96 (by decide) ?_
          refine lv_ladd hx hb dX4_waysFrom_97 ?_
          refine va_mmax_long hx hb (hml.trans hl.1.symm) hown f3 f4 f5 f6 (Nat.le_of_ble_eq_true rfl) (Nat.le_of_ble_eq_true rfl) (Nat.le_of_ble_eq_true rfl) (Nat.le_of_ble_eq_true rfl) dX4_waysFrom_98 ?_
          refine lv_l2i (v := (if (y4 - y2) + (1 : Int64) < (0 : Int64) then (0 : Int64) else (y4 - y2) + (1 : Int64)).toInt32) hx hb dX4_waysFrom_101 rfl ?_
          subst hQ
          subst hAe
          exact W.iret (v := (if (y4 - y2) + (1 : Int64) < (0 : Int64) then (0 : Int64) else (y4 - y2) + (1 : Int64)).toInt32) hx hb hr (fun t ht _ => ⟨⟨(if (y4 - y2) + (1 : Int64) < (0 : Int64) then (0 : Int64) else (y4 - y2) + (1 : Int64)).toInt32, t_values, rfl, h, by rw [ht]; exact hP, hD⟩, hS.F ht⟩) hS.2.2 dX4_waysFrom_102
      · replace h := h.2 hc
        refine lv_lload_n hx hb dX4_waysFrom_29 rfl (lv_at hl 2 rfl) ?_
        refine lv_aload_n hx hb dX4_waysFrom_30 rfl (lv_at hl 0 rfl) ?_
        refine va_get (D := D) (ci := 4) (v := .ref A_t_values) (C := RX4) (T := TX4) (N := 4) hx hb hts iX4 hown hK.1 hP 0 rfl rfl 1 (by decide) f2 (fun _ h9 => h9) rfl dX4_waysFrom_31 ?_
        refine lv_iload hx hb dX4_waysFrom_34 (lv_at hl 4 rfl) ?_
        refine va_lald hx hb hK.1 hP 1 2 rfl rfl h.1 dX4_waysFrom_36 ?_
        replace h := h.2
        refine lv_aload_n hx hb dX4_waysFrom_37 rfl (lv_at hl 0 rfl) ?_
        refine va_get (D := D) (ci := 4) (v := .ref A_t_caps) (C := RX4) (T := TX4) (N := 4) hx hb hts iX4 hown hK.1 hP 0 rfl rfl 0 (by decide) f7 (fun _ h9 => h9) rfl dX4_waysFrom_38 ?_
        refine lv_iload hx hb dX4_waysFrom_41 (lv_at hl 4 rfl) ?_
        refine mx_alda hx hb hK.1 hP 2 4 rfl rfl h.1 dX4_waysFrom_43 ?_
        have hv2 := h.1
        replace h := h.2
        refine lv_iload_n hx hb dX4_waysFrom_44 rfl (lv_at hl 1 rfl) ?_
        refine va_lald hx hb hK.1 hP (3 + x6.toNatClampNeg) 2 (gp_at (X := [(A_t, .inr (4, [.ref A_t_caps, .ref A_t_values, .int t_things, .int t_top])), (A_t_values, .inl (cy 2, 5, .inr (.inl t_values))), (A_t_caps, .inl (cy 4, 5, .inr (.inr (.inr (.inr (gx R_t_caps 5))))))]) (vp_lt (n := 5) (by assumption))) rfl h.1 dX4_waysFrom_45 ?_
        replace h := h.2
        refine lv_lsub hx hb dX4_waysFrom_46 ?_
        refine va_mmax_long hx hb (hml.trans hl.1.symm) hown f3 f4 f5 f6 (Nat.le_of_ble_eq_true rfl) (Nat.le_of_ble_eq_true rfl) (Nat.le_of_ble_eq_true rfl) (Nat.le_of_ble_eq_true rfl) dX4_waysFrom_47 ?_
        refine lv_lstore_n (lv' := [(2, .long (if (t_values x6.toNatClampNeg) - (t_caps x6.toNatClampNeg x1.toNatClampNeg) < y2 then y2 else (t_values x6.toNatClampNeg) - (t_caps x6.toNatClampNeg x1.toNatClampNeg))), (0, .ref A_t), (1, .int x1), (4, .long y4), (6, .int x6)]) hx hb dX4_waysFrom_50 rfl hl (by decide) rfl (fun ls hl => ?_)
        refine lv_lload hx hb dX4_waysFrom_51 (lv_at hl 3 rfl) ?_
        refine lv_aload_n hx hb dX4_waysFrom_53 rfl (lv_at hl 1 rfl) ?_
        refine va_get (D := D) (ci := 4) (v := .ref A_t_values) (C := RX4) (T := TX4) (N := 4) hx hb hts iX4 hown hK.1 hP 0 rfl rfl 1 (by decide) f2 (fun _ h9 => h9) rfl dX4_waysFrom_54 ?_
        refine lv_iload hx hb dX4_waysFrom_57 (lv_at hl 4 rfl) ?_
        refine va_lald hx hb hK.1 hP 1 2 rfl rfl h.1 dX4_waysFrom_59 ?_
        replace h := h.2
        refine lv_aload_n hx hb dX4_waysFrom_60 rfl (lv_at hl 1 rfl) ?_
        refine va_get (D := D) (ci := 4) (v := .ref A_t_caps) (C := RX4) (T := TX4) (N := 4) hx hb hts iX4 hown hK.1 hP 0 rfl rfl 0 (by decide) f7 (fun _ h9 => h9) rfl dX4_waysFrom_61 ?_
        refine lv_iload_n hx hb dX4_waysFrom_64 rfl (lv_at hl 2 rfl) ?_
        refine mx_alda hx hb hK.1 hP 2 4 rfl rfl h.1 dX4_waysFrom_65 ?_
        have hv3 := h.1
        replace h := h.2
        refine lv_iload hx hb dX4_waysFrom_66 (lv_at hl 4 rfl) ?_
        refine va_lald hx hb hK.1 hP (3 + x1.toNatClampNeg) 2 (gp_at (X := [(A_t, .inr (4, [.ref A_t_caps, .ref A_t_values, .int t_things, .int t_top])), (A_t_values, .inl (cy 2, 5, .inr (.inl t_values))), (A_t_caps, .inl (cy 4, 5, .inr (.inr (.inr (.inr (gx R_t_caps 5))))))]) (vp_lt (n := 5) (by assumption))) rfl h.1 dX4_waysFrom_68 ?_
        replace h := h.2
        refine lv_ladd hx hb dX4_waysFrom_69 ?_
        refine va_mmin_long hx hb (hml.trans hl.1.symm) hown f8 f9 f5 f10 (Nat.le_of_ble_eq_true rfl) (Nat.le_of_ble_eq_true rfl) (Nat.le_of_ble_eq_true rfl) (Nat.le_of_ble_eq_true rfl) dX4_waysFrom_70 ?_
        refine lv_lstore (lv' := [(4, .long (if (t_values x6.toNatClampNeg) + (t_caps x1.toNatClampNeg x6.toNatClampNeg) < y4 then (t_values x6.toNatClampNeg) + (t_caps x1.toNatClampNeg x6.toNatClampNeg) else y4)), (2, .long (if (t_values x6.toNatClampNeg) - (t_caps x6.toNatClampNeg x1.toNatClampNeg) < y2 then y2 else (t_values x6.toNatClampNeg) - (t_caps x6.toNatClampNeg x1.toNatClampNeg))), (0, .ref A_t), (1, .int x1), (6, .int x6)]) hx hb dX4_waysFrom_73 hl (by decide) rfl (fun ls hl => ?_)
        refine lv_iinc (v := x6 + (1 : Int32)) (lv' := [(6, .int (x6 + (1 : Int32))), (4, .long (if (t_values x6.toNatClampNeg) + (t_caps x1.toNatClampNeg x6.toNatClampNeg) < y4 then (t_values x6.toNatClampNeg) + (t_caps x1.toNatClampNeg x6.toNatClampNeg) else y4)), (2, .long (if (t_values x6.toNatClampNeg) - (t_caps x6.toNatClampNeg x1.toNatClampNeg) < y2 then y2 else (t_values x6.toNatClampNeg) - (t_caps x6.toNatClampNeg x1.toNatClampNeg))), (0, .ref A_t), (1, .int x1)]) hx hb dX4_waysFrom_75 hl (k := 4) rfl rfl (by decide) rfl (fun ls hl => ?_)
        refine lv_goto (tgt := 23) hx hb dX4_waysFrom_78 (by decide) ?_
        exact ih23 t_values (if (t_values x6.toNatClampNeg) - (t_caps x6.toNatClampNeg x1.toNatClampNeg) < y2 then y2 else (t_values x6.toNatClampNeg) - (t_caps x6.toNatClampNeg x1.toNatClampNeg)) (if (t_values x6.toNatClampNeg) + (t_caps x1.toNatClampNeg x6.toNatClampNeg) < y4 then (t_values x6.toNatClampNeg) + (t_caps x1.toNatClampNeg x6.toNatClampNeg) else y4) (x6 + (1 : Int32)) H locs ls h hP hD hS (lv_sub hl [3, 4, 2, 1, 0] rfl)
  unfold P_X4_ways3 at h
  refine lv_iload_n hx hb dX4_waysFrom_0 rfl (lv_at hl 1 rfl) ?_
  refine lv_if_lt (tgt := 9) hx hb dX4_waysFrom_1 (by decide) (fun hc => ?_) (fun hc => ?_)
  · replace h := h.1 hc
    refine lv_iconst (v := 0) hx hb dX4_waysFrom_9 (by decide) ?_
    subst hQ
    subst hAe
    exact W.iret (v := (0 : Int32)) hx hb hr (fun t ht _ => ⟨⟨(0 : Int32), t_values, rfl, h, by rw [ht]; exact hP, hD⟩, hS.F ht⟩) hS.2.2 dX4_waysFrom_10
  · replace h := h.2 hc
    refine lv_iload_n hx hb dX4_waysFrom_4 rfl (lv_at hl 1 rfl) ?_
    refine lv_iconst (v := 5) hx hb dX4_waysFrom_5 (by decide) ?_
    refine lv_icmp_lt (tgt := 11) hx hb dX4_waysFrom_6 (by decide) (fun hc => ?_) (fun hc => ?_)
    · replace h := h.1 hc
      refine lv_lconst (v := 0) hx hb dX4_waysFrom_11 (by decide) ?_
      refine lv_lstore_n (lv' := [(2, .long (0 : Int64)), (0, .ref A_t), (1, .int x1)]) hx hb dX4_waysFrom_12 rfl hl (by decide) rfl (fun ls hl => ?_)
      refine lv_aload_n hx hb dX4_waysFrom_13 rfl (lv_at hl 1 rfl) ?_
      refine va_get (D := D) (ci := 4) (v := .int t_top) (C := RX4) (T := TX4) (N := 4) hx hb hts iX4 hown hK.1 hP 0 rfl rfl 3 (by decide) f0 (fun _ h9 => h9) rfl dX4_waysFrom_14 ?_
      refine lv_i2l (v := t_top.toInt64) hx hb dX4_waysFrom_17 rfl ?_
      refine lv_lstore (lv' := [(4, .long t_top.toInt64), (2, .long (0 : Int64)), (0, .ref A_t), (1, .int x1)]) hx hb dX4_waysFrom_18 hl (by decide) rfl (fun ls hl => ?_)
      refine lv_iconst (v := 0) hx hb dX4_waysFrom_20 (by decide) ?_
      refine lv_istore (lv' := [(6, .int (0 : Int32)), (4, .long t_top.toInt64), (2, .long (0 : Int64)), (0, .ref A_t), (1, .int x1)]) hx hb dX4_waysFrom_21 hl (by decide) rfl (fun ls hl => ?_)
      obtain ⟨nn, h⟩ := h
      exact L23 nn t_values (0 : Int64) t_top.toInt64 (0 : Int32) s.heap [] ls h hP hD hS (lv_sub hl [3, 4, 2, 1, 0] rfl)
    · replace h := h.2 hc
      refine lv_iconst (v := 0) hx hb dX4_waysFrom_9 (by decide) ?_
      subst hQ
      subst hAe
      exact W.iret (v := (0 : Int32)) hx hb hr (fun t ht _ => ⟨⟨(0 : Int32), t_values, rfl, h, by rw [ht]; exact hP, hD⟩, hS.F ht⟩) hS.2.2 dX4_waysFrom_10
def LB_X4_ways4_109 (post : Int32 → (Nat → Int64) → Prop) (t_things : Int32) (t_top : Int32) (t_caps : Nat → Nat → Int64) (x1 : Int32) (y4 : Int64) (K_109 : (Nat → Int64) → Int32 → Int64 → Prop) (t_values : Nat → Int64) (x6 : Int32) (y7 : Int64) : Prop :=
  ((y4 < y7 → post x6 t_values) ∧ (¬ y4 < y7 → (vp_in x1 5 ∧ P_X4_ways3 (fun (r1 : Int32) (t_values_v1 : Nat → Int64) => K_109 t_values_v1 (x6 + r1) (y7 + (1 : Int64))) t_things t_top (vp_updL t_values x1.toNatClampNeg y7) t_caps (x1 + (1 : Int32)))))
noncomputable def L_X4_ways4_109 (post : Int32 → (Nat → Int64) → Prop) (t_things : Int32) (t_top : Int32) (t_caps : Nat → Nat → Int64) (x1 : Int32) (y4 : Int64) (n : Nat) : (Nat → Int64) → Int32 → Int64 → Prop := Nat.rec (motive := fun _ => (Nat → Int64) → Int32 → Int64 → Prop) (fun _ _ _ => False) (fun _ K => LB_X4_ways4_109 post t_things t_top t_caps x1 y4 K) n
def LB_X4_ways4_23 (post : Int32 → (Nat → Int64) → Prop) (t_things : Int32) (t_top : Int32) (t_values : Nat → Int64) (t_caps : Nat → Nat → Int64) (x1 : Int32) (K_23 : Int64 → Int64 → Int32 → Prop) (y2 : Int64) (y4 : Int64) (x6 : Int32) : Prop :=
  ((x1 ≤ x6 → ((¬ x1 = t_things - (1 : Int32) → ∃ n : Nat, L_X4_ways4_109 post t_things t_top t_caps x1 y4 n t_values (0 : Int32) y2) ∧ (x1 = t_things - (1 : Int32) → post ((if (y4 - y2) + (1 : Int64) < (0 : Int64) then (0 : Int64) else (y4 - y2) + (1 : Int64)).toInt32) t_values))) ∧ (¬ x1 ≤ x6 → (vp_in x6 5 ∧ (vp_in x6 5 ∧ (vp_in x1 5 ∧ (vp_in x6 5 ∧ (vp_in x1 5 ∧ (vp_in x6 5 ∧ K_23 (if (t_values x6.toNatClampNeg) - (t_caps x6.toNatClampNeg x1.toNatClampNeg) < y2 then y2 else (t_values x6.toNatClampNeg) - (t_caps x6.toNatClampNeg x1.toNatClampNeg)) (if (t_values x6.toNatClampNeg) + (t_caps x1.toNatClampNeg x6.toNatClampNeg) < y4 then (t_values x6.toNatClampNeg) + (t_caps x1.toNatClampNeg x6.toNatClampNeg) else y4) (x6 + (1 : Int32))))))))))
noncomputable def L_X4_ways4_23 (post : Int32 → (Nat → Int64) → Prop) (t_things : Int32) (t_top : Int32) (t_values : Nat → Int64) (t_caps : Nat → Nat → Int64) (x1 : Int32) (n : Nat) : Int64 → Int64 → Int32 → Prop := Nat.rec (motive := fun _ => Int64 → Int64 → Int32 → Prop) (fun _ _ _ => False) (fun _ K => LB_X4_ways4_23 post t_things t_top t_values t_caps x1 K) n
def P_X4_ways4 (post : Int32 → (Nat → Int64) → Prop) (t_things : Int32) (t_top : Int32) (t_values : Nat → Int64) (t_caps : Nat → Nat → Int64) (x1 : Int32) : Prop :=
  ((x1 < 0 → post (0 : Int32) t_values) ∧ (¬ x1 < 0 → ((x1 < (5 : Int32) → ∃ n : Nat, L_X4_ways4_23 post t_things t_top t_values t_caps x1 n (0 : Int64) t_top.toInt64 (0 : Int32)) ∧ (¬ x1 < (5 : Int32) → post (0 : Int32) t_values))))
set_option maxHeartbeats 4000000 in
set_option maxRecDepth 100000 in
theorem c_X4_ways4 (l : Launch) (D : va_G) (cy : Nat → ClassId) (sz : Nat) (A_t A_t_caps A_t_values : Nat) (R_t_caps : Nat → Nat) (t_things : Int32) (t_top : Int32) (t_values : Nat → Int64) (t_caps : Nat → Nat → Int64) (x1 : Int32) (post : Int32 → (Nat → Int64) → Prop) (h : P_X4_ways4 post t_things t_top t_values t_caps x1) : Met l yX4_waysFrom wsX4_waysFrom { frames := 5, cells := 0, slots := 0, locals := 172 } (pcW D cy ([(A_t, .inr (4, [.ref A_t_caps, .ref A_t_values, .int t_things, .int t_top])), (A_t_values, .inl (cy 2, 5, .inr (.inl t_values))), (A_t_caps, .inl (cy 4, 5, .inr (.inr (.inr (.inr (gx R_t_caps 5))))))] ++ gp R_t_caps t_caps 5 (cy 2) 5) sz [.ref A_t, .int x1]) (va_Qi (fun r (u : (Nat → Int64)) => post r u) (bW D ([(A_t, .inr (4, [.ref A_t_caps, .ref A_t_values, .int t_things, .int t_top])), (A_t_values, .inl (cy 2, 5, .inr (.inl t_values))), (A_t_caps, .inl (cy 4, 5, .inr (.inr (.inr (.inr (gx R_t_caps 5))))))] ++ gp R_t_caps t_caps 5 (cy 2) 5) sz (fun u => ([(A_t, .inr (4, [.ref A_t_caps, .ref A_t_values, .int t_things, .int t_top])), (A_t_values, .inl (cy 2, 5, .inr (.inl u))), (A_t_caps, .inl (cy 4, 5, .inr (.inr (.inr (.inr (gx R_t_caps 5))))))] ++ gp R_t_caps t_caps 5 (cy 2) 5))) (va_A ([(A_t, .inr (4, [.ref A_t_caps, .ref A_t_values, .int t_things, .int t_top])), (A_t_values, .inl (cy 2, 5, .inr (.inl t_values))), (A_t_caps, .inl (cy 4, 5, .inr (.inr (.inr (.inr (gx R_t_caps 5))))))] ++ gp R_t_caps t_caps 5 (cy 2) 5) sz)) 0 0 (va_A ([(A_t, .inr (4, [.ref A_t_caps, .ref A_t_values, .int t_things, .int t_top])), (A_t_values, .inl (cy 2, 5, .inr (.inl t_values))), (A_t_caps, .inl (cy 4, 5, .inr (.inr (.inr (.inr (gx R_t_caps 5))))))] ++ gp R_t_caps t_caps 5 (cy 2) 5) sz) := by
  refine Met.ofW (cc := cX4_waysFrom) (maxL := 9) (ret := (some .int)) (by decide) rfl ?_
  intro p e s m args below meth c s₁ B hml hv
  obtain ⟨rfl, hsz, hP, hK, hD0⟩ := hv
  have hx := B.exec
  have hb := B.bytes
  have hr := B.returns
  have hts := atoms_spec (ws := wsX4_waysFrom) B.pre
  have hown : s.vm.findClass RX4 = some m.cls := findClass_of_methodNamed B.named
  have hlocks := B.notSynchronized
  have CF : CallFix p m c cX4_waysFrom 9 s ([.ref A_t, .int x1] : List Value).toArray wsX4_waysFrom RX4 := ⟨hx, hb, hml, hown, hts⟩
  have f0 := hts (.fieldLink RX4 24 "GapBounds$Span" "top" "I") (by decide +kernel)
  have f1 := hts (.fieldLink RX4 20 "GapBounds$Span" "things" "I") (by decide +kernel)
  have f2 := hts (.fieldLink RX4 16 "GapBounds$Span" "values" "[J") (by decide +kernel)
  have f3 := hts (.methodLink RX4 59 Lib.MathLoose.max_long.x) (by decide +kernel)
  have f4 := hts (.static Lib.MathLoose.max_long.x) (by decide +kernel)
  have f5 := hts (.initialized "java/lang/Math") (by decide +kernel)
  have f6 := hts (.code Lib.MathLoose.max_long.x Lib.MathLoose.max_long.code 4 (some .long)) (by decide +kernel)
  have f7 := hts (.fieldLink RX4 11 "GapBounds$Span" "caps" "[[J") (by decide +kernel)
  have f8 := hts (.methodLink RX4 53 Lib.MathLoose.min_long.x) (by decide +kernel)
  have f9 := hts (.static Lib.MathLoose.min_long.x) (by decide +kernel)
  have f10 := hts (.code Lib.MathLoose.min_long.x Lib.MathLoose.min_long.code 4 (some .long)) (by decide +kernel)
  have iX4 : ∀ w ∈ u_ws RX4 TX4 4, w ∈ wsX4_waysFrom := by decide +kernel
  subst hsz
  obtain ⟨A, hAe⟩ : ∃ A, A = va_A ([(A_t, .inr (4, [.ref A_t_caps, .ref A_t_values, .int t_things, .int t_top])), (A_t_values, .inl (cy 2, 5, .inr (.inl t_values))), (A_t_caps, .inl (cy 4, 5, .inr (.inr (.inr (.inr (gx R_t_caps 5))))))] ++ gp R_t_caps t_caps 5 (cy 2) 5) s.heap.size := ⟨_, rfl⟩
  have hD : va_D A ([(A_t, .inr (4, [.ref A_t_caps, .ref A_t_values, .int t_things, .int t_top])), (A_t_values, .inl (cy 2, 5, .inr (.inl t_values))), (A_t_caps, .inl (cy 4, 5, .inr (.inr (.inr (.inr (gx R_t_caps 5))))))] ++ gp R_t_caps t_caps 5 (cy 2) 5) := by rw [hAe]; exact hD0.self
  have hA : ∀ q : Nat, s.heap.size ≤ q → A q := fun q hq => by rw [hAe]; exact Or.inr hq
  have hS : va_S A s.heap s.heap [] := va_S.rf
  have hl := lv_entry [.ref A_t, .int x1] (n := 9) (Nat.le_of_ble_eq_true rfl)
  rw [lg_entry_eq]
  generalize (lg_sl [.ref A_t, .int x1] ++ List.replicate (9 - (lg_sl [.ref A_t, .int x1]).length) Slot.unset).toArray = ls at hl ⊢
  have hl : lv_has ls 9 [(0, .ref A_t), (1, .int x1)] := hl
  refine W.gen (fun Q0 hQ => ?_)
  have L109 : ∀ (n109 : Nat) (t_values : Nat → Int64) (y4 : Int64) (x6 : Int32) (y7 : Int64) (H : Heap) (locs : List Loc) (ls : Array Slot), L_X4_ways4_109 post t_things t_top t_caps x1 y4 n109 t_values x6 y7 → va_P D vwCl ([(A_t, .inr (4, [.ref A_t_caps, .ref A_t_values, .int t_things, .int t_top])), (A_t_values, .inl (cy 2, 5, .inr (.inl t_values))), (A_t_caps, .inl (cy 4, 5, .inr (.inr (.inr (.inr (gx R_t_caps 5))))))] ++ gp R_t_caps t_caps 5 (cy 2) 5) H → va_D A ([(A_t, .inr (4, [.ref A_t_caps, .ref A_t_values, .int t_things, .int t_top])), (A_t_values, .inl (cy 2, 5, .inr (.inl t_values))), (A_t_caps, .inl (cy 4, 5, .inr (.inr (.inr (.inr (gx R_t_caps 5))))))] ++ gp R_t_caps t_caps 5 (cy 2) 5) → va_S A s.heap H locs → lv_has ls 9 [(0, .ref A_t), (1, .int x1), (4, .long y4), (6, .int x6), (7, .long y7)] → W p l e (headSpec wsX4_waysFrom { frames := 5, cells := 0, slots := 0, locals := 172 }).room s m ([.ref A_t, .int x1] : List Value).toArray below meth c H locs 0 0 Q0 (F0 m 109 ls []) := by
    intro n109
    induction n109 with
    | zero => intro t_values y4 x6 y7 H locs ls h; exact False.elim h
    | succ n109 ih109 =>
      intro t_values y4 x6 y7 H locs ls h hP hD hS hl
      have h : LB_X4_ways4_109 post t_things t_top t_caps x1 y4 (L_X4_ways4_109 post t_things t_top t_caps x1 y4 n109) t_values x6 y7 := h
      unfold LB_X4_ways4_109 at h
      refine lv_lload hx hb dX4_waysFrom_109 (lv_at hl 4 rfl) ?_
      refine lv_lload hx hb dX4_waysFrom_111 (lv_at hl 2 rfl) ?_
      refine lx_gt (tgt := 146) hx hb dX4_waysFrom_113 dX4_waysFrom_114 (by decide) (fun hc => ?_) (fun hc => ?_)
      · replace h := h.1 hc
        refine lv_iload hx hb dX4_waysFrom_146 (lv_at hl 3 rfl) ?_
        subst hQ
        subst hAe
        exact W.iret (v := x6) hx hb hr (fun t ht _ => ⟨⟨x6, t_values, rfl, h, by rw [ht]; exact hP, hD⟩, hS.F ht⟩) hS.2.2 dX4_waysFrom_148
      · replace h := h.2 hc
        refine lv_aload_n hx hb dX4_waysFrom_117 rfl (lv_at hl 0 rfl) ?_
        refine va_get (D := D) (ci := 4) (v := .ref A_t_values) (C := RX4) (T := TX4) (N := 4) hx hb hts iX4 hown hK.1 hP 0 rfl rfl 1 (by decide) f2 (fun _ h9 => h9) rfl dX4_waysFrom_118 ?_
        refine lv_iload_n hx hb dX4_waysFrom_121 rfl (lv_at hl 1 rfl) ?_
        refine lv_lload hx hb dX4_waysFrom_122 (lv_at hl 4 rfl) ?_
        refine va_last hx hb hK.1 hP hD hS 1 2 rfl rfl h.1 dX4_waysFrom_124 (fun H locs hP hD hS => ?_)
        replace h := h.2
        have hP : va_P D vwCl ([(A_t, .inr (4, [.ref A_t_caps, .ref A_t_values, .int t_things, .int t_top])), (A_t_values, .inl (cy 2, 5, .inr (.inl (vp_updL t_values x1.toNatClampNeg y7)))), (A_t_caps, .inl (cy 4, 5, .inr (.inr (.inr (.inr (gx R_t_caps 5))))))] ++ gp R_t_caps t_caps 5 (cy 2) 5) H := hP
        have hD : va_D A ([(A_t, .inr (4, [.ref A_t_caps, .ref A_t_values, .int t_things, .int t_top])), (A_t_values, .inl (cy 2, 5, .inr (.inl (vp_updL t_values x1.toNatClampNeg y7)))), (A_t_caps, .inl (cy 4, 5, .inr (.inr (.inr (.inr (gx R_t_caps 5))))))] ++ gp R_t_caps t_caps 5 (cy 2) 5) := hD
        refine lv_iload hx hb dX4_waysFrom_125 (lv_at hl 3 rfl) ?_
        refine lv_aload_n hx hb dX4_waysFrom_127 rfl (lv_at hl 0 rfl) ?_
        refine lv_iload_n hx hb dX4_waysFrom_128 rfl (lv_at hl 1 rfl) ?_
        refine lv_iconst (v := 1) hx hb dX4_waysFrom_129 (by decide) ?_
        refine lv_iadd hx hb dX4_waysFrom_130 ?_
        have hPn := gPa (a := []) (b := [(A_t, .inr (4, [.ref A_t_caps, .ref A_t_values, .int t_things, .int t_top])), (A_t_values, .inl (cy 2, 5, .inr (.inl (vp_updL t_values x1.toNatClampNeg y7)))), (A_t_caps, .inl (cy 4, 5, .inr (.inr (.inr (.inr (gx R_t_caps 5))))))]) (gPs hP [0, 1, 2] rfl)
        have hDn := gDa (a := []) (b := [(A_t, .inr (4, [.ref A_t_caps, .ref A_t_values, .int t_things, .int t_top])), (A_t_values, .inl (cy 2, 5, .inr (.inl (vp_updL t_values x1.toNatClampNeg y7)))), (A_t_caps, .inl (cy 4, 5, .inr (.inr (.inr (.inr (gx R_t_caps 5))))))]) (gDs hD [0, 1, 2] (by decide) rfl)
        have hPc := gPR hPn
        have hDc := gDR hDn
        refine mw_i (va_runS (As := [.ref A_t, .int (x1 + (1 : Int32))]) (rest := [.int x6]) CF (c_X4_ways3 l D cy H.size A_t A_t_caps A_t_values R_t_caps t_things t_top (vp_updL t_values x1.toNatClampNeg y7) t_caps (x1 + (1 : Int32)) _ h) (va_cwS 2 hts gX4_waysFrom_X4_waysFrom rfl rfl rfl qX4_waysFrom.2 ⟨Nat.le_of_ble_eq_true rfl, Nat.le_of_ble_eq_true rfl⟩) (mpSW hK hPc hDc) rfl rfl hl.1 rfl (lv_room (Nat.le_of_ble_eq_true rfl)) dX4_waysFrom_131 ⟨Nat.zero_le _, Nat.zero_le _⟩) hPn hDn hS hA (fun r1 t_values_v1 H locs h hP hD hS => ?_)
        have hP : va_P D vwCl ([(A_t, .inr (4, [.ref A_t_caps, .ref A_t_values, .int t_things, .int t_top])), (A_t_values, .inl (cy 2, 5, .inr (.inl t_values_v1))), (A_t_caps, .inl (cy 4, 5, .inr (.inr (.inr (.inr (gx R_t_caps 5))))))] ++ gp R_t_caps t_caps 5 (cy 2) 5) H := gPs (gPb (a := []) (b := [(A_t, .inr (4, [.ref A_t_caps, .ref A_t_values, .int t_things, .int t_top])), (A_t_values, .inl (cy 2, 5, .inr (.inl t_values_v1))), (A_t_caps, .inl (cy 4, 5, .inr (.inr (.inr (.inr (gx R_t_caps 5))))))]) (c := gp R_t_caps t_caps 5 (cy 2) 5) hP) [0, 1, 2] rfl
        have hD : va_D A ([(A_t, .inr (4, [.ref A_t_caps, .ref A_t_values, .int t_things, .int t_top])), (A_t_values, .inl (cy 2, 5, .inr (.inl t_values_v1))), (A_t_caps, .inl (cy 4, 5, .inr (.inr (.inr (.inr (gx R_t_caps 5))))))] ++ gp R_t_caps t_caps 5 (cy 2) 5) := gDs (gDb (a := []) (b := [(A_t, .inr (4, [.ref A_t_caps, .ref A_t_values, .int t_things, .int t_top])), (A_t_values, .inl (cy 2, 5, .inr (.inl t_values_v1))), (A_t_caps, .inl (cy 4, 5, .inr (.inr (.inr (.inr (gx R_t_caps 5))))))]) (c := gp R_t_caps t_caps 5 (cy 2) 5) hD) [0, 1, 2] (by decide) rfl
        refine lv_iadd hx hb dX4_waysFrom_134 ?_
        refine lv_istore (lv' := [(6, .int (x6 + r1)), (0, .ref A_t), (1, .int x1), (4, .long y4), (7, .long y7)]) hx hb dX4_waysFrom_135 hl (by decide) rfl (fun ls hl => ?_)
        refine lv_lload hx hb dX4_waysFrom_137 (lv_at hl 4 rfl) ?_
        refine lv_lconst (v := 1) hx hb dX4_waysFrom_139 (by decide) ?_
        refine lv_ladd hx hb dX4_waysFrom_140 ?_
        refine lv_lstore (lv' := [(7, .long (y7 + (1 : Int64))), (6, .int (x6 + r1)), (0, .ref A_t), (1, .int x1), (4, .long y4)]) hx hb dX4_waysFrom_141 hl (by decide) rfl (fun ls hl => ?_)
        refine lv_goto (tgt := 109) hx hb dX4_waysFrom_143 (by decide) ?_
        exact ih109 t_values_v1 y4 (x6 + r1) (y7 + (1 : Int64)) H locs ls h hP hD hS (lv_sub hl [2, 3, 4, 1, 0] rfl)
  have L23 : ∀ (n23 : Nat) (t_values : Nat → Int64) (y2 : Int64) (y4 : Int64) (x6 : Int32) (H : Heap) (locs : List Loc) (ls : Array Slot), L_X4_ways4_23 post t_things t_top t_values t_caps x1 n23 y2 y4 x6 → va_P D vwCl ([(A_t, .inr (4, [.ref A_t_caps, .ref A_t_values, .int t_things, .int t_top])), (A_t_values, .inl (cy 2, 5, .inr (.inl t_values))), (A_t_caps, .inl (cy 4, 5, .inr (.inr (.inr (.inr (gx R_t_caps 5))))))] ++ gp R_t_caps t_caps 5 (cy 2) 5) H → va_D A ([(A_t, .inr (4, [.ref A_t_caps, .ref A_t_values, .int t_things, .int t_top])), (A_t_values, .inl (cy 2, 5, .inr (.inl t_values))), (A_t_caps, .inl (cy 4, 5, .inr (.inr (.inr (.inr (gx R_t_caps 5))))))] ++ gp R_t_caps t_caps 5 (cy 2) 5) → va_S A s.heap H locs → lv_has ls 9 [(0, .ref A_t), (1, .int x1), (2, .long y2), (4, .long y4), (6, .int x6)] → W p l e (headSpec wsX4_waysFrom { frames := 5, cells := 0, slots := 0, locals := 172 }).room s m ([.ref A_t, .int x1] : List Value).toArray below meth c H locs 0 0 Q0 (F0 m 23 ls []) := by
    intro n23
    induction n23 with
    | zero => intro t_values y2 y4 x6 H locs ls h; exact False.elim h
    | succ n23 ih23 =>
      intro t_values y2 y4 x6 H locs ls h hP hD hS hl
      have h : LB_X4_ways4_23 post t_things t_top t_values t_caps x1 (L_X4_ways4_23 post t_things t_top t_values t_caps x1 n23) y2 y4 x6 := h
      unfold LB_X4_ways4_23 at h
      refine lv_iload hx hb dX4_waysFrom_23 (lv_at hl 4 rfl) ?_
      refine lv_iload_n hx hb dX4_waysFrom_25 rfl (lv_at hl 1 rfl) ?_
      refine lv_icmp_ge (tgt := 81) hx hb dX4_waysFrom_26 (by decide) (fun hc => ?_) (fun hc => ?_)
      · replace h := h.1 hc
        refine lv_iload_n hx hb dX4_waysFrom_81 rfl (lv_at hl 1 rfl) ?_
        refine lv_aload_n hx hb dX4_waysFrom_82 rfl (lv_at hl 0 rfl) ?_
        refine va_get (D := D) (ci := 4) (v := .int t_things) (C := RX4) (T := TX4) (N := 4) hx hb hts iX4 hown hK.1 hP 0 rfl rfl 2 (by decide) f1 (fun _ h9 => h9) rfl dX4_waysFrom_83 ?_
        refine lv_iconst (v := 1) hx hb dX4_waysFrom_86 (by decide) ?_
        refine lv_isub hx hb dX4_waysFrom_87 ?_
        refine lv_icmp_ne (tgt := 103) hx hb dX4_waysFrom_88 (by decide) (fun hc => ?_) (fun hc => ?_)
        · replace h := h.1 hc
          refine lv_iconst (v := 0) hx hb dX4_waysFrom_103 (by decide) ?_
          refine lv_istore (lv' := [(6, .int (0 : Int32)), (0, .ref A_t), (1, .int x1), (2, .long y2), (4, .long y4)]) hx hb dX4_waysFrom_104 hl (by decide) rfl (fun ls hl => ?_)
          refine lv_lload_n hx hb dX4_waysFrom_106 rfl (lv_at hl 3 rfl) ?_
          refine lv_lstore (lv' := [(7, .long y2), (6, .int (0 : Int32)), (0, .ref A_t), (1, .int x1), (2, .long y2), (4, .long y4)]) hx hb dX4_waysFrom_107 hl (by decide) rfl (fun ls hl => ?_)
          obtain ⟨nn, h⟩ := h
          exact L109 nn t_values y4 (0 : Int32) y2 H locs ls h hP hD hS (lv_sub hl [2, 3, 5, 1, 0] rfl)
        · replace h := h.2 hc
          refine lv_lconst (v := 0) hx hb dX4_waysFrom_91 (by decide) ?_
          refine lv_lload hx hb dX4_waysFrom_92 (lv_at hl 3 rfl) ?_
          refine lv_lload_n hx hb dX4_waysFrom_94 rfl (lv_at hl 2 rfl) ?_
          refine lv_lsub hx hb dX4_waysFrom_95 ?_
          refine lv_lconst (v := 1) hx hb dX4_waysFrom_96 (by decide) ?_
          refine lv_ladd hx hb dX4_waysFrom_97 ?_
          refine va_mmax_long hx hb (hml.trans hl.1.symm) hown f3 f4 f5 f6 (Nat.le_of_ble_eq_true rfl) (Nat.le_of_ble_eq_true rfl) (Nat.le_of_ble_eq_true rfl) (Nat.le_of_ble_eq_true rfl) dX4_waysFrom_98 ?_
          refine lv_l2i (v := (if (y4 - y2) + (1 : Int64) < (0 : Int64) then (0 : Int64) else (y4 - y2) + (1 : Int64)).toInt32) hx hb dX4_waysFrom_101 rfl ?_
          subst hQ
          subst hAe
          exact W.iret (v := (if (y4 - y2) + (1 : Int64) < (0 : Int64) then (0 : Int64) else (y4 - y2) + (1 : Int64)).toInt32) hx hb hr (fun t ht _ => ⟨⟨(if (y4 - y2) + (1 : Int64) < (0 : Int64) then (0 : Int64) else (y4 - y2) + (1 : Int64)).toInt32, t_values, rfl, h, by rw [ht]; exact hP, hD⟩, hS.F ht⟩) hS.2.2 dX4_waysFrom_102
      · replace h := h.2 hc
        refine lv_lload_n hx hb dX4_waysFrom_29 rfl (lv_at hl 2 rfl) ?_
        refine lv_aload_n hx hb dX4_waysFrom_30 rfl (lv_at hl 0 rfl) ?_
        refine va_get (D := D) (ci := 4) (v := .ref A_t_values) (C := RX4) (T := TX4) (N := 4) hx hb hts iX4 hown hK.1 hP 0 rfl rfl 1 (by decide) f2 (fun _ h9 => h9) rfl dX4_waysFrom_31 ?_
        refine lv_iload hx hb dX4_waysFrom_34 (lv_at hl 4 rfl) ?_
        refine va_lald hx hb hK.1 hP 1 2 rfl rfl h.1 dX4_waysFrom_36 ?_
        replace h := h.2
        refine lv_aload_n hx hb dX4_waysFrom_37 rfl (lv_at hl 0 rfl) ?_
        refine va_get (D := D) (ci := 4) (v := .ref A_t_caps) (C := RX4) (T := TX4) (N := 4) hx hb hts iX4 hown hK.1 hP 0 rfl rfl 0 (by decide) f7 (fun _ h9 => h9) rfl dX4_waysFrom_38 ?_
        refine lv_iload hx hb dX4_waysFrom_41 (lv_at hl 4 rfl) ?_
        refine mx_alda hx hb hK.1 hP 2 4 rfl rfl h.1 dX4_waysFrom_43 ?_
        have hv2 := h.1
        replace h := h.2
        refine lv_iload_n hx hb dX4_waysFrom_44 rfl (lv_at hl 1 rfl) ?_
        refine va_lald hx hb hK.1 hP (3 + x6.toNatClampNeg) 2 (gp_at (X := [(A_t, .inr (4, [.ref A_t_caps, .ref A_t_values, .int t_things, .int t_top])), (A_t_values, .inl (cy 2, 5, .inr (.inl t_values))), (A_t_caps, .inl (cy 4, 5, .inr (.inr (.inr (.inr (gx R_t_caps 5))))))]) (vp_lt (n := 5) (by assumption))) rfl h.1 dX4_waysFrom_45 ?_
        replace h := h.2
        refine lv_lsub hx hb dX4_waysFrom_46 ?_
        refine va_mmax_long hx hb (hml.trans hl.1.symm) hown f3 f4 f5 f6 (Nat.le_of_ble_eq_true rfl) (Nat.le_of_ble_eq_true rfl) (Nat.le_of_ble_eq_true rfl) (Nat.le_of_ble_eq_true rfl) dX4_waysFrom_47 ?_
        refine lv_lstore_n (lv' := [(2, .long (if (t_values x6.toNatClampNeg) - (t_caps x6.toNatClampNeg x1.toNatClampNeg) < y2 then y2 else (t_values x6.toNatClampNeg) - (t_caps x6.toNatClampNeg x1.toNatClampNeg))), (0, .ref A_t), (1, .int x1), (4, .long y4), (6, .int x6)]) hx hb dX4_waysFrom_50 rfl hl (by decide) rfl (fun ls hl => ?_)
        refine lv_lload hx hb dX4_waysFrom_51 (lv_at hl 3 rfl) ?_
        refine lv_aload_n hx hb dX4_waysFrom_53 rfl (lv_at hl 1 rfl) ?_
        refine va_get (D := D) (ci := 4) (v := .ref A_t_values) (C := RX4) (T := TX4) (N := 4) hx hb hts iX4 hown hK.1 hP 0 rfl rfl 1 (by decide) f2 (fun _ h9 => h9) rfl dX4_waysFrom_54 ?_
        refine lv_iload hx hb dX4_waysFrom_57 (lv_at hl 4 rfl) ?_
        refine va_lald hx hb hK.1 hP 1 2 rfl rfl h.1 dX4_waysFrom_59 ?_
        replace h := h.2
        refine lv_aload_n hx hb dX4_waysFrom_60 rfl (lv_at hl 1 rfl) ?_
        refine va_get (D := D) (ci := 4) (v := .ref A_t_caps) (C := RX4) (T := TX4) (N := 4) hx hb hts iX4 hown hK.1 hP 0 rfl rfl 0 (by decide) f7 (fun _ h9 => h9) rfl dX4_waysFrom_61 ?_
        refine lv_iload_n hx hb dX4_waysFrom_64 rfl (lv_at hl 2 rfl) ?_
        refine mx_alda hx hb hK.1 hP 2 4 rfl rfl h.1 dX4_waysFrom_65 ?_
        have hv3 := h.1
        replace h := h.2
        refine lv_iload hx hb dX4_waysFrom_66 (lv_at hl 4 rfl) ?_
        refine va_lald hx hb hK.1 hP (3 + x1.toNatClampNeg) 2 (gp_at (X := [(A_t, .inr (4, [.ref A_t_caps, .ref A_t_values, .int t_things, .int t_top])), (A_t_values, .inl (cy 2, 5, .inr (.inl t_values))), (A_t_caps, .inl (cy 4, 5, .inr (.inr (.inr (.inr (gx R_t_caps 5))))))]) (vp_lt (n := 5) (by assumption))) rfl h.1 dX4_waysFrom_68 ?_
        replace h := h.2
        refine lv_ladd hx hb dX4_waysFrom_69 ?_
        refine va_mmin_long hx hb (hml.trans hl.1.symm) hown f8 f9 f5 f10 (Nat.le_of_ble_eq_true rfl) (Nat.le_of_ble_eq_true rfl) (Nat.le_of_ble_eq_true rfl) (Nat.le_of_ble_eq_true rfl) dX4_waysFrom_70 ?_
        refine lv_lstore (lv' := [(4, .long (if (t_values x6.toNatClampNeg) + (t_caps x1.toNatClampNeg x6.toNatClampNeg) < y4 then (t_values x6.toNatClampNeg) + (t_caps x1.toNatClampNeg x6.toNatClampNeg) else y4)), (2, .long (if (t_values x6.toNatClampNeg) - (t_caps x6.toNatClampNeg x1.toNatClampNeg) < y2 then y2 else (t_values x6.toNatClampNeg) - (t_caps x6.toNatClampNeg x1.toNatClampNeg))), (0, .ref A_t), (1, .int x1), (6, .int x6)]) hx hb dX4_waysFrom_73 hl (by decide) rfl (fun ls hl => ?_)
        refine lv_iinc (v := x6 + (1 : Int32)) (lv' := [(6, .int (x6 + (1 : Int32))), (4, .long (if (t_values x6.toNatClampNeg) + (t_caps x1.toNatClampNeg x6.toNatClampNeg) < y4 then (t_values x6.toNatClampNeg) + (t_caps x1.toNatClampNeg x6.toNatClampNeg) else y4)), (2, .long (if (t_values x6.toNatClampNeg) - (t_caps x6.toNatClampNeg x1.toNatClampNeg) < y2 then y2 else (t_values x6.toNatClampNeg) - (t_caps x6.toNatClampNeg x1.toNatClampNeg))), (0, .ref A_t), (1, .int x1)]) hx hb dX4_waysFrom_75 hl (k := 4) rfl rfl (by decide) rfl (fun ls hl => ?_)
        refine lv_goto (tgt := 23) hx hb dX4_waysFrom_78 (by decide) ?_
        exact ih23 t_values (if (t_values x6.toNatClampNeg) - (t_caps x6.toNatClampNeg x1.toNatClampNeg) < y2 then y2 else (t_values x6.toNatClampNeg) - (t_caps x6.toNatClampNeg x1.toNatClampNeg)) (if (t_values x6.toNatClampNeg) + (t_caps x1.toNatClampNeg x6.toNatClampNeg) < y4 then (t_values x6.toNatClampNeg) + (t_caps x1.toNatClampNeg x6.toNatClampNeg) else y4) (x6 + (1 : Int32)) H locs ls h hP hD hS (lv_sub hl [3, 4, 2, 1, 0] rfl)
  unfold P_X4_ways4 at h
  refine lv_iload_n hx hb dX4_waysFrom_0 rfl (lv_at hl 1 rfl) ?_
  refine lv_if_lt (tgt := 9) hx hb dX4_waysFrom_1 (by decide) (fun hc => ?_) (fun hc => ?_)
  · replace h := h.1 hc
    refine lv_iconst (v := 0) hx hb dX4_waysFrom_9 (by decide) ?_
    subst hQ
    subst hAe
    exact W.iret (v := (0 : Int32)) hx hb hr (fun t ht _ => ⟨⟨(0 : Int32), t_values, rfl, h, by rw [ht]; exact hP, hD⟩, hS.F ht⟩) hS.2.2 dX4_waysFrom_10
  · replace h := h.2 hc
    refine lv_iload_n hx hb dX4_waysFrom_4 rfl (lv_at hl 1 rfl) ?_
    refine lv_iconst (v := 5) hx hb dX4_waysFrom_5 (by decide) ?_
    refine lv_icmp_lt (tgt := 11) hx hb dX4_waysFrom_6 (by decide) (fun hc => ?_) (fun hc => ?_)
    · replace h := h.1 hc
      refine lv_lconst (v := 0) hx hb dX4_waysFrom_11 (by decide) ?_
      refine lv_lstore_n (lv' := [(2, .long (0 : Int64)), (0, .ref A_t), (1, .int x1)]) hx hb dX4_waysFrom_12 rfl hl (by decide) rfl (fun ls hl => ?_)
      refine lv_aload_n hx hb dX4_waysFrom_13 rfl (lv_at hl 1 rfl) ?_
      refine va_get (D := D) (ci := 4) (v := .int t_top) (C := RX4) (T := TX4) (N := 4) hx hb hts iX4 hown hK.1 hP 0 rfl rfl 3 (by decide) f0 (fun _ h9 => h9) rfl dX4_waysFrom_14 ?_
      refine lv_i2l (v := t_top.toInt64) hx hb dX4_waysFrom_17 rfl ?_
      refine lv_lstore (lv' := [(4, .long t_top.toInt64), (2, .long (0 : Int64)), (0, .ref A_t), (1, .int x1)]) hx hb dX4_waysFrom_18 hl (by decide) rfl (fun ls hl => ?_)
      refine lv_iconst (v := 0) hx hb dX4_waysFrom_20 (by decide) ?_
      refine lv_istore (lv' := [(6, .int (0 : Int32)), (4, .long t_top.toInt64), (2, .long (0 : Int64)), (0, .ref A_t), (1, .int x1)]) hx hb dX4_waysFrom_21 hl (by decide) rfl (fun ls hl => ?_)
      obtain ⟨nn, h⟩ := h
      exact L23 nn t_values (0 : Int64) t_top.toInt64 (0 : Int32) s.heap [] ls h hP hD hS (lv_sub hl [3, 4, 2, 1, 0] rfl)
    · replace h := h.2 hc
      refine lv_iconst (v := 0) hx hb dX4_waysFrom_9 (by decide) ?_
      subst hQ
      subst hAe
      exact W.iret (v := (0 : Int32)) hx hb hr (fun t ht _ => ⟨⟨(0 : Int32), t_values, rfl, h, by rw [ht]; exact hP, hD⟩, hS.F ht⟩) hS.2.2 dX4_waysFrom_10
theorem qX7_ways : yX7_ways.cls = RX7 ∧ yX7_ways.cls ≠ "java/lang/invoke/MethodHandle" ∧ yX7_ways.cls ≠ "java/lang/invoke/VarHandle" ∧ (parseMethodDescriptor yX7_ways.desc).map (fun d => d.parameters.length) = some 2 := by decide +kernel
def P_X7_ways (post : Int32 → Int32 → Int32 → (Nat → Int64) → (Nat → Nat → Int64) → Prop) (t_span_things : Int32) (t_span_top : Int32) (t_now_size : Int32) (t_now_upper : Nat → Int32) (t_now_lower : Nat → Int32) (t_now_limits : Nat → Int32) (t_now_stricts : Nat → Int32) (t_span_values : Nat → Int64) (t_span_caps : Nat → Nat → Int64) (x1 : Int32) (x2 : Int32) : Prop :=
  ((x1 < (1 : Int32) → post (-1 : Int32) t_span_things t_span_top t_span_values t_span_caps) ∧ (¬ x1 < (1 : Int32) → (((5 : Int32) < x1 → post (-1 : Int32) t_span_things t_span_top t_span_values t_span_caps) ∧ (¬ (5 : Int32) < x1 → ((x2 < 0 → post (-1 : Int32) t_span_things t_span_top t_span_values t_span_caps) ∧ (¬ x2 < 0 → ((x2 ≤ (6 : Int32) → P_X4_prepare (fun (t_span_things_v1 : Int32) (t_span_top_v1 : Int32) (t_span_caps_v1 : Nat → Nat → Int64) => P_X4_ways4 (fun (r2 : Int32) (t_span_values_v2 : Nat → Int64) => post r2 t_span_things_v1 t_span_top_v1 t_span_values_v2 t_span_caps_v1) t_span_things_v1 t_span_top_v1 t_span_values t_span_caps_v1 (0 : Int32)) t_now_size t_now_upper t_now_lower t_now_limits t_now_stricts t_span_caps x1 x2) ∧ (¬ x2 ≤ (6 : Int32) → post (-1 : Int32) t_span_things t_span_top t_span_values t_span_caps))))))))
set_option maxHeartbeats 4000000 in
set_option maxRecDepth 100000 in
theorem c_X7_ways (l : Launch) (D : va_G) (cy : Nat → ClassId) (sz : Nat) (A_t A_t_tape A_t_now A_t_images A_t_imageMade A_t_sheets A_t_rows A_t_clash A_t_span A_t_reader A_t_span_caps A_t_span_values A_t_now_upper A_t_now_lower A_t_now_limits A_t_now_stricts A_t_now_marks : Nat) (R_t_span_caps : Nat → Nat) (t_latestTorn : Int32) (t_span_things : Int32) (t_span_top : Int32) (t_now_size : Int32) (t_now_marked : Int32) (t_now_wholeness : Int32) (t_now_upper : Nat → Int32) (t_now_lower : Nat → Int32) (t_now_limits : Nat → Int32) (t_now_stricts : Nat → Int32) (t_span_values : Nat → Int64) (t_span_caps : Nat → Nat → Int64) (x1 : Int32) (x2 : Int32) (post : Int32 → Int32 → Int32 → (Nat → Int64) → (Nat → Nat → Int64) → Prop) (h : P_X7_ways post t_span_things t_span_top t_now_size t_now_upper t_now_lower t_now_limits t_now_stricts t_span_values t_span_caps x1 x2) : Met l yX7_ways wsX7_ways { frames := 6, cells := 0, slots := 0, locals := 200 } (pcW D cy ([(A_t, .inr (7, [.ref A_t_tape, .ref A_t_now, .ref A_t_images, .ref A_t_imageMade, .ref A_t_sheets, .ref A_t_rows, .ref A_t_clash, .ref A_t_span, .ref A_t_reader, .int t_latestTorn])), (A_t_span, .inr (4, [.ref A_t_span_caps, .ref A_t_span_values, .int t_span_things, .int t_span_top])), (A_t_now, .inr (5, [.ref A_t_now_upper, .ref A_t_now_lower, .ref A_t_now_limits, .ref A_t_now_stricts, .ref A_t_now_marks, .int t_now_size, .int t_now_marked, .int t_now_wholeness])), (A_t_now_upper, .inl (cy 1, 24, .inl t_now_upper)), (A_t_now_lower, .inl (cy 1, 24, .inl t_now_lower)), (A_t_now_limits, .inl (cy 1, 24, .inl t_now_limits)), (A_t_now_stricts, .inl (cy 1, 24, .inl t_now_stricts)), (A_t_span_values, .inl (cy 2, 5, .inr (.inl t_span_values))), (A_t_span_caps, .inl (cy 4, 5, .inr (.inr (.inr (.inr (gx R_t_span_caps 5))))))] ++ gp R_t_span_caps t_span_caps 5 (cy 2) 5) sz [.ref A_t, .int x1, .int x2]) (va_Qi (fun r (u : Int32 × Int32 × (Nat → Int64) × (Nat → Nat → Int64)) => post r u.1 u.2.1 u.2.2.1 u.2.2.2) (bW D ([(A_t, .inr (7, [.ref A_t_tape, .ref A_t_now, .ref A_t_images, .ref A_t_imageMade, .ref A_t_sheets, .ref A_t_rows, .ref A_t_clash, .ref A_t_span, .ref A_t_reader, .int t_latestTorn])), (A_t_span, .inr (4, [.ref A_t_span_caps, .ref A_t_span_values, .int t_span_things, .int t_span_top])), (A_t_now, .inr (5, [.ref A_t_now_upper, .ref A_t_now_lower, .ref A_t_now_limits, .ref A_t_now_stricts, .ref A_t_now_marks, .int t_now_size, .int t_now_marked, .int t_now_wholeness])), (A_t_now_upper, .inl (cy 1, 24, .inl t_now_upper)), (A_t_now_lower, .inl (cy 1, 24, .inl t_now_lower)), (A_t_now_limits, .inl (cy 1, 24, .inl t_now_limits)), (A_t_now_stricts, .inl (cy 1, 24, .inl t_now_stricts)), (A_t_span_values, .inl (cy 2, 5, .inr (.inl t_span_values))), (A_t_span_caps, .inl (cy 4, 5, .inr (.inr (.inr (.inr (gx R_t_span_caps 5))))))] ++ gp R_t_span_caps t_span_caps 5 (cy 2) 5) sz (fun u => ([(A_t, .inr (7, [.ref A_t_tape, .ref A_t_now, .ref A_t_images, .ref A_t_imageMade, .ref A_t_sheets, .ref A_t_rows, .ref A_t_clash, .ref A_t_span, .ref A_t_reader, .int t_latestTorn])), (A_t_span, .inr (4, [.ref A_t_span_caps, .ref A_t_span_values, .int (u.1), .int (u.2.1)])), (A_t_now, .inr (5, [.ref A_t_now_upper, .ref A_t_now_lower, .ref A_t_now_limits, .ref A_t_now_stricts, .ref A_t_now_marks, .int t_now_size, .int t_now_marked, .int t_now_wholeness])), (A_t_now_upper, .inl (cy 1, 24, .inl t_now_upper)), (A_t_now_lower, .inl (cy 1, 24, .inl t_now_lower)), (A_t_now_limits, .inl (cy 1, 24, .inl t_now_limits)), (A_t_now_stricts, .inl (cy 1, 24, .inl t_now_stricts)), (A_t_span_values, .inl (cy 2, 5, .inr (.inl u.2.2.1))), (A_t_span_caps, .inl (cy 4, 5, .inr (.inr (.inr (.inr (gx R_t_span_caps 5))))))] ++ gp R_t_span_caps u.2.2.2 5 (cy 2) 5))) (va_A ([(A_t, .inr (7, [.ref A_t_tape, .ref A_t_now, .ref A_t_images, .ref A_t_imageMade, .ref A_t_sheets, .ref A_t_rows, .ref A_t_clash, .ref A_t_span, .ref A_t_reader, .int t_latestTorn])), (A_t_span, .inr (4, [.ref A_t_span_caps, .ref A_t_span_values, .int t_span_things, .int t_span_top])), (A_t_now, .inr (5, [.ref A_t_now_upper, .ref A_t_now_lower, .ref A_t_now_limits, .ref A_t_now_stricts, .ref A_t_now_marks, .int t_now_size, .int t_now_marked, .int t_now_wholeness])), (A_t_now_upper, .inl (cy 1, 24, .inl t_now_upper)), (A_t_now_lower, .inl (cy 1, 24, .inl t_now_lower)), (A_t_now_limits, .inl (cy 1, 24, .inl t_now_limits)), (A_t_now_stricts, .inl (cy 1, 24, .inl t_now_stricts)), (A_t_span_values, .inl (cy 2, 5, .inr (.inl t_span_values))), (A_t_span_caps, .inl (cy 4, 5, .inr (.inr (.inr (.inr (gx R_t_span_caps 5))))))] ++ gp R_t_span_caps t_span_caps 5 (cy 2) 5) sz)) 0 0 (va_A ([(A_t, .inr (7, [.ref A_t_tape, .ref A_t_now, .ref A_t_images, .ref A_t_imageMade, .ref A_t_sheets, .ref A_t_rows, .ref A_t_clash, .ref A_t_span, .ref A_t_reader, .int t_latestTorn])), (A_t_span, .inr (4, [.ref A_t_span_caps, .ref A_t_span_values, .int t_span_things, .int t_span_top])), (A_t_now, .inr (5, [.ref A_t_now_upper, .ref A_t_now_lower, .ref A_t_now_limits, .ref A_t_now_stricts, .ref A_t_now_marks, .int t_now_size, .int t_now_marked, .int t_now_wholeness])), (A_t_now_upper, .inl (cy 1, 24, .inl t_now_upper)), (A_t_now_lower, .inl (cy 1, 24, .inl t_now_lower)), (A_t_now_limits, .inl (cy 1, 24, .inl t_now_limits)), (A_t_now_stricts, .inl (cy 1, 24, .inl t_now_stricts)), (A_t_span_values, .inl (cy 2, 5, .inr (.inl t_span_values))), (A_t_span_caps, .inl (cy 4, 5, .inr (.inr (.inr (.inr (gx R_t_span_caps 5))))))] ++ gp R_t_span_caps t_span_caps 5 (cy 2) 5) sz) := by
  refine Met.ofW (cc := cX7_ways) (maxL := 3) (ret := (some .int)) (by decide) rfl ?_
  intro p e s m args below meth c s₁ B hml hv
  obtain ⟨rfl, hsz, hP, hK, hD0⟩ := hv
  have hx := B.exec
  have hb := B.bytes
  have hr := B.returns
  have hts := atoms_spec (ws := wsX7_ways) B.pre
  have hown : s.vm.findClass RX7 = some m.cls := findClass_of_methodNamed B.named
  have hlocks := B.notSynchronized
  have CF : CallFix p m c cX7_ways 3 s ([.ref A_t, .int x1, .int x2] : List Value).toArray wsX7_ways RX7 := ⟨hx, hb, hml, hown, hts⟩
  have f0 := hts (.fieldLink RX7 48 "GapBounds" "span" "LGapBounds$Span;") (by decide +kernel)
  have f1 := hts (.fieldLink RX7 10 "GapBounds" "now" "LGapBounds$Store;") (by decide +kernel)
  have f2 := hts (.initialized RX4) (by decide +kernel)
  have f3 := hts (.static yX4_waysFrom) (by decide +kernel)
  have iX7 : ∀ w ∈ u_ws RX7 TX7 10, w ∈ wsX7_ways := by decide +kernel
  subst hsz
  obtain ⟨A, hAe⟩ : ∃ A, A = va_A ([(A_t, .inr (7, [.ref A_t_tape, .ref A_t_now, .ref A_t_images, .ref A_t_imageMade, .ref A_t_sheets, .ref A_t_rows, .ref A_t_clash, .ref A_t_span, .ref A_t_reader, .int t_latestTorn])), (A_t_span, .inr (4, [.ref A_t_span_caps, .ref A_t_span_values, .int t_span_things, .int t_span_top])), (A_t_now, .inr (5, [.ref A_t_now_upper, .ref A_t_now_lower, .ref A_t_now_limits, .ref A_t_now_stricts, .ref A_t_now_marks, .int t_now_size, .int t_now_marked, .int t_now_wholeness])), (A_t_now_upper, .inl (cy 1, 24, .inl t_now_upper)), (A_t_now_lower, .inl (cy 1, 24, .inl t_now_lower)), (A_t_now_limits, .inl (cy 1, 24, .inl t_now_limits)), (A_t_now_stricts, .inl (cy 1, 24, .inl t_now_stricts)), (A_t_span_values, .inl (cy 2, 5, .inr (.inl t_span_values))), (A_t_span_caps, .inl (cy 4, 5, .inr (.inr (.inr (.inr (gx R_t_span_caps 5))))))] ++ gp R_t_span_caps t_span_caps 5 (cy 2) 5) s.heap.size := ⟨_, rfl⟩
  have hD : va_D A ([(A_t, .inr (7, [.ref A_t_tape, .ref A_t_now, .ref A_t_images, .ref A_t_imageMade, .ref A_t_sheets, .ref A_t_rows, .ref A_t_clash, .ref A_t_span, .ref A_t_reader, .int t_latestTorn])), (A_t_span, .inr (4, [.ref A_t_span_caps, .ref A_t_span_values, .int t_span_things, .int t_span_top])), (A_t_now, .inr (5, [.ref A_t_now_upper, .ref A_t_now_lower, .ref A_t_now_limits, .ref A_t_now_stricts, .ref A_t_now_marks, .int t_now_size, .int t_now_marked, .int t_now_wholeness])), (A_t_now_upper, .inl (cy 1, 24, .inl t_now_upper)), (A_t_now_lower, .inl (cy 1, 24, .inl t_now_lower)), (A_t_now_limits, .inl (cy 1, 24, .inl t_now_limits)), (A_t_now_stricts, .inl (cy 1, 24, .inl t_now_stricts)), (A_t_span_values, .inl (cy 2, 5, .inr (.inl t_span_values))), (A_t_span_caps, .inl (cy 4, 5, .inr (.inr (.inr (.inr (gx R_t_span_caps 5))))))] ++ gp R_t_span_caps t_span_caps 5 (cy 2) 5) := by rw [hAe]; exact hD0.self
  have hA : ∀ q : Nat, s.heap.size ≤ q → A q := fun q hq => by rw [hAe]; exact Or.inr hq
  have hS : va_S A s.heap s.heap [] := va_S.rf
  have hl := lv_entry [.ref A_t, .int x1, .int x2] (n := 3) (Nat.le_of_ble_eq_true rfl)
  rw [lg_entry_eq]
  generalize (lg_sl [.ref A_t, .int x1, .int x2] ++ List.replicate (3 - (lg_sl [.ref A_t, .int x1, .int x2]).length) Slot.unset).toArray = ls at hl ⊢
  have hl : lv_has ls 3 [(0, .ref A_t), (1, .int x1), (2, .int x2)] := hl
  refine W.gen (fun Q0 hQ => ?_)
  unfold P_X7_ways at h
  refine lv_iload_n hx hb dX7_ways_0 rfl (lv_at hl 1 rfl) ?_
  refine lv_iconst (v := 1) hx hb dX7_ways_1 (by decide) ?_
  refine lv_icmp_lt (tgt := 20) hx hb dX7_ways_2 (by decide) (fun hc => ?_) (fun hc => ?_)
  · replace h := h.1 hc
    refine lv_iconst (v := -1) hx hb dX7_ways_20 (by decide) ?_
    subst hQ
    subst hAe
    exact W.iret (v := (-1 : Int32)) hx hb hr (fun t ht _ => ⟨⟨(-1 : Int32), (t_span_things, t_span_top, t_span_values, t_span_caps), rfl, h, by rw [ht]; exact hP, hD⟩, hS.F ht⟩) hS.2.2 dX7_ways_21
  · replace h := h.2 hc
    refine lv_iload_n hx hb dX7_ways_5 rfl (lv_at hl 1 rfl) ?_
    refine lv_iconst (v := 5) hx hb dX7_ways_6 (by decide) ?_
    refine lv_icmp_gt (tgt := 20) hx hb dX7_ways_7 (by decide) (fun hc => ?_) (fun hc => ?_)
    · replace h := h.1 hc
      refine lv_iconst (v := -1) hx hb dX7_ways_20 (by decide) ?_
      subst hQ
      subst hAe
      exact W.iret (v := (-1 : Int32)) hx hb hr (fun t ht _ => ⟨⟨(-1 : Int32), (t_span_things, t_span_top, t_span_values, t_span_caps), rfl, h, by rw [ht]; exact hP, hD⟩, hS.F ht⟩) hS.2.2 dX7_ways_21
    · replace h := h.2 hc
      refine lv_iload_n hx hb dX7_ways_10 rfl (lv_at hl 2 rfl) ?_
      refine lv_if_lt (tgt := 20) hx hb dX7_ways_11 (by decide) (fun hc => ?_) (fun hc => ?_)
      · replace h := h.1 hc
        refine lv_iconst (v := -1) hx hb dX7_ways_20 (by decide) ?_
        subst hQ
        subst hAe
        exact W.iret (v := (-1 : Int32)) hx hb hr (fun t ht _ => ⟨⟨(-1 : Int32), (t_span_things, t_span_top, t_span_values, t_span_caps), rfl, h, by rw [ht]; exact hP, hD⟩, hS.F ht⟩) hS.2.2 dX7_ways_21
      · replace h := h.2 hc
        refine lv_iload_n hx hb dX7_ways_14 rfl (lv_at hl 2 rfl) ?_
        refine lv_bipush (v := 6) hx hb dX7_ways_15 (by decide) ?_
        refine lv_icmp_le (tgt := 22) hx hb dX7_ways_17 (by decide) (fun hc => ?_) (fun hc => ?_)
        · replace h := h.1 hc
          refine lv_aload_n hx hb dX7_ways_22 rfl (lv_at hl 0 rfl) ?_
          refine va_get (D := D) (ci := 7) (v := .ref A_t_span) (C := RX7) (T := TX7) (N := 10) hx hb hts iX7 hown hK.1 hP 0 rfl rfl 7 (by decide) f0 (fun _ h9 => h9) rfl dX7_ways_23 ?_
          refine lv_aload_n hx hb dX7_ways_26 rfl (lv_at hl 0 rfl) ?_
          refine va_get (D := D) (ci := 7) (v := .ref A_t_now) (C := RX7) (T := TX7) (N := 10) hx hb hts iX7 hown hK.1 hP 0 rfl rfl 1 (by decide) f1 (fun _ h9 => h9) rfl dX7_ways_27 ?_
          refine lv_iload_n hx hb dX7_ways_30 rfl (lv_at hl 1 rfl) ?_
          refine lv_iload_n hx hb dX7_ways_31 rfl (lv_at hl 2 rfl) ?_
          have hPn := gPa (a := [(A_t, .inr (7, [.ref A_t_tape, .ref A_t_now, .ref A_t_images, .ref A_t_imageMade, .ref A_t_sheets, .ref A_t_rows, .ref A_t_clash, .ref A_t_span, .ref A_t_reader, .int t_latestTorn])), (A_t_span_values, .inl (cy 2, 5, .inr (.inl t_span_values)))]) (b := [(A_t_span, .inr (4, [.ref A_t_span_caps, .ref A_t_span_values, .int t_span_things, .int t_span_top])), (A_t_now, .inr (5, [.ref A_t_now_upper, .ref A_t_now_lower, .ref A_t_now_limits, .ref A_t_now_stricts, .ref A_t_now_marks, .int t_now_size, .int t_now_marked, .int t_now_wholeness])), (A_t_now_upper, .inl (cy 1, 24, .inl t_now_upper)), (A_t_now_lower, .inl (cy 1, 24, .inl t_now_lower)), (A_t_now_limits, .inl (cy 1, 24, .inl t_now_limits)), (A_t_now_stricts, .inl (cy 1, 24, .inl t_now_stricts)), (A_t_span_caps, .inl (cy 4, 5, .inr (.inr (.inr (.inr (gx R_t_span_caps 5))))))]) (gPs hP [0, 7, 1, 2, 3, 4, 5, 6, 8] rfl)
          have hDn := gDa (a := [(A_t, .inr (7, [.ref A_t_tape, .ref A_t_now, .ref A_t_images, .ref A_t_imageMade, .ref A_t_sheets, .ref A_t_rows, .ref A_t_clash, .ref A_t_span, .ref A_t_reader, .int t_latestTorn])), (A_t_span_values, .inl (cy 2, 5, .inr (.inl t_span_values)))]) (b := [(A_t_span, .inr (4, [.ref A_t_span_caps, .ref A_t_span_values, .int t_span_things, .int t_span_top])), (A_t_now, .inr (5, [.ref A_t_now_upper, .ref A_t_now_lower, .ref A_t_now_limits, .ref A_t_now_stricts, .ref A_t_now_marks, .int t_now_size, .int t_now_marked, .int t_now_wholeness])), (A_t_now_upper, .inl (cy 1, 24, .inl t_now_upper)), (A_t_now_lower, .inl (cy 1, 24, .inl t_now_lower)), (A_t_now_limits, .inl (cy 1, 24, .inl t_now_limits)), (A_t_now_stricts, .inl (cy 1, 24, .inl t_now_stricts)), (A_t_span_caps, .inl (cy 4, 5, .inr (.inr (.inr (.inr (gx R_t_span_caps 5))))))]) (gDs hD [0, 7, 1, 2, 3, 4, 5, 6, 8] (by decide) rfl)
          have hPc := gPR hPn
          have hDc := gDR hDn
          refine mw_v (va_runV (As := [.ref A_t_now, .int x1, .int x2]) (rest := []) CF (c_X4_prepare l D cy s.heap.size A_t_span A_t_span_caps A_t_span_values A_t_now A_t_now_upper A_t_now_lower A_t_now_limits A_t_now_stricts A_t_now_marks R_t_span_caps t_span_things t_span_top t_now_size t_now_marked t_now_wholeness t_now_upper t_now_lower t_now_limits t_now_stricts t_span_caps x1 x2 _ h) (cwV 3 hts gX7_ways_X4_prepare rfl rfl rfl qX4_prepare ⟨Nat.le_of_ble_eq_true rfl, Nat.le_of_ble_eq_true rfl⟩) (mpVW hK hPc hDc (ci := 4) (q := (RX4, TX4, 4)) (q0 := 0) rfl rfl) rfl rfl hl.1 rfl (lv_room (Nat.le_of_ble_eq_true rfl)) dX7_ways_32 ⟨Nat.zero_le _, Nat.zero_le _⟩) hPn hDn hS hA (fun u H locs h hP hD hS => ?_)
          obtain ⟨t_span_things_v1, t_span_top_v1, t_span_caps_v1⟩ := u
          have hP : va_P D vwCl ([(A_t, .inr (7, [.ref A_t_tape, .ref A_t_now, .ref A_t_images, .ref A_t_imageMade, .ref A_t_sheets, .ref A_t_rows, .ref A_t_clash, .ref A_t_span, .ref A_t_reader, .int t_latestTorn])), (A_t_span, .inr (4, [.ref A_t_span_caps, .ref A_t_span_values, .int t_span_things_v1, .int t_span_top_v1])), (A_t_now, .inr (5, [.ref A_t_now_upper, .ref A_t_now_lower, .ref A_t_now_limits, .ref A_t_now_stricts, .ref A_t_now_marks, .int t_now_size, .int t_now_marked, .int t_now_wholeness])), (A_t_now_upper, .inl (cy 1, 24, .inl t_now_upper)), (A_t_now_lower, .inl (cy 1, 24, .inl t_now_lower)), (A_t_now_limits, .inl (cy 1, 24, .inl t_now_limits)), (A_t_now_stricts, .inl (cy 1, 24, .inl t_now_stricts)), (A_t_span_values, .inl (cy 2, 5, .inr (.inl t_span_values))), (A_t_span_caps, .inl (cy 4, 5, .inr (.inr (.inr (.inr (gx R_t_span_caps 5))))))] ++ gp R_t_span_caps t_span_caps_v1 5 (cy 2) 5) H := gPs (gPb (a := [(A_t, .inr (7, [.ref A_t_tape, .ref A_t_now, .ref A_t_images, .ref A_t_imageMade, .ref A_t_sheets, .ref A_t_rows, .ref A_t_clash, .ref A_t_span, .ref A_t_reader, .int t_latestTorn])), (A_t_span_values, .inl (cy 2, 5, .inr (.inl t_span_values)))]) (b := [(A_t_span, .inr (4, [.ref A_t_span_caps, .ref A_t_span_values, .int t_span_things_v1, .int t_span_top_v1])), (A_t_now, .inr (5, [.ref A_t_now_upper, .ref A_t_now_lower, .ref A_t_now_limits, .ref A_t_now_stricts, .ref A_t_now_marks, .int t_now_size, .int t_now_marked, .int t_now_wholeness])), (A_t_now_upper, .inl (cy 1, 24, .inl t_now_upper)), (A_t_now_lower, .inl (cy 1, 24, .inl t_now_lower)), (A_t_now_limits, .inl (cy 1, 24, .inl t_now_limits)), (A_t_now_stricts, .inl (cy 1, 24, .inl t_now_stricts)), (A_t_span_caps, .inl (cy 4, 5, .inr (.inr (.inr (.inr (gx R_t_span_caps 5))))))]) (c := gp R_t_span_caps t_span_caps_v1 5 (cy 2) 5) hP) [0, 2, 3, 4, 5, 6, 7, 1, 8] rfl
          have hD : va_D A ([(A_t, .inr (7, [.ref A_t_tape, .ref A_t_now, .ref A_t_images, .ref A_t_imageMade, .ref A_t_sheets, .ref A_t_rows, .ref A_t_clash, .ref A_t_span, .ref A_t_reader, .int t_latestTorn])), (A_t_span, .inr (4, [.ref A_t_span_caps, .ref A_t_span_values, .int t_span_things_v1, .int t_span_top_v1])), (A_t_now, .inr (5, [.ref A_t_now_upper, .ref A_t_now_lower, .ref A_t_now_limits, .ref A_t_now_stricts, .ref A_t_now_marks, .int t_now_size, .int t_now_marked, .int t_now_wholeness])), (A_t_now_upper, .inl (cy 1, 24, .inl t_now_upper)), (A_t_now_lower, .inl (cy 1, 24, .inl t_now_lower)), (A_t_now_limits, .inl (cy 1, 24, .inl t_now_limits)), (A_t_now_stricts, .inl (cy 1, 24, .inl t_now_stricts)), (A_t_span_values, .inl (cy 2, 5, .inr (.inl t_span_values))), (A_t_span_caps, .inl (cy 4, 5, .inr (.inr (.inr (.inr (gx R_t_span_caps 5))))))] ++ gp R_t_span_caps t_span_caps_v1 5 (cy 2) 5) := gDs (gDb (a := [(A_t, .inr (7, [.ref A_t_tape, .ref A_t_now, .ref A_t_images, .ref A_t_imageMade, .ref A_t_sheets, .ref A_t_rows, .ref A_t_clash, .ref A_t_span, .ref A_t_reader, .int t_latestTorn])), (A_t_span_values, .inl (cy 2, 5, .inr (.inl t_span_values)))]) (b := [(A_t_span, .inr (4, [.ref A_t_span_caps, .ref A_t_span_values, .int t_span_things_v1, .int t_span_top_v1])), (A_t_now, .inr (5, [.ref A_t_now_upper, .ref A_t_now_lower, .ref A_t_now_limits, .ref A_t_now_stricts, .ref A_t_now_marks, .int t_now_size, .int t_now_marked, .int t_now_wholeness])), (A_t_now_upper, .inl (cy 1, 24, .inl t_now_upper)), (A_t_now_lower, .inl (cy 1, 24, .inl t_now_lower)), (A_t_now_limits, .inl (cy 1, 24, .inl t_now_limits)), (A_t_now_stricts, .inl (cy 1, 24, .inl t_now_stricts)), (A_t_span_caps, .inl (cy 4, 5, .inr (.inr (.inr (.inr (gx R_t_span_caps 5))))))]) (c := gp R_t_span_caps t_span_caps_v1 5 (cy 2) 5) hD) [0, 2, 3, 4, 5, 6, 7, 1, 8] (by decide) rfl
          try dsimp only at h
          refine lv_aload_n hx hb dX7_ways_35 rfl (lv_at hl 0 rfl) ?_
          refine va_get (D := D) (ci := 7) (v := .ref A_t_span) (C := RX7) (T := TX7) (N := 10) hx hb hts iX7 hown hK.1 hP 0 rfl rfl 7 (by decide) f0 (fun _ h9 => h9) rfl dX7_ways_36 ?_
          refine lv_iconst (v := 0) hx hb dX7_ways_39 (by decide) ?_
          have hPn := gPa (a := [(A_t, .inr (7, [.ref A_t_tape, .ref A_t_now, .ref A_t_images, .ref A_t_imageMade, .ref A_t_sheets, .ref A_t_rows, .ref A_t_clash, .ref A_t_span, .ref A_t_reader, .int t_latestTorn])), (A_t_now, .inr (5, [.ref A_t_now_upper, .ref A_t_now_lower, .ref A_t_now_limits, .ref A_t_now_stricts, .ref A_t_now_marks, .int t_now_size, .int t_now_marked, .int t_now_wholeness])), (A_t_now_upper, .inl (cy 1, 24, .inl t_now_upper)), (A_t_now_lower, .inl (cy 1, 24, .inl t_now_lower)), (A_t_now_limits, .inl (cy 1, 24, .inl t_now_limits)), (A_t_now_stricts, .inl (cy 1, 24, .inl t_now_stricts))]) (b := [(A_t_span, .inr (4, [.ref A_t_span_caps, .ref A_t_span_values, .int t_span_things_v1, .int t_span_top_v1])), (A_t_span_values, .inl (cy 2, 5, .inr (.inl t_span_values))), (A_t_span_caps, .inl (cy 4, 5, .inr (.inr (.inr (.inr (gx R_t_span_caps 5))))))]) (gPs hP [0, 2, 3, 4, 5, 6, 1, 7, 8] rfl)
          have hDn := gDa (a := [(A_t, .inr (7, [.ref A_t_tape, .ref A_t_now, .ref A_t_images, .ref A_t_imageMade, .ref A_t_sheets, .ref A_t_rows, .ref A_t_clash, .ref A_t_span, .ref A_t_reader, .int t_latestTorn])), (A_t_now, .inr (5, [.ref A_t_now_upper, .ref A_t_now_lower, .ref A_t_now_limits, .ref A_t_now_stricts, .ref A_t_now_marks, .int t_now_size, .int t_now_marked, .int t_now_wholeness])), (A_t_now_upper, .inl (cy 1, 24, .inl t_now_upper)), (A_t_now_lower, .inl (cy 1, 24, .inl t_now_lower)), (A_t_now_limits, .inl (cy 1, 24, .inl t_now_limits)), (A_t_now_stricts, .inl (cy 1, 24, .inl t_now_stricts))]) (b := [(A_t_span, .inr (4, [.ref A_t_span_caps, .ref A_t_span_values, .int t_span_things_v1, .int t_span_top_v1])), (A_t_span_values, .inl (cy 2, 5, .inr (.inl t_span_values))), (A_t_span_caps, .inl (cy 4, 5, .inr (.inr (.inr (.inr (gx R_t_span_caps 5))))))]) (gDs hD [0, 2, 3, 4, 5, 6, 1, 7, 8] (by decide) rfl)
          have hPc := gPR hPn
          have hDc := gDR hDn
          refine mw_i (va_runSN (As := [.ref A_t_span, .int (0 : Int32)]) (rest := []) CF (c_X4_ways4 l D cy H.size A_t_span A_t_span_caps A_t_span_values R_t_span_caps t_span_things_v1 t_span_top_v1 t_span_values t_span_caps_v1 (0 : Int32) _ h) ⟨va_cnB 2 hts gX7_ways_X4_waysFrom_n236 rfl rfl rfl (hK.nest (w := .methodLinkNest RX7 236 yX4_waysFrom RX7) (List.mem_of_getElem? (i := 12) rfl)) f2 qX4_waysFrom.2 ⟨Nat.le_of_ble_eq_true rfl, Nat.le_of_ble_eq_true rfl⟩, f3, trivial⟩ (mpSW hK hPc hDc) rfl rfl hl.1 rfl (lv_room (Nat.le_of_ble_eq_true rfl)) dX7_ways_40 ⟨Nat.zero_le _, Nat.zero_le _⟩) hPn hDn hS hA (fun r2 t_span_values_v2 H locs h hP hD hS => ?_)
          have hP : va_P D vwCl ([(A_t, .inr (7, [.ref A_t_tape, .ref A_t_now, .ref A_t_images, .ref A_t_imageMade, .ref A_t_sheets, .ref A_t_rows, .ref A_t_clash, .ref A_t_span, .ref A_t_reader, .int t_latestTorn])), (A_t_span, .inr (4, [.ref A_t_span_caps, .ref A_t_span_values, .int t_span_things_v1, .int t_span_top_v1])), (A_t_now, .inr (5, [.ref A_t_now_upper, .ref A_t_now_lower, .ref A_t_now_limits, .ref A_t_now_stricts, .ref A_t_now_marks, .int t_now_size, .int t_now_marked, .int t_now_wholeness])), (A_t_now_upper, .inl (cy 1, 24, .inl t_now_upper)), (A_t_now_lower, .inl (cy 1, 24, .inl t_now_lower)), (A_t_now_limits, .inl (cy 1, 24, .inl t_now_limits)), (A_t_now_stricts, .inl (cy 1, 24, .inl t_now_stricts)), (A_t_span_values, .inl (cy 2, 5, .inr (.inl t_span_values_v2))), (A_t_span_caps, .inl (cy 4, 5, .inr (.inr (.inr (.inr (gx R_t_span_caps 5))))))] ++ gp R_t_span_caps t_span_caps_v1 5 (cy 2) 5) H := gPs (gPb (a := [(A_t, .inr (7, [.ref A_t_tape, .ref A_t_now, .ref A_t_images, .ref A_t_imageMade, .ref A_t_sheets, .ref A_t_rows, .ref A_t_clash, .ref A_t_span, .ref A_t_reader, .int t_latestTorn])), (A_t_now, .inr (5, [.ref A_t_now_upper, .ref A_t_now_lower, .ref A_t_now_limits, .ref A_t_now_stricts, .ref A_t_now_marks, .int t_now_size, .int t_now_marked, .int t_now_wholeness])), (A_t_now_upper, .inl (cy 1, 24, .inl t_now_upper)), (A_t_now_lower, .inl (cy 1, 24, .inl t_now_lower)), (A_t_now_limits, .inl (cy 1, 24, .inl t_now_limits)), (A_t_now_stricts, .inl (cy 1, 24, .inl t_now_stricts))]) (b := [(A_t_span, .inr (4, [.ref A_t_span_caps, .ref A_t_span_values, .int t_span_things_v1, .int t_span_top_v1])), (A_t_span_values, .inl (cy 2, 5, .inr (.inl t_span_values_v2))), (A_t_span_caps, .inl (cy 4, 5, .inr (.inr (.inr (.inr (gx R_t_span_caps 5))))))]) (c := gp R_t_span_caps t_span_caps_v1 5 (cy 2) 5) hP) [0, 6, 1, 2, 3, 4, 5, 7, 8] rfl
          have hD : va_D A ([(A_t, .inr (7, [.ref A_t_tape, .ref A_t_now, .ref A_t_images, .ref A_t_imageMade, .ref A_t_sheets, .ref A_t_rows, .ref A_t_clash, .ref A_t_span, .ref A_t_reader, .int t_latestTorn])), (A_t_span, .inr (4, [.ref A_t_span_caps, .ref A_t_span_values, .int t_span_things_v1, .int t_span_top_v1])), (A_t_now, .inr (5, [.ref A_t_now_upper, .ref A_t_now_lower, .ref A_t_now_limits, .ref A_t_now_stricts, .ref A_t_now_marks, .int t_now_size, .int t_now_marked, .int t_now_wholeness])), (A_t_now_upper, .inl (cy 1, 24, .inl t_now_upper)), (A_t_now_lower, .inl (cy 1, 24, .inl t_now_lower)), (A_t_now_limits, .inl (cy 1, 24, .inl t_now_limits)), (A_t_now_stricts, .inl (cy 1, 24, .inl t_now_stricts)), (A_t_span_values, .inl (cy 2, 5, .inr (.inl t_span_values_v2))), (A_t_span_caps, .inl (cy 4, 5, .inr (.inr (.inr (.inr (gx R_t_span_caps 5))))))] ++ gp R_t_span_caps t_span_caps_v1 5 (cy 2) 5) := gDs (gDb (a := [(A_t, .inr (7, [.ref A_t_tape, .ref A_t_now, .ref A_t_images, .ref A_t_imageMade, .ref A_t_sheets, .ref A_t_rows, .ref A_t_clash, .ref A_t_span, .ref A_t_reader, .int t_latestTorn])), (A_t_now, .inr (5, [.ref A_t_now_upper, .ref A_t_now_lower, .ref A_t_now_limits, .ref A_t_now_stricts, .ref A_t_now_marks, .int t_now_size, .int t_now_marked, .int t_now_wholeness])), (A_t_now_upper, .inl (cy 1, 24, .inl t_now_upper)), (A_t_now_lower, .inl (cy 1, 24, .inl t_now_lower)), (A_t_now_limits, .inl (cy 1, 24, .inl t_now_limits)), (A_t_now_stricts, .inl (cy 1, 24, .inl t_now_stricts))]) (b := [(A_t_span, .inr (4, [.ref A_t_span_caps, .ref A_t_span_values, .int t_span_things_v1, .int t_span_top_v1])), (A_t_span_values, .inl (cy 2, 5, .inr (.inl t_span_values_v2))), (A_t_span_caps, .inl (cy 4, 5, .inr (.inr (.inr (.inr (gx R_t_span_caps 5))))))]) (c := gp R_t_span_caps t_span_caps_v1 5 (cy 2) 5) hD) [0, 6, 1, 2, 3, 4, 5, 7, 8] (by decide) rfl
          subst hQ
          subst hAe
          exact W.iret (v := r2) hx hb hr (fun t ht _ => ⟨⟨r2, (t_span_things_v1, t_span_top_v1, t_span_values_v2, t_span_caps_v1), rfl, h, by rw [ht]; exact hP, hD⟩, hS.F ht⟩) hS.2.2 dX7_ways_43
        · replace h := h.2 hc
          refine lv_iconst (v := -1) hx hb dX7_ways_20 (by decide) ?_
          subst hQ
          subst hAe
          exact W.iret (v := (-1 : Int32)) hx hb hr (fun t ht _ => ⟨⟨(-1 : Int32), (t_span_things, t_span_top, t_span_values, t_span_caps), rfl, h, by rw [ht]; exact hP, hD⟩, hS.F ht⟩) hS.2.2 dX7_ways_21
