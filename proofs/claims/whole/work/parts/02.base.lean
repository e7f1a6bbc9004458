/-! the base of this claim's own rows: the tables' facts that every contract carries, calls, lcmp with its branch, rows of rows -/
def nwL : List Cond := [.methodLinkNest RX7 9 yX5_init RX7, .methodLinkNest RX7 30 yX3_init RX7, .methodLinkNest RX7 33 yX2_init RX7, .methodLinkNest RX7 40 yX0_init RX7, .methodLinkNest RX7 47 yX4_init RX7, .methodLinkNest RX7 54 yX1_init RX7, .methodLinkNest RX1 11 yX6_init RX7, .methodLinkNest RX1 20 yX5_init RX7, .methodLinkNest RX1 115 yX7_isThing RX7, .methodLinkNest RX2 73 yX7_weigh RX7, .methodLinkNest RX5 43 yX7_weigh RX7, .methodLinkNest RX2 56 yX7_sumToNothing RX7, .methodLinkNest RX7 236 yX4_waysFrom RX7]
theorem nwL_form : ∀ w ∈ nwL, ∃ (a : String) (i : Nat) (x : MethodName) (h : String), w = Cond.methodLinkNest a i x h := by
  intro w hw
  unfold nwL at hw
  repeat (rcases List.mem_cons.mp hw with rfl | hw; exact ⟨_, _, _, _, rfl⟩)
  cases hw
def NW (U : State) : Prop := ∀ w ∈ nwL, va_Nw w U
theorem NW.warm {s U : State} (hW : s.WarmedH U.vm) (h : NW s) : NW U := by
  intro w hw
  obtain ⟨a, i, x, z, rfl⟩ := nwL_form w hw
  exact va_Nw.warmM hW (h _ hw)
theorem NW.same {u U : State} (e : u.vm = U.vm) (h : NW u) : NW U := by
  intro w hw
  obtain ⟨a, i, x, z, rfl⟩ := nwL_form w hw
  exact va_Nw.same rfl e (h _ hw)
abbrev ty7 (cy : Nat → ClassId) : List (ClassId × FieldType) := [(cy 0, .byte), (cy 1, .int), (cy 2, .long), (cy 3, .boolean), (cy 4, .array .long), (cy 5, .object "GapBounds$Store"), (cy 6, .object "GapBounds$Sheet")]
def KX (D : va_G) (cy : Nat → ClassId) (U : State) : Prop := va_K D vwCl (ty7 cy) U ∧ NW U
theorem KX.warm {D : va_G} {cy : Nat → ClassId} {s U : State} (hW : s.WarmedH U.vm) (h : KX D cy s) : KX D cy U := ⟨va_K.moved hW.alike h.1, h.2.warm hW⟩
theorem KX.call {D : va_G} {cy : Nat → ClassId} {U : State} {g : JFrame} {mk : MethodId} {a : Array Value} (h : KX D cy U) : KX D cy (U.calling g mk a) := ⟨va_K.moved (u := U) (U := U.calling g mk a) (Vm.Alike.refl U.vm) h.1, NW.same (u := U) (U := U.calling g mk a) rfl h.2⟩
theorem KX.nest {D : va_G} {cy : Nat → ClassId} {U : State} (h : KX D cy U) {w : Cond} (hw : w ∈ nwL) : va_Nw w U := h.2 w hw
/-- what a contract asks for at its start: a reader's, a writer's, one without cells -/
abbrev pcR (D : va_G) (cy : Nat → ClassId) (cells : va_W) (av : List Value) : Array Value → State → Prop := va_Pc av (fun U => va_P D vwCl cells U.heap ∧ KX D cy U)
abbrev pcW (D : va_G) (cy : Nat → ClassId) (cells : va_W) (sz : Nat) (av : List Value) : Array Value → State → Prop := va_Pc av (fun U => U.heap.size = sz ∧ va_P D vwCl cells U.heap ∧ KX D cy U ∧ va_D (fun _ => True) cells)
abbrev pcN (av : List Value) : Array Value → State → Prop := va_Pc av (fun _ => True)
abbrev bW (D : va_G) (cells : va_W) (sz : Nat) {S : Type} (B : S → va_W) : S → State → Prop := fun u t => va_P D vwCl (B u) t.heap ∧ va_D (va_A cells sz) (B u)
section MP
variable {s : State} {H : Heap} {D : va_G} {cy : Nat → ClassId} {cells : va_W} {As : List Value} {b : Addr} {ci q0 : Nat} {q : vw_C} {fs : List Value}
theorem mpVR (hK : KX D cy s) (hP : va_P D vwCl cells H) (hc : vwCl[ci]? = some q) (he : cells[q0]? = some (b, .inr (ci, fs))) : PreV s H q.1 b (pcR D cy cells (.ref b :: As)) As :=
  ⟨fun _ _ _ _ z => ⟨z.1, z.2.1, z.2.2.call⟩, va_recv hK.1 hP hc he, fun _ hU hW => ⟨rfl, by rw [hU]; exact hP, hK.warm hW⟩⟩
theorem mpVW (hK : KX D cy s) (hP : va_P D vwCl cells H) {A : Nat → Prop} (hD : va_D A cells) (hc : vwCl[ci]? = some q) (he : cells[q0]? = some (b, .inr (ci, fs))) : PreV s H q.1 b (pcW D cy cells H.size (.ref b :: As)) As :=
  ⟨fun _ _ _ _ z => ⟨z.1, z.2.1, z.2.2.1, z.2.2.2.1.call, z.2.2.2.2⟩, va_recv hK.1 hP hc he, fun _ hU hW => ⟨rfl, by rw [hU], by rw [hU]; exact hP, hK.warm hW, hD.weaken (fun _ _ _ _ => trivial)⟩⟩
theorem mpSR (hK : KX D cy s) (hP : va_P D vwCl cells H) : PreS s H (pcR D cy cells As) As :=
  ⟨fun _ _ _ _ z => ⟨z.1, z.2.1, z.2.2.call⟩, fun _ hU hW => ⟨rfl, by rw [hU]; exact hP, hK.warm hW⟩⟩
theorem mpSW (hK : KX D cy s) (hP : va_P D vwCl cells H) {A : Nat → Prop} (hD : va_D A cells) : PreS s H (pcW D cy cells H.size As) As :=
  ⟨fun _ _ _ _ z => ⟨z.1, z.2.1, z.2.2.1, z.2.2.2.1.call, z.2.2.2.2⟩, fun _ hU hW => ⟨rfl, by rw [hU], by rw [hU]; exact hP, hK.warm hW, hD.weaken (fun _ _ _ _ => trivial)⟩⟩
theorem mpSN : PreS s H (pcN As) As := ⟨fun _ _ _ _ z => ⟨z.1, z.2⟩, fun _ _ _ => ⟨rfl, trivial⟩⟩
end MP
/-! a world that has a part behind: the part stays one piece -/
section GG
variable {D : va_G} {cl : List vw_C} {A A0 : Nat → Prop} {X X' G a b c wr wc w1 : va_W} {H H0 H1 : Heap} {locs : List Loc}
theorem gPL (h : va_P D cl (X ++ G) H) : va_P D cl X H := fun k q hk => h k q (by rw [List.getElem?_append_left (List.getElem?_eq_some_iff.mp hk).1]; exact hk)
theorem gPR (h : va_P D cl (X ++ G) H) : va_P D cl G H := fun k q hk => h (X.length + k) q (by rw [List.getElem?_append_right (Nat.le_add_right _ _), Nat.add_sub_cancel_left]; exact hk)
theorem gDL (h : va_D A (X ++ G)) : va_D A X := ⟨fun i j x y hi hj => h.1 i j x y (by rw [List.getElem?_append_left (List.getElem?_eq_some_iff.mp hi).1]; exact hi) (by rw [List.getElem?_append_left (List.getElem?_eq_some_iff.mp hj).1]; exact hj), fun k q hk => h.2 k q (by rw [List.getElem?_append_left (List.getElem?_eq_some_iff.mp hk).1]; exact hk)⟩
theorem gR1 {k : Nat} {q : Nat × va_E} (hk : G[k]? = some q) : (X ++ G)[X.length + k]? = some q := by rw [List.getElem?_append_right (Nat.le_add_right _ _), Nat.add_sub_cancel_left]; exact hk
theorem gL1 {k : Nat} {q : Nat × va_E} (hk : X[k]? = some q) : (X ++ G)[k]? = some q := by rw [List.getElem?_append_left (List.getElem?_eq_some_iff.mp hk).1]; exact hk
theorem gDR (h : va_D A (X ++ G)) : va_D A G := ⟨fun i j x y hi hj e => by have := h.1 _ _ x y (gR1 hi) (gR1 hj) e; omega, fun k q hk => h.2 _ q (gR1 hk)⟩
theorem gDX (h : va_D A (X ++ G)) : ∀ (i j : Nat) (p q : Nat × va_E), X[i]? = some p → G[j]? = some q → p.1 ≠ q.1 := fun i j p q hi hj e => by
  have h1 := h.1 i (X.length + j) p q (gL1 hi) (gR1 hj) e
  have := (List.getElem?_eq_some_iff.mp hi).1
  omega
theorem gPs (h : va_P D cl (X ++ G) H) (is : List Nat) (hs : is.filterMap (fun i => X[i]?) = X') : va_P D cl (X' ++ G) H := ((gPL h).sub is hs).app (gPR h)
theorem gDs (h : va_D A (X ++ G)) (is : List Nat) (hn : va_nd is = true) (hs : is.map (fun i => X[i]?) = X'.map some) : va_D A (X' ++ G) := by
  refine va_D.app ((gDL h).sub is hn hs) (gDR h) (fun i j p q hi hj => ?_)
  have h1 : (X'.map some)[i]? = some (some p) := by rw [List.getElem?_map, hi]; rfl
  rw [← hs, List.getElem?_map] at h1
  cases hz : is[i]? with
  | none => rw [hz] at h1; cases h1
  | some z =>
    rw [hz] at h1
    exact gDX h z j p q (Option.some.inj h1) hj
theorem gPw (h : va_P D cl ((a ++ b) ++ c) H) : va_P D cl ((a ++ c) ++ b) H := ((gPL (gPL h)).app (gPR h)).app (gPR (gPL h))
theorem gDw (h : va_D A ((a ++ b) ++ c)) : va_D A ((a ++ c) ++ b) := by
  have h2 := gDL h
  refine va_D.app (va_D.app (gDL h2) (gDR h) (fun i j p q hi hj => gDX h i j p q (gL1 hi) hj)) (gDR h2) (fun i j p q hi hj => ?_)
  by_cases hl : i < a.length
  · rw [List.getElem?_append_left hl] at hi
    exact gDX h2 i j p q hi hj
  · rw [List.getElem?_append_right (by omega)] at hi
    exact fun e => gDX h (a.length + j) _ q p (gR1 hj) hi e.symm
theorem gPa (h : va_P D cl ((a ++ b) ++ c) H) : va_P D cl (a ++ (b ++ c)) H := by rw [← List.append_assoc]; exact h
theorem gDa (h : va_D A ((a ++ b) ++ c)) : va_D A (a ++ (b ++ c)) := by rw [← List.append_assoc]; exact h
theorem gPb (h : va_P D cl (a ++ (b ++ c)) H) : va_P D cl ((a ++ b) ++ c) H := by rw [List.append_assoc]; exact h
theorem gDb (h : va_D A (a ++ (b ++ c))) : va_D A ((a ++ b) ++ c) := by rw [List.append_assoc]; exact h
theorem gA (hD : va_D A0 (wr ++ wc)) (hS : va_S A0 H0 H locs) (hA : ∀ q, H0.size ≤ q → A0 q) : ∀ q, va_A wc H.size q → A0 q := fun q h => by
  rcases h with ⟨k, e, h⟩ | h
  · exact (gDR hD).2 k _ h
  · exact hA q (Nat.le_trans hS.1 h)
theorem gJ (hP : va_P D cl (wr ++ wc) H) (hD : va_D A0 (wr ++ wc)) (hk : ∀ q : Nat, q < H.size → ¬ va_A wc H.size q → H1[q]? = H[q]?) (hF : ∀ q, va_A wc H.size q → A0 q) (hP1 : va_P D cl w1 H1) (hD1 : va_D (va_A wc H.size) w1) : va_P D cl (wr ++ w1) H1 ∧ va_D A0 (wr ++ w1) := by
  have hx : ∀ (k : Nat) (q : Nat × va_E), wr[k]? = some q → q.1 < H.size ∧ ¬ va_A wc H.size q.1 := fun k q hq => by
    have hl := (gPL hP k q hq).lt
    refine ⟨hl, fun z => ?_⟩
    rcases z with ⟨k2, e2, z⟩ | z
    · exact gDX hD k k2 q _ hq z rfl
    · omega
  refine ⟨va_P.app (fun k q hq => (gPL hP k q hq).kept (hk q.1 (hx k q hq).1 (hx k q hq).2)) hP1, va_D.app (gDL hD) (hD1.weaken (fun k q _ h => hF q.1 h)) (fun i j x y hi hj e => ?_)⟩
  exact (hx i x hi).2 (by rw [e]; exact hD1.2 j y hj)
end GG
section MW
variable {p : Program} {l : Launch} {e : Env} {R : Room} {s : State} {m : MethodId} {args : Array Value} {below : List Frame} {meth : Method} {c : Code} {H : Heap} {locs : List Loc} {cells slots : Nat} {Q : State → Prop}
variable {cc : ByteArray} {pc : Nat} {ls : Array Slot} {rest st0 : List Value} {D : va_G} {cl : List vw_C} {A0 : Nat → Prop} {tys : List (ClassId × FieldType)} {ws wc wr : va_W} {H0 : Heap} {a : Array Value}
theorem W.gen {g : JFrame} (h : ∀ Q0 : State → Prop, Q0 = Q → W p l e R s m args below meth c H locs cells slots Q0 g) : W p l e R s m args below meth c H locs cells slots Q g := h Q rfl
/-- a call of a writer: what comes back stands beside the rest -/
theorem mw_i {S : Type} {post : Int32 → S → Prop} {B : S → va_W} (hr : va_Run p l e R s m args below meth c H locs cells slots 0 0 (F0 m pc ls st0) rest (va_Qi post (bW D wc H.size B) (va_A wc H.size) a) (va_A wc H.size))
    (hP : va_P D vwCl (wr ++ wc) H) (hD : va_D A0 (wr ++ wc)) (hS : va_S A0 H0 H locs) (hA : ∀ q, H0.size ≤ q → A0 q)
    (kk : ∀ (r : Int32) (u : S) (H1 : Heap) (locs1 : List Loc), post r u → va_P D vwCl (wr ++ B u) H1 → va_D A0 (wr ++ B u) → va_S A0 H0 H1 locs1 → W p l e R s m args below meth c H1 locs1 cells slots Q (F0 m (pc + 3) ls (.int r :: rest))) : W p l e R s m args below meth c H locs cells slots Q (F0 m pc ls st0) := by
  have hF := gA hD hS hA
  refine va_calli hr hS (fun q _ h => hF q h) hF (fun r u t H1 locs1 ht hvm hw hB hz hk hS1 => ?_)
  obtain ⟨hP1, hD1⟩ := hB
  rw [ht] at hP1
  obtain ⟨hP2, hD2⟩ := gJ hP hD hk hF hP1 hD1
  exact kk r u H1 locs1 hw hP2 hD2 hS1
theorem mw_l {S : Type} {post : Int64 → S → Prop} {B : S → va_W} (hr : va_Run p l e R s m args below meth c H locs cells slots 0 0 (F0 m pc ls st0) rest (va_Ql post (bW D wc H.size B) (va_A wc H.size) a) (va_A wc H.size))
    (hP : va_P D vwCl (wr ++ wc) H) (hD : va_D A0 (wr ++ wc)) (hS : va_S A0 H0 H locs) (hA : ∀ q, H0.size ≤ q → A0 q)
    (kk : ∀ (r : Int64) (u : S) (H1 : Heap) (locs1 : List Loc), post r u → va_P D vwCl (wr ++ B u) H1 → va_D A0 (wr ++ B u) → va_S A0 H0 H1 locs1 → W p l e R s m args below meth c H1 locs1 cells slots Q (F0 m (pc + 3) ls (.long r :: rest))) : W p l e R s m args below meth c H locs cells slots Q (F0 m pc ls st0) := by
  have hF := gA hD hS hA
  refine va_calll hr hS (fun q _ h => hF q h) hF (fun r u t H1 locs1 ht hvm hw hB hz hk hS1 => ?_)
  obtain ⟨hP1, hD1⟩ := hB
  rw [ht] at hP1
  obtain ⟨hP2, hD2⟩ := gJ hP hD hk hF hP1 hD1
  exact kk r u H1 locs1 hw hP2 hD2 hS1
theorem mw_v {S : Type} {post : S → Prop} {B : S → va_W} (hr : va_Run p l e R s m args below meth c H locs cells slots 0 0 (F0 m pc ls st0) rest (va_Qv post (bW D wc H.size B) (va_A wc H.size) a) (va_A wc H.size))
    (hP : va_P D vwCl (wr ++ wc) H) (hD : va_D A0 (wr ++ wc)) (hS : va_S A0 H0 H locs) (hA : ∀ q, H0.size ≤ q → A0 q)
    (kk : ∀ (u : S) (H1 : Heap) (locs1 : List Loc), post u → va_P D vwCl (wr ++ B u) H1 → va_D A0 (wr ++ B u) → va_S A0 H0 H1 locs1 → W p l e R s m args below meth c H1 locs1 cells slots Q (F0 m (pc + 3) ls rest)) : W p l e R s m args below meth c H locs cells slots Q (F0 m pc ls st0) := by
  have hF := gA hD hS hA
  refine va_callv hr hS (fun q _ h => hF q h) hF (fun u t H1 locs1 ht hvm hw hB hz hk hS1 => ?_)
  obtain ⟨hP1, hD1⟩ := hB
  rw [ht] at hP1
  obtain ⟨hP2, hD2⟩ := gJ hP hD hk hF hP1 hD1
  exact kk u H1 locs1 hw hP2 hD2 hS1
/-- a void call that has one cell, in any place: the rest stays where it is -/
theorem mw_1 {S : Type} {post : S → Prop} {ad : Nat} {e0 : va_E} {B : S → va_E} (hr : va_Run p l e R s m args below meth c H locs cells slots 0 0 (F0 m pc ls st0) rest (va_Qv post (bW D [(ad, e0)] H.size (fun u => [(ad, B u)])) (va_A [(ad, e0)] H.size) a) (va_A [(ad, e0)] H.size))
    (hP : va_P D vwCl ws H) (hD : va_D A0 ws) (hS : va_S A0 H0 H locs) (hA : ∀ q, H0.size ≤ q → A0 q) (q0 : Nat) (hq : ws[q0]? = some (ad, e0))
    (kk : ∀ (u : S) (H1 : Heap) (locs1 : List Loc), post u → va_P D vwCl (ws.set q0 (ad, B u)) H1 → va_D A0 (ws.set q0 (ad, B u)) → va_S A0 H0 H1 locs1 → W p l e R s m args below meth c H1 locs1 cells slots Q (F0 m (pc + 3) ls rest)) : W p l e R s m args below meth c H locs cells slots Q (F0 m pc ls st0) := by
  have hF := va_free (wc := [(ad, e0)]) hD hS hA [q0] (by simp [hq])
  refine va_callv hr hS (fun q _ h => hF q h) hF (fun u t H1 locs1 ht hvm hw hB hz hk hS1 => ?_)
  obtain ⟨hP1, hD1⟩ := hB
  rw [ht] at hP1
  have hlt : q0 < ws.length := (List.getElem?_eq_some_iff.mp hq).1
  have hP2 : va_P D vwCl (ws.set q0 (ad, B u)) H1 := by
    intro k x hx
    by_cases hkq : k = q0
    · subst hkq
      rw [List.getElem?_set_self hlt] at hx
      cases hx
      exact hP1 0 _ rfl
    · rw [List.getElem?_set_ne (fun z => hkq z.symm)] at hx
      refine (hP k x hx).kept (hk x.1 (hP k x hx).lt (fun z => ?_))
      rcases z with ⟨k2, e2, z⟩ | z
      · cases k2 with
        | zero =>
          have z1 : (ad, e0) = (x.1, e2) := Option.some.inj z
          have z2 : x.1 = ad := (congrArg Prod.fst z1).symm
          exact hkq (hD.1 k q0 x _ hx hq z2)
        | succ k2 => cases z
      · exact absurd ((hP k x hx).lt) (Nat.not_lt.mpr z)
  exact kk u H1 locs1 hw hP2 (hD.set hq) hS1
/-- lcmp with the branch behind it -/
theorem lx_lt (hexec : p.tables.exec = Jvm.exec) (hb : c.code = cc) {x y : Int64} {off : Int} {tgt : Nat} (h1 : decode cc pc = .ok (.lcmp, 1)) (h2 : decode cc (pc + 1) = .ok (.ifCond .lt off, 3)) (ht : ((pc + 1 : Nat) : Int) + off = (tgt : Int))
    (kt : x < y → W p l e R s m args below meth c H locs cells slots Q (F0 m tgt ls rest)) (kf : ¬ x < y → W p l e R s m args below meth c H locs cells slots Q (F0 m (pc + 1 + 3) ls rest)) : W p l e R s m args below meth c H locs cells slots Q (F0 m pc ls (.long y :: .long x :: rest)) :=
  W.lcmp hexec hb h1 (lv_if_lt hexec hb h2 ht (fun z => kt ((lg_cmp_lt x y).mp z)) (fun z => kf (fun q => z ((lg_cmp_lt x y).mpr q))))
theorem lx_ge (hexec : p.tables.exec = Jvm.exec) (hb : c.code = cc) {x y : Int64} {off : Int} {tgt : Nat} (h1 : decode cc pc = .ok (.lcmp, 1)) (h2 : decode cc (pc + 1) = .ok (.ifCond .ge off, 3)) (ht : ((pc + 1 : Nat) : Int) + off = (tgt : Int))
    (kt : y ≤ x → W p l e R s m args below meth c H locs cells slots Q (F0 m tgt ls rest)) (kf : ¬ y ≤ x → W p l e R s m args below meth c H locs cells slots Q (F0 m (pc + 1 + 3) ls rest)) : W p l e R s m args below meth c H locs cells slots Q (F0 m pc ls (.long y :: .long x :: rest)) :=
  W.lcmp hexec hb h1 (lv_if_ge hexec hb h2 ht (fun z => kt ((lg_cmp_ge x y).mp z)) (fun z => kf (fun q => z ((lg_cmp_ge x y).mpr q))))
theorem lx_gt (hexec : p.tables.exec = Jvm.exec) (hb : c.code = cc) {x y : Int64} {off : Int} {tgt : Nat} (h1 : decode cc pc = .ok (.lcmp, 1)) (h2 : decode cc (pc + 1) = .ok (.ifCond .gt off, 3)) (ht : ((pc + 1 : Nat) : Int) + off = (tgt : Int))
    (kt : y < x → W p l e R s m args below meth c H locs cells slots Q (F0 m tgt ls rest)) (kf : ¬ y < x → W p l e R s m args below meth c H locs cells slots Q (F0 m (pc + 1 + 3) ls rest)) : W p l e R s m args below meth c H locs cells slots Q (F0 m pc ls (.long y :: .long x :: rest)) :=
  W.lcmp hexec hb h1 (lv_if_gt hexec hb h2 ht (fun z => kt ((lg_cmp_gt x y).mp z)) (fun z => kf (fun q => z ((lg_cmp_gt x y).mpr q))))
theorem lx_le (hexec : p.tables.exec = Jvm.exec) (hb : c.code = cc) {x y : Int64} {off : Int} {tgt : Nat} (h1 : decode cc pc = .ok (.lcmp, 1)) (h2 : decode cc (pc + 1) = .ok (.ifCond .le off, 3)) (ht : ((pc + 1 : Nat) : Int) + off = (tgt : Int))
    (kt : x ≤ y → W p l e R s m args below meth c H locs cells slots Q (F0 m tgt ls rest)) (kf : ¬ x ≤ y → W p l e R s m args below meth c H locs cells slots Q (F0 m (pc + 1 + 3) ls rest)) : W p l e R s m args below meth c H locs cells slots Q (F0 m pc ls (.long y :: .long x :: rest)) :=
  W.lcmp hexec hb h1 (lv_if_le hexec hb h2 ht (fun z => kt ((lg_cmp_le x y).mp z)) (fun z => kf (fun q => z ((lg_cmp_le x y).mpr q))))
theorem lx_eq (hexec : p.tables.exec = Jvm.exec) (hb : c.code = cc) {x y : Int64} {off : Int} {tgt : Nat} (h1 : decode cc pc = .ok (.lcmp, 1)) (h2 : decode cc (pc + 1) = .ok (.ifCond .eq off, 3)) (ht : ((pc + 1 : Nat) : Int) + off = (tgt : Int))
    (kt : x = y → W p l e R s m args below meth c H locs cells slots Q (F0 m tgt ls rest)) (kf : ¬ x = y → W p l e R s m args below meth c H locs cells slots Q (F0 m (pc + 1 + 3) ls rest)) : W p l e R s m args below meth c H locs cells slots Q (F0 m pc ls (.long y :: .long x :: rest)) :=
  W.lcmp hexec hb h1 (lv_if_eq hexec hb h2 ht (fun z => kt ((lg_cmp_eq x y).mp z)) (fun z => kf (fun q => z ((lg_cmp_eq x y).mpr q))))
theorem lx_ne (hexec : p.tables.exec = Jvm.exec) (hb : c.code = cc) {x y : Int64} {off : Int} {tgt : Nat} (h1 : decode cc pc = .ok (.lcmp, 1)) (h2 : decode cc (pc + 1) = .ok (.ifCond .ne off, 3)) (ht : ((pc + 1 : Nat) : Int) + off = (tgt : Int))
    (kt : ¬ x = y → W p l e R s m args below meth c H locs cells slots Q (F0 m tgt ls rest)) (kf : x = y → W p l e R s m args below meth c H locs cells slots Q (F0 m (pc + 1 + 3) ls rest)) : W p l e R s m args below meth c H locs cells slots Q (F0 m pc ls (.long y :: .long x :: rest)) :=
  W.lcmp hexec hb h1 (lv_if_ne hexec hb h2 ht (fun z => kt (fun q => z ((lg_cmp_eq x y).mpr q))) (fun z => kf ((lg_cmp_eq x y).mp z)))
/-- the rows of a table of rows -/
def gp (r : Nat → Nat) (M : Nat → Nat → Int64) (n : Nat) (cA : ClassId) (k : Nat) : va_W := (List.range n).map (fun i => (r i, .inl (cA, k, .inr (.inl (M i)))))
def gx (r : Nat → Nat) (n : Nat) : Nat → Option Nat := fun i => if i < n then some (r i) else none
theorem gp_at {X : va_W} {r : Nat → Nat} {M : Nat → Nat → Int64} {n k i : Nat} {cA : ClassId} (h : i < n) : (X ++ gp r M n cA k)[X.length + i]? = some (r i, .inl (cA, k, .inr (.inl (M i)))) := by
  rw [List.getElem?_append_right (Nat.le_add_right _ _), Nat.add_sub_cancel_left]
  simp [gp, h]
theorem gp_set {X : va_W} {r : Nat → Nat} {M : Nat → Nat → Int64} {n k i : Nat} {cA : ClassId} (h : i < n) (f : Nat → Int64) : (X ++ gp r M n cA k).set (X.length + i) (r i, .inl (cA, k, .inr (.inl f))) = X ++ gp r (va_up M i f) n cA k := by
  rw [List.set_append_right _ _ (Nat.le_add_right _ _), Nat.add_sub_cancel_left]
  congr 1
  apply List.ext_getElem?
  intro j
  by_cases hj : j = i
  · subst hj
    rw [List.getElem?_set_self (by simp [gp, h])]
    simp [gp, h, va_up]
  · rw [List.getElem?_set_ne (fun z => hj z.symm)]
    by_cases hn : j < n
    · simp [gp, hn, va_up, hj]
    · simp [gp, hn]
/-- aaload of a row of a table -/
theorem mx_alda (hexec : p.tables.exec = Jvm.exec) (hb : c.code = cc) (hK : va_K D cl tys s) (hP : va_P D cl ws H) (q0 t0 : Nat) {cA : ClassId} {ad : Nat} {ty : FieldType} {n : Nat} {r : Nat → Nat} (ha : ws[q0]? = some (ad, .inl (cA, n, .inr (.inr (.inr (.inr (gx r n))))))) (ht : tys[t0]? = some (cA, .array ty)) {i : Int32} (hin : vp_in i n) (hdg : decode cc pc = .ok (.aaload, 1))
    (kk : W p l e R s m args below meth c H locs cells slots Q (F0 m (pc + 1) ls (.ref (r i.toNatClampNeg) :: rest))) : W p l e R s m args below meth c H locs cells slots Q (F0 m pc ls (.int i :: .ref ad :: rest)) := by
  have hlt : i.toNatClampNeg < n := Nat.not_le.mp fun q => hin (Or.inr q)
  refine W.aald (v := .ref (r i.toNatClampNeg)) (ty := .array ty) hexec hb (hP q0 _ ha) ((hK.2 t0 _ ht).1 n (fun j => va_rf (gx r n j))) rfl (fun q => by cases q) (by show ¬ (i < 0 ∨ (arrV _ _ _).slots.size ≤ _); rw [arrV_size]; exact hin) ?_ rfl rfl hdg kk
  show (arrV _ _ _).slots[_]? = _
  rw [arrV_read _ _ hlt]
  simp [gx, hlt, va_rf]
end MW
theorem vp_lt {i : Int32} {n : Nat} (h : vp_in i n) : i.toNatClampNeg < n := Nat.not_le.mp fun q => h (Or.inr q)
/-- an int that is a boolean -/
def bz (x : Int32) : Prop := narrow .boolean (.int x) = .int x
theorem bz0 : bz 0 := rfl
theorem bz1 : bz 1 := rfl
theorem tsw_out {x : Int32} {n : Nat} (hn : n < 2 ^ 31) (h : ∀ k : Nat, k ≤ n → ¬ x = nI k) : x.toInt < 0 ∨ (n : Int) < x.toInt := by
  by_cases q : x.toInt < 0
  · exact Or.inl q
  · right
    by_cases q2 : (n : Int) < x.toInt
    · exact q2
    · exfalso
      refine h x.toInt.toNat (by omega) (Int32.toInt_inj.mp ?_)
      rw [nI_toInt (by omega)]
      omega
def rx2 (a0 a1 : Nat) : Nat → Option Nat := fun i => if i = 0 then some a0 else if i = 1 then some a1 else none
def rx4 (a0 a1 a2 a3 : Nat) : Nat → Option Nat := fun i => if i = 0 then some a0 else if i = 1 then some a1 else if i = 2 then some a2 else if i = 3 then some a3 else none
theorem rx_last2 {i : Int32} (h : vp_in i 2) (h0 : ¬ i = (0 : Int32)) : i = (1 : Int32) := by
  obtain ⟨j, hj, rfl⟩ := vp_in_of h (by omega)
  rcases (show j = 0 ∨ j = 1 by omega) with rfl | rfl
  · exact absurd rfl h0
  · rfl
theorem rx_last4 {i : Int32} (h : vp_in i 4) (h0 : ¬ i = (0 : Int32)) (h1 : ¬ i = (1 : Int32)) (h2 : ¬ i = (2 : Int32)) : i = (3 : Int32) := by
  obtain ⟨j, hj, rfl⟩ := vp_in_of h (by omega)
  rcases (show j = 0 ∨ j = 1 ∨ j = 2 ∨ j = 3 by omega) with rfl | rfl | rfl | rfl
  · exact absurd rfl h0
  · exact absurd rfl h1
  · exact absurd rfl h2
  · rfl
theorem va_P1 {D : va_G} {cl : List vw_C} {ws : va_W} {H : Heap} {q0 : Nat} {x : Nat × va_E} (hP : va_P D cl ws H) (h : ws[q0]? = some x) : va_P D cl [x] H := by
  intro k y hy
  cases k with
  | zero => cases hy; exact hP q0 x h
  | succ k => cases hy
theorem va_D1 {A : Nat → Prop} {ws : va_W} {q0 : Nat} {x : Nat × va_E} (hD : va_D A ws) (h : ws[q0]? = some x) : va_D A [x] := by
  refine ⟨fun i j y z hi hj _ => ?_, fun k y hy => ?_⟩
  · cases i with
    | zero => cases j with
      | zero => rfl
      | succ j => cases hj
    | succ i => cases hi
  · cases k with
    | zero => cases hy; exact hD.2 q0 x h
    | succ k => cases hy
