/-! rows for the constructors: worlds in another order, new arrays and tables of rows, calls that make cells -/
theorem va_D.perm {A : Nat → Prop} {a b : va_W} (h : a.Perm b) (hD : va_D A a) : va_D A b := by
  have hp : a.Pairwise (fun x y => x.1 ≠ y.1) := by
    rw [List.pairwise_iff_getElem]
    intro i j hi hj hij e
    have := hD.1 i j _ _ (List.getElem?_eq_getElem hi) (List.getElem?_eq_getElem hj) e
    omega
  have hq : b.Pairwise (fun x y => x.1 ≠ y.1) := (h.pairwise_iff (fun z e => z e.symm)).mp hp
  rw [List.pairwise_iff_getElem] at hq
  refine ⟨fun i j x y hi hj e => ?_, fun k q hk => ?_⟩
  · obtain ⟨hi1, hi2⟩ := List.getElem?_eq_some_iff.mp hi
    obtain ⟨hj1, hj2⟩ := List.getElem?_eq_some_iff.mp hj
    rcases Nat.lt_trichotomy i j with z | z | z
    · exact absurd (by rw [hi2, hj2]; exact e) (hq i j hi1 hj1 z)
    · exact z
    · exact absurd (by rw [hi2, hj2]; exact e.symm) (hq j i hj1 hi1 z)
  · obtain ⟨k2, hk2⟩ := List.getElem?_of_mem (h.symm.subset (List.mem_of_getElem? hk))
    exact hD.2 k2 q hk2
theorem va_P.perm {D : va_G} {cl : List vw_C} {H : Heap} {a b : va_W} (h : a.Perm b) (hP : va_P D cl a H) : va_P D cl b H := fun k q hk => by
  obtain ⟨k2, hk2⟩ := List.getElem?_of_mem (h.symm.subset (List.mem_of_getElem? hk))
  exact hP k2 q hk2
theorem pm1 (x g1 c : va_W) : ((x ++ g1) ++ c).Perm ((x ++ c) ++ g1) := by
  rw [List.append_assoc, List.append_assoc]
  exact List.Perm.append_left x List.perm_append_comm
theorem pm2 (x g1 g2 c : va_W) : (((x ++ g1) ++ g2) ++ c).Perm (((x ++ c) ++ g1) ++ g2) := by
  have h := pm1 x (g1 ++ g2) c
  rw [← List.append_assoc, ← List.append_assoc] at h
  exact h
theorem pm3 (x g1 g2 g3 c : va_W) : ((((x ++ g1) ++ g2) ++ g3) ++ c).Perm ((((x ++ c) ++ g1) ++ g2) ++ g3) := by
  have h := pm1 x (g1 ++ (g2 ++ g3)) c
  rw [← List.append_assoc, ← List.append_assoc, ← List.append_assoc, ← List.append_assoc] at h
  exact h
theorem va_AOA.moved {ty : FieldType} {u U : State} (hvm : u.vm.Alike U.vm) (h : va_AOA ty u) : va_AOA ty U := by
  obtain ⟨comp, c, k, h1, h2, h3, h4, h5⟩ := Stand.arrayOver_specB h
  obtain ⟨k', hk', he⟩ := hvm.2.2 _ _ h3
  have hi : (U.vm.classes.findIdx? fun (x : Class) => match x.kind with | .array component _ => component == comp | _ => false) = some c := by
    have e1 := va_idx_bare U.vm comp
    have e2 := va_idx_bare u.vm comp
    have e3 : U.vm.bare = u.vm.bare := by first | exact hvm.bare_eq | exact hvm.bare_eq.symm
    rw [e3] at e1
    exact (e1.symm.trans e2).trans h2
  have hkind : k'.kind = .array comp (.array ty) := by rw [he]; exact h4
  have f1 : U.vm.findClass (FieldType.array ty).toString = some comp := by rw [hvm.findClass]; exact h1
  have f2 : U.vm.findClass ("[" ++ (FieldType.array ty).toString) = some c := by rw [hvm.findClass]; exact h5
  unfold va_AOA Cond.before Cond.holds
  simp only [Cond.value]
  rw [f1, Option.bind_some]
  refine (congrArg (fun o : Option Nat => (o.bind (fun c => (U.vm.classes[c]?).map fun (k : Class) => match k.kind with | .array _ t => decide (t = FieldType.array ty) && decide (U.vm.findClass ("[" ++ (FieldType.array ty).toString) = some c) | _ => false) == some true)) hi).trans ?_
  simp [hk', hkind, f2]
/-- what the constructors need of the tables beside KX -/
def KO (U : State) : Prop := va_AO "GapBounds$Store" U ∧ va_AO "GapBounds$Sheet" U ∧ va_AOA .long U
theorem KO.moved {u U : State} (hvm : u.vm.Alike U.vm) (h : KO u) : KO U := ⟨h.1.moved hvm, h.2.1.moved hvm, h.2.2.moved hvm⟩
theorem KO.call {U : State} {g : JFrame} {mk : MethodId} {a : Array Value} (h : KO U) : KO (U.calling g mk a) := KO.moved (u := U) (U := U.calling g mk a) (Vm.Alike.refl U.vm) h
abbrev pcI (D : va_G) (cy : Nat → ClassId) (cells : va_W) (sz : Nat) (av : List Value) : Array Value → State → Prop := va_Pc av (fun U => U.heap.size = sz ∧ va_P D vwCl cells U.heap ∧ KX D cy U ∧ va_D (fun _ => True) cells ∧ KO U)
theorem mpI {s : State} {H : Heap} {D : va_G} {cy : Nat → ClassId} {cells : va_W} {As : List Value} (hK : KX D cy s) (hP : va_P D vwCl cells H) {A : Nat → Prop} (hD : va_D A cells) (hO : KO s) : PreS s H (pcI D cy cells H.size As) As :=
  ⟨fun _ _ _ _ z => ⟨z.1, z.2.1, z.2.2.1, z.2.2.2.1.call, z.2.2.2.2.1, z.2.2.2.2.2.call⟩, fun _ hU hW => ⟨rfl, by rw [hU], by rw [hU]; exact hP, hK.warm hW, hD.weaken (fun _ _ _ _ => trivial), hO.moved hW.alike⟩⟩
section MI
variable {p : Program} {l : Launch} {e : Env} {R : Room} {s : State} {m : MethodId} {args : Array Value} {below : List Frame} {meth : Method} {c : Code} {H : Heap} {locs : List Loc} {cells slots : Nat} {Q : State → Prop}
variable {cc : ByteArray} {pc : Nat} {ls : Array Slot} {rest st0 : List Value} {D : va_G} {A0 : Nat → Prop} {cy : Nat → ClassId} {ws wc wr : va_W} {H0 : Heap} {a : Array Value} {mc ms : Nat}
/-- a call of a constructor -/
theorem mw_c {S : Type} {post : S → Prop} {B : S → va_W} (hr : va_Run p l e R s m args below meth c H locs cells slots mc ms (F0 m pc ls st0) rest (va_Qv post (bW D wc H.size B) (va_A wc H.size) a) (va_A wc H.size))
    (hP : va_P D vwCl (wr ++ wc) H) (hD : va_D A0 (wr ++ wc)) (hS : va_S A0 H0 H locs) (hA : ∀ q, H0.size ≤ q → A0 q)
    (kk : ∀ (u : S) (H1 : Heap) (locs1 : List Loc), post u → va_P D vwCl (wr ++ B u) H1 → va_D A0 (wr ++ B u) → va_S A0 H0 H1 locs1 → W p l e R s m args below meth c H1 locs1 (cells + mc) (slots + ms) Q (F0 m (pc + 3) ls rest)) : W p l e R s m args below meth c H locs cells slots Q (F0 m pc ls st0) := by
  have hF := gA hD hS hA
  refine va_callv hr hS (fun q _ h => hF q h) hF (fun u t H1 locs1 ht hvm hw hB hz hk hS1 => ?_)
  obtain ⟨hP1, hD1⟩ := hB
  rw [ht] at hP1
  obtain ⟨hP2, hD2⟩ := gJ hP hD hk hF hP1 hD1
  exact kk u H1 locs1 hw hP2 hD2 hS1
/-- a new array of numbers: its class is the one that the tables name -/
theorem mx_newa (hexec : p.tables.exec = Jvm.exec) (hb : c.code = cc) {atype : ArrayType} (harr : (Cond.arrayClass (newarray.typeOf atype)).before args s = true) {ty : FieldType} (hty : newarray.typeOf atype = ty) (k : Nat) (hk : (ty7 cy)[k]? = some (cy k, ty)) (hprim : ∀ cA : ClassId, va_RA s cA ty = (s.vm.findClass ("[" ++ ty.toString) = some cA)) (hK : KX D cy s) (hP : va_P D vwCl ws H) (hD : va_D A0 ws) (hS : va_S A0 H0 H locs) (hA : ∀ q, H0.size ≤ q → A0 q)
    {n : Int32} {N' : Nat} {a0 : vp_A} (ha : ∀ cA : ClassId, vp_cell cA a0 = arrV cA N' (fun _ => defaultValue ty)) (hn : ¬ n < 0) (hN : n.toNatClampNeg = N') (hbytes : N' * componentBytes ty ≤ 536870912) (hcells : cells + 1 ≤ R.cells) (hslots : slots + N' ≤ R.slots) (hdg : decode cc pc = .ok (.newarray atype, 2))
    (kk : ∀ (q : Nat) (H1 : Heap), va_P D vwCl (ws ++ [(q, .inl (cy k, a0))]) H1 → va_D A0 (ws ++ [(q, .inl (cy k, a0))]) → va_S A0 H0 H1 locs →
      W p l e R s m args below meth c H1 locs (cells + 1) (slots + N') Q (F0 m (pc + 2) ls (.ref q :: rest))) : W p l e R s m args below meth c H locs cells slots Q (F0 m pc ls (.int n :: rest)) := by
  refine va_newa hexec hb harr hty hK.1 hP hD hS hA ha hn hN hbytes hcells hslots hdg (fun q cA H1 hK1 hP1 hD1 hS1 => ?_)
  have e1 : va_RA s cA ty := (hK1.2 7 _ rfl).2
  have e2 : va_RA s (cy k) ty := (hK.1.2 k _ hk).2
  rw [hprim] at e1 e2
  have e3 : cA = cy k := Option.some.inj (e1.symm.trans e2)
  subst e3
  exact kk q H1 hP1 hD1 hS1
/-- a new row of objects -/
theorem mx_newq (hexec : p.tables.exec = Jvm.exec) (hb : c.code = cc) {own C : String} {index : Nat} (hown : s.vm.findClass own = some m.cls) (hclink : (Cond.classLink own index C).before args s = true) (hover : va_AO C s) (k : Nat) (hk : (ty7 cy)[k]? = some (cy k, .object C)) (hK : KX D cy s) (hP : va_P D vwCl ws H) (hD : va_D A0 ws) (hS : va_S A0 H0 H locs) (hA : ∀ q, H0.size ≤ q → A0 q)
    {n : Int32} {N' : Nat} (hn : ¬ n < 0) (hN : n.toNatClampNeg = N') (hbytes : N' * 4 ≤ 536870912) (hcells : cells + 1 ≤ R.cells) (hslots : slots + N' ≤ R.slots) (hdg : decode cc pc = .ok (.anewarray index, 3))
    (kk : ∀ (q : Nat) (H1 : Heap), va_P D vwCl (ws ++ [(q, .inl (cy k, N', .inr (.inr (.inr (.inr (fun _ => none))))))]) H1 → va_D A0 (ws ++ [(q, .inl (cy k, N', .inr (.inr (.inr (.inr (fun _ => none))))))]) → va_S A0 H0 H1 locs →
      W p l e R s m args below meth c H1 locs (cells + 1) (slots + N') Q (F0 m (pc + 3) ls (.ref q :: rest))) : W p l e R s m args below meth c H locs cells slots Q (F0 m pc ls (.int n :: rest)) := by
  refine va_newq hexec hb hown hclink hover hK.1 hP hD hS hA hn hN hbytes hcells hslots hdg (fun q cA H1 hK1 hP1 hD1 hS1 => ?_)
  obtain ⟨_, _, _, _, _, e1⟩ := (hK1.2 7 _ rfl).2
  obtain ⟨_, _, _, _, _, e2⟩ := (hK.1.2 k _ hk).2
  have e3 : cA = cy k := Option.some.inj (e1.symm.trans e2)
  subst e3
  exact kk q H1 hP1 hD1 hS1
theorem gp_new (r : Nat → Nat) (f : Nat → va_E) (N K : Nat) (cA : ClassId) : va_pl ([] ++ (List.range N).map r) (vr_up f ((List.range N).map r) (.inl (cA, K, .inr (.inl (fun _ => 0))))) = gp r (fun _ _ => 0) N cA K := by
  unfold va_pl gp
  rw [List.nil_append, List.map_map]
  apply List.map_congr_left
  intro i hi
  show (r i, vr_up f _ _ (r i)) = _
  rw [vr_up_in (List.mem_map.mpr ⟨i, hi, rfl⟩)]
/-- a new table of rows of longs -/
theorem mx_mna (hexec : p.tables.exec = Jvm.exec) (hb : c.code = cc) {own : String} {index : Nat} (hown : s.vm.findClass own = some m.cls) (hclink : (Cond.classLink own index "[[J").before args s = true) (hover : va_AOA .long s) (harr : (Cond.arrayClass .long).before args s = true)
    (hK : KX D cy s) (hP : va_P D vwCl ws H) (hD : va_D A0 ws) (hS : va_S A0 H0 H locs) (hA : ∀ q, H0.size ≤ q → A0 q) {n k : Int32} {N' K' : Nat} (hn : ¬ n < 0) (hk : ¬ k < 0) (hN : n.toNatClampNeg = N') (hM : k.toNatClampNeg = K')
    (hb1 : N' * 4 ≤ 536870912) (hb2 : K' * componentBytes .long ≤ 536870912) (hb3 : K' ≤ 536870912) (hcells : cells + (1 + N') ≤ R.cells) (hslots : slots + (N' + N' * K') ≤ R.slots) (hdg : decode cc pc = .ok (.multianewarray index 2, 4))
    (kk : ∀ (q : Nat) (r : Nat → Nat) (H1 : Heap), va_P D vwCl ((ws ++ [(q, .inl (cy 4, N', .inr (.inr (.inr (.inr (gx r N'))))))]) ++ gp r (fun _ _ => 0) N' (cy 2) K') H1 → va_D A0 ((ws ++ [(q, .inl (cy 4, N', .inr (.inr (.inr (.inr (gx r N'))))))]) ++ gp r (fun _ _ => 0) N' (cy 2) K') → va_S A0 H0 H1 locs →
      W p l e R s m args below meth c H1 locs (cells + 1 + N') (slots + N' + N' * K') Q (F0 m (pc + 4) ls (.ref q :: rest))) : W p l e R s m args below meth c H locs cells slots Q (F0 m pc ls (.int k :: .int n :: rest)) := by
  have hcy : s.vm.findClass (FieldType.array .long).toString = some (cy 2) := (hK.1.2 2 _ rfl).2
  have ew : ws ++ va_pl [] (fun _ => .inl (cy 2, K', .inr (.inl (fun _ => 0)))) = ws := List.append_nil ws
  refine va_mna (X := ws) (L := []) (f := fun _ => .inl (cy 2, K', .inr (.inl (fun _ => 0)))) (ty := .long) (cy := cy 2) (z := (K', .inr (.inl (fun _ => 0)))) hexec hb hown hclink hover harr hcy hK.1 (by rw [ew]; exact hP) (by rw [ew]; exact hD) hS hA hn hk hN hM hb1 hb2 hb3 rfl rfl hcells hslots (fun c9 => ?_) hdg (fun q r cA H1 hr1 hr2 hK1 hP1 hD1 hS1 => ?_)
  · show ({ cls := c9, slots := Array.replicate K' (.long 0), vm := .none } : Cell) = _
    rw [arrV_new]
    rfl
  · have e1 : s.vm.findClass ("[" ++ (FieldType.array .long).toString) = some cA := (hK1.2 7 _ rfl).2
    have e2 : s.vm.findClass ("[" ++ (FieldType.array .long).toString) = some (cy 4) := (hK.1.2 4 _ rfl).2
    have e3 : cA = cy 4 := Option.some.inj (e1.symm.trans e2)
    subst e3
    rw [gp_new] at hP1 hD1
    exact kk q r H1 hP1 hD1 hS1
end MI
