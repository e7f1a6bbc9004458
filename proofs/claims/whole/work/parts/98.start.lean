/-! the law: what its start gives -/
theorem ac_of {args : Array Value} {s : State} {ty : FieldType} (h : (Cond.arrayClass ty).before args s = true) : ∃ c : ClassId, ArrOfT s c ty ∧ s.vm.findClass ("[" ++ ty.toString) = some c := by
  obtain ⟨c, k, comp, h1, h2, h3⟩ := Cond.arrayClass_spec h
  exact ⟨c, fun n z => ⟨(fun k h => by cases h), k, h2, comp, h3⟩, h1⟩
theorem ao_of {args : Array Value} {s : State} {C : String} (h : (Cond.arrayOver (.object C)).before args s = true) : ∃ c : ClassId, ArrOfT s c (.object C) ∧ va_RA s c (.object C) := by
  obtain ⟨comp, c, k, h1, h2, h3, h4, h5⟩ := Cond.arrayOver_spec h
  exact ⟨c, fun n z => ⟨(fun k h => by cases h), k, h3, comp, h4⟩, k, comp, h3, h4, h1, h5⟩
theorem aa_of {s : State} {ty : FieldType} (h : va_AOA ty s) : ∃ c : ClassId, ArrOfT s c (.array ty) ∧ s.vm.findClass ("[" ++ (FieldType.array ty).toString) = some c := by
  obtain ⟨comp, c, k, h1, h2, h3, h4, h5⟩ := Stand.arrayOver_specB h
  exact ⟨c, fun n z => ⟨(fun k h => by cases h), k, h3, comp, h4⟩, h5⟩
theorem ko_of {args : Array Value} {s : State} (hts : ∀ w ∈ lw_tbl, w.before args s = true) : KO s := ⟨va_AO.of (hts (.arrayOver (.object "GapBounds$Store")) (List.mem_append_right _ (List.mem_of_getElem? (i := 81) (by decide +kernel)))), va_AO.of (hts (.arrayOver (.object "GapBounds$Sheet")) (List.mem_append_right _ (List.mem_of_getElem? (i := 83) (by decide +kernel)))), va_AOA.of (hts (.arrayOver (.array .long)) (List.mem_append_right _ (List.mem_of_getElem? (i := 109) (by decide +kernel))))⟩
theorem nw_in : ∀ w ∈ nwL, w ∈ lw_tbl := by decide +kernel
theorem nw_of {args : Array Value} {s : State} (hts : ∀ w ∈ lw_tbl, w.before args s = true) : NW s := by
  intro w hw
  obtain ⟨a, i, x, z, rfl⟩ := nwL_form w hw
  exact va_Nw.of rfl (hts _ (nw_in _ hw))
set_option maxRecDepth 100000 in
theorem kx_of {args : Array Value} {s : State} (hts : ∀ w ∈ lw_tbl, w.before args s = true) : ∃ (D : va_G) (cy : Nat → ClassId), KX D cy s := by
  obtain ⟨c0, iS0, hKn0⟩ := u_known (C := RX0) (T := TX0) (N := 3) (n := 3) hts inX0 (hts (.instantiable RX0 3) (List.mem_append_right _ (List.mem_of_getElem? (i := 119) (by decide +kernel))))
  obtain ⟨c1, iS1, hKn1⟩ := u_known (C := RX1) (T := TX1) (N := 8) (n := 8) hts inX1 (hts (.instantiable RX1 8) (List.mem_append_right _ (List.mem_of_getElem? (i := 158) (by decide +kernel))))
  obtain ⟨c2, iS2, hKn2⟩ := u_known (C := RX2) (T := TX2) (N := 2) (n := 2) hts inX2 (hts (.instantiable RX2 2) (List.mem_append_right _ (List.mem_of_getElem? (i := 103) (by decide +kernel))))
  obtain ⟨c3, iS3, hKn3⟩ := u_known (C := RX3) (T := TX3) (N := 3) (n := 3) hts inX3 (hts (.instantiable RX3 3) (List.mem_append_right _ (List.mem_of_getElem? (i := 84) (by decide +kernel))))
  obtain ⟨c4, iS4, hKn4⟩ := u_known (C := RX4) (T := TX4) (N := 4) (n := 4) hts inX4 (hts (.instantiable RX4 4) (List.mem_append_right _ (List.mem_of_getElem? (i := 138) (by decide +kernel))))
  obtain ⟨c5, iS5, hKn5⟩ := u_known (C := RX5) (T := TX5) (N := 8) (n := 8) hts inX5 (hts (.instantiable RX5 8) (List.mem_append_right _ (List.mem_of_getElem? (i := 26) (by decide +kernel))))
  obtain ⟨c6, iS6, hKn6⟩ := u_known (C := RX6) (T := TX6) (N := 2) (n := 2) hts inX6 (hts (.instantiable RX6 2) (List.mem_append_right _ (List.mem_of_getElem? (i := 164) (by decide +kernel))))
  obtain ⟨c7, iS7, hKn7⟩ := u_known (C := RX7) (T := TX7) (N := 10) (n := 10) hts inX7 (hts (.instantiable RX7 10) (List.mem_append_right _ (List.mem_of_getElem? (i := 18) (by decide +kernel))))
  obtain ⟨c8, iS8, hKn8⟩ := u_known (C := RX8) (T := TX8) (N := 23) (n := 23) hts inX8 (hts (.instantiable RX8 23) (List.mem_append_right _ (List.mem_of_getElem? (i := 717) (by decide +kernel))))
  obtain ⟨a0, p0, r0⟩ := ac_of (hts (.arrayClass .byte) (List.mem_append_right _ (List.mem_of_getElem? (i := 179) (by decide +kernel))))
  obtain ⟨a1, p1, r1⟩ := ac_of (hts (.arrayClass .int) (List.mem_append_right _ (List.mem_of_getElem? (i := 80) (by decide +kernel))))
  obtain ⟨a2, p2, r2⟩ := ac_of (hts (.arrayClass .long) (List.mem_append_right _ (List.mem_of_getElem? (i := 117) (by decide +kernel))))
  obtain ⟨a3, p3, r3⟩ := ac_of (hts (.arrayClass .boolean) (List.mem_append_right _ (List.mem_of_getElem? (i := 101) (by decide +kernel))))
  obtain ⟨a4, p4, r4⟩ := aa_of (ko_of hts).2.2
  obtain ⟨a5, p5, r5⟩ := ao_of (va_AO.use (A := args) (ko_of hts).1)
  obtain ⟨a6, p6, r6⟩ := ao_of (va_AO.use (A := args) (ko_of hts).2.1)
  refine ⟨(fun k => if k = 0 then c0 else if k = 1 then c1 else if k = 2 then c2 else if k = 3 then c3 else if k = 4 then c4 else if k = 5 then c5 else if k = 6 then c6 else if k = 7 then c7 else c8, fun k => if k = 0 then iS0 else if k = 1 then iS1 else if k = 2 then iS2 else if k = 3 then iS3 else if k = 4 then iS4 else if k = 5 then iS5 else if k = 6 then iS6 else if k = 7 then iS7 else iS8), fun k => if k = 0 then a0 else if k = 1 then a1 else if k = 2 then a2 else if k = 3 then a3 else if k = 4 then a4 else if k = 5 then a5 else a6, ⟨fun k q hq => ?_, fun k q hq => ?_⟩, nw_of hts⟩
  · match k, hq with
    | 0, hq => cases hq; exact hKn0
    | 1, hq => cases hq; exact hKn1
    | 2, hq => cases hq; exact hKn2
    | 3, hq => cases hq; exact hKn3
    | 4, hq => cases hq; exact hKn4
    | 5, hq => cases hq; exact hKn5
    | 6, hq => cases hq; exact hKn6
    | 7, hq => cases hq; exact hKn7
    | 8, hq => cases hq; exact hKn8
    | k + 9, hq => simp [vwCl] at hq
  · match k, hq with
    | 0, hq => cases hq; exact ⟨p0, r0⟩
    | 1, hq => cases hq; exact ⟨p1, r1⟩
    | 2, hq => cases hq; exact ⟨p2, r2⟩
    | 3, hq => cases hq; exact ⟨p3, r3⟩
    | 4, hq => cases hq; exact ⟨p4, r4⟩
    | 5, hq => cases hq; exact ⟨p5, r5⟩
    | 6, hq => cases hq; exact ⟨p6, r6⟩
    | k + 7, hq => simp [ty7] at hq
def tmS (i : Nat) : Term := .string RX1 ([118, 124, 126, 128, 130, 132].getD i 0)
set_option maxHeartbeats 8000000 in
set_option maxRecDepth 100000 in
theorem sx_of {args : Array Value} {s : State} (hts : ∀ w ∈ lw_tbl, w.before args s = true) (hgv : (Jvm.Cond.and given_1 narrow_1).before args s = true) : ∃ adK adV : Nat → Nat, SX adK adV (lwA s) s s.heap := by
  have hs := flat_of_before _ hgv
  have hA : ∀ a : Nat, a < s.heap.size → ¬ lwA s a := fun a h => Nat.not_le.mpr h
  have c6 : ∀ i : Nat, i < 6 → i = 0 ∨ i = 1 ∨ i = 2 ∨ i = 3 ∨ i = 4 ∨ i = 5 := fun i hi => by omega
  have hel : ∀ i : Nat, i < 6 → ∀ j : Nat, j < lenS.getD i 0 → (Cond.eq (.elem (.field (tmS i) "java/lang/String" "value" "[B") (.int (Int32.ofNat j))) (.int ((bytS.getD i []).getD j 0))).before args s = true := by
    intro i hi j hj
    rcases c6 i hi with rfl | rfl | rfl | rfl | rfl | rfl
    · have hj : j < 4 := hj
      have cj : j = 0 ∨ j = 1 ∨ j = 2 ∨ j = 3 := by omega
      rcases cj with rfl | rfl | rfl | rfl <;> exact hs _ (by decide +kernel)
    · have hj : j < 4 := hj
      have cj : j = 0 ∨ j = 1 ∨ j = 2 ∨ j = 3 := by omega
      rcases cj with rfl | rfl | rfl | rfl <;> exact hs _ (by decide +kernel)
    · have hj : j < 4 := hj
      have cj : j = 0 ∨ j = 1 ∨ j = 2 ∨ j = 3 := by omega
      rcases cj with rfl | rfl | rfl | rfl <;> exact hs _ (by decide +kernel)
    · have hj : j < 5 := hj
      have cj : j = 0 ∨ j = 1 ∨ j = 2 ∨ j = 3 ∨ j = 4 := by omega
      rcases cj with rfl | rfl | rfl | rfl | rfl <;> exact hs _ (by decide +kernel)
    · have hj : j < 4 := hj
      have cj : j = 0 ∨ j = 1 ∨ j = 2 ∨ j = 3 := by omega
      rcases cj with rfl | rfl | rfl | rfl <;> exact hs _ (by decide +kernel)
    · have hj : j < 4 := hj
      have cj : j = 0 ∨ j = 1 ∨ j = 2 ∨ j = 3 := by omega
      rcases cj with rfl | rfl | rfl | rfl <;> exact hs _ (by decide +kernel)
  have hne : ∀ i j : Nat, i < 6 → j < 6 → i ≠ j → (Cond.not (Cond.eq (tmS i) (tmS j))).before args s = true ∨ (Cond.not (Cond.eq (tmS j) (tmS i))).before args s = true := by
    intro i j hi hj hij
    rcases c6 i hi with rfl | rfl | rfl | rfl | rfl | rfl
    · rcases c6 j hj with rfl | rfl | rfl | rfl | rfl | rfl
      · exact absurd rfl hij
      · exact Or.inl (hs _ (by decide +kernel))
      · exact Or.inl (hs _ (by decide +kernel))
      · exact Or.inl (hs _ (by decide +kernel))
      · exact Or.inl (hs _ (by decide +kernel))
      · exact Or.inl (hs _ (by decide +kernel))
    · rcases c6 j hj with rfl | rfl | rfl | rfl | rfl | rfl
      · exact Or.inr (hs _ (by decide +kernel))
      · exact absurd rfl hij
      · exact Or.inl (hs _ (by decide +kernel))
      · exact Or.inl (hs _ (by decide +kernel))
      · exact Or.inl (hs _ (by decide +kernel))
      · exact Or.inl (hs _ (by decide +kernel))
    · rcases c6 j hj with rfl | rfl | rfl | rfl | rfl | rfl
      · exact Or.inr (hs _ (by decide +kernel))
      · exact Or.inr (hs _ (by decide +kernel))
      · exact absurd rfl hij
      · exact Or.inl (hs _ (by decide +kernel))
      · exact Or.inl (hs _ (by decide +kernel))
      · exact Or.inl (hs _ (by decide +kernel))
    · rcases c6 j hj with rfl | rfl | rfl | rfl | rfl | rfl
      · exact Or.inr (hs _ (by decide +kernel))
      · exact Or.inr (hs _ (by decide +kernel))
      · exact Or.inr (hs _ (by decide +kernel))
      · exact absurd rfl hij
      · exact Or.inl (hs _ (by decide +kernel))
      · exact Or.inl (hs _ (by decide +kernel))
    · rcases c6 j hj with rfl | rfl | rfl | rfl | rfl | rfl
      · exact Or.inr (hs _ (by decide +kernel))
      · exact Or.inr (hs _ (by decide +kernel))
      · exact Or.inr (hs _ (by decide +kernel))
      · exact Or.inr (hs _ (by decide +kernel))
      · exact absurd rfl hij
      · exact Or.inl (hs _ (by decide +kernel))
    · rcases c6 j hj with rfl | rfl | rfl | rfl | rfl | rfl
      · exact Or.inr (hs _ (by decide +kernel))
      · exact Or.inr (hs _ (by decide +kernel))
      · exact Or.inr (hs _ (by decide +kernel))
      · exact Or.inr (hs _ (by decide +kernel))
      · exact Or.inr (hs _ (by decide +kernel))
      · exact absurd rfl hij
  obtain ⟨adK, adV, hS, hev⟩ := vk_Sof (args := args) (s := s) (N := 6) (tm := tmS) (len := lenS) (byt := bytS) (A := lwA s) (fun i hi => by rcases c6 i hi with rfl | rfl | rfl | rfl | rfl | rfl <;> decide) (fun i hi => by rcases c6 i hi with rfl | rfl | rfl | rfl | rfl | rfl <;> exact hs _ (by decide +kernel)) (fun i hi => by rcases c6 i hi with rfl | rfl | rfl | rfl | rfl | rfl <;> exact hs _ (by decide +kernel)) (fun i hi => by rcases c6 i hi with rfl | rfl | rfl | rfl | rfl | rfl <;> exact hs _ (by decide +kernel)) (fun i hi => by rcases c6 i hi with rfl | rfl | rfl | rfl | rfl | rfl <;> exact hs _ (by decide +kernel)) hel hne hA
  exact ⟨adK, adV, hS, ⟨va_Zof (hts (.laysStatic "java/lang/String" "COMPACT_STRINGS" "Z") (List.mem_append_right _ (List.mem_of_getElem? (i := 307) (by decide +kernel)))) (hts (.initialized "java/lang/String") (List.mem_append_right _ (List.mem_of_getElem? (i := 10) (by decide +kernel)))) (va_eqt (hs _ (by decide +kernel))) hA, va_Zqof (hts (.laysStatic "jdk/internal/util/Preconditions" "SIOOBE_FORMATTER" "Ljava/util/function/BiFunction;") (List.mem_append_right _ (List.mem_of_getElem? (i := 323) (by decide +kernel)))) (hts (.initialized "jdk/internal/util/Preconditions") (List.mem_append_right _ (List.mem_of_getElem? (i := 12) (by decide +kernel)))) (hs _ (by decide +kernel)) hA⟩, vk_R.of (A := args) (hts (.stringRef RX1 118 "real") (List.mem_append_right _ (List.mem_of_getElem? (i := 293) (by decide +kernel)))) (hev 0 (by omega)), vk_R.of (A := args) (hts (.stringRef RX1 124 "most") (List.mem_append_right _ (List.mem_of_getElem? (i := 346) (by decide +kernel)))) (hev 1 (by omega)), vk_R.of (A := args) (hts (.stringRef RX1 126 "less") (List.mem_append_right _ (List.mem_of_getElem? (i := 347) (by decide +kernel)))) (hev 2 (by omega)), vk_R.of (A := args) (hts (.stringRef RX1 128 "least") (List.mem_append_right _ (List.mem_of_getElem? (i := 348) (by decide +kernel)))) (hev 3 (by omega)), vk_R.of (A := args) (hts (.stringRef RX1 130 "over") (List.mem_append_right _ (List.mem_of_getElem? (i := 349) (by decide +kernel)))) (hev 4 (by omega)), vk_R.of (A := args) (hts (.stringRef RX1 132 "same") (List.mem_append_right _ (List.mem_of_getElem? (i := 350) (by decide +kernel)))) (hev 5 (by omega))⟩
