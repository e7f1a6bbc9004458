/-! text: the class reads all -/
section RA
variable {b : Nat → Nat} {q : Nat} {tb : Nat → Int32}
set_option maxHeartbeats 2000000 in
theorem s_readAll1 (hT : TB q tb b) {up lo lim str mk : Nat → Int32} {post : Int32 → Int32 → Int32 → Int32 → Int32 → Int32 → Int32 → Int32 → Int32 → (Nat → Int32) → (Nat → Int32) → (Nat → Int32) → (Nat → Int32) → Prop}
    (hF : ∀ cc pl l kd at' bh ds dw du dl di dt, Flt q (TXs b q) cc pl → post (nI cc) (nI pl) l kd at' bh ds 0 dw du dl di dt)
    (hZ : ∀ i n X Y c S W kd at' bh ds dw du dl di dt, (∀ F Z, TXs b q F Z → Z n X Y c S W i) → PgD n X Y c S W → StP n X Y c S 0 (fun _ => 0) W ds 0 dw du dl di dt mk → post 0 0 (nI i) kd at' bh ds 0 dw du dl di dt) :
    P_X1_readAll post (nI q) tb up lo lim str := by
  have hq := hT.1
  have loop := ml13 (F := LB_X1_readAll_33 post (0 : Int32) (nI q) tb) (I := fun w wa l kd at' bh ds dw du dl di dt z => (∃ cc pl : Nat, w = nI cc ∧ wa = nI pl ∧ Flt q (TXs b q) cc pl) ∨ (w = 0 ∧ wa = 0 ∧ ∃ (i t k a e n : Nat) (X Y : Nat → Nat) (c : Nat → Int32) (S : Nat → Nat) (W : Nat), l = nI i ∧ z = nI i ∧ kd = nI k ∧ at' = nI a ∧ bh = nI e ∧ TI b q k a e ∧ i ≤ a ∧ t + i = 330 ∧ PgD n X Y c S W ∧ StP n X Y c S 0 (fun _ => 0) W ds 0 dw du dl di dt mk ∧ ∀ F Z, TXs b q F Z → TX b q F Z t i k a e n X Y c S W)) (μ := fun _ _ _ _ _ _ _ _ _ _ _ _ z => 400 - z.toNatClampNeg) (by
    rintro w wa l kd at' bh ds dw du dl di dt z hcase K hK
    unfold LB_X1_readAll_33
    rcases hcase with ⟨cc, pl, rfl, rfl, hf⟩ | ⟨rfl, rfl, i, t, k, a, e, n, X, Y, c, S, W, rfl, rfl, rfl, rfl, rfl, hI, hia, ht, hD, hs, hg⟩
    · exact br_c (fun _ => hF _ _ _ _ _ _ _ _ _ _ _ _ hf) (fun _ => ⟨fun _ => hF _ _ _ _ _ _ _ _ _ _ _ _ hf, fun z => absurd z hf.ne⟩)
    · have haq := hI.1
      obtain ⟨g1, g2, g3⟩ := hI.e_le
      obtain ⟨t', rfl⟩ : ∃ t', t = t' + 1 := ⟨t - 1, by omega⟩
      have hmu : 400 - (nI i + 1).toNatClampNeg < 400 - (nI i).toNatClampNeg := by rw [nI_1, nI_c (by omega), nI_c (by omega)]; omega
      refine br_f (show ¬ nI 320 < nI i from nI_nlt (by omega) (by omega)) ⟨fun z => absurd rfl z, fun _ => ?_⟩
      by_cases hk : k = 0
      · exact br_t (by rw [hk]; rfl) (hZ i n X Y c S W _ _ _ _ _ _ _ _ _ (fun F Z h => (hg F Z h).1 hk) hD hs)
      · obtain ⟨hlt1, hlt2⟩ := hI.lt hk
        refine br_f (fun z => hk ((nI_eq (b := 0) (by omega) (by omega)).mp z)) ?_
        -- a fault: the loop ends
        have bad : ∀ (cc pl : Nat) (l kd at' bh ds dw : Int32) (du dl di dt : Nat → Int32), Flt q (TXs b q) cc pl → B_X1_readAll_92 K (nI cc) (nI pl) l kd at' bh ds dw (nI q) tb du dl di dt (nI i) := fun cc pl l kd at' bh ds dw du dl di dt hf => by
          unfold B_X1_readAll_92
          exact ts1_b hf.ne (hK _ _ _ _ _ _ _ _ _ _ _ _ _ (Or.inl ⟨cc, pl, rfl, rfl, hf⟩) hmu)
        -- behind the line: the stop
        have stp : ∀ (k4 a4 e4 n' : Nat) (X' Y' : Nat → Nat) (c' : Nat → Int32) (S' : Nat → Nat) (W' : Nat) (ds dw : Int32) (du dl di dt : Nat → Int32), TI b q k4 a4 e4 → a < a4 → PgD n' X' Y' c' S' W' → StP n' X' Y' c' S' 0 (fun _ => 0) W' ds 0 dw du dl di dt mk → (∀ F Z, TXs b q F Z → ST b q F (fun k5 a5 e5 => TX b q F Z t' (i + 1) k5 a5 e5 n' X' Y' c' S' W') k4 a4 e4) → B_X1_readAll_92 K 0 0 (nI i) (nI k4) (nI a4) (nI e4) ds dw (nI q) tb du dl di dt (nI i) := fun k4 a4 e4 n' X' Y' c' S' W' ds dw du dl di dt hI4 hlt4 hD' hs' hg' => by
          unfold B_X1_readAll_92
          refine ts1 hT hI4 (R := fun F Z k5 a5 e5 => TX b q F Z t' (i + 1) k5 a5 e5 n' X' Y' c' S' W') hg' (fun cc pl l kd at' bh hf => hK _ _ _ _ _ _ _ _ _ _ _ _ _ (Or.inl ⟨cc, pl, rfl, rfl, hf⟩) hmu) (fun k5 a5 e5 hI5 hlt5 hR5 => hK _ _ _ _ _ _ _ _ _ _ _ _ _ (Or.inr ⟨rfl, rfl, i + 1, t', k5, a5, e5, n', X', Y', c', S', W', nI_1 i, nI_1 i, rfl, rfl, rfl, hI5, by omega, by omega, hD', hs', hR5⟩) hmu)
        refine lot1 hT hI (fun i' hi' hk1 hNM => ?_) (fun hk1 hNM => ?_) (fun hk1 => ?_)
        · have hLI : ∀ F Z, TXs b q F Z → LI b q F (TX b q F Z t' (i + 1)) a e n X Y c S W i' := fun F Z h => hNM _ (((hg F Z h).2 hk).1 hk1)
          refine ⟨fun _ => ?_, fun z => absurd z (nI_m1 (by omega))⟩
          by_cases h0 : i' = 0
          · subst h0
            refine ⟨fun z => absurd rfl z, fun _ => ?_⟩
            unfold P_X1_readReal
            rw [hs.2.2.1]
            have hW := hD.1.2.2.1
            by_cases hW0 : W = 0
            · refine ⟨fun z => absurd (by rw [hW0]; rfl) z, fun _ => fail_y ?_⟩
              exact bad 4 a _ _ _ _ _ _ _ _ _ _ ⟨by omega, by omega, haq, fun F Z h => ((((hLI F Z h).2 (by omega)).1 rfl).1 hW0)⟩
            · refine ⟨fun _ => ?_, fun z => absurd ((nI_eq (b := 0) (by omega) (by omega)).mp z) hW0⟩
              refine nxg1 hT g2 (R := fun F Z k1 a1 e1 => ST b q F (fun k2 a2 e2 => TX b q F Z t' (i + 1) k2 a2 e2 n X Y c S 0) k1 a1 e1) (fun F Z h => ((((hLI F Z h).2 (by omega)).1 rfl).2 hW0)) (fun cc pl kd at' bh hf => bad cc pl _ _ _ _ _ _ _ _ _ _ hf) (fun k1 a1 e1 hI1 hle1 hR1 => ?_)
              obtain ⟨⟨p1, p2, p3, p4, p5, p6⟩, hc⟩ := hD
              obtain ⟨s1, s2, s3, s4, s5⟩ := hs
              exact stp k1 a1 e1 n X Y c S 0 _ _ _ _ _ _ hI1 (by omega) ⟨⟨p1, p2, by omega, p4, p5, p6⟩, hc⟩ ⟨s1, s2, rfl, s4, s5⟩ hR1
          · refine ⟨fun _ => ?_, fun z => absurd ((nI_eq (b := 0) (by omega) (by omega)).mp z) h0⟩
            refine rb1 hT hD.1.1 hs hI hk (by omega) (by omega) (R := fun F Z x y v k4 a4 e4 => ST b q F (fun k5 a5 e5 => TX b q F Z t' (i + 1) k5 a5 e5 (n + nd i') (pX i' x y n X) (pX i' y x n Y) (pc i' v n c) (pS i' n S) W) k4 a4 e4) (fun F Z h => ((hLI F Z h).2 (by omega)).2 h0) (fun cc pl kd at' bh hf => bad cc pl _ _ _ _ _ _ _ _ _ _ hf) (fun x y v k4 a4 e4 ds' du' dl' di' dt' hn hx hy hxy v1 v2 hI4 hlt4 hR4 hs4 => ?_)
            exact stp k4 a4 e4 _ _ _ _ _ W _ _ _ _ _ _ hI4 hlt4 (pgd_pb hD (by omega) (by omega) hn hx hy hxy v1 v2) hs4 hR4
        · have hLI : ∀ F Z, TXs b q F Z → LI b q F (TX b q F Z t' (i + 1)) a e n X Y c S W 6 := fun F Z h => hNM _ (((hg F Z h).2 hk).1 hk1)
          exact ⟨fun z => absurd rfl z, fun _ => fail_y (bad 2 a _ _ _ _ _ _ _ _ _ _ ⟨by omega, by omega, haq, fun F Z h => (hLI F Z h).1 rfl⟩)⟩
        · exact ⟨fun z => absurd rfl z, fun _ => fail_y (bad 2 a _ _ _ _ _ _ _ _ _ _ ⟨by omega, by omega, haq, fun F Z h => ((hg F Z h).2 hk).2 hk1⟩)⟩)
  unfold P_X1_readAll P_X5_empty
  refine nxg1 (p := 0) hT (Nat.zero_le _) (T := TXs b q) (R := fun F Z k a e => TX b q F Z 330 0 k a e 0 (fun _ => 0) (fun _ => 0) (fun _ => 0) (fun _ => 0) 1) (fun F Z h => h) (fun cc pl kd at' bh hf => ?_) (fun k a e hI _ hR => ?_)
  · exact loop _ _ _ _ _ _ _ _ _ _ _ _ _ (Or.inl ⟨cc, pl, rfl, rfl, hf⟩)
  · refine loop _ _ _ _ _ _ _ _ _ _ _ _ _ (Or.inr ⟨rfl, rfl, 0, 330, k, a, e, 0, fun _ => 0, fun _ => 0, fun _ => 0, fun _ => 0, 1, rfl, rfl, rfl, rfl, rfl, hI, Nat.zero_le _, rfl, ⟨⟨by omega, by omega, by omega, fun k hk => absurd hk (by omega), fun i j _ hj => absurd hj (by omega), fun j hj => absurd hj (by omega)⟩, fun k hk => absurd hk (by omega)⟩, ⟨rfl, rfl, rfl, fun k hk => absurd hk (by omega), fun j hj => absurd hj (by omega)⟩, hR⟩)
end RA
