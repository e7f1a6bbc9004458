/-! text: both -/
section TX'
variable {size marked wh : Int32} {up lo lim str mk : Nat → Int32} {st : Nat → Int32}
theorem pot_d {n W : Nat} {X Y S : Nat → Nat} {c : Nat → Int32} (hD : PgD n X Y c S W) : PotOk (fun k => k < n) X Y (wsc 1000 (cwt W c S) (ewt W S)) := by
  refine ⟨fun _ => 0, 20000000, by omega, by omega, fun v _ => ⟨by dsimp only; omega, by dsimp only; omega⟩, fun k hk => ?_⟩
  dsimp only
  have h1 := hD.2 k hk
  have h2 := (hD.1.2.2.2.1 k hk).2.2.2
  unfold wsc cwt ewt
  split <;> omega
set_option maxHeartbeats 4000000 in
theorem k_text {ts td : Int32} {tb tp : Nat → Int32} (hTp : RTape ts tb td tp) (hP : RPg 0 size marked wh up lo lim str mk st) {cs cm : Int32} {row cf : Nat → Int32} (hC : RConf cs row cm cf) {im kp : Nat → Int32} {size0 marked0 wh0 : Int32} {up0 lo0 lim0 str0 mk0 : Nat → Int32} {size1 marked1 wh1 : Int32} {up1 lo1 lim1 str1 mk1 : Nat → Int32}
    (h0 : RIm 107 size0 marked0 wh0 up0 lo0 lim0 str0 mk0 (im 0) (kp 0) st) (h1 : RIm 214 size1 marked1 wh1 up1 lo1 lim1 str1 mk1 (im 1) (kp 1) st) {ends letters : Nat → Int32} (hN : NT ends letters) (dup dlo dli dst dmk : Nat → Int32) (f D : Nat → Int64) (ba he tk vl : Int32)
    {Q : Int32 → Int32 → Int32 → Int32 → Int32 → Int32 → Int32 → Int32 → Int32 → Int32 → Int32 → (Nat → Int32) → (Nat → Int32) → (Nat → Int32) → (Nat → Int32) → (Nat → Int64) → Int32 → Int32 → Int32 → (Nat → Int32) → (Nat → Int32) → (Nat → Int32) → (Nat → Int32) → (Nat → Int32) → Int32 → (Nat → Int32) → Int32 → Int32 → Int32 → Int32 → Int32 → Int32 → Int32 → Int32 → Int32 → Int32 → Int32 → (Nat → Int32) → (Nat → Int64) → (Nat → Int32) → Prop}
    (hQ : ∀ r w wa l kd at' bh ds dm dw du dl di dt f' sz' mkd' wh' u' l' li' s' mk' cs' im' ba' sp' he' tk' vl' told' cm' st' D' kp', RPg 0 sz' mkd' wh' u' l' li' s' mk' st' → RConf cs' row cm' cf → RIm 107 size0 marked0 wh0 up0 lo0 lim0 str0 mk0 (im' 0) (kp' 0) st' → RIm 214 size1 marked1 wh1 up1 lo1 lim1 str1 mk1 (im' 1) (kp' 1) st' → Q r w wa l kd at' bh ds dm dw 0 du dl di dt f' sz' mkd' wh' u' l' li' s' mk' cs' im' r 0 w w ba' sp' he' tk' vl' told' cm' st' D' kp') :
    P_X7_text (fun r w wa l kd at' bh ds dm dw ts' du dl di dt f' sz' mkd' wh' u' l' li' s' mk' cs' im' => P_X8_text (fun r2 td' fl' br' ba' sp' he' tk' vl' told' cm' st' D' kp' => Q r w wa l kd at' bh ds dm dw ts' du dl di dt f' sz' mkd' wh' u' l' li' s' mk' cs' im' r2 td' fl' br' ba' sp' he' tk' vl' told' cm' st' D' kp') td ba he tk vl cm tp st ends letters D kp) ts tb dup dlo dli dst f size marked wh up lo lim str dmk mk cs im := by
  obtain ⟨q, hq, rfl, rfl, hbt⟩ := hTp
  have hb : ∃ b : Nat → Nat, TB q tb b ∧ TB q tp b := by
    refine ⟨fun j => (tp j).toNatClampNeg, ⟨hq, fun j hj => ?_⟩, ⟨hq, fun j hj => ?_⟩⟩
    · obtain ⟨e1, v, hv, e2⟩ := hbt j hj
      dsimp only
      rw [e1, e2, nI_c (by omega)]
      exact ⟨rfl, hv⟩
    · obtain ⟨e1, v, hv, e2⟩ := hbt j hj
      dsimp only
      rw [e2, nI_c (by omega)]
      exact ⟨rfl, hv⟩
  obtain ⟨b, hT1, hT8⟩ := hb
  -- what is told when nothing is taken
  have stay : ∀ (cc pl : Nat) (wa l kd at' bh ds dm dw : Int32) (du dl di dt : Nat → Int32) (f' D' : Nat → Int64) (sp' he' tk' vl' told' : Int32) (st' : Nat → Int32), (∀ j, (j < 321 ∨ 428 ≤ j) → st' j = st j) → Q ((-10 : Int32) - nI pl) (nI cc) wa l kd at' bh ds dm dw 0 du dl di dt f' size marked wh up lo lim str mk cs im ((-10 : Int32) - nI pl) 0 (nI cc) (nI cc) (nI pl) sp' he' tk' vl' told' cm st' D' kp := fun cc pl wa l kd at' bh ds dm dw du dl di dt f' D' sp' he' tk' vl' told' st' hfr => hQ _ _ _ _ _ _ _ _ _ _ _ _ _ _ _ _ _ _ _ _ _ _ _ _ _ _ _ _ _ _ _ _ _ _ _ (hP.frame (fun j _ hj => hfr j (by omega))) hC (h0.frame (fun j _ hj => hfr j (by omega))) (h1.frame (fun j _ hj => hfr j (by omega)))
  unfold P_X7_text
  refine s_readAll1 hT1 (mk := dmk) (fun cc pl l kd at' bh ds dw du dl di dt hf => ⟨fun _ => ?_, fun z => absurd z hf.ne⟩) (fun i n X Y c S W kd at' bh ds dw du dl di dt hz hD hs => ⟨fun z => absurd rfl z, fun _ => ?_⟩)
  · -- the class met a fault
    unfold B_X7_text_60
    refine ⟨fun z => absurd z hf.ne, fun _ => s_text8 hT8 hN (fun c2 p2 sp' he' tk' vl' told' st' x1 hf2 hfr => ?_) (fun i2 n2 X2 Y2 c2 S2 W2 sp' tk' vl' told' st' hz2 hD2 hr2 hfr => ?_)⟩
    · rcases dt_txs (b := b) (q := q) with ⟨c0, p0, hd⟩ | ⟨n0, X0, Y0, c0, S0, W0, l0, hd⟩
      · obtain ⟨rfl, rfl⟩ := hf.2.2.2 (fun c p => c = c0 ∧ p = p0) (fun _ _ _ _ _ _ _ => True) (hd _ _ ⟨rfl, rfl⟩)
        obtain ⟨rfl, rfl⟩ := hf2.2.2.2 (fun c p => c = cc ∧ p = pl) (fun _ _ _ _ _ _ _ => True) (hd _ _ ⟨rfl, rfl⟩)
        unfold B_X8_text_70 B_X8_text_93
        exact ⟨fun _ => br_f hf2.pos (stay _ _ _ _ _ _ _ _ _ _ _ _ _ _ _ _ _ _ _ _ _ _ hfr), fun z => absurd z hf2.ne⟩
      · exact (hf.2.2.2 (fun _ _ => False) (fun _ _ _ _ _ _ _ => True) (hd _ _ trivial)).elim
    · rcases dt_txs (b := b) (q := q) with ⟨c0, p0, hd⟩ | ⟨n0, X0, Y0, c0, S0, W0, l0, hd⟩
      · exact (hz2 (fun _ _ => True) (fun _ _ _ _ _ _ _ => False) (hd _ _ trivial)).elim
      · exact (hf.2.2.2 (fun _ _ => False) (fun _ _ _ _ _ _ _ => True) (hd _ _ trivial)).elim
  · -- the class read all
    have hX : ∀ k, k < n → X k < 10 := fun k h => (hD.1.2.2.2.1 k h).1
    have hew : ∀ k, k < n → ewt W S k ≤ 1 := fun k h => ewt_le (hD.1.2.2.2.1 k h).2.2.2
    have ref : ∀ {post : Int32 → Int32 → Int32 → Int32 → Int32 → Int32 → Int32 → Int32 → Int32 → Int32 → Int32 → (Nat → Int32) → (Nat → Int64) → (Nat → Int32) → Prop}, (PgOk n X Y c S W → ∀ sp' he' tk' vl' told' st' st2 D', RfP 321 n X Y c S 0 (fun _ => 0) W st' → (∀ j, j < 107 → st2 (0 + j) = st' (321 + j)) → post (nI i) 0 0 0 ba sp' he' tk' vl' told' 0 st2 D' (upd (upd kp 0 0) 1 0)) → (¬ PgOk n X Y c S W → ∀ sp' he' tk' vl' told' st' D', (∀ j, (j < 321 ∨ 428 ≤ j) → st' j = st j) → post ((-10 : Int32) - nI q) 0 6 6 (nI q) sp' he' tk' vl' told' cm st' D' kp) → P_X8_text post (nI q) ba he tk vl cm tp st ends letters D kp := fun {post} g1 g2 => by
      refine s_text8 hT8 hN (fun c2 p2 sp' he' tk' vl' told' st' x1 hf2 hfr => ?_) (fun i2 n2 X2 Y2 c2 S2 W2 sp' tk' vl' told' st' hz2 hD2 hr2 hfr => ?_)
      · rcases dt_txs (b := b) (q := q) with ⟨c0, p0, hd⟩ | ⟨n0, X0, Y0, c0, S0, W0, l0, hd⟩
        · exact (hz (fun _ _ => True) (fun _ _ _ _ _ _ _ => False) (hd _ _ trivial)).elim
        · exact (hf2.2.2.2 (fun _ _ => False) (fun _ _ _ _ _ _ _ => True) (hd _ _ trivial)).elim
      · rcases dt_txs (b := b) (q := q) with ⟨c0, p0, hd⟩ | ⟨n0, X0, Y0, c0, S0, W0, l0, hd⟩
        · exact (hz (fun _ _ => True) (fun _ _ _ _ _ _ _ => False) (hd _ _ trivial)).elim
        · obtain ⟨rfl, rfl, rfl, rfl, rfl, rfl, rfl⟩ := hz (fun _ _ => True) (fun n' X' Y' c' S' W' l' => n' = n0 ∧ X' = X0 ∧ Y' = Y0 ∧ c' = c0 ∧ S' = S0 ∧ W' = W0 ∧ l' = l0) (hd _ _ ⟨rfl, rfl, rfl, rfl, rfl, rfl, rfl⟩)
          obtain ⟨rfl, rfl, rfl, rfl, rfl, rfl, rfl⟩ := hz2 (fun _ _ => True) (fun n' X' Y' c' S' W' l' => n' = n ∧ X' = X ∧ Y' = Y ∧ c' = c ∧ S' = S ∧ W' = W ∧ l' = i) (hd _ _ ⟨rfl, rfl, rfl, rfl, rfl, rfl, rfl⟩)
          unfold B_X8_text_70
          refine ⟨fun z => absurd rfl z, fun _ => s_isHolding (o := 321) (rfg (by omega) hD2.1 hr2) (pot_d hD2) (fun hN' D' => ⟨fun _ => ?_, fun z => absurd z o_ne⟩) (fun hN' D' => ⟨fun z => absurd rfl z, fun _ => fails_y ?_⟩)⟩
          · unfold B_X8_text_93
            refine br_t (by decide) (s_copies (a := 321) (b := 0) (by omega) (by omega) (by omega) (fun st2 e1 e2 => ⟨vin (n := 0) (by omega) (by omega), vin (n := 1) (by omega) (by omega), ?_⟩))
            exact g1 hN' _ _ _ _ _ st' st2 D' hr2 e1
          · unfold B_X8_text_93
            exact br_f (by decide) (g2 hN' _ _ _ _ _ st' D' hfr)
    refine s_canHold (stg hD.1 hs hD.1.2.2.1 hs.2.2.1) (fun f' hN' _ => ⟨fun _ => ?_, fun z => absurd z o_ne⟩) (fun f' hN' => ⟨fun z => absurd rfl z, fun _ => fail_y ?_⟩)
    · have hok : PgOk n X Y c S W := nn_ba hX hew hN'
      unfold B_X7_text_60 P_X5_takeFrom
      refine br_t rfl ?_
      refine ml2 (F := LB_X7_text_113 _ (0 : Int32) (0 : Int32) (nI i) kd at' bh ds (0 : Int32) dw (0 : Int32) du dl di dt f' ds (0 : Int32) dw (va_cpy du up 0 0 24) (va_cpy dl lo 0 0 24) (va_cpy di lim 0 0 24) (va_cpy dt str 0 0 24) (va_cpy dmk mk 0 0 8) (0 : Int32)) (I := fun m z => ∃ k : Nat, k ≤ 2 ∧ z = nI k ∧ ∀ j, j < k → m j = 0) (μ := fun _ z => 5 - z.toNatClampNeg) ?_ im 0 ⟨0, by omega, rfl, fun j hj => absurd hj (by omega)⟩
      rintro im' z ⟨k, hk, rfl, him⟩ K hK
      unfold LB_X7_text_113
      by_cases e : k = 2
      · subst e
        refine br_t (by decide) (ref (fun _ sp' he' tk' vl' told' st' st2 D' hr' e1 => ?_) (fun hno => absurd hok hno))
        have hPn : RPg 321 ds 0 dw du dl di dt dmk st' := ⟨n, X, Y, c, S, 0, fun _ => 0, W, hD.1, hok, hs, hr'⟩
        exact hQ _ _ _ _ _ _ _ _ _ _ _ _ _ _ _ _ _ _ _ _ _ _ _ _ _ _ _ _ _ _ _ _ _ _ _ (hPn.copy (b := 0) e1) ⟨0, by omega, rfl, rfl, fun j hj => absurd hj (by omega)⟩ (Or.inl ⟨him 0 (by omega), by rw [pk_un (by omega)]; exact pk_us⟩) (Or.inl ⟨him 1 (by omega), pk_us⟩)
      · refine br_f (nI_ge (a := k) (b := 2) (by omega) (by omega)) ⟨vin (by omega) (by omega), hK _ _ ⟨k + 1, by omega, nI_1 k, fun j hj => ?_⟩ (by rw [nI_1, nI_c (by omega), nI_c (by omega)]; omega)⟩
        rw [nI_c (by omega)]
        by_cases ej : j = k
        · subst ej
          rw [pk_us]
          rfl
        · rw [pk_un ej]
          exact him j (by omega)
    · have hno : ¬ PgOk n X Y c S W := fun z => hN' (nn_ab hX hew z)
      unfold B_X7_text_60
      exact br_f (by decide) (ref (fun hok => absurd hok hno) (fun _ sp' he' tk' vl' told' st' D' hfr => stay 6 q _ _ _ _ _ _ _ _ _ _ _ _ _ _ _ _ _ _ _ _ hfr))
end TX'
