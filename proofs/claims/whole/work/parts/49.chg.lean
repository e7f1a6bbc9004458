/-! add, change, whole -/
/-- one page of both sides -/
def RPg (o : Nat) (size marked wh : Int32) (up lo lim str mk : Nat → Int32) (st : Nat → Int32) : Prop :=
  ∃ (n : Nat) (X Y : Nat → Nat) (c : Nat → Int32) (S : Nat → Nat) (m : Nat) (L : Nat → Nat) (W : Nat), Pw n X Y S m L W ∧ PgOk n X Y c S W ∧ StP n X Y c S m L W size marked wh up lo lim str mk ∧ RfP o n X Y c S m L W st
theorem cf_conf {E : Nat → Prop} {X Y : Nat → Nat} {cw : Nat → Int} {ew : Nat → Nat} {a b : Nat} {C e : Int} {l l' : List Nat} (h : Cf E X Y cw ew a b C e l) (h' : Cf E X Y cw ew a b C e l') {row cf : Nat → Int32} (hr : ∀ j, j < l.length → row j = nI (l.getD j 0)) (hc : ∀ j, j < l'.length → cf j = nI (l'.getD j 0)) : RConf (nI l.length) row (nI l'.length) cf := by
  have e := h.uniq h'
  subst e
  obtain ⟨r, -, q2, -, -, q5⟩ := h
  exact ⟨l.length, by rw [q5.len]; exact q2, rfl, rfl, fun j hj => by rw [hr j hj, hc j hj]⟩
section CH
variable {size marked wh : Int32} {up lo lim str mk : Nat → Int32} {st : Nat → Int32}
theorem k_add (hP : RPg 0 size marked wh up lo lim str mk st) {cs cm : Int32} {row cf : Nat → Int32} (hC : RConf cs row cm cf) (f D B : Nat → Int64) (M : Nat → Nat → Int64) (x1 x2 x3 x4 : Int32)
    {Q : Int32 → Int32 → (Nat → Int64) → (Nat → Int32) → (Nat → Int32) → (Nat → Int32) → (Nat → Int32) → Int32 → (Nat → Int32) → (Nat → Nat → Int64) → Int32 → Int32 → (Nat → Int32) → (Nat → Int64) → (Nat → Int64) → (Nat → Int32) → Prop}
    (hQ : ∀ r size' f' lo' lim' str' up' cs' row' M' cm' st' D' B' cf', RPg 0 size' marked wh up' lo' lim' str' mk st' → RConf cs' row' cm' cf' → (∀ j, 107 ≤ j → st' j = st j) → Q r size' f' lo' lim' str' up' cs' row' M' r cm' st' D' B' cf') :
    P_X7_add (fun r size' f' lo' lim' str' up' cs' row' M' => P_X8_add (fun r2 cm' st' D' B' cf' => Q r size' f' lo' lim' str' up' cs' row' M' r2 cm' st' D' B' cf') cm st D B cf x1 x2 x3 x4) size wh f lo lim str up cs row M x1 x2 x3 x4 := by
  obtain ⟨n, X, Y, c, S, m, L, W, hp, ho, hs, hr⟩ := id hP
  unfold P_X7_add P_X8_add
  refine s_join hp ho hs (fun hb => ?_) (fun hb h24 => ?_) (fun a b s l f' row' M' q1 q2 q3 q4 q5 q6 q7 q8 q9 q10 q11 => ?_) (fun a b s f' q1 q2 q3 q4 q5 q6 q7 q8 q9 => ?_)
  · exact s_adds hp ho hr (fun _ => hQ _ _ _ _ _ _ _ _ _ _ _ _ _ _ _ hP hC (fun _ _ => rfl)) (fun h => absurd hb h) (fun a b s l D' B' cf' p1 p2 p3 p4 p5 p6 p7 p8 => absurd ⟨⟨a, b, p2, p3, p4, p6, p7⟩, by rcases Nat.le_one_iff_eq_zero_or_eq_one.mp p5 with rfl | rfl; exact Or.inl p8; exact Or.inr p8⟩ hb) (fun a b s D' st' p1 p2 p3 p4 p5 p6 p7 p8 => absurd ⟨⟨a, b, p2, p3, p4, p6, p7⟩, by rcases Nat.le_one_iff_eq_zero_or_eq_one.mp p5 with rfl | rfl; exact Or.inl p8; exact Or.inr p8⟩ hb)
  · exact s_adds hp ho hr (fun h => absurd h hb) (fun _ _ => hQ _ _ _ _ _ _ _ _ _ _ _ _ _ _ _ hP hC (fun _ _ => rfl)) (fun a b s l D' B' cf' p1 => absurd p1 (by omega)) (fun a b s D' st' p1 => absurd p1 (by omega))
  · have hnb : ¬ JBad x1 x2 x4 := fun z => z ⟨⟨a, b, q2, q3, q4, q6, q7⟩, by rcases Nat.le_one_iff_eq_zero_or_eq_one.mp q5 with rfl | rfl; exact Or.inl q8; exact Or.inr q8⟩
    refine s_adds hp ho hr (fun h => absurd h hnb) (fun _ h => absurd h (by omega)) (fun a' b' s' l' D' B' cf' p1 p2 p3 p4 p5 p6 p7 p8 p9 p10 p11 => ?_) (fun a' b' s' D' st' p1 p2 p3 p4 p5 p6 p7 p8 p9 => ?_)
    · have ea : a = a' := (nI_eq (by omega) (by omega)).mp (q6.symm.trans p6)
      have eb : b = b' := (nI_eq (by omega) (by omega)).mp (q7.symm.trans p7)
      have es : s = s' := (nI_eq (by omega) (by omega)).mp (q8.symm.trans p8)
      subst ea; subst eb; subst es
      exact hQ _ _ _ _ _ _ _ _ _ _ _ _ _ _ _ hP (cf_conf q10 p10 q11 p11) (fun _ _ => rfl)
    · have ea : a = a' := (nI_eq (by omega) (by omega)).mp (q6.symm.trans p6)
      have eb : b = b' := (nI_eq (by omega) (by omega)).mp (q7.symm.trans p7)
      have es : s = s' := (nI_eq (by omega) (by omega)).mp (q8.symm.trans p8)
      subst ea; subst eb; subst es
      exact absurd q9 p9
  · have hnb : ¬ JBad x1 x2 x4 := fun z => z ⟨⟨a, b, q2, q3, q4, q6, q7⟩, by rcases Nat.le_one_iff_eq_zero_or_eq_one.mp q5 with rfl | rfl; exact Or.inl q8; exact Or.inr q8⟩
    refine s_adds hp ho hr (fun h => absurd h hnb) (fun _ h => absurd h (by omega)) (fun a' b' s' l' D' B' cf' p1 p2 p3 p4 p5 p6 p7 p8 p9 p10 p11 => ?_) (fun a' b' s' D' st' p1 p2 p3 p4 p5 p6 p7 p8 p9 p10 p11 => ?_)
    · have ea : a = a' := (nI_eq (by omega) (by omega)).mp (q6.symm.trans p6)
      have eb : b = b' := (nI_eq (by omega) (by omega)).mp (q7.symm.trans p7)
      have es : s = s' := (nI_eq (by omega) (by omega)).mp (q8.symm.trans p8)
      subst ea; subst eb; subst es
      exact absurd p9 q9
    · have ea : a = a' := (nI_eq (by omega) (by omega)).mp (q6.symm.trans p6)
      have eb : b = b' := (nI_eq (by omega) (by omega)).mp (q7.symm.trans p7)
      have es : s = s' := (nI_eq (by omega) (by omega)).mp (q8.symm.trans p8)
      subst ea; subst eb; subst es
      exact hQ _ _ _ _ _ _ _ _ _ _ _ _ _ _ _ ⟨n + 1, _, _, _, _, m, L, W, pw_app1 hp q1 q2 q3 q4 q5, pg_app1 hp ho q2 q5 q9, st_app1 hs, p10⟩ hC p11
theorem cw_gu {W k : Nat} {c : Nat → Int32} {S : Nat → Nat} {x : Int32} : cwt W (gu c k x) S k = cn W x (S k) := by
  unfold cn cwt
  rw [gu_s]
set_option maxHeartbeats 1000000 in
theorem k_change (hP : RPg 0 size marked wh up lo lim str mk st) {cs cm : Int32} {row cf : Nat → Int32} (hC : RConf cs row cm cf) (f D B : Nat → Int64) (M : Nat → Nat → Int64) (x1 x2 : Int32)
    {Q : Int32 → (Nat → Int64) → (Nat → Int32) → Int32 → (Nat → Int32) → (Nat → Nat → Int64) → Int32 → Int32 → (Nat → Int32) → (Nat → Int64) → (Nat → Int64) → (Nat → Int32) → Prop}
    (hQ : ∀ r f' lim' cs' row' M' cm' st' D' B' cf', RPg 0 size marked wh up lo lim' str mk st' → RConf cs' row' cm' cf' → (∀ j, 107 ≤ j → st' j = st j) → Q r f' lim' cs' row' M' r cm' st' D' B' cf') :
    P_X7_change (fun r f' lim' cs' row' M' => P_X8_change (fun r2 cm' st' D' B' cf' => Q r f' lim' cs' row' M' r2 cm' st' D' B' cf') cm st D B cf x1 x2) size wh up lo str f lim cs row M x1 x2 := by
  obtain ⟨n, X, Y, c, S, m, L, W, hp, ho, hs, hr⟩ := id hP
  have hn := hp.1
  have hW := hp.2.2.1
  unfold P_X7_change
  rcases cnt_cases x1 n with ⟨k, hk, rfl⟩ | hx
  · obtain ⟨b1, b2, b3, b4⟩ := hp.2.2.2.1 k hk
    obtain ⟨a1, a2, a3, a4⟩ := hs.2.2.2.1 k hk
    obtain ⟨r1, r2, r3, r4⟩ := hr.2.2.2.1 k hk
    rw [show 0 + k = k by omega] at r1
    rw [show 0 + 24 + k = 24 + k by omega] at r2
    rw [show 0 + 48 + k = 48 + k by omega] at r3
    rw [show 0 + 72 + k = 72 + k by omega] at r4
    have vk : vp_in (nI k) 24 := vin (by omega) (by omega)
    have hw0 := hs.2.2.1
    obtain ⟨c1, c2⟩ := cn_rng (W := W) (x := x2) b4
    obtain ⟨e0, e1⟩ := enw_rng (W := W) b4
    -- the reference behind its tests
    have ask : ∀ {post : Int32 → Int32 → (Nat → Int32) → (Nat → Int64) → (Nat → Int64) → (Nat → Int32) → Prop}, (¬ Bad (fun j => j < n ∧ nI j ≠ nI k) X Y (cwt W c S) (ewt W S) (X k) (Y k) (cn W x2 (S k)) (enw W (S k)) → ∀ D', post 1 cm (upd st (48 + k) x2) D' B cf) → (∀ l D' B' cf', Bad (fun j => j < n ∧ nI j ≠ nI k) X Y (cwt W c S) (ewt W S) (X k) (Y k) (cn W x2 (S k)) (enw W (S k)) → Cf (fun j => j < n ∧ nI j ≠ nI k) X Y (cwt W c S) (ewt W S) (X k) (Y k) (cn W x2 (S k)) (enw W (S k)) l → (∀ j, j < l.length → cf' j = nI (l.getD j 0)) → post (-2) (nI l.length) st D' B' cf') → P_X8_change post cm st D B cf (nI k) x2 := fun g1 g2 => by
      unfold P_X8_change
      rw [ixc (cc := 72) (a := 72) (k := k) rfl (by omega), ixc (cc := 48) (a := 48) (k := k) rfl (by omega), ixc (cc := 24) (a := 24) (k := k) rfl (by omega), nI_c (show k ≤ 2147483647 by omega), r1, r2, r4]
      refine bnd8_y hr.1 (by omega) hk ⟨fun _ => s_isReal hp hr ⟨ixv (a := 72) rfl (by omega) (by omega), s_weighed (c := fun _ => x2) (S := fun _ => S k) (k := 0) hW b4 (fun w hw => ⟨vin (by omega) (by omega), ixv (a := 24) rfl (by omega) (by omega), ?_⟩)⟩, fun h => absurd h o_ne⟩
      have hw : w.toInt = 1000 * cn W x2 (S k) - enw W (S k) := hw
      refine s_allowed hp ho hr b1 b2 hw e0 e1 c1 c2 (fun hB D' => ⟨fun _ => ⟨ixv (a := 48) rfl (by omega) (by omega), g1 hB D'⟩, fun h => absurd h o_ne⟩) (fun hB D' => ⟨fun h => absurd rfl h, fun _ => ⟨vin (by omega) (by omega), ixv (a := 24) rfl (by omega) (by omega), ?_⟩⟩)
      exact s_conflictsWith (rfg (by omega) hp hr) (fun j hj => ewt_le (hp.2.2.2.1 j hj).2.2.2) b1 b2 hw (by omega) (by omega) e0 e1 (bad_can hp ho b1 b3 e0 e1 hB) (fun l cf' B' hc hrow => g2 l D' B' cf' hB hc hrow)
    refine has7_y hs.1 (by omega) hk ⟨fun _ => ⟨vk, vk, vk, ?_⟩, fun h => absurd h o_ne⟩
    rw [nI_c (show k ≤ 2147483647 by omega), a1, a2, a4, hw0]
    refine s_weigh (c := fun _ => x2) (S := fun _ => S k) (k := 0) hW b4 (fun w hw => ?_)
    have hw : w.toInt = 1024 * cn W x2 (S k) - enw W (S k) := hw
    rw [← hw0]
    refine s_fits hp ho hs b1 b2 hw e0 e1 c1 c2 (fun hB f' => ⟨fun _ => ⟨vk, ?_⟩, fun h => absurd h o_ne⟩) (fun hB f' => ⟨fun h => absurd rfl h, fun _ => ?_⟩)
    · refine ask (fun _ D' => hQ _ _ _ _ _ _ _ _ _ _ _ ⟨n, X, Y, gu c k x2, S, m, L, W, hp, ?_, ?_, ?_⟩ hC (fun j hj => pk_un (by omega))) (fun l D' B' cf' hB2 => absurd hB2 hB)
      · refine add_nn (x := X k) (y := Y k) (wn := 1000 * cn W x2 (S k) - enw W (S k)) (pg_n (skip := nI k) ho) (fun j hj => ?_) (bad_no hp ho b1 e0 e1 hB)
        by_cases e : j = k
        · right
          subst e
          refine ⟨rfl, rfl, ?_⟩
          unfold wsc
          rw [cw_gu]
          rfl
        · left
          refine ⟨⟨hj, fun z => e ((nI_eq (by omega) (by omega)).mp z)⟩, rfl, rfl, ?_⟩
          unfold wsc cwt
          rw [gu_n e]
      · obtain ⟨s1, s2, s3, s4, s5⟩ := hs
        refine ⟨s1, s2, s3, fun j hj => ?_, s5⟩
        obtain ⟨z1, z2, z3, z4⟩ := s4 j hj
        refine ⟨z1, z2, ?_, z4⟩
        by_cases e : j = k
        · subst e; rw [pk_us, gu_s]
        · rw [pk_un e, gu_n e]; exact z3
      · obtain ⟨s1, s2, s3, s4, s5⟩ := hr
        refine ⟨?_, ?_, ?_, fun j hj => ?_, fun j hj => ?_⟩
        · rw [pk_un (by omega)]; exact s1
        · rw [pk_un (by omega)]; exact s2
        · rw [pk_un (by omega)]; exact s3
        · obtain ⟨z1, z2, z3, z4⟩ := s4 j hj
          refine ⟨?_, ?_, ?_, ?_⟩
          · rw [pk_un (by omega)]; exact z1
          · rw [pk_un (by omega)]; exact z2
          · by_cases e : j = k
            · subst e; rw [show 0 + 48 + j = 48 + j by omega, pk_us, gu_s]
            · rw [pk_un (by omega), gu_n e]; exact z3
          · rw [pk_un (by omega)]; exact z4
        · rw [pk_un (by omega)]; exact s5 j hj
    · refine s_find (stg hp hs hW hw0) (fun j hj => ewt_le (hp.2.2.2.1 j hj).2.2.2) b1 b2 hw (by omega) (by omega) e0 e1 (fun l row' M' hc hrow => ?_) (fun M' hno => ?_)
      · exact ask (fun hB2 => absurd hB hB2) (fun l' D' B' cf' _ hc' hcf => hQ _ _ _ _ _ _ _ _ _ _ _ hP (cf_conf hc hc' hrow hcf) (fun _ _ => rfl))
      · obtain ⟨r, q1, q2, q3⟩ := bad_can hp ho b1 b3 e0 e1 hB
        exact absurd q3 (hno r q1 q2)
  · refine has7_n hs.1 (by omega) hx ⟨fun h => absurd rfl h, fun _ => ?_⟩
    unfold P_X8_change
    exact bnd8_n hr.1 (by omega) hx ⟨fun h => absurd rfl h, fun _ => hQ _ _ _ _ _ _ _ _ _ _ _ hP hC (fun _ _ => rfl)⟩
theorem s_isHolding {o n : Nat} {X Y : Nat → Nat} {w : Nat → Int} {st : Nat → Int32} (hG : RfG o n X Y w st) (hp : PotOk (fun k => k < n) X Y w) {D0 : Nat → Int64} {post : Int32 → (Nat → Int64) → Prop} (h1 : NoNeg (fun k => k < n) X Y w → ∀ D, post 1 D) (h0 : ¬ NoNeg (fun k => k < n) X Y w → ∀ D, post 0 D) : P_X8_isHolding post st D0 (nI o) := by
  have hn := hG.2.2.1
  have eE : (fun k => k < n ∧ nI k ≠ (-4 : Int32)) = (fun k => k < n) := noskip hn (Or.inr rfl)
  unfold P_X8_isHolding
  refine s_reckons hG (by rw [eE]; exact hp) (fun D hD => ?_)
  rw [eE] at hD
  have hE : ∀ k, k < n → X k < 10 ∧ Y k < 10 := fun k hk => ⟨(hG.2.2.2 k hk).2.2.1, (hG.2.2.2 k hk).2.2.2.1⟩
  refine ml2 (F := LB_X8_isHolding_11 post D) (I := fun b z => ∃ i : Nat, i ≤ 10 ∧ z = nI i ∧ ((b = 1 ∧ ∀ v, v < i → 0 ≤ (D (10 * v + v)).toInt) ∨ (b = 0 ∧ ∃ v, v < i ∧ ¬ 0 ≤ (D (10 * v + v)).toInt))) (μ := fun _ z => 10 - z.toNatClampNeg) ?_ 1 0 ⟨0, by omega, rfl, Or.inl ⟨rfl, fun v h => absurd h (by omega)⟩⟩
  rintro b z ⟨i, hi, rfl, hb⟩ K hK
  unfold LB_X8_isHolding_11 B_X8_isHolding_39 B_X8_isHolding_40
  by_cases h10 : i = 10
  · subst h10
    refine br_t (by decide) ?_
    rcases hb with ⟨rfl, hall⟩ | ⟨rfl, v, hv, hneg⟩
    · exact ⟨bz1, h1 (fw_nn hE hD hall) D⟩
    · exact ⟨bz0, h0 (fun hN => hneg (fw_diag hD hN v hv)) D⟩
  · have hlt : i < 10 := by omega
    have hmu : 10 - (nI i + 1).toNatClampNeg < 10 - (nI i).toNatClampNeg := by rw [nI_1, nI_c (by omega), nI_c (by omega)]; omega
    refine br_f (nI_ge (a := i) (b := 10) (by omega) (by omega)) ?_
    rw [show (11 : Int32) = nI 11 from rfl, pk_mul, nI_c (show 11 * i ≤ 2147483647 by omega), show 11 * i = 10 * i + i by omega]
    rcases hb with ⟨rfl, hall⟩ | ⟨rfl, v, hv, hneg⟩
    · refine br_f o_ne ⟨vin (by omega) (by omega), br_c (fun hc => hK _ _ ⟨i + 1, by omega, nI_1 i, Or.inr ⟨rfl, i, by omega, ?_⟩⟩ hmu) (fun hc => hK _ _ ⟨i + 1, by omega, nI_1 i, Or.inl ⟨rfl, fun v hv => ?_⟩⟩ hmu)⟩
      · rw [Int64.lt_iff_toInt_lt, z64] at hc; omega
      · rw [Int64.lt_iff_toInt_lt, z64] at hc
        by_cases e : v = i
        · subst e; omega
        · exact hall v (by omega)
    · exact br_t rfl (hK _ _ ⟨i + 1, by omega, nI_1 i, Or.inr ⟨rfl, v, by omega, hneg⟩⟩ hmu)
theorem k_whole (hP : RPg 0 size marked wh up lo lim str mk st) (f D : Nat → Int64) (x1 : Int32) {Q : Int32 → (Nat → Int64) → Int32 → Int32 → (Nat → Int32) → (Nat → Int64) → Prop}
    (hQ : ∀ r f' wh' st' D', RPg 0 size marked wh' up lo lim str mk st' → (∀ j, 107 ≤ j → st' j = st j) → Q r f' wh' r st' D') :
    P_X7_whole (fun r f' wh' => P_X8_whole (fun r2 st' D' => Q r f' wh' r2 st' D') st D x1) f size wh lo lim str up x1 := by
  obtain ⟨n, X, Y, c, S, m, L, W, hp, ho, hs, hr⟩ := id hP
  have hn := hp.1
  have hm := hp.2.1
  have hW := hp.2.2.1
  have v5 : vp_in (105 : Int32) 535 := vin (n := 105) (by omega) (by omega)
  have hX : ∀ k, k < n → X k < 10 := fun k h => (hp.2.2.2.1 k h).1
  unfold P_X7_whole
  refine bit7 (fun hb => ⟨fun _ => ?_, fun h => absurd h o_ne⟩) (fun hb => ⟨fun h => absurd rfl h, fun _ => ?_⟩)
  · obtain ⟨V, hV, rfl⟩ := bit_nat hb
    have he : ∀ k, k < n → ewt V S k ≤ 1 := fun k h => ewt_le (hp.2.2.2.1 k h).2.2.2
    have hpV : Pw n X Y S m L V := ⟨hp.1, hp.2.1, hV, hp.2.2.2⟩
    have sub1 : ∀ u : Nat, u ≤ 1 → (1 : Int32) - nI u = nI (1 - u) := fun u hu => by
      rcases Nat.le_one_iff_eq_zero_or_eq_one.mp hu with rfl | rfl <;> rfl
    obtain ⟨r1, r2, r3, r4, r5⟩ := id hr
    have hr' : RfP 0 n X Y c S m L V (upd st (0 + 105) (nI (1 - V))) := by
      refine ⟨?_, ?_, ?_, fun j hj => ?_, fun j hj => ?_⟩
      · rw [pk_un (by omega)]; exact r1
      · rw [pk_un (by omega)]; exact r2
      · rw [pk_us]
      · rw [pk_un (by omega), pk_un (by omega), pk_un (by omega), pk_un (by omega)]; exact r4 j hj
      · rw [pk_un (by omega)]; exact r5 j hj
    have hpot : PotOk (fun k => k < n) X Y (wsc 1000 (cwt V c S) (ewt V S)) := by
      obtain ⟨h, g1, g2⟩ := potOk (E := fun k => k < n) (fun k hk => ⟨(hp.2.2.2.1 k hk).1, (hp.2.2.2.1 k hk).2.1⟩) (fun k hk => wsc_rng (W := W) (c := c) 1000 (Or.inl rfl) (hp.2.2.2.1 k hk).2.2.2) ho
      refine ⟨h, 1000, by omega, by omega, g1, fun k hk => ?_⟩
      have g3 := g2 k hk
      have hS := (hp.2.2.2.1 k hk).2.2.2
      unfold wsc cwt ewt at g3 ⊢
      split at g3 <;> split <;> omega
    have ask : ∀ {post : Int32 → (Nat → Int32) → (Nat → Int64) → Prop}, (PgOk n X Y c S V → ∀ D', post (nI W) (upd st (0 + 105) (nI (1 - V))) D') → (¬ PgOk n X Y c S V → ∀ st' D', RfP 0 n X Y c S m L W st' → (∀ j, 107 ≤ j → st' j = st j) → post (-2) st' D') → P_X8_whole post st D (nI V) := fun g1 g2 => by
      unfold P_X8_whole
      rw [show (105 : Int32).toNatClampNeg = 0 + 105 from rfl, r3, sub1 V hV, sub1 (1 - W) (by omega), show 1 - (1 - W) = W by omega, sub1 W hW]
      refine bit8 (fun _ => ⟨fun _ => ⟨v5, v5, s_isHolding (o := 0) (rfg (by omega) hpV hr') hpot (fun hN D' => ⟨fun _ => g1 hN D', fun h => absurd h o_ne⟩) (fun hN D' => ⟨fun h => absurd rfl h, fun _ => ⟨v5, g2 hN _ D' ?_ (fun j hj => by rw [pk_un (by omega), pk_un (by omega)])⟩⟩)⟩, fun h => absurd h o_ne⟩) (fun h => absurd hb h)
      refine ⟨?_, ?_, ?_, fun j hj => ?_, fun j hj => ?_⟩
      · rw [pk_un (by omega), pk_un (by omega)]; exact r1
      · rw [pk_un (by omega), pk_un (by omega)]; exact r2
      · rw [pk_us]
      · rw [pk_un (by omega), pk_un (by omega), pk_un (by omega), pk_un (by omega), pk_un (by omega), pk_un (by omega), pk_un (by omega), pk_un (by omega)]; exact r4 j hj
      · rw [pk_un (by omega), pk_un (by omega)]; exact r5 j hj
    refine s_canHold (stg hp hs hV rfl) (fun f' hN _ => ⟨fun _ => ?_, fun h => absurd h o_ne⟩) (fun f' hN => ⟨fun h => absurd rfl h, fun _ => ?_⟩)
    · have hok : PgOk n X Y c S V := nn_ba hX he hN
      rw [hs.2.2.1]
      refine ask (fun _ D' => hQ _ _ _ _ _ ⟨n, X, Y, c, S, m, L, V, hpV, hok, ?_, hr'⟩ (fun j hj => pk_un (by omega))) (fun h => absurd hok h)
      exact ⟨hs.1, hs.2.1, rfl, hs.2.2.2⟩
    · refine ask (fun h => absurd (nn_ab hX he h) hN) (fun _ st' D' q1 q2 => hQ _ _ _ _ _ ⟨n, X, Y, c, S, m, L, W, hp, ho, hs, q1⟩ q2)
  · unfold P_X8_whole
    exact bit8 (fun h => absurd h hb) (fun _ => ⟨fun h => absurd rfl h, fun _ => hQ _ _ _ _ _ hP (fun _ _ => rfl)⟩)
end CH
