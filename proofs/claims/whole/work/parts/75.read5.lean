/-! read: both -/
section RV
variable {size marked wh : Int32} {up lo lim str mk : Nat → Int32} {st : Nat → Int32} {lane sz : Int32} {ce lanes lengths rc : Nat → Int32}
set_option maxHeartbeats 2000000 in
theorem k_read {k : Nat} (hk : k < 4) (hP : RPg 0 size marked wh up lo lim str mk st) {cs cm : Int32} {row cf : Nat → Int32} (hC : RConf cs row cm cf) (hR : RSh k lane sz ce lanes lengths rc) (tn : Int32) (f D B : Nat → Int64) (M : Nat → Nat → Int64) (x2 x3 x4 : Int32)
    {Q : Int32 → Int32 → Int32 → (Nat → Int64) → (Nat → Int32) → (Nat → Int32) → (Nat → Int32) → (Nat → Int32) → Int32 → (Nat → Int32) → (Nat → Nat → Int64) → Int32 → Int32 → Int32 → (Nat → Int32) → (Nat → Int64) → (Nat → Int64) → (Nat → Int32) → Prop}
    (hQ : ∀ r tn' size' f' lo' lim' str' up' cs' row' M' cm' st' D' B' cf', RPg 0 size' marked wh up' lo' lim' str' mk st' → RConf cs' row' cm' cf' → (∀ j, 107 ≤ j → j < 428 → st' j = st j) → Q r tn' size' f' lo' lim' str' up' cs' row' M' r cm' tn' st' D' B' cf') :
    P_X7_read_k0 (fun r tn' size' f' lo' lim' str' up' cs' row' M' => P_X8_read (fun r2 cm' tn2 st' D' B' cf' => Q r tn' size' f' lo' lim' str' up' cs' row' M' r2 cm' tn2 st' D' B' cf') cm tn st lanes lengths rc D B cf (nI k) x2 x3 x4) tn size wh lane sz ce f lo lim str up cs row M x2 x3 x4 := by
  obtain ⟨n, X, Y, c, S, m, L, W, hp, ho, hs, hr⟩ := id hP
  have same : ∀ r, Q r tn size f lo lim str up cs row M r cm tn st D B cf := fun r => hQ _ _ _ _ _ _ _ _ _ _ _ _ _ _ _ _ hP hC (fun _ _ _ => rfl)
  have t2 : (2 : Int64).toInt = 2 := by decide
  have t10 : (10 : Int64).toInt = 10 := by decide
  unfold P_X7_read_k0
  rcases cnt_cases x2 3 with ⟨l2, hl2, rfl⟩ | hx2
  · have in2 : ∀ {post : Int32 → Prop}, post 1 → P_X8_in post (nI l2).toInt64 (0 : Int64) (2 : Int64) := fun hh => by
      refine s_in (fun _ _ => hh) (fun g => ?_)
      rw [i2l, nI_t (by omega), z64, t2] at g
      omega
    refine br_f (Int32.not_lt.mpr (show nI 0 ≤ nI l2 from nI_le (Nat.zero_le _) (by omega))) (br_f (nI_ge (a := l2) (b := 3) hl2 (by omega)) ?_)
    rcases cnt_cases x4 11 with ⟨N, hN, rfl⟩ | hx4
    · have in3 : ∀ {post : Int32 → Prop}, post 1 → P_X8_in post (nI N).toInt64 (0 : Int64) (10 : Int64) := fun hh => by
        refine s_in (fun _ _ => hh) (fun g => ?_)
        rw [i2l, nI_t (by omega), z64, t10] at g
        omega
      obtain ⟨h, r, E, v, q1, q2, q3, q4, q5, q6⟩ := rd_all hk (show N ≤ 10 by omega) hl2 hR x3
      have ref : ∀ {post : Int32 → Int32 → Int32 → (Nat → Int32) → (Nat → Int64) → (Nat → Int64) → (Nat → Int32) → Prop}, (∀ st1, (∀ j, j < 107 → st1 (428 + j) = st (0 + j)) → (∀ x, (x < 428 ∨ 428 + 107 ≤ x) → st1 x = st x) → ∃ t : Nat, L_X8_read_56 post tn lanes lengths rc (nI k) (nI l2) x3 (nI N) t cm st1 D B cf (0 : Int32) (0 : Int32) (0 : Int32)) → P_X8_read post cm tn st lanes lengths rc D B cf (nI k) (nI l2) x3 (nI N) := fun hh => by
        unfold P_X8_read
        exact lay_in hk (br_f o_ne (in2 (br_f o_ne (in3 ⟨fun _ => s_copies (a := 0) (b := 428) (by omega) (by omega) (by omega) hh, fun z => absurd z o_ne⟩))))
      refine br_f (Int32.not_lt.mpr (show nI 0 ≤ nI N from nI_le (Nat.zero_le _) (by omega))) (br_t (show nI N ≤ nI 10 from nI_le (by omega) (by omega)) ?_)
      refine s_rd7 hp ho hs (by omega) q1 q3 q4 q5 (fun n' X' Y' c' S' f' size' lo' lim' str' up' M' hg hp' ho' hs' => ref (fun st1 e1 e2 => ?_)) (fun i n' X' Y' c' S' f' lo' lim' str' up' cs' row' M' hg hs' hrb => ref (fun st1 e1 e2 => ?_))
      · refine s_rd8 hp ho (hr.congr hp.1 hp.2.1 (fun j _ hj => e2 j (by omega))) (by omega) q1 q2 q3 q4 q6 (fun n2 X2 Y2 c2 S2 st2 D2 B2 hg2 hr2 hfr => ?_) (fun i2 n2 X2 Y2 c2 S2 cm2 st2 D2 B2 cf2 hg2 hrb2 e3 e4 => ?_)
        · rcases RR_ex W v h 0 n X Y c S with ⟨n3, X3, Y3, c3, S3, hex⟩ | ⟨i3, n3, X3, Y3, c3, S3, hex⟩
          · obtain ⟨rfl, rfl, rfl, rfl, rfl⟩ := hg _ _ hex
            obtain ⟨rfl, rfl, rfl, rfl, rfl⟩ := hg2 _ _ hex
            exact hQ _ _ _ _ _ _ _ _ _ _ _ _ _ _ _ _ ⟨_, _, _, _, _, m, L, W, hp', ho', hs', hr2⟩ hC (fun j a b => (hfr j a).trans (e2 j (by omega)))
          · exact (hg _ _ hex).elim
        · rcases RR_ex W v h 0 n X Y c S with ⟨n3, X3, Y3, c3, S3, hex⟩ | ⟨i3, n3, X3, Y3, c3, S3, hex⟩
          · exact (hg2 _ _ hex).elim
          · exact (hg _ _ hex).elim
      · refine s_rd8 hp ho (hr.congr hp.1 hp.2.1 (fun j _ hj => e2 j (by omega))) (by omega) q1 q2 q3 q4 q6 (fun n2 X2 Y2 c2 S2 st2 D2 B2 hg2 hr2 hfr => ?_) (fun i2 n2 X2 Y2 c2 S2 cm2 st2 D2 B2 cf2 hg2 hrb2 e3 e4 => ?_)
        · rcases RR_ex W v h 0 n X Y c S with ⟨n3, X3, Y3, c3, S3, hex⟩ | ⟨i3, n3, X3, Y3, c3, S3, hex⟩
          · exact (hg _ _ hex).elim
          · exact (hg2 _ _ hex).elim
        · rcases RR_ex W v h 0 n X Y c S with ⟨n3, X3, Y3, c3, S3, hex⟩ | ⟨i3, n3, X3, Y3, c3, S3, hex⟩
          · exact (hg _ _ hex).elim
          · obtain ⟨rfl, rfl, rfl, rfl, rfl, rfl⟩ := hg _ _ hex
            obtain ⟨rfl, rfl, rfl, rfl, rfl, rfl⟩ := hg2 _ _ hex
            refine hQ _ _ _ _ _ _ _ _ _ _ _ _ _ _ _ _ ⟨n, X, Y, c, S, m, L, W, hp, ho, hs', hr.congr hp.1 hp.2.1 (fun j _ hj => ?_)⟩ (RB.conf hC hrb hrb2) (fun j a b => (e4 j a).trans (e2 j (by omega)))
            have := (e3 j (by omega)).trans (e1 j (by omega))
            rw [Nat.zero_add] at this
            exact this
    · have bad : P_X8_read (fun r2 cm' tn2 st' D' B' cf' => Q (-1) tn size f lo lim str up cs row M r2 cm' tn2 st' D' B' cf') cm tn st lanes lengths rc D B cf (nI k) (nI l2) x3 x4 := by
        unfold P_X8_read
        refine lay_in hk (br_f o_ne (in2 (br_f o_ne (s_in (fun a b => ?_) (fun _ => ⟨fun z => absurd rfl z, fun _ => same _⟩)))))
        rw [i2l, z64] at a
        rw [i2l, t10] at b
        omega
      refine br_c (fun _ => bad) (fun g => br_c (fun g2 => ?_) (fun _ => bad))
      exfalso
      rw [Int32.lt_iff_toInt_lt, z32] at g
      rw [Int32.le_iff_toInt_le, show (10 : Int32).toInt = 10 from by decide] at g2
      omega
  · have bad : P_X8_read (fun r2 cm' tn2 st' D' B' cf' => Q (-1) tn size f lo lim str up cs row M r2 cm' tn2 st' D' B' cf') cm tn st lanes lengths rc D B cf (nI k) x2 x3 x4 := by
      unfold P_X8_read
      refine lay_in hk (br_f o_ne (s_in (fun a b => ?_) (fun _ => br_t rfl (same _))))
      rw [i2l, z64] at a
      rw [i2l, t2] at b
      omega
    refine br_c (fun _ => bad) (fun g => br_c (fun _ => bad) (fun g2 => absurd ?_ g2))
    rw [Int32.lt_iff_toInt_lt, z32] at g
    rw [Int32.le_iff_toInt_le, show (3 : Int32).toInt = 3 from by decide]
    omega
theorem k_read_bad {x1 : Int32} (hx : x1.toInt < 0 ∨ (4 : Int) ≤ x1.toInt) (tn cm : Int32) (cf : Nat → Int32) (D B : Nat → Int64) (x2 x3 x4 : Int32) {Q : Int32 → Int32 → Int32 → Int32 → (Nat → Int32) → (Nat → Int64) → (Nat → Int64) → (Nat → Int32) → Prop} (hQ : ∀ r, Q r r cm tn st D B cf) :
    P_X7_read_bad (fun r => P_X8_read (fun r2 cm' tn2 st' D' B' cf' => Q r r2 cm' tn2 st' D' B' cf') cm tn st lanes lengths rc D B cf x1 x2 x3 x4) x1 := by
  have bad : P_X8_read (fun r2 cm' tn2 st' D' B' cf' => Q (-1) r2 cm' tn2 st' D' B' cf') cm tn st lanes lengths rc D B cf x1 x2 x3 x4 := by
    unfold P_X8_read
    refine s_in (fun a b => ?_) (fun _ => br_t rfl (hQ _))
    rw [i2l, z64] at a
    rw [i2l, show (3 : Int64).toInt = 3 from by decide] at b
    omega
  unfold P_X7_read_bad
  refine br_c (fun _ => bad) (fun g => br_c (fun _ => bad) (fun g2 => absurd ?_ g2))
  rw [Int32.lt_iff_toInt_lt, z32] at g
  rw [Int32.le_iff_toInt_le, show (4 : Int32).toInt = 4 from by decide]
  omega
end RV
