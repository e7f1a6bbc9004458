/-! limit, level, conflict, push, pop, the tape -/
theorem o32 : (1 : Int32).toInt = 1 := by decide
section HB
variable {post : Int32 → Prop} {x s : Int32} {v n : Nat}
theorem has7_y (hs : s = nI n) (hn : n ≤ 1000) (hv : v < n) (h : post 1) : P_X5_has post s (nI v) := by
  subst hs
  unfold P_X5_has
  exact br_f (Int32.not_lt.mpr (show nI 0 ≤ nI v from nI_le (Nat.zero_le _) (by omega))) (br_f (nI_ge hv (by omega)) h)
theorem has7_n (hs : s = nI n) (hn : n ≤ 1000) (hx : x.toInt < 0 ∨ (n : Int) ≤ x.toInt) (h : post 0) : P_X5_has post s x := by
  subst hs
  unfold P_X5_has
  refine br_c (fun _ => h) (fun g => br_c (fun _ => h) (fun g2 => absurd ?_ g2))
  rw [Int32.lt_iff_toInt_lt, z32] at g
  rw [Int32.le_iff_toInt_le, nI_t (by omega)]
  omega
theorem mrk7_y (hs : s = nI n) (hn : n ≤ 1000) (hv : v < n) (h : post 1) : P_X5_hasMark post s (nI v) := has7_y (post := post) hs hn hv h
theorem mrk7_n (hs : s = nI n) (hn : n ≤ 1000) (hx : x.toInt < 0 ∨ (n : Int) ≤ x.toInt) (h : post 0) : P_X5_hasMark post s x := has7_n (post := post) hs hn hx h
theorem pred_t (hn : n ≤ 1000) : (nI n - 1).toInt64.toInt = (n : Int) - 1 := by
  rw [i2l, i_sub (by rw [nI_t (by omega), o32]; omega) (by rw [nI_t (by omega), o32]; omega), nI_t (by omega), o32]
theorem in8_y (hn : n ≤ 1000) (hv : v < n) (h : post 1) : P_X8_in post (nI v).toInt64 0 (nI n - 1).toInt64 := by
  refine s_in (fun _ _ => h) (fun g => ?_)
  rw [i2l, nI_t (by omega), z64, pred_t hn] at g
  omega
theorem in8_n (hn : n ≤ 1000) (hx : x.toInt < 0 ∨ (n : Int) ≤ x.toInt) (h : post 0) : P_X8_in post x.toInt64 0 (nI n - 1).toInt64 := by
  refine s_in (fun a b => ?_) (fun _ => h)
  rw [i2l, z64] at a
  rw [i2l, pred_t hn] at b
  omega
theorem bnd8_y {st : Nat → Int32} (hs : st (0 + 104) = nI n) (hn : n ≤ 1000) (hv : v < n) (h : post 1) : P_X8_isBound post st (nI v) := by
  unfold P_X8_isBound P_X8_many
  rw [show (104 : Int32).toNatClampNeg = 0 + 104 from rfl, hs]
  exact ⟨vin (n := 104) (by omega) (by omega), in8_y hn hv ⟨bz1, h⟩⟩
theorem bnd8_n {st : Nat → Int32} (hs : st (0 + 104) = nI n) (hn : n ≤ 1000) (hx : x.toInt < 0 ∨ (n : Int) ≤ x.toInt) (h : post 0) : P_X8_isBound post st x := by
  unfold P_X8_isBound P_X8_many
  rw [show (104 : Int32).toNatClampNeg = 0 + 104 from rfl, hs]
  exact ⟨vin (n := 104) (by omega) (by omega), in8_n hn hx ⟨bz0, h⟩⟩
end HB
theorem ixc {k : Nat} {cc : Int32} {a : Nat} (hc : cc = nI a) (h : a + k ≤ 2147483647) : (cc + nI k).toNatClampNeg = a + k := by rw [hc, nI_add, nI_c h]
theorem ixv {k N : Nat} {cc : Int32} {a : Nat} (hc : cc = nI a) (h : a + k < N) (hN : N ≤ 2147483647) : vp_in (cc + nI k) N := by rw [hc, nI_add]; exact vin h hN
section PL
variable {n m W : Nat} {X Y S L : Nat → Nat} {c : Nat → Int32} {size marked wh : Int32} {up lo lim str mk : Nat → Int32} {st : Nat → Int32}
theorem k_limit (hp : Pw n X Y S m L W) (hs : StP n X Y c S m L W size marked wh up lo lim str mk) (hr : RfP 0 n X Y c S m L W st) (x1 : Int32) {Q : Int64 → Int64 → Prop} (hQ : ∀ r, Q r r) : P_X7_limit (fun r => P_X8_limit (fun r2 => Q r r2) st x1) size lim x1 := by
  have hn := hp.1
  unfold P_X7_limit P_X8_limit
  rcases cnt_cases x1 n with ⟨k, hk, rfl⟩ | hx
  · refine has7_y hs.1 (by omega) hk (br_f o_ne ⟨vin (by omega) (by omega), bnd8_y hr.1 (by omega) hk (br_f o_ne ⟨ixv (a := 48) rfl (by omega) (by omega), ?_⟩)⟩)
    rw [nI_c (by omega), ixc (cc := 48) (a := 48) (k := k) rfl (by omega), (hs.2.2.2.1 k hk).2.2.1]
    have := (hr.2.2.2.1 k hk).2.2.1
    rw [show 0 + 48 + k = 48 + k by omega] at this
    rw [this]
    exact hQ _
  · exact has7_n hs.1 (by omega) hx (br_t rfl (bnd8_n hr.1 (by omega) hx (br_t rfl (hQ _))))
theorem k_level (hp : Pw n X Y S m L W) (hs : StP n X Y c S m L W size marked wh up lo lim str mk) (hr : RfP 0 n X Y c S m L W st) (x1 : Int32) {Q : Int32 → Int32 → Prop} (hQ : ∀ r, Q r r) : P_X7_level (fun r => P_X8_level (fun r2 => Q r r2) st x1) marked mk x1 := by
  have hm := hp.2.1
  unfold P_X7_level P_X8_level
  rw [show (106 : Int32).toNatClampNeg = 0 + 106 from rfl, hr.2.1]
  have v1 : vp_in (106 : Int32) 535 := vin (n := 106) (by omega) (by omega)
  rcases cnt_cases x1 m with ⟨k, hk, rfl⟩ | hx
  · refine mrk7_y hs.2.1 (by omega) hk (br_f o_ne ⟨vin (by omega) (by omega), v1, in8_y (by omega) hk (br_f o_ne ⟨ixv (a := 96) rfl (by omega) (by omega), ?_⟩)⟩)
    rw [nI_c (by omega), ixc (cc := 96) (a := 96) (k := k) rfl (by omega), hs.2.2.2.2 k hk]
    have := hr.2.2.2.2 k hk
    rw [show 0 + 96 + k = 96 + k by omega] at this
    rw [this]
    exact hQ _
  · exact mrk7_n hs.2.1 (by omega) hx (br_t rfl ⟨v1, in8_n (by omega) hx (br_t rfl (hQ _))⟩)
theorem k_push (hp : Pw n X Y S m L W) (hs : StP n X Y c S m L W size marked wh up lo lim str mk) (hr : RfP 0 n X Y c S m L W st) {Q : Int32 → Int32 → (Nat → Int32) → Int32 → (Nat → Int32) → Prop}
    (hQ : ∀ r m' L' marked' mk' st', Pw n X Y S m' L' W → StP n X Y c S m' L' W size marked' wh up lo lim str mk' → RfP 0 n X Y c S m' L' W st' → (∀ j, 107 ≤ j → st' j = st j) → Q r marked' mk' r st') :
    P_X7_push (fun r marked' mk' => P_X8_push (fun r2 st' => Q r marked' mk' r2 st') st) size marked mk := by
  obtain ⟨p1, p2, p3, p4, p5, p6⟩ := id hp
  obtain ⟨s1, s2, s3, s4, s5⟩ := id hs
  obtain ⟨r1, r2, r3, r4, r5⟩ := id hr
  subst s1; subst s2
  unfold P_X7_push P_X8_push P_X8_many
  rw [show (106 : Int32).toNatClampNeg = 0 + 106 from rfl, show (104 : Int32).toNatClampNeg = 0 + 104 from rfl, r2, r1]
  have v1 : vp_in (106 : Int32) 535 := vin (n := 106) (by omega) (by omega)
  have v2 : vp_in (104 : Int32) 535 := vin (n := 104) (by omega) (by omega)
  by_cases h8 : m = 8
  · subst h8
    exact br_f (by decide) ⟨v1, ⟨fun h => absurd rfl h, fun _ => hQ _ 8 L _ _ _ hp hs hr (fun _ _ => rfl)⟩⟩
  · have hlt : nI m < (8 : Int32) := Int32.not_le.mp (nI_ge (a := m) (b := 8) (by omega) (by omega))
    have hne : ¬ nI m = (8 : Int32) := fun e => h8 ((nI_eq (b := 8) (by omega) (by omega)).mp e)
    refine br_t hlt ⟨vin (by omega) (by omega), v1, fun _ => ⟨v1, v2, ixv (a := 96) rfl (by omega) (by omega), v1, v1, v1, ?_⟩, fun h => absurd h hne⟩
    rw [nI_c (show m ≤ 2147483647 by omega), ixc (cc := 96) (a := 96) (k := m) rfl (by omega), pk_us, pk_un (show 0 + 106 ≠ 96 + m by omega), r2, nI_1]
    refine hQ _ (m + 1) (fun j => if j = m then n else L j) _ _ _ ⟨p1, by omega, p3, p4, fun i j hij hj => ?_, fun j hj => ?_⟩ ⟨rfl, rfl, s3, s4, fun j hj => ?_⟩ ⟨?_, ?_, ?_, fun k hk => ?_, fun j hj => ?_⟩ (fun j hj => ?_)
    · dsimp only
      by_cases e : j = m
      · rw [if_pos e]
        by_cases e2 : i = m
        · rw [if_pos e2]; omega
        · rw [if_neg e2]; exact p6 i (by omega)
      · rw [if_neg e, if_neg (by omega)]; exact p5 i j hij (by omega)
    · dsimp only
      by_cases e : j = m
      · rw [if_pos e]; omega
      · rw [if_neg e]; exact p6 j (by omega)
    · dsimp only
      by_cases e : j = m
      · subst e; rw [pk_us, if_pos rfl]
      · rw [pk_un e, if_neg e]; exact s5 j (by omega)
    · rw [pk_un (by omega), pk_un (by omega)]; exact r1
    · rw [pk_us]
    · rw [pk_un (by omega), pk_un (by omega)]; exact r3
    · rw [pk_un (by omega), pk_un (by omega), pk_un (by omega), pk_un (by omega), pk_un (by omega), pk_un (by omega), pk_un (by omega), pk_un (by omega)]; exact r4 k hk
    · dsimp only
      by_cases e : j = m
      · subst e; rw [pk_un (by omega), show 0 + 96 + j = 96 + j by omega, pk_us, if_pos rfl]
      · rw [pk_un (by omega), pk_un (by omega), if_neg e]; exact r5 j (by omega)
    · rw [pk_un (by omega), pk_un (by omega)]
theorem k_pop (hp : Pw n X Y S m L W) (ho : PgOk n X Y c S W) (hs : StP n X Y c S m L W size marked wh up lo lim str mk) (hr : RfP 0 n X Y c S m L W st) (x1 : Int32) {Q : Int32 → Int32 → Int32 → Int32 → (Nat → Int32) → Prop}
    (hQ : ∀ r n' m' size' marked' st', Pw n' X Y S m' L W → PgOk n' X Y c S W → StP n' X Y c S m' L W size' marked' wh up lo lim str mk → RfP 0 n' X Y c S m' L W st' → (∀ j, 107 ≤ j → st' j = st j) → Q r size' marked' r st') :
    P_X7_pop (fun r size' marked' => P_X8_pop (fun r2 st' => Q r size' marked' r2 st') st x1) size marked mk x1 := by
  obtain ⟨p1, p2, p3, p4, p5, p6⟩ := id hp
  obtain ⟨s1, s2, s3, s4, s5⟩ := id hs
  obtain ⟨r1, r2, r3, r4, r5⟩ := id hr
  unfold P_X7_pop P_X8_pop P_X8_many
  rw [show (106 : Int32).toNatClampNeg = 0 + 106 from rfl, show (104 : Int32).toNatClampNeg = 0 + 104 from rfl, r2, r1]
  have v1 : vp_in (106 : Int32) 535 := vin (n := 106) (by omega) (by omega)
  have v2 : vp_in (104 : Int32) 535 := vin (n := 104) (by omega) (by omega)
  rcases cnt_cases x1 m with ⟨k, hk, rfl⟩ | hx
  · refine mrk7_y s2 (by omega) hk ⟨fun _ => ⟨vin (by omega) (by omega), v1, in8_y (by omega) hk ⟨fun _ => ⟨v2, ixv (a := 96) rfl (by omega) (by omega), v2, v1, v2, ?_⟩, fun h => absurd h o_ne⟩⟩, fun h => absurd h o_ne⟩
    have e5 := r5 k hk
    rw [show 0 + 96 + k = 96 + k by omega] at e5
    have hLk := p6 k hk
    rw [nI_c (show k ≤ 2147483647 by omega), ixc (cc := 96) (a := 96) (k := k) rfl (by omega), s5 k hk, e5, s1, pk_un (show 0 + 104 ≠ 0 + 106 by omega), pk_us]
    refine hQ _ (L k) k _ _ _ ⟨by omega, by omega, p3, fun j hj => p4 j (by omega), fun i j a b => p5 i j a (by omega), fun j hj => p5 j k (by omega) hk⟩ (NoNeg.sub ho (fun j hj => by omega)) ⟨rfl, rfl, s3, fun j hj => s4 j (by omega), fun j hj => s5 j (by omega)⟩ ⟨?_, ?_, ?_, fun j hj => ?_, fun j hj => ?_⟩ (fun j hj => ?_)
    · rw [pk_un (by omega), pk_us]
    · rw [pk_us]
    · rw [pk_un (by omega), pk_un (by omega)]; exact r3
    · rw [pk_un (by omega), pk_un (by omega), pk_un (by omega), pk_un (by omega), pk_un (by omega), pk_un (by omega), pk_un (by omega), pk_un (by omega)]; exact r4 j (by omega)
    · rw [pk_un (by omega), pk_un (by omega)]; exact r5 j (by omega)
    · rw [pk_un (by omega), pk_un (by omega)]
  · exact mrk7_n s2 (by omega) hx ⟨fun h => absurd rfl h, fun _ => ⟨v1, in8_n (by omega) hx ⟨fun h => absurd rfl h, fun _ => hQ _ n m _ _ _ hp ho hs hr (fun _ _ => rfl)⟩⟩⟩
end PL
/-- the tape of both -/
def RTape (ts : Int32) (tb : Nat → Int32) (td : Int32) (tp : Nat → Int32) : Prop := ∃ q : Nat, q ≤ 320 ∧ ts = nI q ∧ td = nI q ∧ ∀ j, j < q → tb j = tp j ∧ ∃ b, b < 128 ∧ tp j = nI b
theorem byte_id {b : Nat} (h : b < 128) : vp_nar .byte (nI b).toInt8.toInt32 = nI b := by
  revert h
  revert b
  decide +kernel
theorem k_feed {ts td : Int32} {tb tp : Nat → Int32} (h : RTape ts tb td tp) (x1 : Int32) {Q : Int32 → Int32 → (Nat → Int32) → Int32 → Int32 → (Nat → Int32) → Prop} (hQ : ∀ r ts' tb' td' tp', RTape ts' tb' td' tp' → Q r ts' tb' r td' tp') : P_X7_feed (fun r ts' tb' => P_X8_feed (fun r2 td' tp' => Q r ts' tb' r2 td' tp') td tp x1) ts tb x1 := by
  obtain ⟨q, hq, rfl, rfl, ht⟩ := id h
  have t127 : (127 : Int64).toInt = 127 := by decide
  unfold P_X7_feed P_X8_feed
  rcases cnt_cases x1 128 with ⟨b, hb, rfl⟩ | hx
  · have hin : ∀ {post : Int32 → Prop}, post 1 → P_X8_in post (nI b).toInt64 (0 : Int64) (127 : Int64) := fun hh => by
      refine s_in (fun _ _ => hh) (fun g => ?_)
      rw [i2l, nI_t (by omega), z64, t127] at g
      omega
    refine br_f (Int32.not_lt.mpr (show nI 0 ≤ nI b from nI_le (Nat.zero_le _) (by omega))) (br_t (show nI b ≤ nI 127 from nI_le (by omega) (by omega)) ?_)
    by_cases e : q = 320
    · subst e
      exact br_f (by decide) (hin ⟨fun _ => ⟨fun h => absurd rfl h, fun _ => hQ _ _ _ _ _ h⟩, fun h => absurd h o_ne⟩)
    · refine br_t (Int32.not_le.mp (nI_ge (a := q) (b := 320) (by omega) (by omega))) ⟨vin (by omega) (by omega), hin ⟨fun _ => ⟨fun _ => ⟨vin (by omega) (by omega), hQ _ _ _ _ _ ⟨q + 1, by omega, nI_1 q, nI_1 q, fun j hj => ?_⟩⟩, fun h => absurd ((nI_eq (b := 320) (by omega) (by omega)).mp h) e⟩, fun h => absurd h o_ne⟩⟩
      rw [nI_c (by omega)]
      by_cases ej : j = q
      · subst ej
        rw [pk_us, pk_us]
        exact ⟨byte_id hb, b, hb, rfl⟩
      · rw [pk_un ej, pk_un ej]
        exact ht j (by omega)
  · have hin : ∀ {post : Int32 → Prop}, post 0 → P_X8_in post x1.toInt64 (0 : Int64) (127 : Int64) := fun hh => by
      refine s_in (fun a b => ?_) (fun _ => hh)
      rw [i2l, z64] at a
      rw [i2l, t127] at b
      omega
    have fin : ∀ {A : Prop}, P_X8_in (fun (r1 : Int32) => ((¬ r1 = 0 → A) ∧ (r1 = 0 → Q (-1) (nI q) tb (-1 : Int32) (nI q) tp))) x1.toInt64 (0 : Int64) (127 : Int64) := hin ⟨fun h => absurd rfl h, fun _ => hQ _ _ _ _ _ h⟩
    refine br_c (fun _ => fin) (fun g => ⟨fun g2 => ?_, fun _ => fin⟩)
    rw [Int32.lt_iff_toInt_lt, z32] at g
    rw [Int32.le_iff_toInt_le, show (127 : Int32).toInt = 127 from by decide] at g2
    omega
theorem k_end {ts td : Int32} {tb tp : Nat → Int32} (h : RTape ts tb td tp) (x1 : Int32) {Q : Int32 → Int32 → Int32 → Int32 → Prop} (hQ : ∀ r ts' td', RTape ts' tb td' tp → Q r ts' r td') : P_X7_end (fun r ts' => P_X8_end (fun r2 td' => Q r ts' r2 td') td x1) ts x1 := by
  obtain ⟨q, hq, rfl, rfl, ht⟩ := id h
  unfold P_X7_end P_X8_end
  refine br_c (fun g => s_in (fun a b => ?_) (fun _ => ⟨fun h => absurd rfl h, fun _ => hQ _ _ _ h⟩)) (fun g => br_c (fun g2 => ?_) (fun g2 => s_in (fun a b => ?_) (fun _ => ⟨fun h => absurd rfl h, fun _ => hQ _ _ _ h⟩)))
  · rw [i2l, z64] at a
    rw [Int32.lt_iff_toInt_lt, z32] at g
    omega
  · rw [Int32.lt_iff_toInt_lt, z32] at g
    rw [Int32.le_iff_toInt_le, nI_t (by omega)] at g2
    obtain ⟨k, hk, rfl⟩ := cnt (x := x1) (n := q + 1) (by omega) (by omega)
    refine s_in (fun _ _ => ⟨fun _ => hQ _ _ _ ⟨k, by omega, rfl, rfl, fun j hj => ht j (by omega)⟩, fun h => absurd h o_ne⟩) (fun g => ?_)
    rw [i2l, nI_t (by omega), z64, i2l, nI_t (by omega)] at g
    omega
  · rw [Int32.le_iff_toInt_le, nI_t (by omega)] at g2
    rw [i2l, i2l, nI_t (by omega)] at b
    omega
/-- the conflict of both -/
def RConf (cs : Int32) (row : Nat → Int32) (cm : Int32) (cf : Nat → Int32) : Prop := ∃ q : Nat, q ≤ 9 ∧ cs = nI q ∧ cm = nI q ∧ ∀ j, j < q → row j = cf j
theorem k_conflict {cs cm : Int32} {row cf : Nat → Int32} (h : RConf cs row cm cf) (x1 : Int32) {Q : Int32 → Int32 → Prop} (hQ : ∀ r, Q r r) : P_X7_conflict (fun r => P_X8_conflict (fun r2 => Q r r2) cm cf x1) cs row x1 := by
  obtain ⟨q, hq, rfl, rfl, ht⟩ := id h
  unfold P_X7_conflict P_X8_conflict
  refine br_c (fun g => br_c (fun g2 => br_t g (br_t g2 (hQ _))) (fun g2 => ?_)) (fun g => br_f g (hQ _))
  have g' := g
  have g2' := g2
  rw [Int32.le_iff_toInt_le, z32] at g'
  rw [Int32.le_iff_toInt_le, nI_t (by omega)] at g2'
  obtain ⟨k, hk, rfl⟩ := cnt (x := x1) (n := q) (by omega) (by omega)
  refine ⟨vin (by omega) (by omega), br_t g (br_f g2 ⟨vin (by omega) (by omega), ?_⟩)⟩
  rw [nI_c (by omega), ht k hk]
  exact hQ _
