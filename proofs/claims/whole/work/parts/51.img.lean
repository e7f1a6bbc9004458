/-! images -/
theorem cpy_in {s t : Nat → Int32} {N j : Nat} (h : j < N) : va_cpy s t 0 0 N j = s j := by
  unfold va_cpy
  first
    | rw [if_pos (by omega), show 0 + (j - 0) = j by omega]
    | (simp [h])
section CP
variable {n m W : Nat} {X Y S L : Nat → Nat} {c : Nat → Int32} {st : Nat → Int32}
theorem s_copies {a b : Nat} (ha : a + 107 ≤ 535) (hb : b + 107 ≤ 535) (hd : a + 107 ≤ b ∨ b + 107 ≤ a) {post : (Nat → Int32) → Prop} (h : ∀ st', (∀ j, j < 107 → st' (b + j) = st (a + j)) → (∀ x, (x < b ∨ b + 107 ≤ x) → st' x = st x) → post st') : P_X8_copies post st (nI a) (nI b) := by
  unfold P_X8_copies
  refine ml2 (F := LB_X8_copies_2 post (nI a) (nI b)) (I := fun s z => ∃ i : Nat, i ≤ 107 ∧ z = nI i ∧ (∀ j, j < i → s (b + j) = st (a + j)) ∧ ∀ x, (x < b ∨ b + i ≤ x) → s x = st x) (μ := fun _ z => 107 - z.toNatClampNeg) ?_ st 0 ⟨0, by omega, rfl, fun j hj => absurd hj (by omega), fun _ _ => rfl⟩
  rintro s z ⟨i, hi, rfl, h1, h2⟩ K hK
  unfold LB_X8_copies_2
  by_cases he : i = 107
  · subst he
    exact br_t (by decide) (h s h1 h2)
  · refine br_f (nI_ge (a := i) (b := 107) (by omega) (by omega)) ?_
    rw [nI_add, nI_add, nI_c (show a + i ≤ 2147483647 by omega), nI_c (show b + i ≤ 2147483647 by omega)]
    refine ⟨vin (by omega) (by omega), vin (by omega) (by omega), hK _ _ ⟨i + 1, by omega, nI_1 i, fun j hj => ?_, fun x hx => ?_⟩ (by rw [nI_1, nI_c (by omega), nI_c (by omega)]; omega)⟩
    · by_cases e : j = i
      · subst e; rw [pk_us, h2 _ (by omega)]
      · rw [pk_un (by omega)]; exact h1 j (by omega)
    · rw [pk_un (by omega)]; exact h2 x (by omega)
theorem RfP.move {a b : Nat} {st' : Nat → Int32} (hn : n ≤ 24) (hm : m ≤ 8) (h : RfP a n X Y c S m L W st) (e : ∀ j, j < 107 → st' (b + j) = st (a + j)) : RfP b n X Y c S m L W st' := by
  obtain ⟨r1, r2, r3, r4, r5⟩ := h
  refine ⟨(e 104 (by omega)).trans r1, (e 106 (by omega)).trans r2, (e 105 (by omega)).trans r3, fun k hk => ?_, fun j hj => ?_⟩
  · obtain ⟨z1, z2, z3, z4⟩ := r4 k hk
    refine ⟨(e k (by omega)).trans z1, ?_, ?_, ?_⟩
    · rw [Nat.add_assoc]; exact (e (24 + k) (by omega)).trans (by rw [← Nat.add_assoc]; exact z2)
    · rw [Nat.add_assoc]; exact (e (48 + k) (by omega)).trans (by rw [← Nat.add_assoc]; exact z3)
    · rw [Nat.add_assoc]; exact (e (72 + k) (by omega)).trans (by rw [← Nat.add_assoc]; exact z4)
  · rw [Nat.add_assoc]; exact (e (96 + j) (by omega)).trans (by rw [← Nat.add_assoc]; exact r5 j hj)
end CP
section IM
variable {size marked wh : Int32} {up lo lim str mk : Nat → Int32} {st st' : Nat → Int32} {o : Nat}
theorem RPg.frame (h : RPg o size marked wh up lo lim str mk st) (e : ∀ j, o ≤ j → j < o + 107 → st' j = st j) : RPg o size marked wh up lo lim str mk st' := by
  obtain ⟨n, X, Y, c, S, m, L, W, hp, ho, hs, hr⟩ := h
  exact ⟨n, X, Y, c, S, m, L, W, hp, ho, hs, hr.congr hp.1 hp.2.1 e⟩
theorem RPg.copy {b : Nat} {u2 l2 li2 s2 k2 : Nat → Int32} (h : RPg o size marked wh up lo lim str mk st) (e : ∀ j, j < 107 → st' (b + j) = st (o + j)) : RPg b size marked wh (va_cpy up u2 0 0 24) (va_cpy lo l2 0 0 24) (va_cpy lim li2 0 0 24) (va_cpy str s2 0 0 24) (va_cpy mk k2 0 0 8) st' := by
  obtain ⟨n, X, Y, c, S, m, L, W, hp, ho, hs, hr⟩ := h
  have hn := hp.1
  have hm := hp.2.1
  refine ⟨n, X, Y, c, S, m, L, W, hp, ho, ?_, hr.move hn hm e⟩
  obtain ⟨s1, s2, s3, s4, s5⟩ := hs
  refine ⟨s1, s2, s3, fun k hk => ?_, fun j hj => ?_⟩
  · rw [cpy_in (by omega), cpy_in (by omega), cpy_in (by omega), cpy_in (by omega)]; exact s4 k hk
  · rw [cpy_in (by omega)]; exact s5 j hj
/-- an image of both sides -/
def RIm (o : Nat) (size marked wh : Int32) (up lo lim str mk : Nat → Int32) (made kept : Int32) (st : Nat → Int32) : Prop := (made = 0 ∧ kept = 0) ∨ (made = 1 ∧ kept = 1 ∧ RPg o size marked wh up lo lim str mk st)
theorem RIm.frame {made kept : Int32} (h : RIm o size marked wh up lo lim str mk made kept st) (e : ∀ j, o ≤ j → j < o + 107 → st' j = st j) : RIm o size marked wh up lo lim str mk made kept st' := by
  rcases h with h | ⟨a, b, h⟩
  · exact Or.inl h
  · exact Or.inr ⟨a, b, h.frame e⟩
theorem nar1 : vp_nar .boolean (1 : Int32) = 1 := rfl
set_option maxHeartbeats 1000000 in
theorem k_keep (hP : RPg 0 size marked wh up lo lim str mk st) {im kp : Nat → Int32} {size0 marked0 wh0 : Int32} {up0 lo0 lim0 str0 mk0 : Nat → Int32} {size1 marked1 wh1 : Int32} {up1 lo1 lim1 str1 mk1 : Nat → Int32}
    (h0 : RIm 107 size0 marked0 wh0 up0 lo0 lim0 str0 mk0 (im 0) (kp 0) st) (h1 : RIm 214 size1 marked1 wh1 up1 lo1 lim1 str1 mk1 (im 1) (kp 1) st) (x1 : Int32)
    {Q : Int32 → (Nat → Int32) → Int32 → Int32 → Int32 → (Nat → Int32) → (Nat → Int32) → (Nat → Int32) → (Nat → Int32) → (Nat → Int32) → Int32 → Int32 → Int32 → (Nat → Int32) → (Nat → Int32) → (Nat → Int32) → (Nat → Int32) → (Nat → Int32) → Int32 → (Nat → Int32) → (Nat → Int32) → Prop}
    (hQ : ∀ r im' a1 a2 a3 a4 a5 a6 a7 a8 b1 b2 b3 b4 b5 b6 b7 b8 kp' st', RPg 0 size marked wh up lo lim str mk st' → RIm 107 a1 a2 a3 a4 a5 a6 a7 a8 (im' 0) (kp' 0) st' → RIm 214 b1 b2 b3 b4 b5 b6 b7 b8 (im' 1) (kp' 1) st' → Q r im' a1 a2 a3 a4 a5 a6 a7 a8 b1 b2 b3 b4 b5 b6 b7 b8 r kp' st') :
    P_X7_keep (fun r im' a1 a2 a3 a4 a5 a6 a7 a8 b1 b2 b3 b4 b5 b6 b7 b8 => P_X8_keep (fun r2 kp' st' => Q r im' a1 a2 a3 a4 a5 a6 a7 a8 b1 b2 b3 b4 b5 b6 b7 b8 r2 kp' st') kp st x1) im size marked wh size0 marked0 wh0 up up0 lo lo0 lim lim0 str str0 mk mk0 size1 marked1 wh1 up1 lo1 lim1 str1 mk1 x1 := by
  have t1 : (1 : Int64).toInt = 1 := by decide
  unfold P_X7_keep
  rcases cnt_cases x1 2 with ⟨k, hk, rfl⟩ | hx
  · have vk : vp_in (nI k) 2 := vin hk (by omega)
    have hin : ∀ {post : Int32 → Prop}, post 1 → P_X8_in post (nI k).toInt64 (0 : Int64) (1 : Int64) := fun hh => by
      refine s_in (fun _ _ => hh) (fun g => ?_)
      rw [i2l, nI_t (by omega), z64, t1] at g
      omega
    -- the reference, for an answer
    have ask : ∀ (r : Int32) {post : Int32 → (Nat → Int32) → (Nat → Int32) → Prop}, ((kp k = 0 ∧ r = 0) ∨ (kp k = 1 ∧ r = 1)) → (∀ st', (∀ j, j < 107 → st' (107 * k + 107 + j) = st (0 + j)) → (∀ x, (x < 107 * k + 107 ∨ 107 * k + 107 + 107 ≤ x) → st' x = st x) → post r (upd kp k 1) st') → P_X8_keep post kp st (nI k) := fun r post hr hh => by
      unfold P_X8_keep
      refine hin ⟨fun _ => ⟨vk, ?_⟩, fun h => absurd h o_ne⟩
      rw [nI_c (show k ≤ 2147483647 by omega)]
      have go : B_X8_keep_26 post kp st r (nI k) := by
        unfold B_X8_keep_26
        rw [show (107 : Int32) = nI 107 from rfl, pk_mul, nI_add]
        refine s_copies (a := 0) (b := 107 * k + 107) (by omega) (by omega) (by omega) (fun st' e1 e2 => ⟨vk, ?_⟩)
        rw [nI_c (show k ≤ 2147483647 by omega), nar1]
        exact hh st' e1 e2
      rcases hr with ⟨e, rfl⟩ | ⟨e, rfl⟩
      · exact br_t e go
      · exact br_f (by rw [e]; exact o_ne) go
    have hmk : ∃ r : Int32, ((im k = 0 ∧ r = 0) ∨ (im k = 1 ∧ r = 1)) ∧ ((kp k = 0 ∧ r = 0) ∨ (kp k = 1 ∧ r = 1)) := by
      have e : k = 0 ∨ k = 1 := by omega
      rcases e with rfl | rfl
      · rcases h0 with ⟨a, b⟩ | ⟨a, b, -⟩
        · exact ⟨0, Or.inl ⟨a, rfl⟩, Or.inl ⟨b, rfl⟩⟩
        · exact ⟨1, Or.inr ⟨a, rfl⟩, Or.inr ⟨b, rfl⟩⟩
      · rcases h1 with ⟨a, b⟩ | ⟨a, b, -⟩
        · exact ⟨0, Or.inl ⟨a, rfl⟩, Or.inl ⟨b, rfl⟩⟩
        · exact ⟨1, Or.inr ⟨a, rfl⟩, Or.inr ⟨b, rfl⟩⟩
    obtain ⟨r, hr1, hr2⟩ := hmk
    refine br_f (Int32.not_lt.mpr (show nI 0 ≤ nI k from nI_le (Nat.zero_le _) (by omega))) (br_t (Int32.not_le.mp (nI_ge (a := k) (b := 2) hk (by omega))) ⟨vk, ?_⟩)
    rw [nI_c (show k ≤ 2147483647 by omega)]
    have fin : B_X7_keep_25 (fun r im' a1 a2 a3 a4 a5 a6 a7 a8 b1 b2 b3 b4 b5 b6 b7 b8 => P_X8_keep (fun r2 kp' st' => Q r im' a1 a2 a3 a4 a5 a6 a7 a8 b1 b2 b3 b4 b5 b6 b7 b8 r2 kp' st') kp st (nI k)) im size marked wh size0 marked0 wh0 up up0 lo lo0 lim lim0 str str0 mk mk0 size1 marked1 wh1 up1 lo1 lim1 str1 mk1 r (nI k) := by
      unfold B_X7_keep_25 P_X5_takeFrom
      have e : k = 0 ∨ k = 1 := by omega
      rcases e with rfl | rfl
      · refine ⟨vk, br_t rfl ⟨vk, ask r hr2 (fun st' e1 e2 => hQ _ _ _ _ _ _ _ _ _ _ _ _ _ _ _ _ _ _ _ _ (hP.frame (fun j _ hj => e2 j (by omega))) (Or.inr ⟨?_, ?_, hP.copy e1⟩) ?_)⟩⟩
        · exact pk_us
        · exact pk_us
        · have q : RIm 214 size1 marked1 wh1 up1 lo1 lim1 str1 mk1 (im 1) (kp 1) st' := h1.frame (fun j hj _ => e2 j (by omega))
          rw [show upd kp 0 1 1 = kp 1 from pk_un (by omega)]
          have e3 : upd im (nI 0).toNatClampNeg (vp_nar .boolean 1) 1 = im 1 := pk_un (by decide)
          rw [e3]
          exact q
      · refine ⟨vk, br_f o_ne ⟨vk, ask r hr2 (fun st' e1 e2 => hQ _ _ _ _ _ _ _ _ _ _ _ _ _ _ _ _ _ _ _ _ (hP.frame (fun j _ hj => e2 j (by omega))) ?_ (Or.inr ⟨?_, ?_, hP.copy e1⟩))⟩⟩
        · have q : RIm 107 size0 marked0 wh0 up0 lo0 lim0 str0 mk0 (im 0) (kp 0) st' := h0.frame (fun j hj _ => e2 j (by omega))
          rw [show upd kp 1 1 0 = kp 0 from pk_un (by omega)]
          have e3 : upd im (nI 1).toNatClampNeg (vp_nar .boolean 1) 0 = im 0 := pk_un (by decide)
          rw [e3]
          exact q
        · exact pk_us
        · exact pk_us
    rcases hr1 with ⟨e, rfl⟩ | ⟨e, rfl⟩
    · exact br_t e fin
    · exact br_f (by rw [e]; exact o_ne) fin
  · have bad : ∀ {post : Int32 → (Nat → Int32) → (Nat → Int32) → Prop}, post (-1) kp st → P_X8_keep post kp st x1 := fun hh => by
      unfold P_X8_keep
      refine s_in (fun a b => ?_) (fun _ => ⟨fun h => absurd rfl h, fun _ => hh⟩)
      rw [i2l, z64] at a
      rw [i2l, t1] at b
      omega
    have fin := bad (hQ (-1) im size0 marked0 wh0 up0 lo0 lim0 str0 mk0 size1 marked1 wh1 up1 lo1 lim1 str1 mk1 kp st hP h0 h1)
    refine br_c (fun _ => fin) (fun g => ⟨fun g2 => ?_, fun _ => fin⟩)
    rw [Int32.lt_iff_toInt_lt, z32] at g
    rw [Int32.lt_iff_toInt_lt, show (2 : Int32).toInt = 2 from by decide] at g2
    omega
set_option maxHeartbeats 1000000 in
theorem k_back (hP : RPg 0 size marked wh up lo lim str mk st) {im kp : Nat → Int32} {size0 marked0 wh0 : Int32} {up0 lo0 lim0 str0 mk0 : Nat → Int32} {size1 marked1 wh1 : Int32} {up1 lo1 lim1 str1 mk1 : Nat → Int32}
    (h0 : RIm 107 size0 marked0 wh0 up0 lo0 lim0 str0 mk0 (im 0) (kp 0) st) (h1 : RIm 214 size1 marked1 wh1 up1 lo1 lim1 str1 mk1 (im 1) (kp 1) st) (x1 : Int32)
    {Q : Int32 → Int32 → Int32 → Int32 → (Nat → Int32) → (Nat → Int32) → (Nat → Int32) → (Nat → Int32) → (Nat → Int32) → Int32 → (Nat → Int32) → Prop}
    (hQ : ∀ r a1 a2 a3 a4 a5 a6 a7 a8 st', RPg 0 a1 a2 a3 a4 a5 a6 a7 a8 st' → (∀ j, 107 ≤ j → st' j = st j) → Q r a1 a2 a3 a4 a5 a6 a7 a8 r st') :
    P_X7_back (fun r a1 a2 a3 a4 a5 a6 a7 a8 => P_X8_back (fun r2 st' => Q r a1 a2 a3 a4 a5 a6 a7 a8 r2 st') kp st x1) im size0 marked0 wh0 size marked wh up0 up lo0 lo lim0 lim str0 str mk0 mk size1 marked1 wh1 up1 lo1 lim1 str1 mk1 x1 := by
  have t1 : (1 : Int64).toInt = 1 := by decide
  unfold P_X7_back
  rcases cnt_cases x1 2 with ⟨k, hk, rfl⟩ | hx
  · have vk : vp_in (nI k) 2 := vin hk (by omega)
    have hin : ∀ {post : Int32 → Prop}, post 1 → P_X8_in post (nI k).toInt64 (0 : Int64) (1 : Int64) := fun hh => by
      refine s_in (fun _ _ => hh) (fun g => ?_)
      rw [i2l, nI_t (by omega), z64, t1] at g
      omega
    have no : ∀ {post : Int32 → (Nat → Int32) → Prop}, kp k = 0 → post (-2) st → P_X8_back post kp st (nI k) := fun e hh => by
      unfold P_X8_back
      refine hin ⟨fun _ => ⟨vk, ?_⟩, fun h => absurd h o_ne⟩
      rw [nI_c (show k ≤ 2147483647 by omega)]
      exact ⟨fun h => absurd e h, fun _ => hh⟩
    have yes : ∀ {post : Int32 → (Nat → Int32) → Prop} {v : Int32}, kp k = 1 → st (107 * k + 107 + 104) = v → (∀ st', (∀ j, j < 107 → st' (0 + j) = st (107 * k + 107 + j)) → (∀ x, 107 ≤ x → st' x = st x) → post v st') → P_X8_back post kp st (nI k) := fun e hv hh => by
      unfold P_X8_back
      refine hin ⟨fun _ => ⟨vk, ?_⟩, fun h => absurd h o_ne⟩
      rw [nI_c (show k ≤ 2147483647 by omega)]
      refine ⟨fun _ => ?_, fun h => absurd (e.symm.trans h) o_ne⟩
      rw [show (107 : Int32) = nI 107 from rfl, pk_mul, nI_add]
      refine s_copies (a := 107 * k + 107) (b := 0) (by omega) (by omega) (by omega) (fun st' e1 e2 => ?_)
      unfold P_X8_many
      refine ⟨vin (n := 104) (by omega) (by omega), ?_⟩
      have e3 : st' (104 : Int32).toNatClampNeg = _ := (e1 104 (by omega)).trans hv
      rw [e3]
      exact hh st' e1 (fun x hx => e2 x (by omega))
    refine br_f (Int32.not_lt.mpr (show nI 0 ≤ nI k from nI_le (Nat.zero_le _) (by omega))) (br_t (Int32.not_le.mp (nI_ge (a := k) (b := 2) hk (by omega))) ⟨vk, ?_⟩)
    rw [nI_c (show k ≤ 2147483647 by omega)]
    unfold P_X5_takeFrom
    have e : k = 0 ∨ k = 1 := by omega
    rcases e with rfl | rfl
    · rcases h0 with ⟨a, b⟩ | ⟨a, b, hI⟩
      · exact ⟨fun h => absurd a h, fun _ => no b (hQ _ _ _ _ _ _ _ _ _ _ hP (fun _ _ => rfl))⟩
      · refine ⟨fun _ => ⟨vk, br_t rfl (yes b (v := size0) ?_ (fun st' e1 e2 => hQ _ _ _ _ _ _ _ _ _ _ (hI.copy e1) e2))⟩, fun h => absurd (a.symm.trans h) o_ne⟩
        obtain ⟨n, X, Y, c, S, m, L, W, hp, ho, hs, hr⟩ := hI
        exact hr.1.trans hs.1.symm
    · rcases h1 with ⟨a, b⟩ | ⟨a, b, hI⟩
      · exact ⟨fun h => absurd a h, fun _ => no b (hQ _ _ _ _ _ _ _ _ _ _ hP (fun _ _ => rfl))⟩
      · refine ⟨fun _ => ⟨vk, br_f o_ne (yes b (v := size1) ?_ (fun st' e1 e2 => hQ _ _ _ _ _ _ _ _ _ _ (hI.copy e1) e2))⟩, fun h => absurd (a.symm.trans h) o_ne⟩
        obtain ⟨n, X, Y, c, S, m, L, W, hp, ho, hs, hr⟩ := hI
        exact hr.1.trans hs.1.symm
  · have bad : ∀ {post : Int32 → (Nat → Int32) → Prop}, post (-1) st → P_X8_back post kp st x1 := fun hh => by
      unfold P_X8_back
      refine s_in (fun a b => ?_) (fun _ => ⟨fun h => absurd rfl h, fun _ => hh⟩)
      rw [i2l, z64] at a
      rw [i2l, t1] at b
      omega
    have fin := bad (hQ (-1) size marked wh up lo lim str mk st hP (fun _ _ => rfl))
    refine br_c (fun _ => fin) (fun g => ⟨fun g2 => ?_, fun _ => fin⟩)
    rw [Int32.lt_iff_toInt_lt, z32] at g
    rw [Int32.lt_iff_toInt_lt, show (2 : Int32).toInt = 2 from by decide] at g2
    omega
end IM
