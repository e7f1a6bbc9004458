/-! read: the class's loop -/
/-- of a sheet taken as of a lane: so many are whole (h of N), what is met behind them (E), the numbers (v) -/
def Rd7 (h N : Nat) (E : Int32) (v : Nat → Nat → Int32) (lane sz : Int32) (ce : Nat → Int32) (x2 x3 : Int32) : Prop :=
  (∀ i, i < h → ∀ post : Int32 → Prop, post 0 → P_X3_faultAt post lane sz x2 (4 : Int32) (x3.toInt64 + ((4 : Int32) * nI i).toInt64)) ∧
  (h < N → ∀ post : Int32 → Prop, post E → P_X3_faultAt post lane sz x2 (4 : Int32) (x3.toInt64 + ((4 : Int32) * nI h).toInt64)) ∧
  (∀ i, i < h → ∀ post : Int32 → Prop, post (v i 0) → P_X3_cellAt post sz ce (x3.toInt64 + ((4 : Int32) * nI i).toInt64)) ∧
  (∀ i, i < h → ∀ post : Int32 → Prop, post (v i 1) → P_X3_cellAt post sz ce (x3.toInt64 + ((4 : Int32) * nI i).toInt64 + (1 : Int64))) ∧
  (∀ i, i < h → ∀ post : Int32 → Prop, post (v i 2) → P_X3_cellAt post sz ce (x3.toInt64 + ((4 : Int32) * nI i).toInt64 + (2 : Int64))) ∧
  (∀ i, i < h → ∀ post : Int32 → Prop, post (v i 3) → P_X3_cellAt post sz ce (x3.toInt64 + ((4 : Int32) * nI i).toInt64 + (3 : Int64)))
section RS
variable {n m W : Nat} {X Y S L : Nat → Nat} {c : Nat → Int32} {size marked wh : Int32} {up lo lim str mk : Nat → Int32}
set_option maxHeartbeats 2000000 in
theorem s_rd7 (hp : Pw n X Y S m L W) (ho : PgOk n X Y c S W) (hs : StP n X Y c S m L W size marked wh up lo lim str mk) {N h : Nat} (hN : N ≤ 10) (hh : h ≤ N) {E : Int32} (hE0 : h = N → E = 0) (hE1 : h < N → ¬ E = 0) {v : Nat → Nat → Int32} {lane sz x2 x3 tn : Int32} {ce : Nat → Int32} (hd : Rd7 h N E v lane sz ce x2 x3)
    {f : Nat → Int64} {cs : Int32} {row : Nat → Int32} {M : Nat → Nat → Int64} {post : Int32 → Int32 → Int32 → (Nat → Int64) → (Nat → Int32) → (Nat → Int32) → (Nat → Int32) → (Nat → Int32) → Int32 → (Nat → Int32) → (Nat → Nat → Int64) → Prop}
    (hA : ∀ n' X' Y' c' S' f' size' lo' lim' str' up' M', (∀ Z Zb, RR W v Z Zb h 0 n X Y c S → Z n' X' Y' c' S') → Pw n' X' Y' S' m L W → PgOk n' X' Y' c' S' W → StP n' X' Y' c' S' m L W size' marked wh up' lo' lim' str' mk → post (nI h) E size' f' lo' lim' str' up' cs row M')
    (hB : ∀ i n' X' Y' c' S' f' lo' lim' str' up' cs' row' M', (∀ Z Zb, RR W v Z Zb h 0 n X Y c S → Zb i n' X' Y' c' S') → StP n X Y c S m L W size marked wh up' lo' lim' str' mk → RB W n' X' Y' c' S' (v i 0) (v i 1) (v i 2) (v i 3) cs row cs' row' → post ((-20 : Int32) - nI i) tn size f' lo' lim' str' up' cs' row' M') :
    ∃ t : Nat, L_X7_read_k0_55 post tn wh lane sz ce x2 x3 (nI N) size t size f lo lim str up cs row M (0 : Int32) (0 : Int32) := by
  obtain ⟨hok, hbad, c0, c1, c2, c3⟩ := hd
  refine ml11 (F := LB_X7_read_k0_55 post tn wh lane sz ce x2 x3 (nI N) size) (I := fun sz' _ l li s u q rw' _ fd z => cs = q ∧ row = rw' ∧ ∃ (n' : Nat) (X' Y' : Nat → Nat) (c' : Nat → Int32) (S' : Nat → Nat), Pw n' X' Y' S' m L W ∧ PgOk n' X' Y' c' S' W ∧ StP n' X' Y' c' S' m L W sz' marked wh u l li s mk ∧ (∀ k, k < n → u k = up k ∧ l k = lo k ∧ li k = lim k ∧ s k = str k) ∧ ((∃ i, i ≤ h ∧ n' = n + i ∧ fd = 0 ∧ z = nI i ∧ ∀ Z Zb, RR W v Z Zb h 0 n X Y c S → RR W v Z Zb (h - i) i n' X' Y' c' S') ∨ (h < N ∧ n' = n + h ∧ fd = E ∧ z = nI (h + 1) ∧ ∀ Z Zb, RR W v Z Zb h 0 n X Y c S → Z n' X' Y' c' S'))) (μ := fun _ _ _ _ _ _ _ _ _ _ z => 12 - z.toNatClampNeg) ?_ size f lo lim str up cs row M 0 0 ⟨rfl, rfl, n, X, Y, c, S, hp, ho, hs, fun _ _ => ⟨rfl, rfl, rfl, rfl⟩, Or.inl ⟨0, Nat.zero_le _, rfl, rfl, rfl, fun Z Zb q => q⟩⟩
  rintro sz' f' l li s u q rw' M' fd z ⟨rfl, rfl, n', X', Y', c', S', hp', ho', hs', hfr, hcase⟩ K hK
  have hn := hp.1
  have hn' := hp'.1
  unfold LB_X7_read_k0_55 B_X7_read_k0_159 B_X7_read_k0_153
  have esz : n' = n + h → sz' - size = nI h := fun e => by
    rw [hs'.1, hs.1, pk_sub (by omega), e, Nat.add_sub_cancel_left]
  have hso : StP n X Y c S m L W size marked wh u l li s mk := ⟨hs.1, hs.2.1, hs.2.2.1, fun k hk => by
    obtain ⟨e1, e2, e3, e4⟩ := hfr k hk
    rw [e1, e2, e3, e4]
    exact hs.2.2.2.1 k hk, hs.2.2.2.2⟩
  rcases hcase with ⟨i, hi, hni, rfl, rfl, hZ⟩ | ⟨hlt, hni, hfd, rfl, hZ⟩
  · have hmu : 12 - (nI i + 1).toNatClampNeg < 12 - (nI i).toNatClampNeg := by rw [nI_1, nI_c (by omega), nI_c (by omega)]; omega
    by_cases hih : i < h
    · obtain ⟨t, ht⟩ : ∃ t, h - i = t + 1 := ⟨h - i - 1, by omega⟩
      have ht2 : h - (i + 1) = t := by omega
      rw [ht] at hZ
      refine br_f (nI_ge (by omega) (by omega)) ⟨fun z => absurd rfl z, fun _ => hok i hih _ ⟨fun z => absurd rfl z, fun _ => c0 i hih _ (c1 i hih _ (c2 i hih _ (c3 i hih _ (j7 hp' ho' hs' (fun hno r f2 cs2 row2 M2 hr hrb => ⟨fun z => absurd z hr, fun _ => hB i n' X' Y' c' S' _ _ _ _ _ _ _ _ (fun Z Zb q => (hZ Z Zb q).2 hno) hso hrb⟩) (fun hyes f2 lo2 lim2 str2 up2 p1 p2 p3 p4 => ⟨fun _ => hK _ _ _ _ _ _ _ _ _ _ _ ⟨rfl, rfl, n' + 1, _, _, _, _, p1, p2, p3, fun k hk => ?_, Or.inl ⟨i + 1, by omega, by omega, rfl, nI_1 i, fun Z Zb q => ?_⟩⟩ hmu, fun z => absurd (show nI 0 ≤ nI (n' + 1) from nI_le (Nat.zero_le _) (by omega)) z⟩)))))⟩⟩
      · obtain ⟨e1, e2, e3, e4⟩ := p4 k (by omega)
        rw [e1, e2, e3, e4]
        exact hfr k hk
      · rw [ht2]
        exact (hZ Z Zb q).1 hyes
    · have ei : i = h := by omega
      subst ei
      have hz : ∀ Z Zb, RR W v Z Zb i 0 n X Y c S → Z n' X' Y' c' S' := fun Z Zb q => by
        have := hZ Z Zb q
        rw [Nat.sub_self] at this
        exact this
      by_cases hiN : i = N
      · refine br_t (nI_le (by omega) (by omega)) ?_
        rw [esz hni]
        have := hA n' X' Y' c' S' f' sz' l li s u M' hz hp' ho' hs'
        rw [hE0 hiN] at this
        exact this
      · refine br_f (nI_ge (by omega) (by omega)) ⟨fun z => absurd rfl z, fun _ => hbad (by omega) _ ⟨fun _ => hK _ _ _ _ _ _ _ _ _ _ _ ⟨rfl, rfl, n', _, _, _, _, hp', ho', hs', hfr, Or.inr ⟨by omega, hni, rfl, nI_1 i, hz⟩⟩ hmu, fun z => absurd z (hE1 (by omega))⟩⟩
  · have fin : post (sz' - size) fd sz' f' l li s u cs row M' := by
      rw [esz hni, hfd]
      exact hA n' X' Y' c' S' f' sz' l li s u M' hZ hp' ho' hs'
    exact br_c (fun _ => fin) (fun _ => ⟨fun _ => fin, fun z => absurd (hfd.symm.trans z) (hE1 hlt)⟩)
end RS
