/-! grow: the loops -/
section GX
variable {n m W : Nat} {X Y S L : Nat → Nat} {c : Nat → Int32} {size marked wh : Int32} {up lo lim str mk : Nat → Int32} {st : Nat → Int32}
theorem gs_y {f : Nat} (h : f / 256 % 4 = 0) : gs f = 1 := if_pos h
theorem gs_n {f : Nat} (h : ¬ f / 256 % 4 = 0) : gs f = 0 := if_neg h
set_option maxHeartbeats 2000000 in
theorem s_grow7 (hp : Pw n X Y S m L W) (ho : PgOk n X Y c S W) (hs : StP n X Y c S m L W size marked wh up lo lim str mk) {N : Nat} (hN1 : 1 ≤ N) (hN : N ≤ 20) (x : Int32) {f : Nat → Int64} {post : Int32 → Int32 → (Nat → Int64) → (Nat → Int32) → (Nat → Int32) → (Nat → Int32) → (Nat → Int32) → Prop}
    (h : ∀ n' X' Y' c' S' q f' size' lo' lim' str' up', (∀ Z, GR W Z N x n X Y c S 0 → Z n' X' Y' c' S' q) → Pw n' X' Y' S' m L W → PgOk n' X' Y' c' S' W → StP n' X' Y' c' S' m L W size' marked wh up' lo' lim' str' mk → post (nI q) size' f' lo' lim' str' up') : P_X7_grow post size wh f lo lim str up x (nI N) := by
  unfold P_X7_grow
  refine br_f (Int32.not_lt.mpr (show nI 1 ≤ nI N from nI_le hN1 (by omega))) (br_t (show nI N ≤ nI 20 from nI_le hN (by omega)) ?_)
  refine ml9 (F := LB_X7_grow_21 post wh (nI N)) (I := fun sz _ l li s u q sd z => ∃ (i qn n' : Nat) (X' Y' : Nat → Nat) (c' : Nat → Int32) (S' : Nat → Nat), i ≤ N ∧ qn ≤ i ∧ z = nI i ∧ q = nI qn ∧ (∀ Z, GR W Z N x n X Y c S 0 → GR W Z (N - i) sd n' X' Y' c' S' qn) ∧ Pw n' X' Y' S' m L W ∧ PgOk n' X' Y' c' S' W ∧ StP n' X' Y' c' S' m L W sz marked wh u l li s mk) (μ := fun _ _ _ _ _ _ _ _ z => N - z.toNatClampNeg) ?_ size f lo lim str up 0 x 0 ⟨0, 0, n, X, Y, c, S, by omega, by omega, rfl, rfl, fun Z hZ => hZ, hp, ho, hs⟩
  rintro sz f' l li s u q sd z ⟨i, qn, n', X', Y', c', S', hi, hqi, rfl, rfl, hZ, hp', ho', hs'⟩ K hK
  unfold LB_X7_grow_21
  by_cases hiN : i = N
  · subst hiN
    refine br_t (nI_le (Nat.le_refl _) (by omega)) (h n' X' Y' c' S' qn f' sz l li s u (fun Z hg => ?_) hp' ho' hs')
    have := hZ Z hg
    rw [Nat.sub_self] at this
    exact this
  · obtain ⟨t, ht⟩ : ∃ t, N - i = t + 1 := ⟨N - i - 1, by omega⟩
    have ht2 : N - (i + 1) = t := by omega
    rw [ht] at hZ
    have hmu : N - (nI i + 1).toNatClampNeg < N - (nI i).toNatClampNeg := by rw [nI_1, nI_c (by omega), nI_c (by omega)]; omega
    have b1 := (sbv_e (sn sd)).2
    have b2 := (sbv_e (sn (sn sd))).2
    refine br_f (nI_ge (by omega) (by omega)) (s_next (s_bits (s_next (s_bits ?_))))
    generalize hfb : sbv (sn sd) = fb at b1
    generalize hg : sbv (sn (sn sd)) = g at b2
    rw [ga b1, gb b1, gd b1]
    have stp : B_X7_grow_88 K sz wh f' l li s u (nI (gs fb)) (nI qn) (sn (sn sd)) (nI i) (nI g) (nI (fb % 10)) (nI (fb / 16 % 10)) := by
      refine s_gstep7 hp' ho' hs' b1 b2 (fun hno f2 => hK _ _ _ _ _ _ _ _ _ ⟨i + 1, qn, n', X', Y', c', S', by omega, by omega, nI_1 i, rfl, fun Z hg2 => ?_, hp', ho', hs'⟩ hmu) (fun hfit f2 => hK _ _ _ _ _ _ _ _ _ ⟨i + 1, qn + 1, n' + 1, _, _, _, _, by omega, by omega, nI_1 i, nI_1 qn, fun Z hg2 => ?_, pw_app1 hp' hfit.2.1 (by omega) (by omega) hfit.1 (gs_le fb), pg_app1 hp' ho' (by omega) (gs_le fb) hfit.2.2, st_app1 hs'⟩ hmu)
      · have := hZ Z hg2
        rw [ht2]
        subst hfb; subst hg
        exact this.2 hno
      · have := hZ Z hg2
        rw [ht2]
        subst hfb; subst hg
        exact this.1 hfit
    refine ⟨fun h0 => ?_, fun h0 => ?_⟩
    · have : ¬ fb / 256 % 4 = 0 := fun e => h0 (by rw [e]; rfl)
      rw [gs_n this] at stp
      exact stp
    · have : fb / 256 % 4 = 0 := (nI_eq (b := 0) (by omega) (by omega)).mp h0
      rw [gs_y this] at stp
      exact stp
end GX
