/-! a bound goes -/
def sk (k j : Nat) : Nat := if j < k then j else j + 1
def lk (k x : Nat) : Nat := if k < x then x - 1 else x
theorem ifc {α : Type} {P Q : Prop} [Decidable P] [Decidable Q] {a b : α} (h : P ↔ Q) : (if P then a else b) = (if Q then a else b) := by
  by_cases hp : P
  · rw [if_pos hp, if_pos (h.mp hp)]
  · rw [if_neg hp, if_neg (fun q => hp (h.mpr q))]
section DR
variable {n m W : Nat} {X Y S L : Nat → Nat} {c : Nat → Int32} {size marked wh : Int32} {up lo lim str mk : Nat → Int32} {st : Nat → Int32}
theorem sh_step {A A' : Nat → Int32} {k i : Nat} (hk : k < i) (h : ∀ j, A' j = if k ≤ j ∧ j + 1 < i then A (j + 1) else A j) : ∀ j, upd A' (i - 1) (A' i) j = if k ≤ j ∧ j + 1 < i + 1 then A (j + 1) else A j := fun j => by
  by_cases e : j = i - 1
  · subst e
    rw [pk_us, h i, if_neg (by omega), if_pos (by omega), show i - 1 + 1 = i by omega]
  · rw [pk_un e, h j]
    exact ifc (by omega)
theorem pw_drop (hp : Pw n X Y S m L W) {k : Nat} (hk : k < n) : Pw (n - 1) (fun j => X (sk k j)) (fun j => Y (sk k j)) (fun j => S (sk k j)) m (fun j => lk k (L j)) W := by
  obtain ⟨p1, p2, p3, p4, p5, p6⟩ := hp
  refine ⟨by omega, p2, p3, fun j hj => p4 _ ?_, fun i j hij hj => ?_, fun j hj => ?_⟩
  · unfold sk; split <;> omega
  · have := p5 i j hij hj
    show lk k (L i) ≤ lk k (L j)
    unfold lk; split <;> split <;> omega
  · have := p6 j hj
    show lk k (L j) ≤ n - 1
    unfold lk; split <;> omega
theorem pg_drop (ho : PgOk n X Y c S W) {k : Nat} (hk : k < n) : PgOk (n - 1) (fun j => X (sk k j)) (fun j => Y (sk k j)) (fun j => c (sk k j)) (fun j => S (sk k j)) W :=
  map_nn (sk k) ho (fun j hj => ⟨by show sk k j < n; have hj : j < n - 1 := hj; unfold sk; split <;> omega, rfl, rfl, rfl⟩)
set_option maxHeartbeats 1000000 in
theorem s_remove (hp : Pw n X Y S m L W) (hs : StP n X Y c S m L W size marked wh up lo lim str mk) {k : Nat} (hk : k < n) {post : Int32 → (Nat → Int32) → (Nat → Int32) → (Nat → Int32) → (Nat → Int32) → (Nat → Int32) → Prop}
    (h : ∀ up' mk' lo' lim' str', StP (n - 1) (fun j => X (sk k j)) (fun j => Y (sk k j)) (fun j => c (sk k j)) (fun j => S (sk k j)) m (fun j => lk k (L j)) W (nI (n - 1)) marked wh up' lo' lim' str' mk' → post (nI (n - 1)) up' mk' lo' lim' str') : P_X5_remove post size marked up mk lo lim str (nI k) := by
  obtain ⟨p1, p2, p3, p4, p5, p6⟩ := id hp
  obtain ⟨s1, s2, s3, s4, s5⟩ := id hs
  subst s1; subst s2
  unfold P_X5_remove
  rw [nI_1]
  refine ml5 (F := LB_X5_remove_4 post (nI n) (nI m) mk (nI k)) (I := fun u l li s z => ∃ i : Nat, k < i ∧ i ≤ n ∧ z = nI i ∧ (∀ j, u j = if k ≤ j ∧ j + 1 < i then up (j + 1) else up j) ∧ (∀ j, l j = if k ≤ j ∧ j + 1 < i then lo (j + 1) else lo j) ∧ (∀ j, li j = if k ≤ j ∧ j + 1 < i then lim (j + 1) else lim j) ∧ (∀ j, s j = if k ≤ j ∧ j + 1 < i then str (j + 1) else str j)) (μ := fun _ _ _ _ z => n - z.toNatClampNeg) ?_ up lo lim str (nI (k + 1)) ⟨k + 1, by omega, by omega, rfl, fun j => by rw [if_neg (by omega)], fun j => by rw [if_neg (by omega)], fun j => by rw [if_neg (by omega)], fun j => by rw [if_neg (by omega)]⟩
  rintro u l li s z ⟨i, hki, hi, rfl, h1, h2, h3, h4⟩ K hK
  unfold LB_X5_remove_4
  by_cases hin : i = n
  · subst hin
    refine br_t (nI_le (Nat.le_refl _) (by omega)) ?_
    obtain ⟨i', rfl⟩ : ∃ i', i = i' + 1 := ⟨i - 1, by omega⟩
    rw [nI_pred]
    refine ml2 (F := LB_X5_remove_86 post (nI i') (nI m) u l li s (nI k)) (I := fun q z => ∃ e : Nat, e ≤ m ∧ z = nI e ∧ ∀ j, j < m → q j = nI (if j < e then lk k (L j) else L j)) (μ := fun _ z => m - z.toNatClampNeg) ?_ mk 0 ⟨0, by omega, rfl, fun j hj => by rw [if_neg (by omega)]; exact s5 j hj⟩
    rintro q z ⟨e, he, rfl, hq⟩ K2 hK2
    unfold LB_X5_remove_86 B_X5_remove_114
    by_cases hem : e = m
    · subst hem
      refine br_t (nI_le (Nat.le_refl _) (by omega)) (h u q l li s ⟨rfl, rfl, s3, fun j hj => ?_, fun j hj => ?_⟩)
      · have hj' : j < i' := by omega
        have hsk : sk k j < i' + 1 := by unfold sk; split <;> omega
        obtain ⟨z1, z2, z3, z4⟩ := s4 _ hsk
        have key : ∀ {A A' : Nat → Int32}, (∀ j, A' j = if k ≤ j ∧ j + 1 < i' + 1 then A (j + 1) else A j) → A' j = A (sk k j) := fun hA => by
          rw [hA j]
          unfold sk
          by_cases c : j < k
          · rw [if_neg (by omega), if_pos c]
          · rw [if_pos (by omega), if_neg c]
        exact ⟨(key h1).trans z1, (key h2).trans z2, (key h3).trans z3, (key h4).trans z4⟩
      · rw [hq j hj, if_pos hj]
    · have hlt : e < m := by omega
      have hmu : m - (nI e + 1).toNatClampNeg < m - (nI e).toNatClampNeg := by rw [nI_1, nI_c (by omega), nI_c (by omega)]; omega
      have hL := p6 e hlt
      have ve : vp_in (nI e) 8 := vin (by omega) (by omega)
      rw [nI_c (show e ≤ 2147483647 by omega), hq e hlt, if_neg (by omega)]
      refine br_f (nI_ge (by omega) (by omega)) ⟨ve, br_c (fun hc => hK2 _ _ ⟨e + 1, by omega, nI_1 e, fun j hj => ?_⟩ hmu) (fun hc => ⟨ve, ve, hK2 _ _ ⟨e + 1, by omega, nI_1 e, fun j hj => ?_⟩ hmu⟩)⟩
      · rw [nI_leI (by omega) (by omega)] at hc
        rw [hq j hj]
        by_cases ej : j = e
        · subst ej; rw [if_neg (by omega), if_pos (by omega)]; unfold lk; rw [if_neg (by omega)]
        · rw [show (if j < e then lk k (L j) else L j) = (if j < e + 1 then lk k (L j) else L j) from ifc (by omega)]
      · rw [nI_leI (by omega) (by omega)] at hc
        by_cases ej : j = e
        · subst ej
          rw [pk_us, if_pos (by omega)]
          unfold lk
          rw [if_pos (by omega)]
          obtain ⟨p, hp'⟩ : ∃ p, L j = p + 1 := ⟨L j - 1, by omega⟩
          rw [hp', nI_pred, show p + 1 - 1 = p by omega]
        · rw [pk_un ej, hq j hj, show (if j < e then lk k (L j) else L j) = (if j < e + 1 then lk k (L j) else L j) from ifc (by omega)]
  · have hlt : i < n := by omega
    obtain ⟨i', rfl⟩ : ∃ i', i = i' + 1 := ⟨i - 1, by omega⟩
    have hmu : n - (nI (i' + 1) + 1).toNatClampNeg < n - (nI (i' + 1)).toNatClampNeg := by rw [nI_1, nI_c (by omega), nI_c (by omega)]; omega
    have v1 : vp_in (nI (i' + 1)) 24 := vin (by omega) (by omega)
    have v2 : vp_in (nI i') 24 := vin (by omega) (by omega)
    rw [nI_pred, nI_c (show i' ≤ 2147483647 by omega), nI_c (show i' + 1 ≤ 2147483647 by omega)]
    exact br_f (nI_ge (by omega) (by omega)) ⟨v1, v2, v1, v2, v1, v2, v1, v2, hK _ _ _ _ _ ⟨i' + 1 + 1, by omega, by omega, nI_1 _, sh_step hki h1, sh_step hki h2, sh_step hki h3, sh_step hki h4⟩ hmu⟩
set_option maxHeartbeats 2000000 in
theorem s_drop8 (hp : Pw n X Y S m L W) (hr : RfP 0 n X Y c S m L W st) {k : Nat} (hk : k < n) {post : Int32 → (Nat → Int32) → Prop}
    (h : ∀ st', RfP 0 (n - 1) (fun j => X (sk k j)) (fun j => Y (sk k j)) (fun j => c (sk k j)) (fun j => S (sk k j)) m (fun j => lk k (L j)) W st' → (∀ j, 107 ≤ j → st' j = st j) → post (nI (n - 1)) st') : P_X8_drop post st (nI k) := by
  obtain ⟨p1, p2, p3, p4, p5, p6⟩ := id hp
  obtain ⟨r1, r2, r3, r4, r5⟩ := id hr
  have v4 : vp_in (104 : Int32) 535 := vin (n := 104) (by omega) (by omega)
  have v6 : vp_in (106 : Int32) 535 := vin (n := 106) (by omega) (by omega)
  unfold P_X8_drop
  refine bnd8_y r1 (by omega) hk ⟨fun _ => ?_, fun h => absurd h o_ne⟩
  refine ml2 (F := LB_X8_drop_12 post (nI k)) (I := fun s z => ∃ i : Nat, k ≤ i ∧ i < n ∧ z = nI i ∧ ∀ x, s x = if x < 96 ∧ k ≤ x % 24 ∧ x % 24 < i then st (x + 1) else st x) (μ := fun _ z => n - z.toNatClampNeg) ?_ st (nI k) ⟨k, by omega, hk, rfl, fun x => by rw [if_neg (by omega)]⟩
  rintro s z ⟨i, hki, hi, rfl, hF⟩ K hK
  have s104 : s (0 + 104) = nI n := by rw [hF, if_neg (by omega)]; exact r1
  unfold LB_X8_drop_12 P_X8_many
  rw [show (104 : Int32).toNatClampNeg = 0 + 104 from rfl, s104, nI_1]
  refine ⟨v4, ?_⟩
  by_cases hin : i + 1 = n
  · obtain ⟨n', rfl⟩ : ∃ n', n = n' + 1 := ⟨n - 1, by omega⟩
    have ei : i = n' := by omega
    subst ei
    refine br_t (nI_le (by omega) (by omega)) ⟨v4, v4, ?_⟩
    rw [nI_pred]
    refine ml2 (F := LB_X8_drop_78 post (nI k)) (I := fun q z => ∃ e : Nat, e ≤ m ∧ z = nI e ∧ (∀ x, ¬ (96 ≤ x ∧ x < 104) → q x = upd s (0 + 104) (nI i) x) ∧ ∀ j, j < m → q (96 + j) = nI (if j < e then lk k (L j) else L j)) (μ := fun _ z => m - z.toNatClampNeg) ?_ _ 0 ⟨0, by omega, rfl, fun x _ => rfl, fun j hj => ?_⟩
    · rintro q z ⟨e, he, rfl, hq1, hq2⟩ K2 hK2
      have q106 : q (0 + 106) = nI m := by rw [hq1 _ (by omega), pk_un (by omega), hF, if_neg (by omega)]; exact r2
      unfold LB_X8_drop_78 B_X8_drop_117 P_X8_many
      rw [show (106 : Int32).toNatClampNeg = 0 + 106 from rfl, q106, show (104 : Int32).toNatClampNeg = 0 + 104 from rfl]
      refine ⟨v6, ?_⟩
      by_cases hem : e = m
      · subst hem
        refine br_t (nI_le (Nat.le_refl _) (by omega)) ⟨v4, ?_⟩
        rw [hq1 (0 + 104) (by omega), pk_us]
        refine h q ⟨?_, q106, ?_, fun j hj => ?_, fun j hj => ?_⟩ (fun j hj => ?_)
        · rw [hq1 (0 + 104) (by omega), pk_us]; rfl
        · rw [hq1 _ (by omega), pk_un (by omega), hF, if_neg (by omega)]; exact r3
        · have hj' : j < i := by omega
          have hsk : sk k j < i + 1 := by unfold sk; split <;> omega
          obtain ⟨z1, z2, z3, z4⟩ := r4 _ hsk
          have key : ∀ (p : Nat), p ≤ 3 → q (24 * p + j) = st (24 * p + sk k j) := fun p hp3 => by
            rw [hq1 _ (by omega), pk_un (by omega), hF]
            unfold sk
            by_cases c : j < k
            · rw [if_neg (by omega), if_pos c]
            · rw [if_pos (by omega), if_neg c, show 24 * p + j + 1 = 24 * p + (j + 1) by omega]
          refine ⟨?_, ?_, ?_, ?_⟩
          · have := key 0 (by omega)
            rw [show 24 * 0 + j = 0 + j by omega, show 24 * 0 + sk k j = 0 + sk k j by omega] at this
            exact this.trans z1
          · have := key 1 (by omega)
            rw [show 24 * 1 + j = 0 + 24 + j by omega, show 24 * 1 + sk k j = 0 + 24 + sk k j by omega] at this
            exact this.trans z2
          · have := key 2 (by omega)
            rw [show 24 * 2 + j = 0 + 48 + j by omega, show 24 * 2 + sk k j = 0 + 48 + sk k j by omega] at this
            exact this.trans z3
          · have := key 3 (by omega)
            rw [show 24 * 3 + j = 0 + 72 + j by omega, show 24 * 3 + sk k j = 0 + 72 + sk k j by omega] at this
            exact this.trans z4
        · rw [show 0 + 96 + j = 96 + j by omega, hq2 j hj, if_pos hj]
        · rw [hq1 _ (by omega), pk_un (by omega), hF, if_neg (by omega)]
      · have hlt : e < m := by omega
        have hmu : m - (nI e + 1).toNatClampNeg < m - (nI e).toNatClampNeg := by rw [nI_1, nI_c (by omega), nI_c (by omega)]; omega
        have hL := p6 e hlt
        have ve : vp_in ((96 : Int32) + nI e) 535 := ixv (a := 96) rfl (by omega) (by omega)
        rw [ixc (cc := 96) (a := 96) (k := e) rfl (by omega), hq2 e hlt, if_neg (by omega)]
        refine br_f (nI_ge (by omega) (by omega)) ⟨ve, ve, br_c (fun hc => ⟨ve, hK2 _ _ ⟨e + 1, by omega, nI_1 e, fun x hx => ?_, fun j hj => ?_⟩ hmu⟩) (fun hc => ⟨ve, hK2 _ _ ⟨e + 1, by omega, nI_1 e, fun x hx => ?_, fun j hj => ?_⟩ hmu⟩)⟩
        · rw [pk_un (by omega)]; exact hq1 x hx
        · rw [nI_leI (by omega) (by omega)] at hc
          by_cases ej : j = e
          · subst ej; rw [pk_us, if_pos (by omega), Int32.sub_zero]; unfold lk; rw [if_neg (by omega)]
          · rw [pk_un (by omega), hq2 j hj, show (if j < e then lk k (L j) else L j) = (if j < e + 1 then lk k (L j) else L j) from ifc (by omega)]
        · rw [pk_un (by omega)]; exact hq1 x hx
        · rw [nI_leI (by omega) (by omega)] at hc
          by_cases ej : j = e
          · subst ej
            rw [pk_us, if_pos (by omega)]
            unfold lk
            rw [if_pos (by omega)]
            obtain ⟨p, hp'⟩ : ∃ p, L j = p + 1 := ⟨L j - 1, by omega⟩
            rw [hp', nI_pred, show p + 1 - 1 = p by omega]
          · rw [pk_un (by omega), hq2 j hj, show (if j < e then lk k (L j) else L j) = (if j < e + 1 then lk k (L j) else L j) from ifc (by omega)]
    · rw [if_neg (by omega), pk_un (by omega), hF, if_neg (by omega)]
      have := r5 j hj
      rw [show 0 + 96 + j = 96 + j by omega] at this
      exact this
  · refine br_f (nI_ge (by omega) (by omega)) ?_
    refine ml2 (F := LB_X8_drop_24 K (nI i)) (I := fun q z => ∃ e : Nat, e ≤ 4 ∧ z = nI e ∧ ∀ x, q x = if x < 96 ∧ k ≤ x % 24 ∧ (x % 24 < i ∨ (x % 24 = i ∧ x / 24 < e)) then st (x + 1) else st x) (μ := fun _ z => 4 - z.toNatClampNeg) ?_ s 0 ⟨0, by omega, rfl, fun x => (hF x).trans (ifc (by omega))⟩
    rintro q z ⟨e, he, rfl, hq⟩ K2 hK2
    unfold LB_X8_drop_24
    by_cases h4 : e = 4
    · subst h4
      rw [nI_1]
      exact br_t (by decide) (hK _ _ ⟨i + 1, by omega, by omega, rfl, fun x => (hq x).trans (ifc (by omega))⟩ (by rw [nI_c (by omega), nI_c (by omega)]; omega))
    · have hlt : e < 4 := by omega
      refine br_f (nI_ge (a := e) (b := 4) hlt (by omega)) ?_
      rw [show (24 : Int32) = nI 24 from rfl, pk_mul, nI_add, nI_1, nI_c (show 24 * e + i ≤ 2147483647 by omega), nI_c (show 24 * e + i + 1 ≤ 2147483647 by omega)]
      refine ⟨vin (by omega) (by omega), vin (by omega) (by omega), hK2 _ _ ⟨e + 1, by omega, nI_1 e, fun x => ?_⟩ (by rw [nI_1, nI_c (by omega), nI_c (by omega)]; omega)⟩
      by_cases ex : x = 24 * e + i
      · subst ex
        rw [pk_us, hq (24 * e + i + 1), if_neg (by omega), if_pos (by omega)]
      · rw [pk_un ex]
        exact (hq x).trans (ifc (by omega))
theorem k_drop (hP : RPg 0 size marked wh up lo lim str mk st) (x1 : Int32) {Q : Int32 → Int32 → (Nat → Int32) → (Nat → Int32) → (Nat → Int32) → (Nat → Int32) → (Nat → Int32) → Int32 → (Nat → Int32) → Prop}
    (hQ : ∀ r size' up' mk' lo' lim' str' st', RPg 0 size' marked wh up' lo' lim' str' mk' st' → (∀ j, 107 ≤ j → st' j = st j) → Q r size' up' mk' lo' lim' str' r st') :
    P_X7_drop (fun r size' up' mk' lo' lim' str' => P_X8_drop (fun r2 st' => Q r size' up' mk' lo' lim' str' r2 st') st x1) size marked up mk lo lim str x1 := by
  obtain ⟨n, X, Y, c, S, m, L, W, hp, ho, hs, hr⟩ := id hP
  have hn := hp.1
  unfold P_X7_drop
  rcases cnt_cases x1 n with ⟨k, hk, rfl⟩ | hx
  · exact has7_y hs.1 (by omega) hk ⟨fun _ => s_remove hp hs hk (fun up' mk' lo' lim' str' hs' => s_drop8 hp hr hk (fun st' hr' hfr => hQ _ _ _ _ _ _ _ _ ⟨n - 1, _, _, _, _, m, _, W, pw_drop hp hk, pg_drop ho hk, hs', hr'⟩ hfr)), fun h => absurd h o_ne⟩
  · refine has7_n hs.1 (by omega) hx ⟨fun h => absurd rfl h, fun _ => ?_⟩
    unfold P_X8_drop
    exact bnd8_n hr.1 (by omega) hx ⟨fun h => absurd rfl h, fun _ => hQ _ _ _ _ _ _ _ _ hP (fun _ _ => rfl)⟩
end DR
