/-! read: what a sheet is to both loops -/
section RU
variable {lane sz : Int32} {ce lanes lengths rc : Nat → Int32}
theorem rd_none {k N : Nat} (hk : k < 4) (hl : lanes k = -4) {x2 x3 : Int32} : Rd7 0 N 1 (fun _ _ => 0) (-1) sz ce x2 x3 ∧ Rd8 0 N 0 1 (fun _ _ => 0) lanes lengths rc k x2 x3 := by
  refine ⟨⟨fun i hi => absurd hi (by omega), fun _ post hpost => ?_, fun i hi => absurd hi (by omega), fun i hi => absurd hi (by omega), fun i hi => absurd hi (by omega), fun i hi => absurd hi (by omega)⟩, ⟨fun i j hi => absurd hi (by omega), fun _ j hj => absurd hj (by omega), fun _ T hT => ?_, fun i hi => absurd hi (by omega)⟩⟩
  · unfold P_X3_faultAt
    exact ⟨fun z => absurd rfl z, fun _ => hpost⟩
  · unfold CK
    rw [nI_c (show k ≤ 2147483647 by omega), hl]
    exact ⟨vin hk (by omega), fun z => absurd rfl z, fun _ => hT⟩
theorem rd_other {k N l l2 : Nat} (hk : k < 4) (hl3 : l < 3) (hl2 : l2 < 3) (hne : l ≠ l2) (hl : lanes k = nI l) {x3 : Int32} : Rd7 0 N 3 (fun _ _ => 0) (nI l) sz ce (nI l2) x3 ∧ Rd8 0 N 0 3 (fun _ _ => 0) lanes lengths rc k (nI l2) x3 := by
  have e : ¬ nI l = nI l2 := fun z => hne ((nI_eq (by omega) (by omega)).mp z)
  refine ⟨⟨fun i hi => absurd hi (by omega), fun _ post hpost => ?_, fun i hi => absurd hi (by omega), fun i hi => absurd hi (by omega), fun i hi => absurd hi (by omega), fun i hi => absurd hi (by omega)⟩, ⟨fun i j hi => absurd hi (by omega), fun _ j hj => absurd hj (by omega), fun _ T hT => ?_, fun i hi => absurd hi (by omega)⟩⟩
  · unfold P_X3_faultAt
    exact ⟨fun _ => ⟨fun z => absurd z e, fun _ => hpost⟩, fun z => absurd z (nI_m1 (by omega))⟩
  · unfold CK
    rw [nI_c (show k ≤ 2147483647 by omega), hl]
    exact ⟨vin hk (by omega), fun _ => ⟨vin hk (by omega), fun z => absurd z e, fun _ => hT⟩, fun z => absurd z (nI_m4 (by omega))⟩
theorem rd_at {x3 : Int32} {q : Nat} (hq : q ≤ 100) : (x3.toInt64 + (nI q).toInt64).toInt = x3.toInt + q := by
  obtain ⟨r1, r2⟩ := i_rng x3
  rw [l_add (by rw [i2l, i2l, nI_t (by omega)]; omega) (by rw [i2l, i2l, nI_t (by omega)]; omega), i2l, i2l, nI_t (by omega)]
theorem rd_4 (i : Nat) : (4 : Int32) * nI i = nI (4 * i) := by rw [show (4 : Int32) = nI 4 from rfl, pk_mul]
theorem rd_at1 {x3 : Int32} {q : Nat} (hq : q ≤ 100) {j : Int64} {jn : Nat} (hj : j.toInt = (jn : Int)) (hjn : jn < 4) : (x3.toInt64 + (nI q).toInt64 + j).toInt = x3.toInt + q + jn := by
  have := rd_at (x3 := x3) hq
  obtain ⟨r1, r2⟩ := i_rng x3
  rw [l_add (by rw [this, hj]; omega) (by rw [this, hj]; omega), this, hj]
theorem l2i {y : Int64} {p : Nat} (h : y.toInt = (p : Int)) (hp : p < 2147483648) : y.toInt32 = nI p := by
  have e : y = lN p := Int64.toInt_inj.mp (h.trans (lN_toInt (by omega)).symm)
  rw [e, lN_i]
theorem cell_y {q p : Nat} (hq : q ≤ 40) (hp : p < q) {y : Int64} (hy : y.toInt = (p : Int)) {post : Int32 → Prop} (h : post (ce p)) : P_X3_cellAt post (nI q) ce y := by
  unfold P_X3_cellAt
  rw [l2i hy (by omega)]
  refine br_f ?_ (br_f ?_ ⟨vin (by omega) (by omega), ?_⟩)
  · rw [Int64.lt_iff_toInt_lt, hy, z64]; omega
  · rw [Int64.le_iff_toInt_le, hy, i2l, nI_t (by omega)]; omega
  · rw [nI_c (by omega)]; exact h
theorem f4 : (4 : Int32).toInt64.toInt = 4 := by decide
theorem flt4_y {l q p : Nat} (hl : l < 3) (hq : q ≤ 40) (hp : p + 4 ≤ q) {y : Int64} (hy : y.toInt = (p : Int)) {post : Int32 → Prop} (h : post 0) : P_X3_faultAt post (nI l) (nI q) (nI l) (4 : Int32) y := by
  have e : (y + (4 : Int32).toInt64).toInt = p + 4 := by rw [l_add (by rw [hy, f4]; omega) (by rw [hy, f4]; omega), hy, f4]
  unfold P_X3_faultAt
  refine ⟨fun _ => br_t rfl (br_f ?_ (br_t ?_ h)), fun z => absurd z (nI_m1 (by omega))⟩
  · rw [Int64.lt_iff_toInt_lt, hy, z64]; omega
  · rw [Int64.le_iff_toInt_le, e, i2l, nI_t (by omega)]; omega
theorem flt4_n {l q : Nat} (hl : l < 3) (hq : q ≤ 40) {y : Int64} (hy1 : -4000000000 ≤ y.toInt) (hy2 : y.toInt ≤ 4000000000) (hy : y.toInt < 0 ∨ (q : Int) < y.toInt + 4) {post : Int32 → Prop} (h : post 2) : P_X3_faultAt post (nI l) (nI q) (nI l) (4 : Int32) y := by
  have e : (y + (4 : Int32).toInt64).toInt = y.toInt + 4 := by rw [l_add (by rw [f4]; omega) (by rw [f4]; omega), f4]
  unfold P_X3_faultAt
  refine ⟨fun _ => br_t rfl (br_c (fun _ => h) (fun g => br_c (fun g2 => ?_) (fun _ => h))), fun z => absurd z (nI_m1 (by omega))⟩
  exfalso
  rw [Int64.lt_iff_toInt_lt, z64] at g
  rw [Int64.le_iff_toInt_le, e, i2l, nI_t (by omega)] at g2
  omega
theorem ck_y {k l q p : Nat} (hk : k < 4) (hl3 : l < 3) (hq : q ≤ 40) (hl : lanes k = nI l) (hg : lengths k = nI q) {x3 x7 : Int32} (hp : p < q) (hy : (x3.toInt64 + x7.toInt64).toInt = (p : Int)) {T : Int32 → Prop} (hT : T 0) : CK T lanes lengths (nI k) (nI l) x3 x7 := by
  have vk : vp_in (nI k) 4 := vin hk (by omega)
  unfold CK
  rw [nI_c (show k ≤ 2147483647 by omega), hl, hg]
  refine ⟨vk, fun _ => ⟨vk, fun _ => ⟨vk, s_in (fun _ _ => ⟨fun _ => hT, fun z => absurd z o_ne⟩) (fun g => ?_)⟩, fun z => absurd rfl z⟩, fun z => absurd z (nI_m4 (by omega))⟩
  exfalso
  rw [hy, z64, pred_t (by omega)] at g
  omega
theorem ck_n {k l q : Nat} (hk : k < 4) (hl3 : l < 3) (hq : q ≤ 40) (hl : lanes k = nI l) (hg : lengths k = nI q) {x3 x7 : Int32} (hy : (x3.toInt64 + x7.toInt64).toInt < 0 ∨ (q : Int) ≤ (x3.toInt64 + x7.toInt64).toInt) {T : Int32 → Prop} (hT : T 2) : CK T lanes lengths (nI k) (nI l) x3 x7 := by
  have vk : vp_in (nI k) 4 := vin hk (by omega)
  unfold CK
  rw [nI_c (show k ≤ 2147483647 by omega), hl, hg]
  refine ⟨vk, fun _ => ⟨vk, fun _ => ⟨vk, s_in (fun a b => ?_) (fun _ => ⟨fun z => absurd rfl z, fun _ => hT⟩)⟩, fun z => absurd rfl z⟩, fun z => absurd z (nI_m4 (by omega))⟩
  exfalso
  rw [z64] at a
  rw [pred_t (by omega)] at b
  omega
theorem rd_neg {k N l q : Nat} (hk : k < 4) (hl3 : l < 3) (hq : q ≤ 40) (hl : lanes k = nI l) (hg : lengths k = nI q) {x3 : Int32} (hx : x3.toInt < 0) : Rd7 0 N 2 (fun _ _ => 0) (nI l) (nI q) ce (nI l) x3 ∧ Rd8 0 N 0 2 (fun _ _ => 0) lanes lengths rc k (nI l) x3 := by
  obtain ⟨r1, r2⟩ := i_rng x3
  have e0 := rd_at (x3 := x3) (q := 0) (by omega)
  refine ⟨⟨fun i hi => absurd hi (by omega), fun _ post hpost => ?_, fun i hi => absurd hi (by omega), fun i hi => absurd hi (by omega), fun i hi => absurd hi (by omega), fun i hi => absurd hi (by omega)⟩, ⟨fun i j hi => absurd hi (by omega), fun _ j hj => absurd hj (by omega), fun _ T hT => ?_, fun i hi => absurd hi (by omega)⟩⟩
  · rw [rd_4]
    exact flt4_n hl3 hq (by rw [e0]; omega) (by rw [e0]; omega) (Or.inl (by rw [e0]; omega)) hpost
  · exact ck_n hk hl3 hq hl hg (Or.inl (by rw [e0]; omega)) hT
set_option maxHeartbeats 1000000 in
theorem rd_pos {k N l q g h r : Nat} (hk : k < 4) (hN : N ≤ 10) (hl3 : l < 3) (hq : q ≤ 40) (hl : lanes k = nI l) (hg : lengths k = nI q) (hc : ∀ j, j < q → ce j = rc (40 * k + j)) {x3 : Int32} (hx : x3.toInt = (g : Int)) (hh : h ≤ N) (h1 : ∀ i, i < h → g + 4 * i + 4 ≤ q) (h2 : h < N → q < g + 4 * h + 4) (h3 : h < N → ∀ j, j < r → g + 4 * h + j < q) (h4 : h < N → q ≤ g + 4 * h + r) (hr4 : r < 4) : Rd7 h N 2 (fun i j => ce (g + 4 * i + j)) (nI l) (nI q) ce (nI l) x3 ∧ Rd8 h N r 2 (fun i j => ce (g + 4 * i + j)) lanes lengths rc k (nI l) x3 := by
  obtain ⟨r1, r2⟩ := i_rng x3
  have at0 : ∀ i, i ≤ 10 → (x3.toInt64 + ((4 : Int32) * nI i).toInt64).toInt = ((g + 4 * i : Nat) : Int) := fun i hi => by
    rw [rd_4, rd_at (by omega), hx]
    omega
  have at1 : ∀ i, i ≤ 10 → ∀ (j : Int64) (jn : Nat), j.toInt = (jn : Int) → jn < 4 → (x3.toInt64 + ((4 : Int32) * nI i).toInt64 + j).toInt = ((g + 4 * i + jn : Nat) : Int) := fun i hi j jn e1 e2 => by
    rw [rd_4, rd_at1 (by omega) e1 e2, hx]
    omega
  have at8 : ∀ p, p ≤ 50 → (x3.toInt64 + (nI p).toInt64).toInt = ((g + p : Nat) : Int) := fun p hp => by
    rw [rd_at (by omega), hx]
    omega
  refine ⟨⟨fun i hi post hpost => ?_, fun hlt post hpost => ?_, fun i hi post hpost => ?_, fun i hi post hpost => ?_, fun i hi post hpost => ?_, fun i hi post hpost => ?_⟩, ⟨fun i j hi hj T hT => ?_, fun hlt j hj T hT => ?_, fun hlt T hT => ?_, fun i hi => ?_⟩⟩
  · exact flt4_y hl3 hq (h1 i hi) (at0 i (by omega)) hpost
  · have e := at0 h (by omega)
    have := h2 hlt
    exact flt4_n hl3 hq (by rw [e]; omega) (by rw [e]; omega) (Or.inr (by rw [e]; omega)) hpost
  · have := h1 i hi
    exact cell_y hq (by omega) (at0 i (by omega)) hpost
  · have := h1 i hi
    exact cell_y hq (by omega) (at1 i (by omega) 1 1 (by decide) (by omega)) hpost
  · have := h1 i hi
    exact cell_y hq (by omega) (at1 i (by omega) 2 2 (by decide) (by omega)) hpost
  · have := h1 i hi
    exact cell_y hq (by omega) (at1 i (by omega) 3 3 (by decide) (by omega)) hpost
  · have := h1 i hi
    exact ck_y hk hl3 hq hl hg (by omega) (at8 (4 * i + j) (by omega)) hT
  · have := h3 hlt j hj
    exact ck_y hk hl3 hq hl hg (by omega) (at8 (4 * h + j) (by omega)) hT
  · have := h4 hlt
    exact ck_n hk hl3 hq hl hg (Or.inr (by rw [at8 (4 * h + r) (by omega)]; omega)) hT
  · have := h1 i hi
    refine ⟨40 * k + (g + (4 * i + 3)), by omega, by omega, ?_, ?_, ?_, ?_, ?_⟩
    · rw [l2i (at8 (4 * i + 3) (by omega)) (by omega), show (40 : Int32) = nI 40 from rfl, pk_mul, nI_add]
    · dsimp only
      rw [hc _ (by omega), show 40 * k + (g + (4 * i + 3)) - 3 = 40 * k + (g + 4 * i + 0) by omega]
    · dsimp only
      rw [hc _ (by omega), show 40 * k + (g + (4 * i + 3)) - 2 = 40 * k + (g + 4 * i + 1) by omega]
    · dsimp only
      rw [hc _ (by omega), show 40 * k + (g + (4 * i + 3)) - 1 = 40 * k + (g + 4 * i + 2) by omega]
    · dsimp only
      rw [hc _ (by omega), show 40 * k + (g + (4 * i + 3)) = 40 * k + (g + 4 * i + 3) by omega]
theorem Rd7.full {N : Nat} {E E' : Int32} {v : Nat → Nat → Int32} {x2 x3 : Int32} (h : Rd7 N N E v lane sz ce x2 x3) : Rd7 N N E' v lane sz ce x2 x3 := ⟨h.1, fun z => absurd z (by omega), h.2.2⟩
theorem Rd8.full {N r k : Nat} {E E' : Int32} {v : Nat → Nat → Int32} {x2 x3 : Int32} (h : Rd8 N N r E v lanes lengths rc k x2 x3) : Rd8 N N r E' v lanes lengths rc k x2 x3 := ⟨h.1, fun z => absurd z (by omega), fun z => absurd z (by omega), h.2.2.2⟩
theorem rd_all {k N l2 : Nat} (hk : k < 4) (hN : N ≤ 10) (hl2 : l2 < 3) (hR : RSh k lane sz ce lanes lengths rc) (x3 : Int32) : ∃ (h r : Nat) (E : Int32) (v : Nat → Nat → Int32), h ≤ N ∧ r < 4 ∧ (h = N → E = 0) ∧ (h < N → ¬ E = 0) ∧ Rd7 h N E v lane sz ce (nI l2) x3 ∧ Rd8 h N r E v lanes lengths rc k (nI l2) x3 := by
  -- from one with an E that is not 0
  have key : ∀ (h r : Nat) (E : Int32) (v : Nat → Nat → Int32), h ≤ N → r < 4 → ¬ E = 0 → Rd7 h N E v lane sz ce (nI l2) x3 → Rd8 h N r E v lanes lengths rc k (nI l2) x3 → ∃ (h r : Nat) (E : Int32) (v : Nat → Nat → Int32), h ≤ N ∧ r < 4 ∧ (h = N → E = 0) ∧ (h < N → ¬ E = 0) ∧ Rd7 h N E v lane sz ce (nI l2) x3 ∧ Rd8 h N r E v lanes lengths rc k (nI l2) x3 := fun h r E v a b c d e => by
    by_cases z : h = N
    · subst z
      exact ⟨h, r, 0, v, a, b, fun _ => rfl, fun z => absurd z (by omega), d.full, e.full⟩
    · exact ⟨h, r, E, v, a, b, fun z2 => absurd z2 z, fun _ => c, d, e⟩
  rcases hR with ⟨rfl, hl⟩ | ⟨l, q, h1, h2, rfl, h4, rfl, h6, h7⟩
  · obtain ⟨a, b⟩ := rd_none (sz := sz) (ce := ce) (lengths := lengths) (rc := rc) (N := N) hk hl (x2 := nI l2) (x3 := x3)
    exact key 0 0 1 _ (Nat.zero_le _) (by omega) (by decide) a b
  · by_cases e : l = l2
    · subst e
      by_cases hx : x3.toInt < 0
      · obtain ⟨a, b⟩ := rd_neg (ce := ce) (rc := rc) (N := N) hk h1 h2 h4 h6 hx
        exact key 0 0 2 _ (Nat.zero_le _) (by omega) (by decide) a b
      · obtain ⟨g, hg⟩ : ∃ g : Nat, x3.toInt = (g : Int) := ⟨x3.toInt.toNat, by omega⟩
        by_cases hm : (q - g) / 4 < N
        · obtain ⟨a, b⟩ := rd_pos (N := N) (h := (q - g) / 4) (r := q - g - 4 * ((q - g) / 4)) hk hN h1 h2 h4 h6 h7 hg (by omega) (fun i hi => by omega) (fun _ => by omega) (fun _ j hj => by omega) (fun _ => by omega) (by omega)
          exact key _ _ 2 _ (by omega) (by omega) (by decide) a b
        · obtain ⟨a, b⟩ := rd_pos (N := N) (h := N) (r := 0) hk hN h1 h2 h4 h6 h7 hg (by omega) (fun i hi => by omega) (fun z => absurd z (by omega)) (fun z => absurd z (by omega)) (fun z => absurd z (by omega)) (by omega)
          exact key _ _ 2 _ (by omega) (by omega) (by decide) a b
    · obtain ⟨a, b⟩ := rd_other (sz := nI q) (ce := ce) (lengths := lengths) (rc := rc) (N := N) hk h1 hl2 e h4 (x3 := x3)
      exact key 0 0 3 _ (Nat.zero_le _) (by omega) (by decide) a b
end RU
