/-! ways: the class, by one step for each depth -/
def GW109 (sub : (Int32 → (Nat → Int64) → Prop) → Int32 → Int32 → (Nat → Int64) → (Nat → Nat → Int64) → Int32 → Prop) (post : Int32 → (Nat → Int64) → Prop) (t_things : Int32) (t_top : Int32) (t_caps : Nat → Nat → Int64) (x1 : Int32) (y4 : Int64) (K_109 : (Nat → Int64) → Int32 → Int64 → Prop) (t_values : Nat → Int64) (x6 : Int32) (y7 : Int64) : Prop :=
  ((y4 < y7 → post x6 t_values) ∧ (¬ y4 < y7 → (vp_in x1 5 ∧ sub (fun (r1 : Int32) (t_values_v1 : Nat → Int64) => K_109 t_values_v1 (x6 + r1) (y7 + (1 : Int64))) t_things t_top (vp_updL t_values x1.toNatClampNeg y7) t_caps (x1 + (1 : Int32)))))
noncomputable def GW23 (sub : (Int32 → (Nat → Int64) → Prop) → Int32 → Int32 → (Nat → Int64) → (Nat → Nat → Int64) → Int32 → Prop) (post : Int32 → (Nat → Int64) → Prop) (t_things : Int32) (t_top : Int32) (t_values : Nat → Int64) (t_caps : Nat → Nat → Int64) (x1 : Int32) (K_23 : Int64 → Int64 → Int32 → Prop) (y2 : Int64) (y4 : Int64) (x6 : Int32) : Prop :=
  ((x1 ≤ x6 → ((¬ x1 = t_things - (1 : Int32) → ∃ n : Nat, Nat.rec (motive := fun _ => (Nat → Int64) → Int32 → Int64 → Prop) (fun _ _ _ => False) (fun _ K => GW109 sub post t_things t_top t_caps x1 y4 K) n t_values (0 : Int32) y2) ∧ (x1 = t_things - (1 : Int32) → post ((if (y4 - y2) + (1 : Int64) < (0 : Int64) then (0 : Int64) else (y4 - y2) + (1 : Int64)).toInt32) t_values))) ∧ (¬ x1 ≤ x6 → (vp_in x6 5 ∧ (vp_in x6 5 ∧ (vp_in x1 5 ∧ (vp_in x6 5 ∧ (vp_in x1 5 ∧ (vp_in x6 5 ∧ K_23 (if (t_values x6.toNatClampNeg) - (t_caps x6.toNatClampNeg x1.toNatClampNeg) < y2 then y2 else (t_values x6.toNatClampNeg) - (t_caps x6.toNatClampNeg x1.toNatClampNeg)) (if (t_values x6.toNatClampNeg) + (t_caps x1.toNatClampNeg x6.toNatClampNeg) < y4 then (t_values x6.toNatClampNeg) + (t_caps x1.toNatClampNeg x6.toNatClampNeg) else y4) (x6 + (1 : Int32))))))))))
noncomputable def GWP (sub : (Int32 → (Nat → Int64) → Prop) → Int32 → Int32 → (Nat → Int64) → (Nat → Nat → Int64) → Int32 → Prop) (post : Int32 → (Nat → Int64) → Prop) (t_things : Int32) (t_top : Int32) (t_values : Nat → Int64) (t_caps : Nat → Nat → Int64) (x1 : Int32) : Prop :=
  ((x1 < 0 → post (0 : Int32) t_values) ∧ (¬ x1 < 0 → ((x1 < (5 : Int32) → ∃ n : Nat, Nat.rec (motive := fun _ => Int64 → Int64 → Int32 → Prop) (fun _ _ _ => False) (fun _ K => GW23 sub post t_things t_top t_values t_caps x1 K) n (0 : Int64) t_top.toInt64 (0 : Int32)) ∧ (¬ x1 < (5 : Int32) → post (0 : Int32) t_values))))
section WY
variable {n : Nat} {X Y S : Nat → Nat} {c : Nat → Int32} {N mm : Nat} {caps : Nat → Nat → Int64}
theorem o64 : (1 : Int64).toInt = 1 := by decide
/-- what lies between the two ends at thing i: just the numbers that go with those ahead -/
theorem rng_po (hne : ∀ k, k < n → X k ≠ Y k) (hcap : CapOk n X Y c S N caps) {i : Nat} (hi : i < N) (hm : mm ≤ 6) {w : Nat → Nat} (hw : ∀ j, j < i → w j ≤ mm) (hpo : PO n X Y c S i w) {lw hg : Int} (h1 : ∀ v : Int, lw ≤ v ↔ 0 ≤ v ∧ ∀ j, j < i → ((w j : Nat) : Int) - v ≤ (caps j i).toInt) (h2 : ∀ v : Int, v ≤ hg ↔ v ≤ (mm : Int) ∧ ∀ j, j < i → v - ((w j : Nat) : Int) ≤ (caps i j).toInt) (v : Nat) (hv : v < mm + 1) : (lw ≤ (v : Int) ∧ (v : Int) ≤ hg) ↔ PO n X Y c S (i + 1) (gu w i v) := by
  constructor
  · rintro ⟨a, b⟩ k hk hx hy
    have a := ((h1 v).mp a).2
    have b := ((h2 v).mp b).2
    have hne := hne k hk
    by_cases ex : X k = i
    · rw [ex, gu_s, gu_n (by omega)]
      have hyi : Y k < i := by omega
      have q := b (Y k) hyi
      exact ((hcap i (Y k) hi (by omega)).2.2 _ (by have := hw _ hyi; omega)).mp q k hk ex rfl
    · rw [gu_n ex]
      have hxi : X k < i := by omega
      by_cases ey : Y k = i
      · rw [ey, gu_s]
        have q := a (X k) hxi
        exact ((hcap (X k) i (by omega) hi).2.2 _ (by have := hw _ hxi; omega)).mp q k hk rfl ey
      · rw [gu_n ey]
        exact hpo k hk hxi (by omega)
  · intro h
    refine ⟨(h1 v).mpr ⟨by omega, fun j hj => ?_⟩, (h2 v).mpr ⟨by omega, fun j hj => ?_⟩⟩
    · refine ((hcap j i (by omega) hi).2.2 _ (by have := hw _ hj; omega)).mpr (fun k hk ex ey => ?_)
      have q := h k hk (by omega) (by omega)
      rw [ex, ey, gu_s, gu_n (by omega)] at q
      exact q
    · refine ((hcap i j hi (by omega)).2.2 _ (by have := hw _ hj; omega)).mpr (fun k hk ex ey => ?_)
      have q := h k hk (by omega) (by omega)
      rw [ex, ey, gu_s, gu_n (by omega)] at q
      exact q
/-- what the class's walk at thing i owes, t more behind it -/
def WSpec (n : Nat) (X Y : Nat → Nat) (c : Nat → Int32) (S : Nat → Nat) (N mm : Nat) (caps : Nat → Nat → Int64) (sub : (Int32 → (Nat → Int64) → Prop) → Int32 → Int32 → (Nat → Int64) → (Nat → Nat → Int64) → Int32 → Prop) (t i : Nat) : Prop :=
  ∀ (w : Nat → Nat) (f : Nat → Int64) (post : Int32 → (Nat → Int64) → Prop), (∀ j, j < i → (f j).toInt = ((w j : Nat) : Int)) → (∀ j, j < i → w j ≤ mm) → PO n X Y c S i w → (∀ f', (∀ j, j < i → f' j = f j) → post (nI (Cn (mm + 1) (fun w => ind (PO n X Y c S N w)) t i w)) f') → sub post (nI N) (nI mm) f caps (nI i)
set_option maxHeartbeats 2000000 in
theorem s_gw (hne : ∀ k, k < n → X k ≠ Y k) (hN : N ≤ 5) (hm : mm ≤ 6) (hcap : CapOk n X Y c S N caps) {sub : (Int32 → (Nat → Int64) → Prop) → Int32 → Int32 → (Nat → Int64) → (Nat → Nat → Int64) → Int32 → Prop} {i t : Nat} (hi : i + (t + 1) = N) (hsub : t ≠ 0 → WSpec n X Y c S N mm caps sub t (i + 1)) : WSpec n X Y c S N mm caps (GWP sub) (t + 1) i := by
  intro w f post hf hw hpo h
  have hiN : i < N := by omega
  unfold GWP
  refine br_f (Int32.not_lt.mpr (show nI 0 ≤ nI i from nI_le (Nat.zero_le _) (by omega))) (br_t (Int32.not_le.mp (nI_ge (a := i) (b := 5) (by omega) (by omega))) ?_)
  have emm : (nI mm).toInt64.toInt = (mm : Int) := by rw [i2l, nI_t (by omega)]
  refine ml3 (F := GW23 sub post (nI N) (nI mm) f caps (nI i)) (I := fun y2 y4 z => ∃ j : Nat, j ≤ i ∧ z = nI j ∧ 0 ≤ y2.toInt ∧ y2.toInt ≤ 3000000100 ∧ -3000000100 ≤ y4.toInt ∧ y4.toInt ≤ (mm : Int) ∧ (∀ v : Int, y2.toInt ≤ v ↔ 0 ≤ v ∧ ∀ j', j' < j → ((w j' : Nat) : Int) - v ≤ (caps j' i).toInt) ∧ (∀ v : Int, v ≤ y4.toInt ↔ v ≤ (mm : Int) ∧ ∀ j', j' < j → v - ((w j' : Nat) : Int) ≤ (caps i j').toInt)) (μ := fun _ _ z => 10 - z.toNatClampNeg) ?_ 0 (nI mm).toInt64 0 ⟨0, by omega, rfl, by rw [z64]; omega, by rw [z64]; omega, by rw [emm]; omega, by rw [emm]; omega, fun v => by rw [z64]; exact ⟨fun a => ⟨a, fun j hj => absurd hj (by omega)⟩, fun a => a.1⟩, fun v => by rw [emm]; exact ⟨fun a => ⟨a, fun j hj => absurd hj (by omega)⟩, fun a => a.1⟩⟩
  rintro y2 y4 z ⟨j, hj, rfl, l1, l2, g1, g2, hlo, hhi⟩ K hK
  unfold GW23
  by_cases hji : j = i
  · subst hji
    refine br_t (nI_le (Nat.le_refl _) (by omega)) ?_
    have rng := rng_po hne hcap hiN hm hw hpo hlo hhi
    rw [show (1 : Int32) = nI 1 from rfl, pk_sub (show 1 ≤ N by omega)]
    by_cases ht : t = 0
    · subst ht
      refine ⟨fun z => absurd (by rw [show N - 1 = j by omega]) z, fun _ => ?_⟩
      have e1 : (y4 - y2).toInt = y4.toInt - y2.toInt := l_sub (by omega) (by omega)
      have e2 : ((y4 - y2) + (1 : Int64)).toInt = y4.toInt - y2.toInt + 1 := by rw [l_add (by rw [e1, o64]; omega) (by rw [e1, o64]; omega), e1, o64]
      have hcn : ((Cn (mm + 1) (fun w => ind (PO n X Y c S N w)) (0 + 1) j w : Nat) : Int) = if y4.toInt - y2.toInt + 1 < 0 then 0 else y4.toInt - y2.toInt + 1 := by
        show ((sm (mm + 1) (fun v => ind (PO n X Y c S N (gu w j v))) : Nat) : Int) = _
        have eN : N = j + 1 := by omega
        rw [eN]
        refine sm_rng l1 (by omega) (fun v hv a b => ind_t ((rng v hv).mp ⟨a, b⟩)) (fun v hv a => ind_f (fun z => a ((rng v hv).mpr z)))
      have e3 : (if (y4 - y2) + (1 : Int64) < (0 : Int64) then (0 : Int64) else (y4 - y2) + (1 : Int64)).toInt = ((Cn (mm + 1) (fun w => ind (PO n X Y c S N w)) (0 + 1) j w : Nat) : Int) := by
        rw [hcn]
        by_cases hz : y4.toInt - y2.toInt + 1 < 0
        · rw [if_pos (by rw [Int64.lt_iff_toInt_lt, e2, z64]; exact hz), if_pos hz, z64]
        · rw [if_neg (by rw [Int64.lt_iff_toInt_lt, e2, z64]; exact hz), if_neg hz, e2]
      rw [l2i e3 (by
        have : ((Cn (mm + 1) (fun w => ind (PO n X Y c S N w)) (0 + 1) j w : Nat) : Int) ≤ 10 := by
          rw [hcn]
          split <;> omega
        omega)]
      exact h f (fun _ _ => rfl)
    · refine ⟨fun _ => ?_, fun z => absurd ((nI_eq (by omega) (by omega)).mp z) (by omega)⟩
      have tot : Cn (mm + 1) (fun w => ind (PO n X Y c S N w)) (t + 1) j w = sm (mm + 1) (fun v => Cn (mm + 1) (fun w => ind (PO n X Y c S N w)) t (j + 1) (gu w j v)) := rfl
      have out : ∀ v, v < mm + 1 → ¬ (y2.toInt ≤ (v : Int) ∧ (v : Int) ≤ y4.toInt) → Cn (mm + 1) (fun w => ind (PO n X Y c S N w)) t (j + 1) (gu w j v) = 0 := fun v hv a => cn_zero t (j + 1) _ (by omega) (fun z => a ((rng v hv).mpr z))
      rw [tot] at h
      generalize hg : (fun v => Cn (mm + 1) (fun w => ind (PO n X Y c S N w)) t (j + 1) (gu w j v)) = g at h
      have out' : ∀ v, v < mm + 1 → ¬ (y2.toInt ≤ (v : Int) ∧ (v : Int) ≤ y4.toInt) → g v = 0 := fun v hv a => by rw [← hg]; exact out v hv a
      refine ml3 (F := GW109 sub post (nI N) (nI mm) caps (nI j) y4) (I := fun f' acc y7 => (∀ j', j' < j → f' j' = f j') ∧ y2.toInt ≤ y7.toInt ∧ y7.toInt ≤ 3000000200 ∧ ((y4.toInt < y7.toInt ∧ acc = nI (sm (mm + 1) g)) ∨ (y7.toInt ≤ y4.toInt ∧ ∃ q : Nat, y7.toInt = (q : Int) ∧ acc = nI (sm q g)))) (μ := fun _ _ y7 => (y4.toInt + 1 - y7.toInt).toNat) ?_ f 0 y2 ⟨fun _ _ => rfl, Int.le_refl _, by omega, ?_⟩
      · rintro f' acc y7 ⟨hf', hl7, hh7, hcase⟩ K2 hK2
        unfold GW109
        rcases hcase with ⟨hlt, rfl⟩ | ⟨hle, q, hq, rfl⟩
        · exact br_t (by rw [Int64.lt_iff_toInt_lt]; exact hlt) (h f' hf')
        · refine br_f (by rw [Int64.lt_iff_toInt_lt]; omega) ⟨vin (by omega) (by omega), ?_⟩
          rw [nI_c (show j ≤ 2147483647 by omega), nI_1]
          refine hsub ht (gu w j q) (vp_updL f' j y7) _ (fun j' hj' => ?_) (fun j' hj' => ?_) ((rng q (by omega)).mp ⟨by omega, by omega⟩) (fun f2 hf2 => ?_)
          · by_cases e : j' = j
            · subst e
              rw [pk_uLs, gu_s]
              exact hq
            · rw [pk_uLn e, gu_n e, hf' j' (by omega)]
              exact hf j' (by omega)
          · by_cases e : j' = j
            · subst e
              rw [gu_s]
              omega
            · rw [gu_n e]
              exact hw j' (by omega)
          · have e7 : (y7 + (1 : Int64)).toInt = y7.toInt + 1 := by rw [l_add (by rw [o64]; omega) (by rw [o64]; omega), o64]
            have eg : Cn (mm + 1) (fun w => ind (PO n X Y c S N w)) t (j + 1) (gu w j q) = g q := by rw [← hg]
            rw [eg, nI_add]
            refine hK2 _ _ _ ⟨fun j' hj' => ?_, by rw [e7]; omega, by rw [e7]; omega, ?_⟩ (by rw [e7]; omega)
            · rw [hf2 j' (by omega), pk_uLn (by omega)]
              exact hf' j' hj'
            · by_cases hz : y4.toInt < y7.toInt + 1
              · left
                refine ⟨by rw [e7]; exact hz, ?_⟩
                have : sm (mm + 1) g = sm (q + 1) g := sm_up (by omega) (fun v a b => out' v b (by omega))
                rw [this]
                rfl
              · right
                exact ⟨by rw [e7]; omega, q + 1, by rw [e7]; omega, rfl⟩
      · by_cases hz : y4.toInt < y2.toInt
        · left
          refine ⟨hz, ?_⟩
          rw [sm_zero (mm + 1) (fun v hv => out' v hv (by omega))]
          rfl
        · right
          refine ⟨by omega, y2.toInt.toNat, by omega, ?_⟩
          rw [sm_zero _ (fun v hv => out' v (by omega) (by omega))]
          rfl
  · have vj : vp_in (nI j) 5 := vin (by omega) (by omega)
    have vi : vp_in (nI i) 5 := vin (by omega) (by omega)
    refine br_f (nI_ge (by omega) (by omega)) ⟨vj, vj, vi, vj, vi, vj, ?_⟩
    rw [nI_c (show j ≤ 2147483647 by omega), nI_c (show i ≤ 2147483647 by omega)]
    have hwj := hw j (by omega)
    have hfj := hf j (by omega)
    obtain ⟨a1, a2, -⟩ := hcap j i (by omega) hiN
    obtain ⟨b1, b2, -⟩ := hcap i j hiN (by omega)
    have e1 : (f j - caps j i).toInt = ((w j : Nat) : Int) - (caps j i).toInt := by rw [l_sub (by omega) (by omega), hfj]
    have e2 : (f j + caps i j).toInt = ((w j : Nat) : Int) + (caps i j).toInt := by rw [l_add (by omega) (by omega), hfj]
    have lo' : ∀ {y : Int64}, (y.toInt = if ((w j : Nat) : Int) - (caps j i).toInt < y2.toInt then y2.toInt else ((w j : Nat) : Int) - (caps j i).toInt) → 0 ≤ y.toInt ∧ y.toInt ≤ 3000000100 ∧ ∀ v : Int, y.toInt ≤ v ↔ 0 ≤ v ∧ ∀ j', j' < j + 1 → ((w j' : Nat) : Int) - v ≤ (caps j' i).toInt := fun {y} hy => by
      have hy' : 0 ≤ y.toInt ∧ y.toInt ≤ 3000000100 ∧ ∀ v : Int, y.toInt ≤ v ↔ (y2.toInt ≤ v ∧ ((w j : Nat) : Int) - v ≤ (caps j i).toInt) := by
        by_cases hz : ((w j : Nat) : Int) - (caps j i).toInt < y2.toInt
        · rw [if_pos hz] at hy
          exact ⟨by omega, by omega, fun v => ⟨fun _ => ⟨by omega, by omega⟩, fun _ => by omega⟩⟩
        · rw [if_neg hz] at hy
          exact ⟨by omega, by omega, fun v => ⟨fun _ => ⟨by omega, by omega⟩, fun _ => by omega⟩⟩
      refine ⟨hy'.1, hy'.2.1, fun v => (hy'.2.2 v).trans ⟨fun a => ⟨((hlo v).mp a.1).1, fun j' hj' => ?_⟩, fun a => ⟨(hlo v).mpr ⟨a.1, fun j' hj' => a.2 j' (by omega)⟩, a.2 j (by omega)⟩⟩⟩
      by_cases e : j' = j
      · subst e; exact a.2
      · exact ((hlo v).mp a.1).2 j' (by omega)
    have hi' : ∀ {y : Int64}, (y.toInt = if ((w j : Nat) : Int) + (caps i j).toInt < y4.toInt then ((w j : Nat) : Int) + (caps i j).toInt else y4.toInt) → -3000000100 ≤ y.toInt ∧ y.toInt ≤ (mm : Int) ∧ ∀ v : Int, v ≤ y.toInt ↔ v ≤ (mm : Int) ∧ ∀ j', j' < j + 1 → v - ((w j' : Nat) : Int) ≤ (caps i j').toInt := fun {y} hy => by
      have hy' : -3000000100 ≤ y.toInt ∧ y.toInt ≤ (mm : Int) ∧ ∀ v : Int, v ≤ y.toInt ↔ (v ≤ y4.toInt ∧ v - ((w j : Nat) : Int) ≤ (caps i j).toInt) := by
        by_cases hz : ((w j : Nat) : Int) + (caps i j).toInt < y4.toInt
        · rw [if_pos hz] at hy
          exact ⟨by omega, by omega, fun v => ⟨fun _ => ⟨by omega, by omega⟩, fun _ => by omega⟩⟩
        · rw [if_neg hz] at hy
          exact ⟨by omega, by omega, fun v => ⟨fun _ => ⟨by omega, by omega⟩, fun _ => by omega⟩⟩
      refine ⟨hy'.1, hy'.2.1, fun v => (hy'.2.2 v).trans ⟨fun a => ⟨((hhi v).mp a.1).1, fun j' hj' => ?_⟩, fun a => ⟨(hhi v).mpr ⟨a.1, fun j' hj' => a.2 j' (by omega)⟩, a.2 j (by omega)⟩⟩⟩
      by_cases e : j' = j
      · subst e; exact a.2
      · exact ((hhi v).mp a.1).2 j' (by omega)
    have A := lo' (y := if f j - caps j i < y2 then y2 else f j - caps j i) (by
      by_cases hz : f j - caps j i < y2
      · rw [if_pos hz, if_pos (by rw [Int64.lt_iff_toInt_lt, e1] at hz; exact hz)]
      · rw [if_neg hz, if_neg (by rw [Int64.lt_iff_toInt_lt, e1] at hz; exact hz), e1])
    have B := hi' (y := if f j + caps i j < y4 then f j + caps i j else y4) (by
      by_cases hz : f j + caps i j < y4
      · rw [if_pos hz, if_pos (by rw [Int64.lt_iff_toInt_lt, e2] at hz; exact hz), e2]
      · rw [if_neg hz, if_neg (by rw [Int64.lt_iff_toInt_lt, e2] at hz; exact hz)])
    exact hK _ _ _ ⟨j + 1, by omega, nI_1 j, A.1, A.2.1, B.1, B.2.1, A.2.2, B.2.2⟩ (by rw [nI_1, nI_c (by omega), nI_c (by omega)]; omega)
theorem gw_0 : P_X4_ways0 = GWP (fun _ _ _ _ _ _ => False) := rfl
theorem gw_1 : P_X4_ways1 = GWP P_X4_ways0 := rfl
theorem gw_2 : P_X4_ways2 = GWP P_X4_ways1 := rfl
theorem gw_3 : P_X4_ways3 = GWP P_X4_ways2 := rfl
theorem gw_4 : P_X4_ways4 = GWP P_X4_ways3 := rfl
theorem s_ways4 (hne : ∀ k, k < n → X k ≠ Y k) (hN1 : 1 ≤ N) (hN : N ≤ 5) (hm : mm ≤ 6) (hcap : CapOk n X Y c S N caps) : WSpec n X Y c S N mm caps P_X4_ways4 N 0 := by
  have w0 : ∀ t i, t ≤ 0 → i + (t + 1) = N → WSpec n X Y c S N mm caps P_X4_ways0 (t + 1) i := fun t i ht hi => by
    rw [gw_0]
    exact s_gw hne hN hm hcap hi (fun z => absurd (by omega) z)
  have w1 : ∀ t i, t ≤ 1 → i + (t + 1) = N → WSpec n X Y c S N mm caps P_X4_ways1 (t + 1) i := fun t i ht hi => by
    rw [gw_1]
    refine s_gw hne hN hm hcap hi (fun z => ?_)
    obtain ⟨t', rfl⟩ : ∃ t', t = t' + 1 := ⟨t - 1, by omega⟩
    exact w0 t' (i + 1) (by omega) (by omega)
  have w2 : ∀ t i, t ≤ 2 → i + (t + 1) = N → WSpec n X Y c S N mm caps P_X4_ways2 (t + 1) i := fun t i ht hi => by
    rw [gw_2]
    refine s_gw hne hN hm hcap hi (fun z => ?_)
    obtain ⟨t', rfl⟩ : ∃ t', t = t' + 1 := ⟨t - 1, by omega⟩
    exact w1 t' (i + 1) (by omega) (by omega)
  have w3 : ∀ t i, t ≤ 3 → i + (t + 1) = N → WSpec n X Y c S N mm caps P_X4_ways3 (t + 1) i := fun t i ht hi => by
    rw [gw_3]
    refine s_gw hne hN hm hcap hi (fun z => ?_)
    obtain ⟨t', rfl⟩ : ∃ t', t = t' + 1 := ⟨t - 1, by omega⟩
    exact w2 t' (i + 1) (by omega) (by omega)
  obtain ⟨t, rfl⟩ : ∃ t, N = t + 1 := ⟨N - 1, by omega⟩
  rw [gw_4]
  refine s_gw hne hN hm hcap (by omega) (fun z => ?_)
  obtain ⟨t', rfl⟩ : ∃ t', t = t' + 1 := ⟨t - 1, by omega⟩
  exact w3 t' (0 + 1) (by omega) (by omega)
end WY
