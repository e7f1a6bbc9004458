/-! groups; rule -/
section GG
variable {n m W : Nat} {X Y S L : Nat → Nat} {c : Nat → Int32} {size marked wh : Int32} {up lo lim str mk : Nat → Int32} {st : Nat → Int32}
def FG (n : Nat) (X Y : Nat → Nat) (c : Nat → Int32) (S : Nat → Nat) (W v : Nat) : Prop := ∀ u, u < v → ¬ Fx (fun k => k < n ∧ nI k ≠ (-4 : Int32)) X Y (cwt W c S) (ewt W S) u v
theorem s_firstGroup (hp : Pw n X Y S m L W) (ho : PgOk n X Y c S W) {T : Nat → Nat → Int64} (hT : ∀ u v, u < 10 → v < 10 → LC n (-1) X Y c S W u v (T u v)) {v : Nat} (hv : v < 10) {post : Int32 → Prop} (h1 : FG n X Y c S W v → post 1) (h0 : ¬ FG n X Y c S W v → post 0) : P_X2_isFirstOfGroup post T (nI v) := by
  unfold P_X2_isFirstOfGroup
  refine ml1 (F := LB_X2_isFirstOfGroup_2 post T (nI v)) (I := fun z => ∃ i : Nat, i ≤ v ∧ z = nI i ∧ ∀ u, u < i → ¬ Fx (fun k => k < n ∧ nI k ≠ (-4 : Int32)) X Y (cwt W c S) (ewt W S) u v) (μ := fun z => v - z.toNatClampNeg) ?_ 0 ⟨0, by omega, rfl, fun u hu => absurd hu (by omega)⟩
  rintro z ⟨i, hi, rfl, hall⟩ K hK
  unfold LB_X2_isFirstOfGroup_2
  by_cases e : i = v
  · subst e
    exact br_t (nI_le (Nat.le_refl _) (by omega)) (h1 hall)
  · have vi : vp_in (nI i) 10 := vin (by omega) (by omega)
    have vv : vp_in (nI v) 10 := vin (by omega) (by omega)
    rw [nI_c (show i ≤ 2147483647 by omega), nI_c (show v ≤ 2147483647 by omega)]
    refine br_f (nI_ge (by omega) (by omega)) ⟨vi, vv, vv, vi, s_sum7 hp ho (by omega) hv (hT i v (by omega) hv) (hT v i hv (by omega)) (fun hF => br_f o_ne (h0 (fun z => z i (by omega) hF))) (fun hF => br_t rfl (hK _ ⟨i + 1, by omega, nI_1 i, fun u hu => ?_⟩ (by rw [nI_1, nI_c (by omega), nI_c (by omega)]; omega)))⟩
    by_cases eu : u = i
    · subst eu; exact hF
    · exact hall u (by omega)
theorem s_groups7 (hp : Pw n X Y S m L W) (ho : PgOk n X Y c S W) (hs : StP n X Y c S m L W size marked wh up lo lim str mk) {f : Nat → Int64} {T : Nat → Nat → Int64} {post : Int32 → (Nat → Int64) → (Nat → Nat → Int64) → Prop} (h : ∀ f' T', post (nI (ct (FG n X Y c S W) 10)) f' T') : P_X2_groups post f size wh lo lim str up T := by
  unfold P_X2_groups
  refine ml3 (F := LB_X2_groups_2 post size wh lo lim str up) (I := fun _ T z => ∃ i : Nat, i ≤ 10 ∧ z = nI i ∧ ∀ u v, u < i → v < 10 → LC n (-1) X Y c S W u v (T u v)) (μ := fun _ _ z => 10 - z.toNatClampNeg) ?_ f T 0 ⟨0, by omega, rfl, fun u v hu => absurd hu (by omega)⟩
  rintro f1 T1 z ⟨i, hi, rfl, hT⟩ K hK
  unfold LB_X2_groups_2
  by_cases e : i = 10
  · subst e
    refine br_t (by decide) ?_
    refine ml2 (F := LB_X2_groups_44 post f1 T1) (I := fun q z => ∃ j : Nat, j ≤ 10 ∧ z = nI j ∧ q = nI (ct (FG n X Y c S W) j)) (μ := fun _ z => 10 - z.toNatClampNeg) ?_ 0 0 ⟨0, by omega, rfl, rfl⟩
    rintro q z ⟨j, hj, rfl, rfl⟩ K2 hK2
    unfold LB_X2_groups_44 B_X2_groups_61
    by_cases e : j = 10
    · subst e
      exact br_t (by decide) (h f1 T1)
    · have hmu : 10 - (nI j + 1).toNatClampNeg < 10 - (nI j).toNatClampNeg := by rw [nI_1, nI_c (by omega), nI_c (by omega)]; omega
      exact br_f (nI_ge (a := j) (b := 10) (by omega) (by omega)) (s_firstGroup hp ho hT (by omega) (fun hF => br_f o_ne (hK2 _ _ ⟨j + 1, by omega, nI_1 j, by rw [nI_1, ct_y hF]⟩ hmu)) (fun hF => br_t rfl (hK2 _ _ ⟨j + 1, by omega, nI_1 j, by rw [ct_n hF]⟩ hmu)))
  · have hlt : i < 10 := by omega
    refine br_f (nI_ge (a := i) (b := 10) hlt (by omega)) (s_btw hp ho hs hlt hlt (fun f' hf => ⟨vin hlt (by omega), hK _ _ _ ⟨i + 1, by omega, nI_1 i, fun u v hu hv => ?_⟩ (by rw [nI_1, nI_c (by omega), nI_c (by omega)]; omega)⟩))
    rw [nI_c (show i ≤ 2147483647 by omega)]
    by_cases eu : u = i
    · subst eu
      rw [va_up_self]
      have e9 : va_cpy f' (T1 u) (0 : Int32).toNatClampNeg (0 : Int32).toNatClampNeg (10 : Int32).toNatClampNeg v = f' v := by
        show va_cpy f' (T1 u) 0 0 10 v = f' v
        unfold va_cpy
        rw [if_pos (by omega), show 0 + (v - 0) = v by omega]
      rw [e9]
      exact hf v hv
    · rw [va_up_ne _ _ eu]
      exact hT u v (by omega) hv
theorem s_groups8 (hp : Pw n X Y S m L W) (ho : PgOk n X Y c S W) (hr : RfP 0 n X Y c S m L W st) {D : Nat → Int64} {post : Int32 → (Nat → Int64) → Prop} (h : ∀ D', post (nI (ct (FG n X Y c S W) 10)) D') : P_X8_groups post st D := by
  unfold P_X8_groups
  refine s_rck hp ho hr (fun D1 hD => ?_)
  refine ml2 (F := LB_X8_groups_11 post D1) (I := fun q z => ∃ j : Nat, j ≤ 10 ∧ z = nI j ∧ q = nI (ct (FG n X Y c S W) j)) (μ := fun _ z => 10 - z.toNatClampNeg) ?_ 0 0 ⟨0, by omega, rfl, rfl⟩
  rintro q z ⟨j, hj, rfl, rfl⟩ K hK
  unfold LB_X8_groups_11
  by_cases e : j = 10
  · subst e
    exact br_t (by decide) (h D1)
  · have hlt : j < 10 := by omega
    have hmu : 10 - (nI j + 1).toNatClampNeg < 10 - (nI j).toNatClampNeg := by rw [nI_1, nI_c (by omega), nI_c (by omega)]; omega
    refine br_f (nI_ge (a := j) (b := 10) hlt (by omega)) ?_
    refine ml2 (F := LB_X8_groups_22 K D1 (nI (ct (FG n X Y c S W) j)) (nI j)) (I := fun b z => ∃ i : Nat, i ≤ j ∧ z = nI i ∧ ((b = 1 ∧ ∀ u, u < i → ¬ Fx (fun k => k < n ∧ nI k ≠ (-4 : Int32)) X Y (cwt W c S) (ewt W S) u j) ∨ (b = 0 ∧ ¬ FG n X Y c S W j))) (μ := fun _ z => j - z.toNatClampNeg) ?_ 1 0 ⟨0, by omega, rfl, Or.inl ⟨rfl, fun u hu => absurd hu (by omega)⟩⟩
    rintro b z ⟨i, hi, rfl, hb⟩ K2 hK2
    unfold LB_X8_groups_22 B_X8_groups_46 B_X8_groups_47 B_X8_groups_64
    by_cases e2 : i = j
    · subst e2
      refine br_t (nI_le (Nat.le_refl _) (by omega)) ?_
      rcases hb with ⟨rfl, hall⟩ | ⟨rfl, hno⟩
      · exact br_f o_ne (hK _ _ ⟨i + 1, by omega, nI_1 i, by rw [nI_1, ct_y (P := FG n X Y c S W) hall]⟩ hmu)
      · exact br_t rfl (hK _ _ ⟨i + 1, by omega, nI_1 i, by rw [Int32.add_zero, ct_n hno]⟩ hmu)
    · have hmu2 : j - (nI i + 1).toNatClampNeg < j - (nI i).toNatClampNeg := by rw [nI_1, nI_c (by omega), nI_c (by omega)]; omega
      refine br_f (nI_ge (by omega) (by omega)) ?_
      rcases hb with ⟨rfl, hall⟩ | ⟨rfl, hno⟩
      · refine br_f o_ne (s_fix8 hp ho (by omega) hlt hD (fun hF => ⟨fun _ => hK2 _ _ ⟨i + 1, by omega, nI_1 i, Or.inr ⟨rfl, fun z => z i (by omega) hF⟩⟩ hmu2, fun h => absurd h o_ne⟩) (fun hF => ⟨fun h => absurd rfl h, fun _ => hK2 _ _ ⟨i + 1, by omega, nI_1 i, Or.inl ⟨rfl, fun u hu => ?_⟩⟩ hmu2⟩))
        by_cases eu : u = i
        · subst eu; exact hF
        · exact hall u (by omega)
      · exact br_t rfl (hK2 _ _ ⟨i + 1, by omega, nI_1 i, Or.inr ⟨rfl, hno⟩⟩ hmu2)
theorem k_rule (hp : Pw n X Y S m L W) (ho : PgOk n X Y c S W) (hs : StP n X Y c S m L W size marked wh up lo lim str mk) (hr : RfP 0 n X Y c S m L W st) {cs cm : Int32} {row cf : Nat → Int32} (hC : RConf cs row cm cf) (f D : Nat → Int64) (T : Nat → Nat → Int64) (x1 : Int32) {Q : Int32 → (Nat → Int64) → (Nat → Nat → Int64) → Int32 → (Nat → Int64) → Prop} (hQ : ∀ r f' T' D', Q r f' T' r D') :
    P_X7_rule (fun r f' T' => P_X8_rule (fun r2 D' => Q r f' T' r2 D') cm st D x1) size marked wh lo up f lim str cs T x1 := by
  have hW := hp.2.2.1
  unfold P_X7_rule P_X8_rule
  refine br_c (fun h0 => br_t h0 ?_) (fun h0 => br_c (fun h1 => br_f h0 (br_t h1 ⟨vin (n := 105) (by omega) (by omega), ?_⟩)) (fun h1 => br_c (fun h2 => br_f h0 (br_f h1 (br_t h2 ⟨vin (n := 106) (by omega) (by omega), ?_⟩))) (fun h2 => br_c (fun h3 => ?_) (fun h3 => br_c (fun h4 => ?_) (fun h4 => br_c (fun h5 => ?_) (fun h5 => br_c (fun h6 => ?_) (fun h6 => br_c (fun h7 => ?_) (fun h7 => ?_))))))))
  · rw [hs.1]
    exact s_many (o := 0) hr (hQ _ _ _ _)
  · rw [show (105 : Int32).toNatClampNeg = 0 + 105 from rfl, hr.2.2.1, hs.2.2.1]
    have : (1 : Int32) - nI (1 - W) = nI W := by
      rcases Nat.le_one_iff_eq_zero_or_eq_one.mp hW with rfl | rfl <;> rfl
    rw [this]
    exact hQ _ _ _ _
  · rw [show (106 : Int32).toNatClampNeg = 0 + 106 from rfl, hr.2.1, hs.2.1]
    exact hQ _ _ _ _
  · subst h3
    exact s_pairs7 hp hs (br_f h0 (br_f h1 (br_f h2 (br_t rfl (s_pairs8 hp hr (fun _ => hQ _ _ _ _))))))
  · subst h4
    exact s_limits7 hp hs (br_f h0 (br_f h1 (br_f h2 (br_f h3 (br_t rfl (s_limits8 hp hr (fun _ => hQ _ _ _ _)))))))
  · subst h5
    exact s_needs7 hp ho hs (fun _ => br_f h0 (br_f h1 (br_f h2 (br_f h3 (br_f h4 (br_t rfl (s_needs8 hp ho hr (fun _ => hQ _ _ _ _))))))))
  · exact s_groups7 hp ho hs (fun _ _ => br_f h0 (br_f h1 (br_f h2 (br_f h3 (br_f h4 (br_f h5 (br_t h6 (s_groups8 hp ho hr (fun _ => hQ _ _ _ _)))))))))
  · obtain ⟨q, -, rfl, rfl, -⟩ := hC
    exact br_f h0 (br_f h1 (br_f h2 (br_f h3 (br_f h4 (br_f h5 (br_f h6 (br_t h7 (hQ _ _ _ _))))))))
  · exact br_f h0 (br_f h1 (br_f h2 (br_f h3 (br_f h4 (br_f h5 (br_f h6 (br_f h7 (hQ _ _ _ _))))))))
end GG
