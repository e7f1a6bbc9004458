/-! read: the reference's loop -/
def CK (T : Int32 → Prop) (lanes lengths : Nat → Int32) (x1 x2 x3 x7 : Int32) : Prop :=
  (vp_in x1 4 ∧ ((¬ lanes x1.toNatClampNeg = (-4 : Int32) → (vp_in x1 4 ∧ ((lanes x1.toNatClampNeg = x2 → (vp_in x1 4 ∧ P_X8_in (fun (r5 : Int32) => ((¬ r5 = 0 → T (0 : Int32)) ∧ (r5 = 0 → T (2 : Int32)))) (x3.toInt64 + x7.toInt64) (0 : Int64) (((lengths x1.toNatClampNeg) - (1 : Int32)).toInt64))) ∧ (¬ lanes x1.toNatClampNeg = x2 → T (3 : Int32))))) ∧ (lanes x1.toNatClampNeg = (-4 : Int32) → T (1 : Int32))))
def Rd8 (h N r : Nat) (E : Int32) (v : Nat → Nat → Int32) (lanes lengths rc : Nat → Int32) (k : Nat) (x2 x3 : Int32) : Prop :=
  (∀ i j, i < h → j < 4 → ∀ T : Int32 → Prop, T 0 → CK T lanes lengths (nI k) x2 x3 (nI (4 * i + j))) ∧
  (h < N → ∀ j, j < r → ∀ T : Int32 → Prop, T 0 → CK T lanes lengths (nI k) x2 x3 (nI (4 * h + j))) ∧
  (h < N → ∀ T : Int32 → Prop, T E → CK T lanes lengths (nI k) x2 x3 (nI (4 * h + r))) ∧
  (∀ i, i < h → ∃ p : Nat, 3 ≤ p ∧ p < 160 ∧ (40 : Int32) * nI k + (x3.toInt64 + (nI (4 * i + 3)).toInt64).toInt32 = nI p ∧ rc (p - 3) = v i 0 ∧ rc (p - 2) = v i 1 ∧ rc (p - 1) = v i 2 ∧ rc p = v i 3)
section RT
variable {n m W : Nat} {X Y S L : Nat → Nat} {c : Nat → Int32} {st : Nat → Int32}
set_option maxHeartbeats 2000000 in
theorem s_rd8 (hp : Pw n X Y S m L W) (ho : PgOk n X Y c S W) (hr : RfP 0 n X Y c S m L W st) {N h r : Nat} (hN : N ≤ 10) (hh : h ≤ N) (hr4 : r < 4) {E : Int32} (hE0 : h = N → E = 0) (hE1 : h < N → ¬ E = 0) {v : Nat → Nat → Int32} {lanes lengths rc : Nat → Int32} {k : Nat} {x2 x3 tn : Int32} (hd : Rd8 h N r E v lanes lengths rc k x2 x3)
    {cm : Int32} {D B : Nat → Int64} {cf : Nat → Int32} {post : Int32 → Int32 → Int32 → (Nat → Int32) → (Nat → Int64) → (Nat → Int64) → (Nat → Int32) → Prop}
    (hA : ∀ n' X' Y' c' S' st' D' B', (∀ Z Zb, RR W v Z Zb h 0 n X Y c S → Z n' X' Y' c' S') → RfP 0 n' X' Y' c' S' m L W st' → (∀ j, 107 ≤ j → st' j = st j) → post (nI h) cm E st' D' B' cf)
    (hB : ∀ i n' X' Y' c' S' cm' st' D' B' cf', (∀ Z Zb, RR W v Z Zb h 0 n X Y c S → Zb i n' X' Y' c' S') → RB W n' X' Y' c' S' (v i 0) (v i 1) (v i 2) (v i 3) cm cf cm' cf' → (∀ j, j < 107 → st' (0 + j) = st (428 + j)) → (∀ x, 107 ≤ x → st' x = st x) → post ((-20 : Int32) - nI i) cm' tn st' D' B' cf') :
    ∃ t : Nat, L_X8_read_56 post tn lanes lengths rc (nI k) x2 x3 (nI N) t cm st D B cf (0 : Int32) (0 : Int32) (0 : Int32) := by
  obtain ⟨hok, hb1, hb2, hcell⟩ := hd
  refine ml8 (F := LB_X8_read_56 post tn lanes lengths rc (nI k) x2 x3 (nI N)) (I := fun cm' st' _ _ cf' fd ca z => cm = cm' ∧ cf = cf' ∧ (∀ j, 107 ≤ j → st' j = st j) ∧ ∃ (n' : Nat) (X' Y' : Nat → Nat) (c' : Nat → Int32) (S' : Nat → Nat), Pw n' X' Y' S' m L W ∧ PgOk n' X' Y' c' S' W ∧ RfP 0 n' X' Y' c' S' m L W st' ∧ ((∃ i j, i ≤ h ∧ j < 4 ∧ (i = h → h = N → j = 0) ∧ (i = h → h < N → j ≤ r) ∧ fd = 0 ∧ ca = nI i ∧ z = nI (4 * i + j) ∧ ∀ Z Zb, RR W v Z Zb h 0 n X Y c S → RR W v Z Zb (h - i) i n' X' Y' c' S') ∨ (h < N ∧ fd = E ∧ ca = nI h ∧ z = nI (4 * h + r + 1) ∧ ∀ Z Zb, RR W v Z Zb h 0 n X Y c S → Z n' X' Y' c' S'))) (μ := fun _ _ _ _ _ _ _ z => 60 - z.toNatClampNeg) ?_ cm st D B cf 0 0 0 ⟨rfl, rfl, fun _ _ => rfl, n, X, Y, c, S, hp, ho, hr, Or.inl ⟨0, 0, Nat.zero_le _, by omega, fun _ _ => rfl, fun _ _ => Nat.zero_le _, rfl, rfl, rfl, fun Z Zb q => q⟩⟩
  rintro cm' st' D' B' cf' fd ca z ⟨rfl, rfl, hfr, n', X', Y', c', S', hp', ho', hr', hcase⟩ K hK
  have hn' := hp'.1
  unfold LB_X8_read_56
  rw [show (4 : Int32) = nI 4 from rfl, pk_mul]
  rcases hcase with ⟨i, j, hi, hj, hj0, hjr, rfl, rfl, rfl, hZ⟩ | ⟨hlt, hfd, rfl, rfl, hZ⟩
  · have hmu : 60 - (nI (4 * i + j) + 1).toNatClampNeg < 60 - (nI (4 * i + j)).toNatClampNeg := by rw [nI_1, nI_c (by omega), nI_c (by omega)]; omega
    have hrem : nI (4 * i + j) - nI (4 * i + j) / (4 : Int32) * (4 : Int32) = nI j := by
      rw [show (4 : Int32) = nI 4 from rfl, pk_rem (by omega) (by omega) (by omega), show (4 * i + j) % 4 = j by omega]
    by_cases hih : i < h
    · refine br_f (nI_ge (by omega) (by omega)) ⟨fun z => absurd rfl z, fun _ => ?_⟩
      refine hok i j hih hj (fun e => B_X8_read_130 post K cm tn st' rc D' B' cf e (nI k) (nI i) (nI (4 * i + j)) (x3.toInt64 + (nI (4 * i + j)).toInt64)) ?_
      unfold B_X8_read_130 B_X8_read_213
      rw [hrem]
      refine ⟨fun z => absurd rfl z, fun _ => ?_⟩
      by_cases hj3 : j = 3
      · subst hj3
        obtain ⟨p, p1, p2, p3, p4, p5, p6, p7⟩ := hcell i hih
        obtain ⟨t, ht⟩ : ∃ t, h - i = t + 1 := ⟨h - i - 1, by omega⟩
        have ht2 : h - (i + 1) = t := by omega
        rw [ht] at hZ
        rw [p3, show (3 : Int32) = nI 3 from rfl, show (2 : Int32) = nI 2 from rfl, show (1 : Int32) = nI 1 from rfl, pk_sub p1, pk_sub (show 2 ≤ p by omega), pk_sub (show 1 ≤ p by omega), nI_c (show p - 3 ≤ 2147483647 by omega), nI_c (show p - 2 ≤ 2147483647 by omega), nI_c (show p - 1 ≤ 2147483647 by omega), nI_c (show p ≤ 2147483647 by omega), p4, p5, p6, p7]
        refine ⟨fun z => absurd rfl z, fun _ => ⟨vin (by omega) (by omega), vin (by omega) (by omega), vin (by omega) (by omega), vin (by omega) (by omega), a8 hp' ho' hr' (fun hno r2 D2 B2 cm2 cf2 hr2 hrb => ⟨fun z => absurd z hr2, fun _ => s_copies (a := 428) (b := 0) (by omega) (by omega) (by omega) (fun st2 e1 e2 => hB i n' X' Y' c' S' _ _ _ _ _ (fun Z Zb q => (hZ Z Zb q).2 hno) hrb (fun j hj => (e1 j hj).trans (hfr _ (by omega))) (fun x hx => (e2 x (by omega)).trans (hfr x hx)))⟩) (fun hyes D2 st2 q1 q2 q3 q4 => ⟨fun _ => hK _ _ _ _ _ _ _ _ ⟨rfl, rfl, fun j hj => (q4 j hj).trans (hfr j hj), n' + 1, _, _, _, _, q1, q2, q3, Or.inl ⟨i + 1, 0, by omega, by omega, fun _ _ => rfl, fun _ _ => Nat.zero_le _, rfl, nI_1 i, ?_, fun Z Zb q => ?_⟩⟩ hmu, fun z => absurd (show nI 0 ≤ nI (n' + 1) from nI_le (Nat.zero_le _) (by omega)) z⟩)⟩⟩
        · exact nI_1 _
        · rw [ht2]
          exact (hZ Z Zb q).1 hyes
      · refine ⟨fun _ => hK _ _ _ _ _ _ _ _ ⟨rfl, rfl, hfr, n', X', Y', c', S', hp', ho', hr', Or.inl ⟨i, j + 1, hi, by omega, fun a _ => by omega, fun a _ => by omega, rfl, rfl, nI_1 _, hZ⟩⟩ hmu, fun z => absurd ((nI_eq (b := 3) (by omega) (by omega)).mp z) hj3⟩
    · have ei : i = h := by omega
      subst ei
      have hz : ∀ Z Zb, RR W v Z Zb i 0 n X Y c S → Z n' X' Y' c' S' := fun Z Zb q => by
        have := hZ Z Zb q
        rw [Nat.sub_self] at this
        exact this
      by_cases hiN : i = N
      · refine br_t (nI_le (by omega) (by omega)) ?_
        have := hA n' X' Y' c' S' st' D' B' hz hr' hfr
        rw [hE0 hiN] at this
        exact this
      · have hjr := hjr rfl (by omega)
        refine br_f (nI_ge (by omega) (by omega)) ⟨fun z => absurd rfl z, fun _ => ?_⟩
        by_cases hj2 : j < r
        · refine hb1 (by omega) j hj2 (fun e => B_X8_read_130 post K cm tn st' rc D' B' cf e (nI k) (nI i) (nI (4 * i + j)) (x3.toInt64 + (nI (4 * i + j)).toInt64)) ?_
          unfold B_X8_read_130 B_X8_read_213
          rw [hrem]
          exact ⟨fun z => absurd rfl z, fun _ => ⟨fun _ => hK _ _ _ _ _ _ _ _ ⟨rfl, rfl, hfr, n', X', Y', c', S', hp', ho', hr', Or.inl ⟨i, j + 1, hi, by omega, fun _ a => absurd a hiN, fun _ _ => by omega, rfl, rfl, nI_1 _, hZ⟩⟩ hmu, fun z => absurd ((nI_eq (b := 3) (by omega) (by omega)).mp z) (by omega)⟩⟩
        · have ej : j = r := by omega
          subst ej
          refine hb2 (by omega) (fun e => B_X8_read_130 post K cm tn st' rc D' B' cf e (nI k) (nI i) (nI (4 * i + j)) (x3.toInt64 + (nI (4 * i + j)).toInt64)) ?_
          unfold B_X8_read_130 B_X8_read_213
          exact ⟨fun _ => hK _ _ _ _ _ _ _ _ ⟨rfl, rfl, hfr, n', X', Y', c', S', hp', ho', hr', Or.inr ⟨by omega, rfl, rfl, nI_1 _, hz⟩⟩ hmu, fun z => absurd z (hE1 (by omega))⟩
  · have fin : post (nI h) cm fd st' D' B' cf := by
      rw [hfd]
      exact hA n' X' Y' c' S' st' D' B' hZ hr' hfr
    exact br_c (fun _ => fin) (fun _ => ⟨fun _ => fin, fun z => absurd (hfd.symm.trans z) (hE1 hlt)⟩)
end RT
