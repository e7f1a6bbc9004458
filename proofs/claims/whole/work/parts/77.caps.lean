/-! ways: the class's table -/
/-- the table tells the least of the bounds of each pair -/
def CapOk (n : Nat) (X Y : Nat → Nat) (c : Nat → Int32) (S : Nat → Nat) (N : Nat) (caps : Nat → Nat → Int64) : Prop := ∀ x y, x < N → y < N → -3000000000 ≤ (caps x y).toInt ∧ (caps x y).toInt ≤ 1099511627776 ∧ ∀ d : Int, d ≤ 1000 → (d ≤ (caps x y).toInt ↔ ∀ k, k < n → X k = x → Y k = y → d ≤ (c k).toInt - (S k : Int))
section CA
variable {n m W : Nat} {X Y S L : Nat → Nat} {c : Nat → Int32} {size marked wh : Int32} {up lo lim str mk : Nat → Int32}
theorem t40 : (1099511627776 : Int64).toInt = 1099511627776 := by decide
set_option maxHeartbeats 1000000 in
theorem s_prepare (hp : Pw n X Y S m L W) (hs : StP n X Y c S m L W size marked wh up lo lim str mk) {N : Nat} (hN : N ≤ 5) {x3 : Int32} {caps : Nat → Nat → Int64} {post : Int32 → Int32 → (Nat → Nat → Int64) → Prop} (h : ∀ caps', CapOk n X Y c S N caps' → post (nI N) x3 caps') : P_X4_prepare post size up lo lim str caps (nI N) x3 := by
  obtain ⟨p1, p2, p3, p4, -⟩ := hp
  obtain ⟨s1, s2, s3, s4, -⟩ := hs
  subst s1
  unfold P_X4_prepare
  refine ml2 (F := LB_X4_prepare_13 post (nI N) x3 (nI n) up lo lim str (nI N)) (I := fun C z => ∃ i : Nat, i ≤ 5 ∧ z = nI i ∧ ∀ x y, x < i → y < 5 → C x y = 1099511627776) (μ := fun _ z => 5 - z.toNatClampNeg) ?_ caps 0 ⟨0, by omega, rfl, fun x y hx => absurd hx (by omega)⟩
  rintro C z ⟨i, hi, rfl, hC⟩ K hK
  unfold LB_X4_prepare_13
  by_cases e5 : i = 5
  · subst e5
    refine br_t (by decide) ?_
    refine ml2 (F := LB_X4_prepare_41 post (nI N) x3 (nI n) up lo lim str (nI N)) (I := fun C z => ∃ i : Nat, i ≤ n ∧ z = nI i ∧ CapOk i X Y c S N C) (μ := fun _ z => 24 - z.toNatClampNeg) ?_ C 0 ⟨0, by omega, rfl, fun x y hx hy => ?_⟩
    · rintro C z ⟨i, hi, rfl, hC⟩ K hK
      unfold LB_X4_prepare_41 B_X4_prepare_120
      by_cases ein : i = n
      · subst ein
        exact br_t (nI_le (Nat.le_refl _) (by omega)) (h C hC)
      · obtain ⟨u1, u2, u3, u4⟩ := s4 i (by omega)
        obtain ⟨b1, b2, b3, b4⟩ := p4 i (by omega)
        have hmu : 24 - (nI i + 1).toNatClampNeg < 24 - (nI i).toNatClampNeg := by rw [nI_1, nI_c (by omega), nI_c (by omega)]; omega
        have skip : ¬ (X i < N ∧ Y i < N) → CapOk (i + 1) X Y c S N C := fun hz x y hx hy => by
          obtain ⟨r1, r2, r3⟩ := hC x y hx hy
          refine ⟨r1, r2, fun d hd => (r3 d hd).trans ⟨fun g k hk ex ey => ?_, fun g k hk ex ey => g k (by omega) ex ey⟩⟩
          by_cases ek : k = i
          · subst ek
            exact absurd ⟨by omega, by omega⟩ hz
          · exact g k (by omega) ex ey
        have v24 : vp_in (nI i) 24 := vin (by omega) (by omega)
        refine br_f (nI_ge (by omega) (by omega)) ?_
        rw [nI_c (show i ≤ 2147483647 by omega), u1, u2, u3, u4, nI_c (show X i ≤ 2147483647 by omega), nI_c (show Y i ≤ 2147483647 by omega)]
        refine ⟨v24, v24, br_c (fun g => hK _ _ ⟨i + 1, by omega, nI_1 i, skip (fun z => ?_)⟩ hmu) (fun g => br_c (fun g2 => hK _ _ ⟨i + 1, by omega, nI_1 i, skip (fun z => ?_)⟩ hmu) (fun g2 => ?_))⟩
        · exact nI_ge z.1 (by omega) g
        · exact nI_ge z.2 (by omega) g2
        · have hxN : X i < N := by
            by_cases z : X i < N
            · exact z
            · exact absurd (nI_le (by omega) (by omega)) g
          have hyN : Y i < N := by
            by_cases z : Y i < N
            · exact z
            · exact absurd (nI_le (by omega) (by omega)) g2
          have vx : vp_in (nI (X i)) 5 := vin (by omega) (by omega)
          have vy : vp_in (nI (Y i)) 5 := vin (by omega) (by omega)
          refine ⟨vx, vx, vy, v24, v24, vy, hK _ _ ⟨i + 1, by omega, nI_1 i, fun x y hx hy => ?_⟩ hmu⟩
          obtain ⟨c1, c2⟩ := i_rng (c i)
          have hw : ((c i).toInt64 - (nI (S i)).toInt64).toInt = (c i).toInt - (S i : Int) := by
            rw [l_sub (by rw [i2l, i2l, nI_t (by omega)]; omega) (by rw [i2l, i2l, nI_t (by omega)]; omega), i2l, i2l, nI_t (by omega)]
          obtain ⟨r1, r2, r3⟩ := hC x y hx hy
          by_cases exy : x = X i ∧ y = Y i
          · obtain ⟨rfl, rfl⟩ := exy
            rw [va_up_self, pk_uLs]
            by_cases hlt : (c i).toInt64 - (nI (S i)).toInt64 < C (X i) (Y i)
            · rw [if_pos hlt, hw]
              rw [Int64.lt_iff_toInt_lt, hw] at hlt
              refine ⟨by omega, by omega, fun d hd => ⟨fun g k hk ex ey => ?_, fun g => g i (by omega) rfl rfl⟩⟩
              by_cases ek : k = i
              · subst ek; exact g
              · exact (r3 d hd).mp (by omega) k (by omega) ex ey
            · rw [if_neg hlt]
              rw [Int64.lt_iff_toInt_lt, hw] at hlt
              refine ⟨r1, r2, fun d hd => ⟨fun g k hk ex ey => ?_, fun g => (r3 d hd).mpr (fun k hk ex ey => g k (by omega) ex ey)⟩⟩
              by_cases ek : k = i
              · subst ek; omega
              · exact (r3 d hd).mp g k (by omega) ex ey
          · have eq : va_up C (X i) (vp_updL (C (X i)) (Y i) (if (c i).toInt64 - (nI (S i)).toInt64 < C (X i) (Y i) then (c i).toInt64 - (nI (S i)).toInt64 else C (X i) (Y i))) x y = C x y := by
              by_cases ex : x = X i
              · subst ex
                rw [va_up_self, pk_uLn (fun z => exy ⟨rfl, z⟩)]
              · rw [va_up_ne _ _ ex]
            rw [eq]
            refine ⟨r1, r2, fun d hd => (r3 d hd).trans ⟨fun g k hk ex ey => ?_, fun g k hk ex ey => g k (by omega) ex ey⟩⟩
            by_cases ek : k = i
            · subst ek
              exact absurd ⟨ex.symm, ey.symm⟩ exy
            · exact g k (by omega) ex ey
    · rw [hC x y (by omega) (by omega), t40]
      exact ⟨by omega, by omega, fun d hd => ⟨fun _ k hk => absurd hk (by omega), fun _ => by omega⟩⟩
  · refine br_f (nI_ge (a := i) (b := 5) (by omega) (by omega)) ⟨vin (by omega) (by omega), s_fillJ (by omega) (fun a' ha' => ?_)⟩
    rw [nI_c (show i ≤ 2147483647 by omega)]
    refine hK _ _ ⟨i + 1, by omega, nI_1 i, fun x y hx hy => ?_⟩ (by rw [nI_1, nI_c (by omega), nI_c (by omega)]; omega)
    by_cases ex : x = i
    · subst ex
      rw [va_up_self]
      exact ha' y hy
    · rw [va_up_ne _ _ ex]
      exact hC x y (by omega) hy
end CA
