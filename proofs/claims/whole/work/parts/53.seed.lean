/-! the seed's bits -/
theorem sb_eq (x : Int32) : ((x.toUInt32 >>> ((16 : Int32).toUInt32 &&& Int32.toUInt32 31)).toInt32) &&& (32767 : Int32) = (x >>> ((16 : Int32) &&& 31)) &&& (32767 : Int32) := by
  rw [show (16 : Int32).toUInt32 &&& Int32.toUInt32 31 = (16 : UInt32) from by decide, show (16 : Int32) &&& 31 = (16 : Int32) from by decide]
  apply Int32.toBitVec_inj.mp
  rw [Int32.toBitVec_and, Int32.toBitVec_and]
  apply BitVec.eq_of_getLsbD_eq
  intro i hi
  rw [BitVec.getLsbD_and, BitVec.getLsbD_and]
  have e1 : (x.toUInt32 >>> (16 : UInt32)).toInt32.toBitVec = x.toBitVec >>> (16 : Nat) := rfl
  have e2 : (x >>> (16 : Int32)).toBitVec = x.toBitVec.sshiftRight 16 := by
    rw [Int32.toBitVec_shiftRight]
    rfl
  rw [e1, e2]
  by_cases h : i < 15
  · rw [BitVec.getLsbD_ushiftRight, BitVec.getLsbD_sshiftRight, if_pos (by omega)]
    have : decide (32 ≤ i) = false := by simp; omega
    simp [this]
  · have hm : (32767 : Int32).toBitVec.getLsbD i = false := by
      have hp : 2 ^ 15 ≤ 2 ^ i := Nat.pow_le_pow_right (by decide) (by omega)
      show (32767 : Nat).testBit i = false
      exact Nat.testBit_lt_two_pow (by omega)
    rw [hm, Bool.and_false, Bool.and_false]
theorem sb_rng (x : Int32) : ∃ f, f < 32768 ∧ (x >>> ((16 : Int32) &&& 31)) &&& (32767 : Int32) = nI f := by
  have h : ((x >>> ((16 : Int32) &&& 31)) &&& (32767 : Int32)).toBitVec.toNat ≤ 32767 := by
    rw [Int32.toBitVec_and, BitVec.toNat_and]
    exact Nat.and_le_right
  have e : ((x >>> ((16 : Int32) &&& 31)) &&& (32767 : Int32)).toInt = (((x >>> ((16 : Int32) &&& 31)) &&& (32767 : Int32)).toBitVec.toNat : Int) := BitVec.toInt_eq_toNat_of_lt (by omega)
  exact cnt (by omega) (by omega)
