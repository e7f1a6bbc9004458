/-! what a lane leaves of a number -/
theorem nar_bv (x : BitVec 32) (k : Nat) (hk : k < 32) (hk0 : 0 < k) : (x.setWidth k).signExtend 32 = (x <<< (32 - k)).sshiftRight (32 - k) := by
  apply BitVec.eq_of_getLsbD_eq
  intro i hi
  have hm1 : (x.setWidth k).msb = x.getLsbD (k - 1) := by
    rw [BitVec.msb_eq_getLsbD_last, BitVec.getLsbD_setWidth]
    simp [show k - 1 < k by omega]
  have hm2 : (x <<< (32 - k)).msb = x.getLsbD (k - 1) := by
    rw [BitVec.msb_eq_getLsbD_last, BitVec.getLsbD_shiftLeft]
    have h1 : ¬ (32 - 1 < 32 - k) := by omega
    have h2 : 32 - 1 - (32 - k) = k - 1 := by omega
    rw [h2]
    simp [h1]
  rw [BitVec.getLsbD_signExtend, BitVec.getLsbD_sshiftRight, hm1, hm2, BitVec.getLsbD_setWidth, BitVec.getLsbD_shiftLeft]
  by_cases h : i < k
  · have h3 : 32 - k + i < 32 := by omega
    have h4 : 32 - k + i - (32 - k) = i := by omega
    have h5 : ¬ (32 - k + i < 32 - k) := by omega
    have h6 : ¬ (32 ≤ i) := by omega
    rw [if_pos h, if_pos h3, h4]
    simp [h, hi, h3, h5, h6]
  · have h3 : ¬ (32 - k + i < 32) := by omega
    have h6 : ¬ (32 ≤ i) := by omega
    rw [if_neg h, if_neg h3]
    simp [hi, h6]
theorem nar8 (x : Int32) : x.toInt8.toInt32 = (x <<< ((24 : Int32) &&& 31)) >>> ((24 : Int32) &&& 31) := by
  apply Int32.toBitVec_inj.mp
  rw [show (24 : Int32) &&& 31 = (24 : Int32) from by decide, Int32.toBitVec_shiftRight, Int32.toBitVec_shiftLeft]
  rw [show (Int32.toBitVec 24).smod 32 = 24#32 from by decide]
  have e : x.toInt8.toInt32.toBitVec = (x.toBitVec.signExtend 8).signExtend 32 := rfl
  rw [e, BitVec.signExtend_eq_setWidth_of_le x.toBitVec (by omega)]
  exact nar_bv x.toBitVec 8 (by omega) (by omega)
theorem nar16 (x : Int32) : x.toInt16.toInt32 = (x <<< ((16 : Int32) &&& 31)) >>> ((16 : Int32) &&& 31) := by
  apply Int32.toBitVec_inj.mp
  rw [show (16 : Int32) &&& 31 = (16 : Int32) from by decide, Int32.toBitVec_shiftRight, Int32.toBitVec_shiftLeft]
  rw [show (Int32.toBitVec 16).smod 32 = 16#32 from by decide]
  have e : x.toInt16.toInt32.toBitVec = (x.toBitVec.signExtend 16).signExtend 32 := rfl
  rw [e, BitVec.signExtend_eq_setWidth_of_le x.toBitVec (by omega)]
  exact nar_bv x.toBitVec 16 (by omega) (by omega)
