theorem put8 (v : Int32) : (v <<< (ii 24 &&& ii 31)) >>> (ii 24 &&& ii 31) = (Int32.toInt8 v).toInt32 := by
  have e : (ii 24 &&& ii 31) = 24 := by decide
  rw [e]
  apply Int32.toBitVec_inj.mp
  simp
  apply BitVec.eq_of_getLsbD_eq
  intro i hi
  simp only [BitVec.getLsbD_sshiftRight, BitVec.getLsbD_signExtend, BitVec.getLsbD_shiftLeft, BitVec.msb_signExtend, BitVec.msb_shiftLeft]
  by_cases h : i < 8
  · have h1 : 24 + i < 32 := by omega
    have h2 : ¬ 32 ≤ i := by omega
    have h3 : ¬ 24 + i < 24 := by omega
    have h4 : 24 + i - 24 = i := by omega
    simp [h, h1, h2, h3, h4, hi]
  · have h1 : ¬ 24 + i < 32 := by omega
    have h2 : ¬ 32 ≤ i := by omega
    simp [h, h1, h2, hi]
theorem put16 (v : Int32) : (v <<< (ii 16 &&& ii 31)) >>> (ii 16 &&& ii 31) = (Int32.toInt16 v).toInt32 := by
  have e : (ii 16 &&& ii 31) = 16 := by decide
  rw [e]
  apply Int32.toBitVec_inj.mp
  simp
  apply BitVec.eq_of_getLsbD_eq
  intro i hi
  simp only [BitVec.getLsbD_sshiftRight, BitVec.getLsbD_signExtend, BitVec.getLsbD_shiftLeft, BitVec.msb_signExtend, BitVec.msb_shiftLeft]
  by_cases h : i < 16
  · have h1 : 16 + i < 32 := by omega
    have h2 : ¬ 32 ≤ i := by omega
    have h3 : ¬ 16 + i < 16 := by omega
    have h4 : 16 + i - 16 = i := by omega
    simp [h, h1, h2, h3, h4, hi]
  · have h1 : ¬ 16 + i < 32 := by omega
    have h2 : ¬ 32 ≤ i := by omega
    simp [h, h1, h2, hi]
theorem put32 (v : Int32) : (v <<< (ii 0 &&& ii 31)) >>> (ii 0 &&& ii 31) = v := by
  have e : (ii 0 &&& ii 31) = 0 := by decide
  rw [e]
  apply Int32.toBitVec_inj.mp
  simp
theorem feed_eq (w : Int64) (i : Nat) (hi : i < 8) : Int64.toInt32 ((Int64.toUInt64 w >>> ((Int32.toInt64 (ii (8 * i))).toUInt64 &&& Int64.toUInt64 63)).toInt64) &&& ii 255 = Int64.toInt32 ((w >>> (Int32.toInt64 (ii (8 * i)) &&& 63)) &&& 255) := by
  have e : ((Int32.toInt64 (ii (8 * i))).toUInt64 &&& Int64.toUInt64 63) = UInt64.ofNat (8 * i) := by
    match i, hi with
    | 0, _ => decide
    | 1, _ => decide
    | 2, _ => decide
    | 3, _ => decide
    | 4, _ => decide
    | 5, _ => decide
    | 6, _ => decide
    | 7, _ => decide
    | i + 8, h => omega
  have e2 : (Int32.toInt64 (ii (8 * i)) &&& 63) = Int64.ofNat (8 * i) := by
    match i, hi with
    | 0, _ => decide
    | 1, _ => decide
    | 2, _ => decide
    | 3, _ => decide
    | 4, _ => decide
    | 5, _ => decide
    | 6, _ => decide
    | 7, _ => decide
    | i + 8, h => omega
  rw [e, e2]
  apply Int32.toBitVec_inj.mp
  have e3 : ((Int64.ofNat (8 * i)).toBitVec.smod 64).toNat = 8 * i := by
    match i, hi with
    | 0, _ => decide
    | 1, _ => decide
    | 2, _ => decide
    | 3, _ => decide
    | 4, _ => decide
    | 5, _ => decide
    | 6, _ => decide
    | 7, _ => decide
    | i + 8, h => omega
  have e4 : ∀ x y : Int64, (x &&& y).toInt32 = x.toInt32 &&& y.toInt32 := fun x y => by simp
  rw [e4, Int32.toBitVec_and, Int32.toBitVec_and]
  have e5 : (Int64.toInt32 255).toBitVec = (ii 255).toBitVec := by decide
  rw [e5]
  simp only [Int64.toBitVec_toInt32, Int64.toBitVec_shiftRight, UInt64.toBitVec_shiftRight, UInt64.toBitVec_toInt64, Int64.toBitVec_toUInt64]
  apply BitVec.eq_of_getLsbD_eq
  intro j hj
  have m : (ii 255).toBitVec.getLsbD j = decide (j < 8) := (by decide : ∀ j, j < 32 → (ii 255).toBitVec.getLsbD j = decide (j < 8)) j hj
  have e7 : ((UInt64.ofNat (8 * i)).toBitVec % 64).toNat = 8 * i := by
    match i, hi with
    | 0, _ => decide
    | 1, _ => decide
    | 2, _ => decide
    | 3, _ => decide
    | 4, _ => decide
    | 5, _ => decide
    | 6, _ => decide
    | 7, _ => decide
    | i + 8, h => omega
  rw [BitVec.getLsbD_and, BitVec.getLsbD_and, m]
  by_cases h : j < 8
  · rw [BitVec.ushiftRight_eq', BitVec.sshiftRight_eq', e3, e7, BitVec.getLsbD_signExtend, BitVec.getLsbD_signExtend, BitVec.getLsbD_ushiftRight, BitVec.getLsbD_sshiftRight]
    have h1 : j < 64 := by omega
    have h2 : 8 * i + j < 64 := by omega
    have h3 : ¬ 64 ≤ j := by omega
    simp [h1, h2, h3]
  · simp [h]
theorem and255 (x : Int32) : ∃ z : Int, 0 ≤ z ∧ z ≤ 255 ∧ x &&& ii 255 = ii z := by
  have h : (x &&& ii 255).toBitVec.toNat ≤ 255 := by
    rw [Int32.toBitVec_and, BitVec.toNat_and]
    exact Nat.and_le_right
  refine ⟨(x &&& ii 255).toInt, ?_, ?_, (ii_of _).symm⟩
  · show 0 ≤ (x &&& ii 255).toBitVec.toInt
    rw [BitVec.toInt_eq_toNat_of_lt (by omega)]; omega
  · show (x &&& ii 255).toBitVec.toInt ≤ 255
    rw [BitVec.toInt_eq_toNat_of_lt (by omega)]; omega
