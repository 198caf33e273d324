/-! a byte as the class and as the reference keep it -/
def ub (a : Int) : Int := if a < 0 then a + 256 else a
def mbR (a : Int64) (k : Int) : Int := ((a >>> ((ii (8 * k)).toInt64 &&& 63)) &&& ll 255).toInt32.toInt
theorem sh1 : ∀ k : Nat, k < 8 → ((ii (8 * (k : Int))).toInt64.toUInt64 &&& Int64.toUInt64 63).toBitVec % 64 = BitVec.ofNat 64 (8 * k) := by decide +kernel
theorem sh2 : ∀ k : Nat, k < 8 → (((ii (8 * (k : Int))).toInt64 &&& 63).toBitVec.smod 64).toNat = 8 * k := by decide +kernel
theorem ib_ib (x : Int32) : iByte (iByte x.toInt) = x.toInt8.toInt := by
  unfold iByte
  rw [ii_toInt, ii_toInt]
  rw [Int8.toInt_toInt32]
  congr 1
  simp
theorem ub_bv (B : BitVec 8) : ub B.toInt = (B.toNat : Int) := by
  unfold ub
  have := B.isLt
  rw [BitVec.toInt_eq_toNat_cond]
  split <;> split <;> omega
theorem m255 : ∀ i : Nat, i < 64 → (ll 255).toBitVec.getLsbD i = decide (i < 8) := by decide +kernel
theorem byte_eq (a : Int64) {k : Nat} (hk : k < 8) : mbR a (k : Int) = ub (cbR a (k : Int)) := by
  unfold cbR mbR
  rw [ib_ib]
  have e1 : (((a.toUInt64 >>> ((ii (8 * (k : Int))).toInt64.toUInt64 &&& Int64.toUInt64 63)).toInt64).toInt32.toInt8).toInt = (a.toBitVec.extractLsb' (8 * k) 8).toInt := by
    show BitVec.toInt (((a.toUInt64.toBitVec >>> (((ii (8 * (k : Int))).toInt64.toUInt64 &&& Int64.toUInt64 63).toBitVec % 64)).signExtend 32).signExtend 8) = _
    rw [sh1 k hk]
    congr 1
    apply BitVec.eq_of_getLsbD_eq
    intro i hi
    rw [BitVec.getLsbD_signExtend, BitVec.getLsbD_signExtend, BitVec.getLsbD_extractLsb', BitVec.ushiftRight_eq', BitVec.getLsbD_ushiftRight, BitVec.toNat_ofNat, Nat.mod_eq_of_lt (by omega)]
    have h1 : i < 32 := by omega
    have h2 : i < 64 := by omega
    simp [hi, h1, h2]
  rw [e1, ub_bv]
  have e2 : (((a >>> ((ii (8 * (k : Int))).toInt64 &&& 63)) &&& ll 255).toInt32).toBitVec = (a.toBitVec.extractLsb' (8 * k) 8).setWidth 32 := by
    show ((a.toBitVec.sshiftRight (((ii (8 * (k : Int))).toInt64 &&& 63).toBitVec.smod 64).toNat) &&& (ll 255).toBitVec).signExtend 32 = _
    rw [sh2 k hk]
    apply BitVec.eq_of_getLsbD_eq
    intro i hi
    have h2 : i < 64 := by omega
    rw [BitVec.getLsbD_signExtend, BitVec.getLsbD_setWidth, BitVec.getLsbD_and, BitVec.getLsbD_extractLsb', BitVec.getLsbD_sshiftRight]
    have h3 : (ll 255).toBitVec.getLsbD i = decide (i < 8) := m255 i h2
    rw [h3]
    by_cases h8 : i < 8
    · have h4 : 8 * k + i < 64 := by omega
      simp [hi, h2, h8, h4]
    · simp [hi, h8]
      intro q; omega
  have e3 : (((a >>> ((ii (8 * (k : Int))).toInt64 &&& 63)) &&& ll 255).toInt32).toInt = ((a.toBitVec.extractLsb' (8 * k) 8).setWidth 32).toInt := congrArg BitVec.toInt e2
  rw [e3, BitVec.toInt_eq_toNat_of_lt]
  · rw [BitVec.toNat_setWidth, Nat.mod_eq_of_lt (by have := (a.toBitVec.extractLsb' (8 * k) 8).isLt; omega)]
  · rw [BitVec.toNat_setWidth, Nat.mod_eq_of_lt (by have := (a.toBitVec.extractLsb' (8 * k) 8).isLt; omega)]
    have := (a.toBitVec.extractLsb' (8 * k) 8).isLt
    omega
