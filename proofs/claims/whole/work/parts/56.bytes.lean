/-! ===== a byte of a number, however it is shifted out ===== -/
theorem sh_a (w s : Int64) (n : Nat) (hs : (s.toBitVec.smod 64).toNat = n) (hn : n ≤ 56) : ((w >>> s).toInt32.toInt8).toBitVec = (w.toBitVec >>> n).setWidth 8 := by
  apply BitVec.eq_of_getLsbD_eq
  intro i hi
  rw [Int32.toBitVec_toInt8, Int64.toBitVec_toInt32, Int64.toBitVec_shiftRight]
  simp only [BitVec.getLsbD_signExtend, BitVec.sshiftRight', hs, BitVec.getLsbD_sshiftRight, BitVec.getLsbD_setWidth, BitVec.getLsbD_ushiftRight]
  have h1 : n + i < 64 := by omega
  have h2 : i < 32 := by omega
  have h3 : i < 64 := by omega
  have h4 : ¬ 64 ≤ i := by omega
  simp [hi, h1, h2, h3, h4]
theorem sh_u (w : Int64) (s : UInt64) (n : Nat) (hs : (s.toBitVec % 64).toNat = n) (hn : n ≤ 56) : (((w.toUInt64 >>> s).toInt64).toInt32.toInt8).toBitVec = (w.toBitVec >>> n).setWidth 8 := by
  apply BitVec.eq_of_getLsbD_eq
  intro i hi
  have e : ((w.toUInt64 >>> s).toInt64).toBitVec = w.toBitVec >>> n := by
    rw [← hs]
    rfl
  rw [Int32.toBitVec_toInt8, Int64.toBitVec_toInt32, e]
  simp only [BitVec.getLsbD_signExtend, BitVec.getLsbD_setWidth, BitVec.getLsbD_ushiftRight]
  have h2 : i < 32 := by omega
  have h3 : i < 64 := by omega
  simp [hi, h2, h3]
theorem sh_i (v s : Int32) (n : Nat) (hs : (s.toBitVec.smod 32).toNat = n) (hn : n ≤ 24) : ((v >>> s).toInt8).toBitVec = (v.toInt64.toBitVec >>> n).setWidth 8 := by
  apply BitVec.eq_of_getLsbD_eq
  intro i hi
  rw [Int32.toBitVec_toInt8, Int32.toBitVec_shiftRight, Int32.toBitVec_toInt64]
  simp only [BitVec.getLsbD_signExtend, BitVec.sshiftRight', hs, BitVec.getLsbD_sshiftRight, BitVec.getLsbD_setWidth, BitVec.getLsbD_ushiftRight]
  have h1 : n + i < 32 := by omega
  have h2 : i < 32 := by omega
  have h3 : n + i < 64 := by omega
  have h4 : ¬ 32 ≤ i := by omega
  simp [hi, h1, h2, h3, h4]
theorem i8_bv {x y : Int8} (h : x.toBitVec = y.toBitVec) : x = y := Int8.toBitVec_inj.mp h
/-- the class's put shifts without sign -/
theorem by8_u (w : Int64) {k : Nat} (hk : k < 8) : (Int32.toInt8 (Int64.toInt32 (Int64.toUInt64 w >>> ((Int32.toInt64 (8 * nI k)).toUInt64 &&& Int64.toUInt64 63)).toInt64)).toInt32 = by8 w k := by
  unfold by8
  have h0 : k = 0 ∨ k = 1 ∨ k = 2 ∨ k = 3 ∨ k = 4 ∨ k = 5 ∨ k = 6 ∨ k = 7 := by omega
  rcases h0 with rfl | rfl | rfl | rfl | rfl | rfl | rfl | rfl
  · exact congrArg Int8.toInt32 (i8_bv ((sh_u w _ 0 (by decide) (by decide)).trans (sh_a w _ 0 (by decide) (by decide)).symm))
  · exact congrArg Int8.toInt32 (i8_bv ((sh_u w _ 8 (by decide) (by decide)).trans (sh_a w _ 8 (by decide) (by decide)).symm))
  · exact congrArg Int8.toInt32 (i8_bv ((sh_u w _ 16 (by decide) (by decide)).trans (sh_a w _ 16 (by decide) (by decide)).symm))
  · exact congrArg Int8.toInt32 (i8_bv ((sh_u w _ 24 (by decide) (by decide)).trans (sh_a w _ 24 (by decide) (by decide)).symm))
  · exact congrArg Int8.toInt32 (i8_bv ((sh_u w _ 32 (by decide) (by decide)).trans (sh_a w _ 32 (by decide) (by decide)).symm))
  · exact congrArg Int8.toInt32 (i8_bv ((sh_u w _ 40 (by decide) (by decide)).trans (sh_a w _ 40 (by decide) (by decide)).symm))
  · exact congrArg Int8.toInt32 (i8_bv ((sh_u w _ 48 (by decide) (by decide)).trans (sh_a w _ 48 (by decide) (by decide)).symm))
  · exact congrArg Int8.toInt32 (i8_bv ((sh_u w _ 56 (by decide) (by decide)).trans (sh_a w _ 56 (by decide) (by decide)).symm))
/-- the class's start shifts ints -/
theorem by8_i2 (v : Int32) : (Int32.toInt8 (v >>> ((16 : Int32) &&& 31))).toInt32 = by8 v.toInt64 2 := congrArg Int8.toInt32 (i8_bv ((sh_i v _ 16 (by decide) (by decide)).trans (sh_a v.toInt64 _ 16 (by decide) (by decide)).symm))
theorem by8_i1 (v : Int32) : (Int32.toInt8 (v >>> ((8 : Int32) &&& 31))).toInt32 = by8 v.toInt64 1 := congrArg Int8.toInt32 (i8_bv ((sh_i v _ 8 (by decide) (by decide)).trans (sh_a v.toInt64 _ 8 (by decide) (by decide)).symm))
theorem by8_i0' (v : Int32) : (Int32.toInt8 (v >>> ((0 : Int32) &&& 31))).toInt32 = by8 v.toInt64 0 := congrArg Int8.toInt32 (i8_bv ((sh_i v _ 0 (by decide) (by decide)).trans (sh_a v.toInt64 _ 0 (by decide) (by decide)).symm))
theorem by8_i0 (v : Int32) : (Int32.toInt8 v).toInt32 = by8 v.toInt64 0 := by
  rw [← by8_i0', sb_shr0]
