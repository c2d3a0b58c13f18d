/-! ===== CHECK: eight steps of a bit, or two of four bits ===== -/
def bvP : BitVec 32 := 0xEDB88320#32
def bs (b : BitVec 32) : BitVec 32 := (b >>> 1) ^^^ (if b.getLsbD 0 then bvP else 0#32)
theorem bs_bit (b : BitVec 32) (i : Nat) (hP : bvP.getLsbD i = false) : (bs b).getLsbD i = b.getLsbD (i + 1) := by
  unfold bs
  rw [BitVec.getLsbD_xor, BitVec.getLsbD_ushiftRight]
  cases b.getLsbD 0
  · simp [Nat.add_comm]
  · simp [hP, Nat.add_comm]
def bt4 (x0 x1 x2 x3 : Bool) : BitVec 32 := ((((if x0 then bvP else 0#32) >>> 1 ^^^ (if x1 then bvP else 0#32)) >>> 1 ^^^ (if x2 then bvP else 0#32)) >>> 1) ^^^ (if x3 then bvP else 0#32)
theorem bs4 (b : BitVec 32) : bs (bs (bs (bs b))) = (b >>> 4) ^^^ bt4 (b.getLsbD 0) (b.getLsbD 1) (b.getLsbD 2) (b.getLsbD 3) := by
  have h1 : (bs b).getLsbD 0 = b.getLsbD 1 := bs_bit b 0 (by decide)
  have h2 : (bs (bs b)).getLsbD 0 = b.getLsbD 2 := by rw [bs_bit _ 0 (by decide), bs_bit _ 1 (by decide)]
  have h3 : (bs (bs (bs b))).getLsbD 0 = b.getLsbD 3 := by rw [bs_bit _ 0 (by decide), bs_bit _ 1 (by decide), bs_bit _ 2 (by decide)]
  have e4 : bs (bs (bs (bs b))) = (bs (bs (bs b)) >>> 1) ^^^ (if b.getLsbD 3 then bvP else 0#32) := by
    rw [← h3]; rfl
  have e3 : bs (bs (bs b)) = (bs (bs b) >>> 1) ^^^ (if b.getLsbD 2 then bvP else 0#32) := by
    rw [← h2]; rfl
  have e2 : bs (bs b) = (bs b >>> 1) ^^^ (if b.getLsbD 1 then bvP else 0#32) := by
    rw [← h1]; rfl
  have e1 : bs b = (b >>> 1) ^^^ (if b.getLsbD 0 then bvP else 0#32) := rfl
  rw [e4, e3, e2, e1]
  unfold bt4
  generalize (if b.getLsbD 0 = true then bvP else 0#32) = k0
  generalize (if b.getLsbD 1 = true then bvP else 0#32) = k1
  generalize (if b.getLsbD 2 = true then bvP else 0#32) = k2
  generalize (if b.getLsbD 3 = true then bvP else 0#32) = k3
  simp only [BitVec.ushiftRight_xor_distrib, ← BitVec.shiftRight_add, BitVec.xor_assoc]
/-! over ints -/
def c_us (c : Int32) (k : Int32) : Int32 := (Int32.toUInt32 c >>> (Int32.toUInt32 k &&& Int32.toUInt32 31)).toInt32
def crc1 (c : Int32) : Int32 := if (c &&& 1) = 1 then c_us c 1 ^^^ (-306674912) else c_us c 1
def crc8 (c : Int32) : Int32 := crc1 (crc1 (crc1 (crc1 (crc1 (crc1 (crc1 (crc1 c)))))))
theorem c_us1 (c : Int32) : (c_us c 1).toBitVec = c.toBitVec >>> 1 := by
  apply BitVec.eq_of_toNat_eq
  rw [c_us, pk_ushr c 1 1 (by decide), BitVec.toNat_ushiftRight, Nat.shiftRight_eq_div_pow]
theorem c_us4 (c : Int32) : (c_us c 4).toBitVec = c.toBitVec >>> 4 := by
  apply BitVec.eq_of_toNat_eq
  rw [c_us, pk_ushr c 4 4 (by decide), BitVec.toNat_ushiftRight, Nat.shiftRight_eq_div_pow]
theorem c_lo (c : Int32) : (c &&& 1) = 1 ↔ c.toBitVec.getLsbD 0 = true := by
  have e : (c &&& 1).toBitVec = c.toBitVec &&& 1#32 := rfl
  constructor
  · intro h
    have h2 : c.toBitVec &&& 1#32 = 1#32 := by rw [← e, h]; rfl
    have h3 := congrArg (fun z => z.getLsbD 0) h2
    simpa using h3
  · intro h
    apply Int32.toBitVec_inj.mp
    rw [e]
    show c.toBitVec &&& 1#32 = 1#32
    apply BitVec.eq_of_getLsbD_eq
    intro i hi
    rw [BitVec.getLsbD_and]
    by_cases h0 : i = 0
    · subst h0
      simp [h]
    · have : (1#32 : BitVec 32).getLsbD i = false := by
        rw [BitVec.getLsbD_one]
        simp [h0]
      rw [this]
      simp
theorem crc1_bv (c : Int32) : (crc1 c).toBitVec = bs c.toBitVec := by
  unfold crc1 bs
  by_cases h : (c &&& 1) = 1
  · rw [if_pos h, if_pos ((c_lo c).mp h)]
    show (c_us c 1).toBitVec ^^^ (-306674912 : Int32).toBitVec = _
    rw [c_us1]
    rfl
  · rw [if_neg h, if_neg (fun z => h ((c_lo c).mpr z)), c_us1]
    simp
/-- four bits at once -/
def nib (c : Int32) : Int32 := c_us c 4 ^^^ xC1.getD (c &&& 15).toNatClampNeg 0
theorem nib_tab : ∀ x0 x1 x2 x3 : Bool, (xC1.getD ((if x0 then 1 else 0) + (if x1 then 2 else 0) + (if x2 then 4 else 0) + (if x3 then 8 else 0)) 0).toBitVec = bt4 x0 x1 x2 x3 := by decide +kernel
theorem nib_ix (c : Int32) : (c &&& 15).toNatClampNeg = (if c.toBitVec.getLsbD 0 then 1 else 0) + (if c.toBitVec.getLsbD 1 then 2 else 0) + (if c.toBitVec.getLsbD 2 then 4 else 0) + (if c.toBitVec.getLsbD 3 then 8 else 0) := by
  rw [pk_and c 4 (by decide), nI_clamp (by have := Nat.mod_lt c.toBitVec.toNat (show 0 < 2 ^ 4 by decide); omega)]
  simp only [BitVec.getLsbD, Nat.testBit_eq_decide_div_mod_eq]
  generalize c.toBitVec.toNat = n
  simp only [decide_eq_true_eq]
  split <;> split <;> split <;> split <;> omega
theorem nib_4 (c : Int32) : nib c = crc1 (crc1 (crc1 (crc1 c))) := by
  apply Int32.toBitVec_inj.mp
  rw [crc1_bv, crc1_bv, crc1_bv, crc1_bv, bs4]
  unfold nib
  show (c_us c 4).toBitVec ^^^ _ = _
  rw [c_us4, nib_ix, nib_tab]
theorem nib_8 (c : Int32) : nib (nib c) = crc8 c := by
  rw [nib_4, nib_4]
  rfl
/-- the CHECK of n bytes -/
def crcF (B : Nat → Int32) : Nat → Int32
  | 0 => -1
  | n + 1 => crc8 (crcF B n ^^^ (B n &&& 255))
