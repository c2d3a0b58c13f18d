/-! ===== what is made is TRUE ===== -/
theorem or_add2 {x b : Nat} (hb : b < 256) (hx : x < 16777216) : nI (x * 256) ||| nI b = nI (x * 256 + b) := by
  have w1 : x * 256 < 4294967296 := by omega
  have w2 : b < 4294967296 := by omega
  have w3 : x * 256 + b < 4294967296 := by
    have h1 : x * 256 ≤ 16777215 * 256 := Nat.mul_le_mul_right 256 (by omega)
    exact Nat.lt_of_le_of_lt (Nat.add_le_add h1 (Nat.le_of_lt_succ hb)) (by decide)
  apply Int32.toBitVec_inj.mp
  rw [Int32.toBitVec_or]
  apply BitVec.eq_of_toNat_eq
  rw [BitVec.toNat_or]
  have e : ∀ n, n < 4294967296 → (nI n).toBitVec.toNat = n := fun n hn => by
    show (BitVec.ofNat 32 n).toNat = n
    rw [BitVec.toNat_ofNat, Nat.mod_eq_of_lt (show n < 2 ^ 32 from hn)]
  have e1 := e (x * 256) w1
  have e2 := e b w2
  have e3 := e (x * 256 + b) w3
  rw [e1, e2, e3]
  have := Nat.two_pow_add_eq_or_of_lt (i := 8) hb x
  rw [Nat.mul_comm x 256]
  exact this.symm
theorem num_N4 (L : List Int32) (i : Nat) : ∀ n, n ≤ 4 → num L i n = nI (numN L i n)
  | 0, _ => rfl
  | n + 1, h => by
    have ih := num_N4 L i n (by omega)
    show (num L i n <<< ((8 : Int32) &&& 31)) ||| (L.getD (i + n) 0 &&& (255 : Int32)) = nI (numN L i n * 256 + bn L (i + n))
    have hl := numN_lt L i n
    have hl2 : numN L i n < 16777216 := by
      have : 256 ^ n ≤ 256 ^ 3 := Nat.pow_le_pow_right (by omega) (by omega)
      omega
    rw [ih, bn_eq, pk_shlN _ 8 (by decide) (by omega)]
    exact or_add2 (bn_lt _ _) hl2
theorem i8and (X : Int8) : (X.toInt32 &&& 255) = nI X.toBitVec.toNat := by
  apply Int32.toBitVec_inj.mp
  rw [Int32.toBitVec_and, Int8.toBitVec_toInt32]
  apply BitVec.eq_of_getLsbD_eq
  intro k hk
  have e : (nI X.toBitVec.toNat).toBitVec = X.toBitVec.setWidth 32 := by
    apply BitVec.eq_of_toNat_eq
    show (BitVec.ofNat 32 X.toBitVec.toNat).toNat = _
    rw [BitVec.toNat_ofNat, BitVec.toNat_setWidth]
  rw [e, BitVec.getLsbD_and, BitVec.getLsbD_signExtend, BitVec.getLsbD_setWidth]
  have e2 : (255 : Int32).toBitVec.getLsbD k = decide (k < 8) := by
    have : ∀ k, k < 32 → (255 : Int32).toBitVec.getLsbD k = decide (k < 8) := by decide
    exact this k hk
  rw [e2]
  by_cases q : k < 8
  · simp [q, hk]
  · have : X.toBitVec.getLsbD k = false := BitVec.getLsbD_of_ge _ _ (by omega)
    simp [q, hk, this]
theorem by8_n (w : Int64) {k : Nat} (hk : k < 8) : (by8 w k &&& 255) = nI (w.toBitVec.toNat / 256 ^ k % 256) := by
  unfold by8
  rw [i8and]
  have hs : ((Int32.toInt64 (8 * nI k) &&& 63).toBitVec.smod 64).toNat = 8 * k := by
    have : ∀ k, k < 8 → ((Int32.toInt64 (8 * nI k) &&& 63).toBitVec.smod 64).toNat = 8 * k := by decide
    exact this k hk
  rw [sh_a w _ (8 * k) hs (by omega), BitVec.toNat_setWidth, BitVec.toNat_ushiftRight, Nat.shiftRight_eq_div_pow, Nat.pow_mul]
theorem bn_by (w : Int64) {A C : List Int32} {n j : Nat} (hn : n ≤ 8) (hj : j < n) : bn (A ++ byL w n ++ C) (A.length + j) = w.toBitVec.toNat / 256 ^ (n - 1 - j) % 256 := by
  have e : (A ++ byL w n ++ C).getD (A.length + j) 0 = by8 w (n - 1 - j) := by
    rw [List.getD_eq_getElem?_getD, List.append_assoc, List.getElem?_append_right (by omega), List.getElem?_append_left (by rw [byL_len]; omega), show A.length + j - A.length = j by omega, byL_get w n j hj]
    rfl
  unfold bn
  rw [e, by8_n w (by omega), nI_clamp (by have := Nat.mod_lt (w.toBitVec.toNat / 256 ^ (n - 1 - j)) (show 256 > 0 by omega); omega)]
theorem numN_by (w : Int64) {A C : List Int32} {n : Nat} (hn : n ≤ 8) : ∀ m, m ≤ n → numN (A ++ byL w n ++ C) A.length m = w.toBitVec.toNat / 256 ^ (n - m) % 256 ^ m
  | 0, _ => by rw [Nat.pow_zero, Nat.mod_one]; rfl
  | m + 1, h => by
    show numN (A ++ byL w n ++ C) A.length m * 256 + bn (A ++ byL w n ++ C) (A.length + m) = _
    rw [numN_by w hn m (by omega), bn_by w hn (by omega), show n - 1 - m = n - (m + 1) by omega]
    have e : 256 ^ (n - m) = 256 ^ (n - (m + 1)) * 256 := by rw [← Nat.pow_succ]; congr 1; omega
    rw [e, ← Nat.div_div_eq_div_mul, Nat.pow_succ, Nat.mul_comm (256 ^ m) 256, Nat.mod_mul]
    omega
theorem nI_back (c : Int32) : nI (c.toInt64.toBitVec.toNat % 256 ^ 4) = c := by
  apply Int32.toBitVec_inj.mp
  apply BitVec.eq_of_toNat_eq
  show (BitVec.ofNat 32 _).toNat = _
  rw [BitVec.toNat_ofNat, show 256 ^ 4 = 2 ^ 32 by decide, Nat.mod_mod]
  have : c.toBitVec = (c.toInt64.toBitVec).setWidth 32 := by
    rw [Int32.toBitVec_toInt64]
    apply BitVec.eq_of_getLsbD_eq
    intro k hk
    rw [BitVec.getLsbD_setWidth, BitVec.getLsbD_signExtend]
    have : k < 64 := by omega
    simp [hk, this]
  rw [this, BitVec.toNat_setWidth]
theorem clL_len {L : List Int32} : (clL L).length = L.length + 4 := by
  unfold clL
  rw [List.length_append, List.length_set, byL_len]
theorem clL_get {L : List Int32} {i : Nat} (hi : i < L.length) (h12 : i ≠ 12) : bn (clL L) i = bn L i := by
  unfold bn clL
  rw [List.getD_eq_getElem?_getD, List.getElem?_append_left (by rw [List.length_set]; exact hi), List.getElem?_set_ne (Ne.symm h12), ← List.getD_eq_getElem?_getD]
theorem tru_cl {L : List Int32} {sw nd : Nat} (h13 : 13 ≤ L.length) (h76 : L.length ≤ 76) : tru sw nd (clL L) = hfF sw nd (clL L) := by
  have hl := clL_len (L := L)
  have e1 : num (clL L) ((clL L).length - 4) 4 = crcL (L.set 12 (nI L.length - 13).toInt8.toInt32) := by
    rw [num_N4 _ _ 4 (by omega)]
    have hA : (L.set 12 (nI L.length - 13).toInt8.toInt32).length = L.length := List.length_set
    have := numN_by (crcL (L.set 12 (nI L.length - 13).toInt8.toInt32)).toInt64 (A := L.set 12 (nI L.length - 13).toInt8.toInt32) (C := []) (n := 4) (by omega) 4 (by omega)
    rw [List.append_nil, hA] at this
    rw [hl, show L.length + 4 - 4 = L.length by omega]
    show nI (numN (L.set 12 (nI L.length - 13).toInt8.toInt32 ++ byL (crcL (L.set 12 (nI L.length - 13).toInt8.toInt32)).toInt64 4) L.length 4) = _
    rw [this, Nat.sub_self, Nat.pow_zero, Nat.div_one]
    exact nI_back _
  have e2 : crcF (fun j => (clL L).getD j 0) ((clL L).length - 4) ^^^ (-1) = crcL (L.set 12 (nI L.length - 13).toInt8.toInt32) := by
    unfold crcL
    rw [hl, List.length_set, show L.length + 4 - 4 = L.length by omega]
    congr 1
    refine crcF_congr (fun i hi => ?_)
    show (clL L).getD i 0 = (L.set 12 (nI L.length - 13).toInt8.toInt32).getD i 0
    unfold clL
    rw [List.getD_eq_getElem?_getD, List.getElem?_append_left (by rw [List.length_set]; exact hi), ← List.getD_eq_getElem?_getD]
  have e3 : bn (clL L) 12 = (clL L).length - 17 := by
    rw [hl]
    unfold bn clL
    rw [List.getD_eq_getElem?_getD, List.getElem?_append_left (by rw [List.length_set]; omega), List.getElem?_set_self (by omega)]
    show ((nI L.length - 13).toInt8.toInt32 &&& 255).toNatClampNeg = _
    rw [show nI L.length - 13 = nI (L.length - 13) from pk_sub (b := 13) (by omega)]
    have : ∀ n, n < 64 → ((nI n).toInt8.toInt32 &&& 255).toNatClampNeg = n := by decide
    rw [this _ (by omega)]
    omega
  unfold tru
  rw [if_pos (e1.trans e2.symm), if_pos e3]
/-- the head of a frame -/
theorem hd_len {k t f o r p : Int32} : (hdL k t f o r p).length = 13 := rfl
theorem hd_0 {k : Nat} {t f o r p : Int32} {T : List Int32} (hk : k < 128) : bn (hdL (nI k) t f o r p ++ T) 0 = k := by
  show (by8 (nI k).toInt64 0 &&& 255).toNatClampNeg = k
  rw [by8_n _ (by omega), nI_l (by omega), Nat.pow_zero, Nat.div_one]
  have : (lN k).toBitVec.toNat = k := by
    show (BitVec.ofNat 64 k).toNat = k
    rw [BitVec.toNat_ofNat]
    exact Nat.mod_eq_of_lt (by omega)
  rw [this, Nat.mod_eq_of_lt (by omega), nI_clamp (by omega)]
theorem hd_T {k t f o r p : Int32} {T : List Int32} {j : Nat} : bn (hdL k t f o r p ++ T) (13 + j) = bn T j := by
  unfold bn
  rw [List.getD_eq_getElem?_getD, List.getElem?_append_right (by rw [hd_len]; omega), hd_len, show 13 + j - 13 = j by omega, ← List.getD_eq_getElem?_getD]
/-- the n bytes of a small number -/
theorem bn_small {v n j : Nat} {C : List Int32} (hn : n ≤ 8) (hj : j < n) (hv : v < 2147483648) : bn (byL (nI v).toInt64 n ++ C) j = v / 256 ^ (n - 1 - j) % 256 := by
  have := bn_by (nI v).toInt64 (A := []) (C := C) hn hj
  rw [List.nil_append, List.length_nil, Nat.zero_add] at this
  rw [this, nI_l (by omega)]
  have : (lN v).toBitVec.toNat = v := by
    show (BitVec.ofNat 64 v).toNat = v
    rw [BitVec.toNat_ofNat]
    exact Nat.mod_eq_of_lt (by omega)
  rw [this]
