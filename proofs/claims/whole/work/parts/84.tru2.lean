/-! ===== numbers of bytes as naturals; hasForm, isTrue: the class ===== -/
def numN (L : List Int32) (i : Nat) : Nat → Nat
  | 0 => 0
  | n + 1 => numN L i n * 256 + bn L (i + n)
theorem numN_lt (L : List Int32) (i : Nat) : ∀ n, numN L i n < 256 ^ n
  | 0 => by show 0 < 1; omega
  | n + 1 => by
    have := numN_lt L i n
    have := bn_lt L (i + n)
    show numN L i n * 256 + bn L (i + n) < 256 ^ (n + 1)
    rw [Nat.pow_succ]
    omega
theorem or_add {x b : Nat} (hb : b < 256) (hx : x * 256 < 2147483648) : nI (x * 256) ||| nI b = nI (x * 256 + b) := by
  have w1 : x * 256 < 4294967296 := by omega
  have w2 : b < 4294967296 := by omega
  have w3 : x * 256 + b < 4294967296 := Nat.lt_of_lt_of_le (Nat.add_lt_add hx hb) (by decide)
  apply Int32.toBitVec_inj.mp
  rw [Int32.toBitVec_or]
  apply BitVec.eq_of_toNat_eq
  rw [BitVec.toNat_or]
  have e : ∀ n, n < 4294967296 → (nI n).toBitVec.toNat = n := fun n hn => by
    show (BitVec.ofNat 32 n).toNat = n
    rw [BitVec.toNat_ofNat, Nat.mod_eq_of_lt (show n < 2 ^ 32 from hn)]
  have e1 := e (x * 256) w1
  have e2 := e b w2
  have e3 := e (x * 256 + b) w3
  rw [e1, e2, e3]
  have := Nat.two_pow_add_eq_or_of_lt (i := 8) hb x
  rw [Nat.mul_comm x 256]
  exact this.symm
theorem num_N (L : List Int32) (i : Nat) : ∀ n, n ≤ 3 → num L i n = nI (numN L i n)
  | 0, _ => rfl
  | n + 1, h => by
    have ih := num_N L i n (by omega)
    show (num L i n <<< ((8 : Int32) &&& 31)) ||| (L.getD (i + n) 0 &&& (255 : Int32)) = nI (numN L i n * 256 + bn L (i + n))
    have hl := numN_lt L i n
    have hl2 : numN L i n < 65536 := by
      have : 256 ^ n ≤ 256 ^ 2 := Nat.pow_le_pow_right (by omega) (by omega)
      omega
    rw [ih, bn_eq, pk_shlN _ 8 (by decide) (by omega)]
    exact or_add (bn_lt _ _) (by omega)
theorem or_add8 {x b : Nat} (hb : b < 256) (hx : x * 256 < 9223372036854775808) : lN (x * 256) ||| lN b = lN (x * 256 + b) := by
  have w1 : x * 256 < 18446744073709551616 := by omega
  have w2 : b < 18446744073709551616 := by omega
  have w3 : x * 256 + b < 18446744073709551616 := Nat.lt_of_lt_of_le (Nat.add_lt_add hx hb) (by decide)
  apply Int64.toBitVec_inj.mp
  rw [Int64.toBitVec_or]
  apply BitVec.eq_of_toNat_eq
  rw [BitVec.toNat_or]
  have e : ∀ n, n < 18446744073709551616 → (lN n).toBitVec.toNat = n := fun n hn => by
    show (BitVec.ofNat 64 n).toNat = n
    rw [BitVec.toNat_ofNat, Nat.mod_eq_of_lt (show n < 2 ^ 64 from hn)]
  have e1 := e (x * 256) w1
  have e2 := e b w2
  have e3 := e (x * 256 + b) w3
  rw [e1, e2, e3]
  have := Nat.two_pow_add_eq_or_of_lt (i := 8) hb x
  rw [Nat.mul_comm x 256]
  exact this.symm
theorem shl8 {x : Nat} (hx : x * 256 < 2 ^ 63) : lN x <<< (Int32.toInt64 8 &&& 63) = lN (x * 256) := by
  apply Int64.toBitVec_inj.mp
  rw [Int64.toBitVec_shiftLeft]
  have e1 : (Int32.toInt64 8 &&& 63).toBitVec = 8#64 := by decide
  rw [e1, show (8#64).smod 64 = 8#64 by decide]
  apply BitVec.eq_of_toNat_eq
  have e : ∀ n, n < 2 ^ 64 → (lN n).toBitVec.toNat = n := fun n hn => by
    show (BitVec.ofNat 64 n).toNat = n
    rw [BitVec.toNat_ofNat, Nat.mod_eq_of_lt hn]
  rw [BitVec.shiftLeft_eq', BitVec.toNat_shiftLeft, e _ (by omega), e _ (by omega), show (8#64).toNat = 8 by decide, Nat.shiftLeft_eq, Nat.mod_eq_of_lt (by omega)]
theorem num8_N (L : List Int32) (i : Nat) : ∀ n, n ≤ 3 → num8 L i n = lN (numN L i n)
  | 0, _ => rfl
  | n + 1, h => by
    have ih := num8_N L i n (by omega)
    show (num8 L i n <<< (Int32.toInt64 8 &&& 63)) ||| (L.getD (i + n) 0 &&& (255 : Int32)).toInt64 = lN (numN L i n * 256 + bn L (i + n))
    have hl := numN_lt L i n
    have hb := bn_lt L (i + n)
    have hl2 : numN L i n < 65536 := by
      have : 256 ^ n ≤ 256 ^ 2 := Nat.pow_le_pow_right (by omega) (by omega)
      omega
    rw [ih, bn_eq, shl8 (by omega), nI_l (by omega)]
    exact or_add8 hb (by omega)
theorem num_0 {L : List Int32} {i : Nat} : num8 L i 3 = 0 ↔ num L i 3 = 0 := by
  rw [num_N L i 3 (by omega), num8_N L i 3 (by omega)]
  have hl : numN L i 3 < 2 ^ 24 := numN_lt L i 3
  have e1 : (lN (numN L i 3) = lN 0) ↔ numN L i 3 = 0 := pk_lEQ (by omega) (by omega)
  have e2 : (nI (numN L i 3) = nI 0) ↔ numN L i 3 = 0 := nI_eq (by omega) (by omega)
  exact e1.trans e2.symm
theorem lg_0 {x : Int64} : lg_cmp x 0 = 0 ↔ x = 0 := by
  unfold lg_cmp
  by_cases h1 : x > 0
  · rw [if_pos h1]
    refine ⟨fun q => absurd q (by decide), fun q => ?_⟩
    subst q
    exact absurd h1 (by decide)
  · rw [if_neg h1]
    by_cases h2 : x = 0
    · rw [if_pos h2]; exact ⟨fun _ => h2, fun _ => rfl⟩
    · rw [if_neg h2]; exact ⟨fun q => absurd q (by decide), fun q => absurd q h2⟩
section TC
variable {M : hM} {a sw nd : Nat} {L : List Int32}
theorem lz {n c : Nat} (hn : 17 ≤ n) (h4 : n ≤ 48) (hc : c < 100) : nI (n - 17) = nI c ↔ n = c + 17 := by
  rw [nI_eq (by omega) (by omega)]
  omega
theorem f59_eq (h : rd M a L) (h2 : h_tg M 2 = 10) (h9 : h_fi M 900 2 = nI sw) (h91 : h_fi M 901 2 = nI nd) (hs8 : sw < 256) (hn8 : nd < 256) (h17 : 17 ≤ L.length) (hk2 : ¬ bn L 0 = 2) : f59 [.inr (.inr (some a)), .inl (nI (L.length - 17)), .inr (.inr (some 2))] M = some (some (.inl (b2 (hfF sw nd L))), M) := by
  have h48 := h.2.2.1
  have ht := h.1.1
  have e0 := f57_eq h (by omega)
  have z1 : nI (L.length - 17) = 1 ↔ L.length = 18 := lz (c := 1) h17 h48 (by omega)
  have z4 : nI (L.length - 17) = 4 ↔ L.length = 21 := lz (c := 4) h17 h48 (by omega)
  have z8 : nI (L.length - 17) = 8 ↔ L.length = 25 := lz (c := 8) h17 h48 (by omega)
  have kb := bn_lt L 0
  have q1 : nI (bn L 0) = 1 ↔ bn L 0 = 1 := nI_eq (b := 1) (by omega) (by omega)
  have q2 : nI (bn L 0) = 2 ↔ bn L 0 = 2 := nI_eq (b := 2) (by omega) (by omega)
  have q3 : nI (bn L 0) = 3 ↔ bn L 0 = 3 := nI_eq (b := 3) (by omega) (by omega)
  have q4 : nI (bn L 0) = 4 ↔ bn L 0 = 4 := nI_eq (b := 4) (by omega) (by omega)
  have q5 : nI (bn L 0) = 5 ↔ bn L 0 = 5 := nI_eq (b := 5) (by omega) (by omega)
  have q6 : nI (bn L 0) = 6 ↔ bn L 0 = 6 := nI_eq (b := 6) (by omega) (by omega)
  have q7 : nI (bn L 0) = 7 ↔ bn L 0 = 7 := nI_eq (b := 7) (by omega) (by omega)
  have q8 : nI (bn L 0) = 8 ↔ bn L 0 = 8 := nI_eq (b := 8) (by omega) (by omega)
  have q9 : nI (bn L 0) = 9 ↔ bn L 0 = 9 := nI_eq (b := 9) (by omega) (by omega)
  have q10 : nI (bn L 0) = 10 ↔ bn L 0 = 10 := nI_eq (b := 10) (by omega) (by omega)
  have q11 : nI (bn L 0) = 11 ↔ bn L 0 = 11 := nI_eq (b := 11) (by omega) (by omega)
  have q12 : nI (bn L 0) = 12 ↔ bn L 0 = 12 := nI_eq (b := 12) (by omega) (by omega)
  have b13 := bn_lt L 13
  have d0 : 18 ≤ L.length → f58 [.inr (.inr (some a)), .inl (0 : Int32)] M = some (some (.inl (nI (bn L 13))), M) := fun q => f58_eq (i := 0) h (by omega)
  have d1 : 18 < L.length → f58 [.inr (.inr (some a)), .inl (1 : Int32)] M = some (some (.inl (nI (bn L 14))), M) := fun q => f58_eq (i := 1) h (by omega)
  have d3 : 18 < L.length → f58 [.inr (.inr (some a)), .inl (3 : Int32)] M = some (some (.inl (nI (bn L 16))), M) := fun q => f58_eq (i := 3) h (by omega)
  have d14 : 18 < L.length → f56 [.inr (.inr (some a)), .inl (14 : Int32), .inl (3 : Int32)] M = some (some (.inr (.inl (num8 L 14 3))), M) := fun q => f56_eq (i := 14) (n := 3) h (by omega)
  have h8 := f8_eq (v := bn L 13) h2 h91 b13 hn8
  by_cases k1 : bn L 0 = 1
  · have g : nI (bn L 0) = 1 := q1.mpr k1
    by_cases c : L.length = 18
    · have z : nI (L.length - 17) = 1 := z1.mpr c
      have d0 := d0 (by omega)
      by_cases c2 : bn L 13 < sw
      · have c2' : ¬ nI sw ≤ nI (bn L 13) := nI_ge c2 (by omega)
        have eh : hfF sw nd L = true := by simp [hfF, k1, c, c2]
        rw [eh]
        simp [f59, b59_0, b59_89, b59_90, b59_112, b59_113, b59_158, b59_162, b59_163, b59_182, b59_183, b59_194, b59_206, b59_225, b59_226, ht, e0, g, z, d0, h2, h9, c2', b2, g_i, g_r, g_l, g_o, p_i, p_r, p_l, p_z, c_V, c_I, c_L, c_R, x_out, z_fl_pi, z_fr_pi, z_ai_pi, z_al_pi, z_ar_pi, z_ln_pi, z_tg_pi, z_sz_pi, z_sl_pi, z_fi_pl, z_fr_pl, z_ai_pl, z_al_pl, z_ar_pl, z_ln_pl, z_tg_pl, z_sz_pl, z_sl_pl, z_fi_pr, z_fl_pr, z_ai_pr, z_al_pr, z_ar_pr, z_ln_pr, z_tg_pr, z_sz_pr, z_sl_pr, z_fi_qi, z_fl_qi, z_fr_qi, z_al_qi, z_ar_qi, z_ln_qi, z_tg_qi, z_sz_qi, z_sl_qi, z_fi_ql, z_fl_ql, z_fr_ql, z_ai_ql, z_ar_ql, z_ln_ql, z_tg_ql, z_sz_ql, z_sl_ql, z_fi_qr, z_fl_qr, z_fr_qr, z_ai_qr, z_al_qr, z_ln_qr, z_tg_qr, z_sz_qr, z_sl_qr, z_fi_ca, z_fl_ca, z_fr_ca, z_al_ca, z_ar_ca, z_ln_ca, z_tg_ca, z_sz_ca, z_sl_ca, y_pi, y_pl, y_pr, y_qi, y_ql, y_qr, y_ca]
      · have c2' : nI sw ≤ nI (bn L 13) := nI_le (by omega) (by omega)
        have eh : hfF sw nd L = false := by simp [hfF, k1, c, c2]
        rw [eh]
        simp [f59, b59_0, b59_89, b59_90, b59_112, b59_113, b59_158, b59_162, b59_163, b59_182, b59_183, b59_194, b59_206, b59_225, b59_226, ht, e0, g, z, d0, h2, h9, c2', b2, g_i, g_r, g_l, g_o, p_i, p_r, p_l, p_z, c_V, c_I, c_L, c_R, x_out, z_fl_pi, z_fr_pi, z_ai_pi, z_al_pi, z_ar_pi, z_ln_pi, z_tg_pi, z_sz_pi, z_sl_pi, z_fi_pl, z_fr_pl, z_ai_pl, z_al_pl, z_ar_pl, z_ln_pl, z_tg_pl, z_sz_pl, z_sl_pl, z_fi_pr, z_fl_pr, z_ai_pr, z_al_pr, z_ar_pr, z_ln_pr, z_tg_pr, z_sz_pr, z_sl_pr, z_fi_qi, z_fl_qi, z_fr_qi, z_al_qi, z_ar_qi, z_ln_qi, z_tg_qi, z_sz_qi, z_sl_qi, z_fi_ql, z_fl_ql, z_fr_ql, z_ai_ql, z_ar_ql, z_ln_ql, z_tg_ql, z_sz_ql, z_sl_ql, z_fi_qr, z_fl_qr, z_fr_qr, z_ai_qr, z_al_qr, z_ln_qr, z_tg_qr, z_sz_qr, z_sl_qr, z_fi_ca, z_fl_ca, z_fr_ca, z_al_ca, z_ar_ca, z_ln_ca, z_tg_ca, z_sz_ca, z_sl_ca, y_pi, y_pl, y_pr, y_qi, y_ql, y_qr, y_ca]
    · have z : ¬ nI (L.length - 17) = 1 := fun q => c (z1.mp q)
      have eh : hfF sw nd L = false := by simp [hfF, k1, c]
      rw [eh]
      simp [f59, b59_0, b59_89, b59_90, b59_112, b59_113, b59_158, b59_162, b59_163, b59_182, b59_183, b59_194, b59_206, b59_225, b59_226, ht, e0, g, z, b2, g_i, g_r, g_l, g_o, p_i, p_r, p_l, p_z, c_V, c_I, c_L, c_R, x_out, z_fl_pi, z_fr_pi, z_ai_pi, z_al_pi, z_ar_pi, z_ln_pi, z_tg_pi, z_sz_pi, z_sl_pi, z_fi_pl, z_fr_pl, z_ai_pl, z_al_pl, z_ar_pl, z_ln_pl, z_tg_pl, z_sz_pl, z_sl_pl, z_fi_pr, z_fl_pr, z_ai_pr, z_al_pr, z_ar_pr, z_ln_pr, z_tg_pr, z_sz_pr, z_sl_pr, z_fi_qi, z_fl_qi, z_fr_qi, z_al_qi, z_ar_qi, z_ln_qi, z_tg_qi, z_sz_qi, z_sl_qi, z_fi_ql, z_fl_ql, z_fr_ql, z_ai_ql, z_ar_ql, z_ln_ql, z_tg_ql, z_sz_ql, z_sl_ql, z_fi_qr, z_fl_qr, z_fr_qr, z_ai_qr, z_al_qr, z_ln_qr, z_tg_qr, z_sz_qr, z_sl_qr, z_fi_ca, z_fl_ca, z_fr_ca, z_al_ca, z_ar_ca, z_ln_ca, z_tg_ca, z_sz_ca, z_sl_ca, y_pi, y_pl, y_pr, y_qi, y_ql, y_qr, y_ca]
  by_cases k3 : bn L 0 = 3
  · have g : nI (bn L 0) = 3 := q3.mpr k3
    by_cases c : L.length = 18
    · have z : nI (L.length - 17) = 1 := z1.mpr c
      have d0 := d0 (by omega)
      by_cases c2 : bn L 13 < nd
      · have h8 : f8 [.inr (.inr (some 2)), .inl (nI (bn L 13))] M = some (some (.inl 1), M) := by rw [h8, decide_eq_true c2]; rfl
        have eh : hfF sw nd L = true := by simp [hfF, k3, c, c2]
        rw [eh]
        simp [f59, b59_0, b59_89, b59_90, b59_112, b59_113, b59_158, b59_162, b59_163, b59_182, b59_183, b59_194, b59_206, b59_225, b59_226, ht, e0, g, z, d0, h2, h8, b2, g_i, g_r, g_l, g_o, p_i, p_r, p_l, p_z, c_V, c_I, c_L, c_R, x_out, z_fl_pi, z_fr_pi, z_ai_pi, z_al_pi, z_ar_pi, z_ln_pi, z_tg_pi, z_sz_pi, z_sl_pi, z_fi_pl, z_fr_pl, z_ai_pl, z_al_pl, z_ar_pl, z_ln_pl, z_tg_pl, z_sz_pl, z_sl_pl, z_fi_pr, z_fl_pr, z_ai_pr, z_al_pr, z_ar_pr, z_ln_pr, z_tg_pr, z_sz_pr, z_sl_pr, z_fi_qi, z_fl_qi, z_fr_qi, z_al_qi, z_ar_qi, z_ln_qi, z_tg_qi, z_sz_qi, z_sl_qi, z_fi_ql, z_fl_ql, z_fr_ql, z_ai_ql, z_ar_ql, z_ln_ql, z_tg_ql, z_sz_ql, z_sl_ql, z_fi_qr, z_fl_qr, z_fr_qr, z_ai_qr, z_al_qr, z_ln_qr, z_tg_qr, z_sz_qr, z_sl_qr, z_fi_ca, z_fl_ca, z_fr_ca, z_al_ca, z_ar_ca, z_ln_ca, z_tg_ca, z_sz_ca, z_sl_ca, y_pi, y_pl, y_pr, y_qi, y_ql, y_qr, y_ca]
      · have h8 : f8 [.inr (.inr (some 2)), .inl (nI (bn L 13))] M = some (some (.inl 0), M) := by rw [h8, decide_eq_false c2]; rfl
        have eh : hfF sw nd L = false := by simp [hfF, k3, c, c2]
        rw [eh]
        simp [f59, b59_0, b59_89, b59_90, b59_112, b59_113, b59_158, b59_162, b59_163, b59_182, b59_183, b59_194, b59_206, b59_225, b59_226, ht, e0, g, z, d0, h2, h8, b2, g_i, g_r, g_l, g_o, p_i, p_r, p_l, p_z, c_V, c_I, c_L, c_R, x_out, z_fl_pi, z_fr_pi, z_ai_pi, z_al_pi, z_ar_pi, z_ln_pi, z_tg_pi, z_sz_pi, z_sl_pi, z_fi_pl, z_fr_pl, z_ai_pl, z_al_pl, z_ar_pl, z_ln_pl, z_tg_pl, z_sz_pl, z_sl_pl, z_fi_pr, z_fl_pr, z_ai_pr, z_al_pr, z_ar_pr, z_ln_pr, z_tg_pr, z_sz_pr, z_sl_pr, z_fi_qi, z_fl_qi, z_fr_qi, z_al_qi, z_ar_qi, z_ln_qi, z_tg_qi, z_sz_qi, z_sl_qi, z_fi_ql, z_fl_ql, z_fr_ql, z_ai_ql, z_ar_ql, z_ln_ql, z_tg_ql, z_sz_ql, z_sl_ql, z_fi_qr, z_fl_qr, z_fr_qr, z_ai_qr, z_al_qr, z_ln_qr, z_tg_qr, z_sz_qr, z_sl_qr, z_fi_ca, z_fl_ca, z_fr_ca, z_al_ca, z_ar_ca, z_ln_ca, z_tg_ca, z_sz_ca, z_sl_ca, y_pi, y_pl, y_pr, y_qi, y_ql, y_qr, y_ca]
    · have z : ¬ nI (L.length - 17) = 1 := fun q => c (z1.mp q)
      have eh : hfF sw nd L = false := by simp [hfF, k3, c]
      rw [eh]
      simp [f59, b59_0, b59_89, b59_90, b59_112, b59_113, b59_158, b59_162, b59_163, b59_182, b59_183, b59_194, b59_206, b59_225, b59_226, ht, e0, g, z, b2, g_i, g_r, g_l, g_o, p_i, p_r, p_l, p_z, c_V, c_I, c_L, c_R, x_out, z_fl_pi, z_fr_pi, z_ai_pi, z_al_pi, z_ar_pi, z_ln_pi, z_tg_pi, z_sz_pi, z_sl_pi, z_fi_pl, z_fr_pl, z_ai_pl, z_al_pl, z_ar_pl, z_ln_pl, z_tg_pl, z_sz_pl, z_sl_pl, z_fi_pr, z_fl_pr, z_ai_pr, z_al_pr, z_ar_pr, z_ln_pr, z_tg_pr, z_sz_pr, z_sl_pr, z_fi_qi, z_fl_qi, z_fr_qi, z_al_qi, z_ar_qi, z_ln_qi, z_tg_qi, z_sz_qi, z_sl_qi, z_fi_ql, z_fl_ql, z_fr_ql, z_ai_ql, z_ar_ql, z_ln_ql, z_tg_ql, z_sz_ql, z_sl_ql, z_fi_qr, z_fl_qr, z_fr_qr, z_ai_qr, z_al_qr, z_ln_qr, z_tg_qr, z_sz_qr, z_sl_qr, z_fi_ca, z_fl_ca, z_fr_ca, z_al_ca, z_ar_ca, z_ln_ca, z_tg_ca, z_sz_ca, z_sl_ca, y_pi, y_pl, y_pr, y_qi, y_ql, y_qr, y_ca]
  by_cases k5 : bn L 0 = 5
  · have g : nI (bn L 0) = 5 := q5.mpr k5
    by_cases c : L.length = 18
    · have z : nI (L.length - 17) = 1 := z1.mpr c
      have d0 := d0 (by omega)
      by_cases c2 : bn L 13 < nd
      · have h8 : f8 [.inr (.inr (some 2)), .inl (nI (bn L 13))] M = some (some (.inl 1), M) := by rw [h8, decide_eq_true c2]; rfl
        have eh : hfF sw nd L = true := by simp [hfF, k5, c, c2]
        rw [eh]
        simp [f59, b59_0, b59_89, b59_90, b59_112, b59_113, b59_158, b59_162, b59_163, b59_182, b59_183, b59_194, b59_206, b59_225, b59_226, ht, e0, g, z, d0, h2, h8, b2, g_i, g_r, g_l, g_o, p_i, p_r, p_l, p_z, c_V, c_I, c_L, c_R, x_out, z_fl_pi, z_fr_pi, z_ai_pi, z_al_pi, z_ar_pi, z_ln_pi, z_tg_pi, z_sz_pi, z_sl_pi, z_fi_pl, z_fr_pl, z_ai_pl, z_al_pl, z_ar_pl, z_ln_pl, z_tg_pl, z_sz_pl, z_sl_pl, z_fi_pr, z_fl_pr, z_ai_pr, z_al_pr, z_ar_pr, z_ln_pr, z_tg_pr, z_sz_pr, z_sl_pr, z_fi_qi, z_fl_qi, z_fr_qi, z_al_qi, z_ar_qi, z_ln_qi, z_tg_qi, z_sz_qi, z_sl_qi, z_fi_ql, z_fl_ql, z_fr_ql, z_ai_ql, z_ar_ql, z_ln_ql, z_tg_ql, z_sz_ql, z_sl_ql, z_fi_qr, z_fl_qr, z_fr_qr, z_ai_qr, z_al_qr, z_ln_qr, z_tg_qr, z_sz_qr, z_sl_qr, z_fi_ca, z_fl_ca, z_fr_ca, z_al_ca, z_ar_ca, z_ln_ca, z_tg_ca, z_sz_ca, z_sl_ca, y_pi, y_pl, y_pr, y_qi, y_ql, y_qr, y_ca]
      · have h8 : f8 [.inr (.inr (some 2)), .inl (nI (bn L 13))] M = some (some (.inl 0), M) := by rw [h8, decide_eq_false c2]; rfl
        have eh : hfF sw nd L = false := by simp [hfF, k5, c, c2]
        rw [eh]
        simp [f59, b59_0, b59_89, b59_90, b59_112, b59_113, b59_158, b59_162, b59_163, b59_182, b59_183, b59_194, b59_206, b59_225, b59_226, ht, e0, g, z, d0, h2, h8, b2, g_i, g_r, g_l, g_o, p_i, p_r, p_l, p_z, c_V, c_I, c_L, c_R, x_out, z_fl_pi, z_fr_pi, z_ai_pi, z_al_pi, z_ar_pi, z_ln_pi, z_tg_pi, z_sz_pi, z_sl_pi, z_fi_pl, z_fr_pl, z_ai_pl, z_al_pl, z_ar_pl, z_ln_pl, z_tg_pl, z_sz_pl, z_sl_pl, z_fi_pr, z_fl_pr, z_ai_pr, z_al_pr, z_ar_pr, z_ln_pr, z_tg_pr, z_sz_pr, z_sl_pr, z_fi_qi, z_fl_qi, z_fr_qi, z_al_qi, z_ar_qi, z_ln_qi, z_tg_qi, z_sz_qi, z_sl_qi, z_fi_ql, z_fl_ql, z_fr_ql, z_ai_ql, z_ar_ql, z_ln_ql, z_tg_ql, z_sz_ql, z_sl_ql, z_fi_qr, z_fl_qr, z_fr_qr, z_ai_qr, z_al_qr, z_ln_qr, z_tg_qr, z_sz_qr, z_sl_qr, z_fi_ca, z_fl_ca, z_fr_ca, z_al_ca, z_ar_ca, z_ln_ca, z_tg_ca, z_sz_ca, z_sl_ca, y_pi, y_pl, y_pr, y_qi, y_ql, y_qr, y_ca]
    · have z : ¬ nI (L.length - 17) = 1 := fun q => c (z1.mp q)
      have eh : hfF sw nd L = false := by simp [hfF, k5, c]
      rw [eh]
      simp [f59, b59_0, b59_89, b59_90, b59_112, b59_113, b59_158, b59_162, b59_163, b59_182, b59_183, b59_194, b59_206, b59_225, b59_226, ht, e0, g, z, b2, g_i, g_r, g_l, g_o, p_i, p_r, p_l, p_z, c_V, c_I, c_L, c_R, x_out, z_fl_pi, z_fr_pi, z_ai_pi, z_al_pi, z_ar_pi, z_ln_pi, z_tg_pi, z_sz_pi, z_sl_pi, z_fi_pl, z_fr_pl, z_ai_pl, z_al_pl, z_ar_pl, z_ln_pl, z_tg_pl, z_sz_pl, z_sl_pl, z_fi_pr, z_fl_pr, z_ai_pr, z_al_pr, z_ar_pr, z_ln_pr, z_tg_pr, z_sz_pr, z_sl_pr, z_fi_qi, z_fl_qi, z_fr_qi, z_al_qi, z_ar_qi, z_ln_qi, z_tg_qi, z_sz_qi, z_sl_qi, z_fi_ql, z_fl_ql, z_fr_ql, z_ai_ql, z_ar_ql, z_ln_ql, z_tg_ql, z_sz_ql, z_sl_ql, z_fi_qr, z_fl_qr, z_fr_qr, z_ai_qr, z_al_qr, z_ln_qr, z_tg_qr, z_sz_qr, z_sl_qr, z_fi_ca, z_fl_ca, z_fr_ca, z_al_ca, z_ar_ca, z_ln_ca, z_tg_ca, z_sz_ca, z_sl_ca, y_pi, y_pl, y_pr, y_qi, y_ql, y_qr, y_ca]
  by_cases k7 : bn L 0 = 7
  · have g : nI (bn L 0) = 7 := q7.mpr k7
    by_cases c : L.length = 18
    · have z : nI (L.length - 17) = 1 := z1.mpr c
      have d0 := d0 (by omega)
      by_cases c2 : bn L 13 < nd
      · have h8 : f8 [.inr (.inr (some 2)), .inl (nI (bn L 13))] M = some (some (.inl 1), M) := by rw [h8, decide_eq_true c2]; rfl
        have eh : hfF sw nd L = true := by simp [hfF, k7, c, c2]
        rw [eh]
        simp [f59, b59_0, b59_89, b59_90, b59_112, b59_113, b59_158, b59_162, b59_163, b59_182, b59_183, b59_194, b59_206, b59_225, b59_226, ht, e0, g, z, d0, h2, h8, b2, g_i, g_r, g_l, g_o, p_i, p_r, p_l, p_z, c_V, c_I, c_L, c_R, x_out, z_fl_pi, z_fr_pi, z_ai_pi, z_al_pi, z_ar_pi, z_ln_pi, z_tg_pi, z_sz_pi, z_sl_pi, z_fi_pl, z_fr_pl, z_ai_pl, z_al_pl, z_ar_pl, z_ln_pl, z_tg_pl, z_sz_pl, z_sl_pl, z_fi_pr, z_fl_pr, z_ai_pr, z_al_pr, z_ar_pr, z_ln_pr, z_tg_pr, z_sz_pr, z_sl_pr, z_fi_qi, z_fl_qi, z_fr_qi, z_al_qi, z_ar_qi, z_ln_qi, z_tg_qi, z_sz_qi, z_sl_qi, z_fi_ql, z_fl_ql, z_fr_ql, z_ai_ql, z_ar_ql, z_ln_ql, z_tg_ql, z_sz_ql, z_sl_ql, z_fi_qr, z_fl_qr, z_fr_qr, z_ai_qr, z_al_qr, z_ln_qr, z_tg_qr, z_sz_qr, z_sl_qr, z_fi_ca, z_fl_ca, z_fr_ca, z_al_ca, z_ar_ca, z_ln_ca, z_tg_ca, z_sz_ca, z_sl_ca, y_pi, y_pl, y_pr, y_qi, y_ql, y_qr, y_ca]
      · have h8 : f8 [.inr (.inr (some 2)), .inl (nI (bn L 13))] M = some (some (.inl 0), M) := by rw [h8, decide_eq_false c2]; rfl
        have eh : hfF sw nd L = false := by simp [hfF, k7, c, c2]
        rw [eh]
        simp [f59, b59_0, b59_89, b59_90, b59_112, b59_113, b59_158, b59_162, b59_163, b59_182, b59_183, b59_194, b59_206, b59_225, b59_226, ht, e0, g, z, d0, h2, h8, b2, g_i, g_r, g_l, g_o, p_i, p_r, p_l, p_z, c_V, c_I, c_L, c_R, x_out, z_fl_pi, z_fr_pi, z_ai_pi, z_al_pi, z_ar_pi, z_ln_pi, z_tg_pi, z_sz_pi, z_sl_pi, z_fi_pl, z_fr_pl, z_ai_pl, z_al_pl, z_ar_pl, z_ln_pl, z_tg_pl, z_sz_pl, z_sl_pl, z_fi_pr, z_fl_pr, z_ai_pr, z_al_pr, z_ar_pr, z_ln_pr, z_tg_pr, z_sz_pr, z_sl_pr, z_fi_qi, z_fl_qi, z_fr_qi, z_al_qi, z_ar_qi, z_ln_qi, z_tg_qi, z_sz_qi, z_sl_qi, z_fi_ql, z_fl_ql, z_fr_ql, z_ai_ql, z_ar_ql, z_ln_ql, z_tg_ql, z_sz_ql, z_sl_ql, z_fi_qr, z_fl_qr, z_fr_qr, z_ai_qr, z_al_qr, z_ln_qr, z_tg_qr, z_sz_qr, z_sl_qr, z_fi_ca, z_fl_ca, z_fr_ca, z_al_ca, z_ar_ca, z_ln_ca, z_tg_ca, z_sz_ca, z_sl_ca, y_pi, y_pl, y_pr, y_qi, y_ql, y_qr, y_ca]
    · have z : ¬ nI (L.length - 17) = 1 := fun q => c (z1.mp q)
      have eh : hfF sw nd L = false := by simp [hfF, k7, c]
      rw [eh]
      simp [f59, b59_0, b59_89, b59_90, b59_112, b59_113, b59_158, b59_162, b59_163, b59_182, b59_183, b59_194, b59_206, b59_225, b59_226, ht, e0, g, z, b2, g_i, g_r, g_l, g_o, p_i, p_r, p_l, p_z, c_V, c_I, c_L, c_R, x_out, z_fl_pi, z_fr_pi, z_ai_pi, z_al_pi, z_ar_pi, z_ln_pi, z_tg_pi, z_sz_pi, z_sl_pi, z_fi_pl, z_fr_pl, z_ai_pl, z_al_pl, z_ar_pl, z_ln_pl, z_tg_pl, z_sz_pl, z_sl_pl, z_fi_pr, z_fl_pr, z_ai_pr, z_al_pr, z_ar_pr, z_ln_pr, z_tg_pr, z_sz_pr, z_sl_pr, z_fi_qi, z_fl_qi, z_fr_qi, z_al_qi, z_ar_qi, z_ln_qi, z_tg_qi, z_sz_qi, z_sl_qi, z_fi_ql, z_fl_ql, z_fr_ql, z_ai_ql, z_ar_ql, z_ln_ql, z_tg_ql, z_sz_ql, z_sl_ql, z_fi_qr, z_fl_qr, z_fr_qr, z_ai_qr, z_al_qr, z_ln_qr, z_tg_qr, z_sz_qr, z_sl_qr, z_fi_ca, z_fl_ca, z_fr_ca, z_al_ca, z_ar_ca, z_ln_ca, z_tg_ca, z_sz_ca, z_sl_ca, y_pi, y_pl, y_pr, y_qi, y_ql, y_qr, y_ca]
  by_cases k6 : bn L 0 = 6
  · have g : nI (bn L 0) = 6 := q6.mpr k6
    by_cases c : L.length = 21
    · have z : nI (L.length - 17) = 4 := z4.mpr c
      have d0 := d0 (by omega)
      have d3 := d3 (by omega)
      have d14 := d14 (by omega)
      by_cases c2 : bn L 13 < nd
      · have h8 : f8 [.inr (.inr (some 2)), .inl (nI (bn L 13))] M = some (some (.inl 1), M) := by rw [h8, decide_eq_true c2]; rfl
        by_cases c3 : num L 14 3 = 0
        · have c3' : lg_cmp (num8 L 14 3) 0 = 0 := lg_0.mpr (num_0.mpr c3)
          have eh : hfF sw nd L = true := by simp [hfF, k6, c, c2, c3]
          rw [eh]
          simp [f59, b59_0, b59_89, b59_90, b59_112, b59_113, b59_158, b59_162, b59_163, b59_182, b59_183, b59_194, b59_206, b59_225, b59_226, ht, e0, g, z, d0, h2, h8, d14, c3', b2, g_i, g_r, g_l, g_o, p_i, p_r, p_l, p_z, c_V, c_I, c_L, c_R, x_out, z_fl_pi, z_fr_pi, z_ai_pi, z_al_pi, z_ar_pi, z_ln_pi, z_tg_pi, z_sz_pi, z_sl_pi, z_fi_pl, z_fr_pl, z_ai_pl, z_al_pl, z_ar_pl, z_ln_pl, z_tg_pl, z_sz_pl, z_sl_pl, z_fi_pr, z_fl_pr, z_ai_pr, z_al_pr, z_ar_pr, z_ln_pr, z_tg_pr, z_sz_pr, z_sl_pr, z_fi_qi, z_fl_qi, z_fr_qi, z_al_qi, z_ar_qi, z_ln_qi, z_tg_qi, z_sz_qi, z_sl_qi, z_fi_ql, z_fl_ql, z_fr_ql, z_ai_ql, z_ar_ql, z_ln_ql, z_tg_ql, z_sz_ql, z_sl_ql, z_fi_qr, z_fl_qr, z_fr_qr, z_ai_qr, z_al_qr, z_ln_qr, z_tg_qr, z_sz_qr, z_sl_qr, z_fi_ca, z_fl_ca, z_fr_ca, z_al_ca, z_ar_ca, z_ln_ca, z_tg_ca, z_sz_ca, z_sl_ca, y_pi, y_pl, y_pr, y_qi, y_ql, y_qr, y_ca]
        · have c3' : ¬ lg_cmp (num8 L 14 3) 0 = 0 := fun q => c3 (num_0.mp (lg_0.mp q))
          have b16 := bn_lt L 16
          by_cases c4 : bn L 16 = bn L 13 + 1
          · have c4' : nI (bn L 16) = nI (bn L 13 + 1) := by rw [c4]
            have eh : hfF sw nd L = true := by simp [hfF, k6, c, c2, c3, c4]
            rw [eh]
            simp [f59, b59_0, b59_89, b59_90, b59_112, b59_113, b59_158, b59_162, b59_163, b59_182, b59_183, b59_194, b59_206, b59_225, b59_226, ht, e0, g, z, d0, d3, h2, h8, d14, c3', nI_1, c4', b2, g_i, g_r, g_l, g_o, p_i, p_r, p_l, p_z, c_V, c_I, c_L, c_R, x_out, z_fl_pi, z_fr_pi, z_ai_pi, z_al_pi, z_ar_pi, z_ln_pi, z_tg_pi, z_sz_pi, z_sl_pi, z_fi_pl, z_fr_pl, z_ai_pl, z_al_pl, z_ar_pl, z_ln_pl, z_tg_pl, z_sz_pl, z_sl_pl, z_fi_pr, z_fl_pr, z_ai_pr, z_al_pr, z_ar_pr, z_ln_pr, z_tg_pr, z_sz_pr, z_sl_pr, z_fi_qi, z_fl_qi, z_fr_qi, z_al_qi, z_ar_qi, z_ln_qi, z_tg_qi, z_sz_qi, z_sl_qi, z_fi_ql, z_fl_ql, z_fr_ql, z_ai_ql, z_ar_ql, z_ln_ql, z_tg_ql, z_sz_ql, z_sl_ql, z_fi_qr, z_fl_qr, z_fr_qr, z_ai_qr, z_al_qr, z_ln_qr, z_tg_qr, z_sz_qr, z_sl_qr, z_fi_ca, z_fl_ca, z_fr_ca, z_al_ca, z_ar_ca, z_ln_ca, z_tg_ca, z_sz_ca, z_sl_ca, y_pi, y_pl, y_pr, y_qi, y_ql, y_qr, y_ca]
          · have c4' : ¬ nI (bn L 16) = nI (bn L 13 + 1) := fun q => c4 ((nI_eq (by omega) (by omega)).mp q)
            have eh : hfF sw nd L = false := by simp [hfF, k6, c, c2, c3, c4]
            rw [eh]
            simp [f59, b59_0, b59_89, b59_90, b59_112, b59_113, b59_158, b59_162, b59_163, b59_182, b59_183, b59_194, b59_206, b59_225, b59_226, ht, e0, g, z, d0, d3, h2, h8, d14, c3', nI_1, c4', b2, g_i, g_r, g_l, g_o, p_i, p_r, p_l, p_z, c_V, c_I, c_L, c_R, x_out, z_fl_pi, z_fr_pi, z_ai_pi, z_al_pi, z_ar_pi, z_ln_pi, z_tg_pi, z_sz_pi, z_sl_pi, z_fi_pl, z_fr_pl, z_ai_pl, z_al_pl, z_ar_pl, z_ln_pl, z_tg_pl, z_sz_pl, z_sl_pl, z_fi_pr, z_fl_pr, z_ai_pr, z_al_pr, z_ar_pr, z_ln_pr, z_tg_pr, z_sz_pr, z_sl_pr, z_fi_qi, z_fl_qi, z_fr_qi, z_al_qi, z_ar_qi, z_ln_qi, z_tg_qi, z_sz_qi, z_sl_qi, z_fi_ql, z_fl_ql, z_fr_ql, z_ai_ql, z_ar_ql, z_ln_ql, z_tg_ql, z_sz_ql, z_sl_ql, z_fi_qr, z_fl_qr, z_fr_qr, z_ai_qr, z_al_qr, z_ln_qr, z_tg_qr, z_sz_qr, z_sl_qr, z_fi_ca, z_fl_ca, z_fr_ca, z_al_ca, z_ar_ca, z_ln_ca, z_tg_ca, z_sz_ca, z_sl_ca, y_pi, y_pl, y_pr, y_qi, y_ql, y_qr, y_ca]
      · have h8 : f8 [.inr (.inr (some 2)), .inl (nI (bn L 13))] M = some (some (.inl 0), M) := by rw [h8, decide_eq_false c2]; rfl
        have eh : hfF sw nd L = false := by simp [hfF, k6, c, c2]
        rw [eh]
        simp [f59, b59_0, b59_89, b59_90, b59_112, b59_113, b59_158, b59_162, b59_163, b59_182, b59_183, b59_194, b59_206, b59_225, b59_226, ht, e0, g, z, d0, h2, h8, b2, g_i, g_r, g_l, g_o, p_i, p_r, p_l, p_z, c_V, c_I, c_L, c_R, x_out, z_fl_pi, z_fr_pi, z_ai_pi, z_al_pi, z_ar_pi, z_ln_pi, z_tg_pi, z_sz_pi, z_sl_pi, z_fi_pl, z_fr_pl, z_ai_pl, z_al_pl, z_ar_pl, z_ln_pl, z_tg_pl, z_sz_pl, z_sl_pl, z_fi_pr, z_fl_pr, z_ai_pr, z_al_pr, z_ar_pr, z_ln_pr, z_tg_pr, z_sz_pr, z_sl_pr, z_fi_qi, z_fl_qi, z_fr_qi, z_al_qi, z_ar_qi, z_ln_qi, z_tg_qi, z_sz_qi, z_sl_qi, z_fi_ql, z_fl_ql, z_fr_ql, z_ai_ql, z_ar_ql, z_ln_ql, z_tg_ql, z_sz_ql, z_sl_ql, z_fi_qr, z_fl_qr, z_fr_qr, z_ai_qr, z_al_qr, z_ln_qr, z_tg_qr, z_sz_qr, z_sl_qr, z_fi_ca, z_fl_ca, z_fr_ca, z_al_ca, z_ar_ca, z_ln_ca, z_tg_ca, z_sz_ca, z_sl_ca, y_pi, y_pl, y_pr, y_qi, y_ql, y_qr, y_ca]
    · have z : ¬ nI (L.length - 17) = 4 := fun q => c (z4.mp q)
      have eh : hfF sw nd L = false := by simp [hfF, k6, c]
      rw [eh]
      simp [f59, b59_0, b59_89, b59_90, b59_112, b59_113, b59_158, b59_162, b59_163, b59_182, b59_183, b59_194, b59_206, b59_225, b59_226, ht, e0, g, z, b2, g_i, g_r, g_l, g_o, p_i, p_r, p_l, p_z, c_V, c_I, c_L, c_R, x_out, z_fl_pi, z_fr_pi, z_ai_pi, z_al_pi, z_ar_pi, z_ln_pi, z_tg_pi, z_sz_pi, z_sl_pi, z_fi_pl, z_fr_pl, z_ai_pl, z_al_pl, z_ar_pl, z_ln_pl, z_tg_pl, z_sz_pl, z_sl_pl, z_fi_pr, z_fl_pr, z_ai_pr, z_al_pr, z_ar_pr, z_ln_pr, z_tg_pr, z_sz_pr, z_sl_pr, z_fi_qi, z_fl_qi, z_fr_qi, z_al_qi, z_ar_qi, z_ln_qi, z_tg_qi, z_sz_qi, z_sl_qi, z_fi_ql, z_fl_ql, z_fr_ql, z_ai_ql, z_ar_ql, z_ln_ql, z_tg_ql, z_sz_ql, z_sl_ql, z_fi_qr, z_fl_qr, z_fr_qr, z_ai_qr, z_al_qr, z_ln_qr, z_tg_qr, z_sz_qr, z_sl_qr, z_fi_ca, z_fl_ca, z_fr_ca, z_al_ca, z_ar_ca, z_ln_ca, z_tg_ca, z_sz_ca, z_sl_ca, y_pi, y_pl, y_pr, y_qi, y_ql, y_qr, y_ca]
  by_cases k9 : bn L 0 = 9
  · have g : nI (bn L 0) = 9 := q9.mpr k9
    by_cases c : L.length = 21
    · have z : nI (L.length - 17) = 4 := z4.mpr c
      have d1 := d1 (by omega)
      have bb := bn_lt L 14
      by_cases c2 : bn L 14 < 2
      · have c2' : ¬ (1 : Int32) < nI (bn L 14) := nI_nlt (a := 1) (by omega) (by omega)
        have eh : hfF sw nd L = true := by simp [hfF, k9, c, c2]
        rw [eh]
        simp [f59, b59_0, b59_89, b59_90, b59_112, b59_113, b59_158, b59_162, b59_163, b59_182, b59_183, b59_194, b59_206, b59_225, b59_226, ht, e0, g, z, d1, c2', b2, g_i, g_r, g_l, g_o, p_i, p_r, p_l, p_z, c_V, c_I, c_L, c_R, x_out, z_fl_pi, z_fr_pi, z_ai_pi, z_al_pi, z_ar_pi, z_ln_pi, z_tg_pi, z_sz_pi, z_sl_pi, z_fi_pl, z_fr_pl, z_ai_pl, z_al_pl, z_ar_pl, z_ln_pl, z_tg_pl, z_sz_pl, z_sl_pl, z_fi_pr, z_fl_pr, z_ai_pr, z_al_pr, z_ar_pr, z_ln_pr, z_tg_pr, z_sz_pr, z_sl_pr, z_fi_qi, z_fl_qi, z_fr_qi, z_al_qi, z_ar_qi, z_ln_qi, z_tg_qi, z_sz_qi, z_sl_qi, z_fi_ql, z_fl_ql, z_fr_ql, z_ai_ql, z_ar_ql, z_ln_ql, z_tg_ql, z_sz_ql, z_sl_ql, z_fi_qr, z_fl_qr, z_fr_qr, z_ai_qr, z_al_qr, z_ln_qr, z_tg_qr, z_sz_qr, z_sl_qr, z_fi_ca, z_fl_ca, z_fr_ca, z_al_ca, z_ar_ca, z_ln_ca, z_tg_ca, z_sz_ca, z_sl_ca, y_pi, y_pl, y_pr, y_qi, y_ql, y_qr, y_ca]
      · have c2' : (1 : Int32) < nI (bn L 14) := nI_lt (a := 1) (by omega) (by omega)
        have eh : hfF sw nd L = false := by simp [hfF, k9, c, c2]
        rw [eh]
        simp [f59, b59_0, b59_89, b59_90, b59_112, b59_113, b59_158, b59_162, b59_163, b59_182, b59_183, b59_194, b59_206, b59_225, b59_226, ht, e0, g, z, d1, c2', b2, g_i, g_r, g_l, g_o, p_i, p_r, p_l, p_z, c_V, c_I, c_L, c_R, x_out, z_fl_pi, z_fr_pi, z_ai_pi, z_al_pi, z_ar_pi, z_ln_pi, z_tg_pi, z_sz_pi, z_sl_pi, z_fi_pl, z_fr_pl, z_ai_pl, z_al_pl, z_ar_pl, z_ln_pl, z_tg_pl, z_sz_pl, z_sl_pl, z_fi_pr, z_fl_pr, z_ai_pr, z_al_pr, z_ar_pr, z_ln_pr, z_tg_pr, z_sz_pr, z_sl_pr, z_fi_qi, z_fl_qi, z_fr_qi, z_al_qi, z_ar_qi, z_ln_qi, z_tg_qi, z_sz_qi, z_sl_qi, z_fi_ql, z_fl_ql, z_fr_ql, z_ai_ql, z_ar_ql, z_ln_ql, z_tg_ql, z_sz_ql, z_sl_ql, z_fi_qr, z_fl_qr, z_fr_qr, z_ai_qr, z_al_qr, z_ln_qr, z_tg_qr, z_sz_qr, z_sl_qr, z_fi_ca, z_fl_ca, z_fr_ca, z_al_ca, z_ar_ca, z_ln_ca, z_tg_ca, z_sz_ca, z_sl_ca, y_pi, y_pl, y_pr, y_qi, y_ql, y_qr, y_ca]
    · have z : ¬ nI (L.length - 17) = 4 := fun q => c (z4.mp q)
      have eh : hfF sw nd L = false := by simp [hfF, k9, c]
      rw [eh]
      simp [f59, b59_0, b59_89, b59_90, b59_112, b59_113, b59_158, b59_162, b59_163, b59_182, b59_183, b59_194, b59_206, b59_225, b59_226, ht, e0, g, z, b2, g_i, g_r, g_l, g_o, p_i, p_r, p_l, p_z, c_V, c_I, c_L, c_R, x_out, z_fl_pi, z_fr_pi, z_ai_pi, z_al_pi, z_ar_pi, z_ln_pi, z_tg_pi, z_sz_pi, z_sl_pi, z_fi_pl, z_fr_pl, z_ai_pl, z_al_pl, z_ar_pl, z_ln_pl, z_tg_pl, z_sz_pl, z_sl_pl, z_fi_pr, z_fl_pr, z_ai_pr, z_al_pr, z_ar_pr, z_ln_pr, z_tg_pr, z_sz_pr, z_sl_pr, z_fi_qi, z_fl_qi, z_fr_qi, z_al_qi, z_ar_qi, z_ln_qi, z_tg_qi, z_sz_qi, z_sl_qi, z_fi_ql, z_fl_ql, z_fr_ql, z_ai_ql, z_ar_ql, z_ln_ql, z_tg_ql, z_sz_ql, z_sl_ql, z_fi_qr, z_fl_qr, z_fr_qr, z_ai_qr, z_al_qr, z_ln_qr, z_tg_qr, z_sz_qr, z_sl_qr, z_fi_ca, z_fl_ca, z_fr_ca, z_al_ca, z_ar_ca, z_ln_ca, z_tg_ca, z_sz_ca, z_sl_ca, y_pi, y_pl, y_pr, y_qi, y_ql, y_qr, y_ca]
  by_cases k10 : bn L 0 = 10
  · have g : nI (bn L 0) = 10 := q10.mpr k10
    by_cases c : L.length = 18
    · have z : nI (L.length - 17) = 1 := z1.mpr c
      have eh : hfF sw nd L = true := by simp [hfF, k10, c]
      rw [eh]
      simp [f59, b59_0, b59_89, b59_90, b59_112, b59_113, b59_158, b59_162, b59_163, b59_182, b59_183, b59_194, b59_206, b59_225, b59_226, ht, e0, g, z, b2, g_i, g_r, g_l, g_o, p_i, p_r, p_l, p_z, c_V, c_I, c_L, c_R, x_out, z_fl_pi, z_fr_pi, z_ai_pi, z_al_pi, z_ar_pi, z_ln_pi, z_tg_pi, z_sz_pi, z_sl_pi, z_fi_pl, z_fr_pl, z_ai_pl, z_al_pl, z_ar_pl, z_ln_pl, z_tg_pl, z_sz_pl, z_sl_pl, z_fi_pr, z_fl_pr, z_ai_pr, z_al_pr, z_ar_pr, z_ln_pr, z_tg_pr, z_sz_pr, z_sl_pr, z_fi_qi, z_fl_qi, z_fr_qi, z_al_qi, z_ar_qi, z_ln_qi, z_tg_qi, z_sz_qi, z_sl_qi, z_fi_ql, z_fl_ql, z_fr_ql, z_ai_ql, z_ar_ql, z_ln_ql, z_tg_ql, z_sz_ql, z_sl_ql, z_fi_qr, z_fl_qr, z_fr_qr, z_ai_qr, z_al_qr, z_ln_qr, z_tg_qr, z_sz_qr, z_sl_qr, z_fi_ca, z_fl_ca, z_fr_ca, z_al_ca, z_ar_ca, z_ln_ca, z_tg_ca, z_sz_ca, z_sl_ca, y_pi, y_pl, y_pr, y_qi, y_ql, y_qr, y_ca]
    · have z : ¬ nI (L.length - 17) = 1 := fun q => c (z1.mp q)
      have eh : hfF sw nd L = false := by simp [hfF, k10, c]
      rw [eh]
      simp [f59, b59_0, b59_89, b59_90, b59_112, b59_113, b59_158, b59_162, b59_163, b59_182, b59_183, b59_194, b59_206, b59_225, b59_226, ht, e0, g, z, b2, g_i, g_r, g_l, g_o, p_i, p_r, p_l, p_z, c_V, c_I, c_L, c_R, x_out, z_fl_pi, z_fr_pi, z_ai_pi, z_al_pi, z_ar_pi, z_ln_pi, z_tg_pi, z_sz_pi, z_sl_pi, z_fi_pl, z_fr_pl, z_ai_pl, z_al_pl, z_ar_pl, z_ln_pl, z_tg_pl, z_sz_pl, z_sl_pl, z_fi_pr, z_fl_pr, z_ai_pr, z_al_pr, z_ar_pr, z_ln_pr, z_tg_pr, z_sz_pr, z_sl_pr, z_fi_qi, z_fl_qi, z_fr_qi, z_al_qi, z_ar_qi, z_ln_qi, z_tg_qi, z_sz_qi, z_sl_qi, z_fi_ql, z_fl_ql, z_fr_ql, z_ai_ql, z_ar_ql, z_ln_ql, z_tg_ql, z_sz_ql, z_sl_ql, z_fi_qr, z_fl_qr, z_fr_qr, z_ai_qr, z_al_qr, z_ln_qr, z_tg_qr, z_sz_qr, z_sl_qr, z_fi_ca, z_fl_ca, z_fr_ca, z_al_ca, z_ar_ca, z_ln_ca, z_tg_ca, z_sz_ca, z_sl_ca, y_pi, y_pl, y_pr, y_qi, y_ql, y_qr, y_ca]
  by_cases k11 : bn L 0 = 11
  · have g : nI (bn L 0) = 11 := q11.mpr k11
    by_cases c : L.length = 25
    · have z : nI (L.length - 17) = 8 := z8.mpr c
      have eh : hfF sw nd L = true := by simp [hfF, k11, c]
      rw [eh]
      simp [f59, b59_0, b59_89, b59_90, b59_112, b59_113, b59_158, b59_162, b59_163, b59_182, b59_183, b59_194, b59_206, b59_225, b59_226, ht, e0, g, z, b2, g_i, g_r, g_l, g_o, p_i, p_r, p_l, p_z, c_V, c_I, c_L, c_R, x_out, z_fl_pi, z_fr_pi, z_ai_pi, z_al_pi, z_ar_pi, z_ln_pi, z_tg_pi, z_sz_pi, z_sl_pi, z_fi_pl, z_fr_pl, z_ai_pl, z_al_pl, z_ar_pl, z_ln_pl, z_tg_pl, z_sz_pl, z_sl_pl, z_fi_pr, z_fl_pr, z_ai_pr, z_al_pr, z_ar_pr, z_ln_pr, z_tg_pr, z_sz_pr, z_sl_pr, z_fi_qi, z_fl_qi, z_fr_qi, z_al_qi, z_ar_qi, z_ln_qi, z_tg_qi, z_sz_qi, z_sl_qi, z_fi_ql, z_fl_ql, z_fr_ql, z_ai_ql, z_ar_ql, z_ln_ql, z_tg_ql, z_sz_ql, z_sl_ql, z_fi_qr, z_fl_qr, z_fr_qr, z_ai_qr, z_al_qr, z_ln_qr, z_tg_qr, z_sz_qr, z_sl_qr, z_fi_ca, z_fl_ca, z_fr_ca, z_al_ca, z_ar_ca, z_ln_ca, z_tg_ca, z_sz_ca, z_sl_ca, y_pi, y_pl, y_pr, y_qi, y_ql, y_qr, y_ca]
    · have z : ¬ nI (L.length - 17) = 8 := fun q => c (z8.mp q)
      have eh : hfF sw nd L = false := by simp [hfF, k11, c]
      rw [eh]
      simp [f59, b59_0, b59_89, b59_90, b59_112, b59_113, b59_158, b59_162, b59_163, b59_182, b59_183, b59_194, b59_206, b59_225, b59_226, ht, e0, g, z, b2, g_i, g_r, g_l, g_o, p_i, p_r, p_l, p_z, c_V, c_I, c_L, c_R, x_out, z_fl_pi, z_fr_pi, z_ai_pi, z_al_pi, z_ar_pi, z_ln_pi, z_tg_pi, z_sz_pi, z_sl_pi, z_fi_pl, z_fr_pl, z_ai_pl, z_al_pl, z_ar_pl, z_ln_pl, z_tg_pl, z_sz_pl, z_sl_pl, z_fi_pr, z_fl_pr, z_ai_pr, z_al_pr, z_ar_pr, z_ln_pr, z_tg_pr, z_sz_pr, z_sl_pr, z_fi_qi, z_fl_qi, z_fr_qi, z_al_qi, z_ar_qi, z_ln_qi, z_tg_qi, z_sz_qi, z_sl_qi, z_fi_ql, z_fl_ql, z_fr_ql, z_ai_ql, z_ar_ql, z_ln_ql, z_tg_ql, z_sz_ql, z_sl_ql, z_fi_qr, z_fl_qr, z_fr_qr, z_ai_qr, z_al_qr, z_ln_qr, z_tg_qr, z_sz_qr, z_sl_qr, z_fi_ca, z_fl_ca, z_fr_ca, z_al_ca, z_ar_ca, z_ln_ca, z_tg_ca, z_sz_ca, z_sl_ca, y_pi, y_pl, y_pr, y_qi, y_ql, y_qr, y_ca]
  by_cases k12 : bn L 0 = 12
  · have g : nI (bn L 0) = 12 := q12.mpr k12
    by_cases c : L.length = 18
    · have z : nI (L.length - 17) = 1 := z1.mpr c
      have d0 := d0 (by omega)
      have bb := bn_lt L 13
      by_cases c2 : bn L 13 < 2
      · have c2' : ¬ (1 : Int32) < nI (bn L 13) := nI_nlt (a := 1) (by omega) (by omega)
        have eh : hfF sw nd L = true := by simp [hfF, k12, c, c2]
        rw [eh]
        simp [f59, b59_0, b59_89, b59_90, b59_112, b59_113, b59_158, b59_162, b59_163, b59_182, b59_183, b59_194, b59_206, b59_225, b59_226, ht, e0, g, z, d0, c2', b2, g_i, g_r, g_l, g_o, p_i, p_r, p_l, p_z, c_V, c_I, c_L, c_R, x_out, z_fl_pi, z_fr_pi, z_ai_pi, z_al_pi, z_ar_pi, z_ln_pi, z_tg_pi, z_sz_pi, z_sl_pi, z_fi_pl, z_fr_pl, z_ai_pl, z_al_pl, z_ar_pl, z_ln_pl, z_tg_pl, z_sz_pl, z_sl_pl, z_fi_pr, z_fl_pr, z_ai_pr, z_al_pr, z_ar_pr, z_ln_pr, z_tg_pr, z_sz_pr, z_sl_pr, z_fi_qi, z_fl_qi, z_fr_qi, z_al_qi, z_ar_qi, z_ln_qi, z_tg_qi, z_sz_qi, z_sl_qi, z_fi_ql, z_fl_ql, z_fr_ql, z_ai_ql, z_ar_ql, z_ln_ql, z_tg_ql, z_sz_ql, z_sl_ql, z_fi_qr, z_fl_qr, z_fr_qr, z_ai_qr, z_al_qr, z_ln_qr, z_tg_qr, z_sz_qr, z_sl_qr, z_fi_ca, z_fl_ca, z_fr_ca, z_al_ca, z_ar_ca, z_ln_ca, z_tg_ca, z_sz_ca, z_sl_ca, y_pi, y_pl, y_pr, y_qi, y_ql, y_qr, y_ca]
      · have c2' : (1 : Int32) < nI (bn L 13) := nI_lt (a := 1) (by omega) (by omega)
        have eh : hfF sw nd L = false := by simp [hfF, k12, c, c2]
        rw [eh]
        simp [f59, b59_0, b59_89, b59_90, b59_112, b59_113, b59_158, b59_162, b59_163, b59_182, b59_183, b59_194, b59_206, b59_225, b59_226, ht, e0, g, z, d0, c2', b2, g_i, g_r, g_l, g_o, p_i, p_r, p_l, p_z, c_V, c_I, c_L, c_R, x_out, z_fl_pi, z_fr_pi, z_ai_pi, z_al_pi, z_ar_pi, z_ln_pi, z_tg_pi, z_sz_pi, z_sl_pi, z_fi_pl, z_fr_pl, z_ai_pl, z_al_pl, z_ar_pl, z_ln_pl, z_tg_pl, z_sz_pl, z_sl_pl, z_fi_pr, z_fl_pr, z_ai_pr, z_al_pr, z_ar_pr, z_ln_pr, z_tg_pr, z_sz_pr, z_sl_pr, z_fi_qi, z_fl_qi, z_fr_qi, z_al_qi, z_ar_qi, z_ln_qi, z_tg_qi, z_sz_qi, z_sl_qi, z_fi_ql, z_fl_ql, z_fr_ql, z_ai_ql, z_ar_ql, z_ln_ql, z_tg_ql, z_sz_ql, z_sl_ql, z_fi_qr, z_fl_qr, z_fr_qr, z_ai_qr, z_al_qr, z_ln_qr, z_tg_qr, z_sz_qr, z_sl_qr, z_fi_ca, z_fl_ca, z_fr_ca, z_al_ca, z_ar_ca, z_ln_ca, z_tg_ca, z_sz_ca, z_sl_ca, y_pi, y_pl, y_pr, y_qi, y_ql, y_qr, y_ca]
    · have z : ¬ nI (L.length - 17) = 1 := fun q => c (z1.mp q)
      have eh : hfF sw nd L = false := by simp [hfF, k12, c]
      rw [eh]
      simp [f59, b59_0, b59_89, b59_90, b59_112, b59_113, b59_158, b59_162, b59_163, b59_182, b59_183, b59_194, b59_206, b59_225, b59_226, ht, e0, g, z, b2, g_i, g_r, g_l, g_o, p_i, p_r, p_l, p_z, c_V, c_I, c_L, c_R, x_out, z_fl_pi, z_fr_pi, z_ai_pi, z_al_pi, z_ar_pi, z_ln_pi, z_tg_pi, z_sz_pi, z_sl_pi, z_fi_pl, z_fr_pl, z_ai_pl, z_al_pl, z_ar_pl, z_ln_pl, z_tg_pl, z_sz_pl, z_sl_pl, z_fi_pr, z_fl_pr, z_ai_pr, z_al_pr, z_ar_pr, z_ln_pr, z_tg_pr, z_sz_pr, z_sl_pr, z_fi_qi, z_fl_qi, z_fr_qi, z_al_qi, z_ar_qi, z_ln_qi, z_tg_qi, z_sz_qi, z_sl_qi, z_fi_ql, z_fl_ql, z_fr_ql, z_ai_ql, z_ar_ql, z_ln_ql, z_tg_ql, z_sz_ql, z_sl_ql, z_fi_qr, z_fl_qr, z_fr_qr, z_ai_qr, z_al_qr, z_ln_qr, z_tg_qr, z_sz_qr, z_sl_qr, z_fi_ca, z_fl_ca, z_fr_ca, z_al_ca, z_ar_ca, z_ln_ca, z_tg_ca, z_sz_ca, z_sl_ca, y_pi, y_pl, y_pr, y_qi, y_ql, y_qr, y_ca]
  have eh : hfF sw nd L = true := by simp [hfF, k1, hk2, k3, k5, k7, k6, k9, k10, k11, k12]
  rw [eh]
  by_cases k4 : bn L 0 = 4
  · have g : nI (bn L 0) = 4 := q4.mpr k4
    simp [f59, b59_0, ht, e0, g, b2, g_i, g_r, g_l, g_o, p_i, p_r, p_l, p_z, c_V, c_I, c_L, c_R, x_out, z_fl_pi, z_fr_pi, z_ai_pi, z_al_pi, z_ar_pi, z_ln_pi, z_tg_pi, z_sz_pi, z_sl_pi, z_fi_pl, z_fr_pl, z_ai_pl, z_al_pl, z_ar_pl, z_ln_pl, z_tg_pl, z_sz_pl, z_sl_pl, z_fi_pr, z_fl_pr, z_ai_pr, z_al_pr, z_ar_pr, z_ln_pr, z_tg_pr, z_sz_pr, z_sl_pr, z_fi_qi, z_fl_qi, z_fr_qi, z_al_qi, z_ar_qi, z_ln_qi, z_tg_qi, z_sz_qi, z_sl_qi, z_fi_ql, z_fl_ql, z_fr_ql, z_ai_ql, z_ar_ql, z_ln_ql, z_tg_ql, z_sz_ql, z_sl_ql, z_fi_qr, z_fl_qr, z_fr_qr, z_ai_qr, z_al_qr, z_ln_qr, z_tg_qr, z_sz_qr, z_sl_qr, z_fi_ca, z_fl_ca, z_fr_ca, z_al_ca, z_ar_ca, z_ln_ca, z_tg_ca, z_sz_ca, z_sl_ca, y_pi, y_pl, y_pr, y_qi, y_ql, y_qr, y_ca]
  by_cases k8 : bn L 0 = 8
  · have g : nI (bn L 0) = 8 := q8.mpr k8
    simp [f59, b59_0, ht, e0, g, b2, g_i, g_r, g_l, g_o, p_i, p_r, p_l, p_z, c_V, c_I, c_L, c_R, x_out, z_fl_pi, z_fr_pi, z_ai_pi, z_al_pi, z_ar_pi, z_ln_pi, z_tg_pi, z_sz_pi, z_sl_pi, z_fi_pl, z_fr_pl, z_ai_pl, z_al_pl, z_ar_pl, z_ln_pl, z_tg_pl, z_sz_pl, z_sl_pl, z_fi_pr, z_fl_pr, z_ai_pr, z_al_pr, z_ar_pr, z_ln_pr, z_tg_pr, z_sz_pr, z_sl_pr, z_fi_qi, z_fl_qi, z_fr_qi, z_al_qi, z_ar_qi, z_ln_qi, z_tg_qi, z_sz_qi, z_sl_qi, z_fi_ql, z_fl_ql, z_fr_ql, z_ai_ql, z_ar_ql, z_ln_ql, z_tg_ql, z_sz_ql, z_sl_ql, z_fi_qr, z_fl_qr, z_fr_qr, z_ai_qr, z_al_qr, z_ln_qr, z_tg_qr, z_sz_qr, z_sl_qr, z_fi_ca, z_fl_ca, z_fr_ca, z_al_ca, z_ar_ca, z_ln_ca, z_tg_ca, z_sz_ca, z_sl_ca, y_pi, y_pl, y_pr, y_qi, y_ql, y_qr, y_ca]
  have g1 : ¬ nI (bn L 0) = 1 := fun q => k1 (q1.mp q)
  have g2 : ¬ nI (bn L 0) = 2 := fun q => hk2 (q2.mp q)
  have g3 : ¬ nI (bn L 0) = 3 := fun q => k3 (q3.mp q)
  have g4 : ¬ nI (bn L 0) = 4 := fun q => k4 (q4.mp q)
  have g5 : ¬ nI (bn L 0) = 5 := fun q => k5 (q5.mp q)
  have g6 : ¬ nI (bn L 0) = 6 := fun q => k6 (q6.mp q)
  have g7 : ¬ nI (bn L 0) = 7 := fun q => k7 (q7.mp q)
  have g8 : ¬ nI (bn L 0) = 8 := fun q => k8 (q8.mp q)
  have g9 : ¬ nI (bn L 0) = 9 := fun q => k9 (q9.mp q)
  have g10 : ¬ nI (bn L 0) = 10 := fun q => k10 (q10.mp q)
  have g11 : ¬ nI (bn L 0) = 11 := fun q => k11 (q11.mp q)
  have g12 : ¬ nI (bn L 0) = 12 := fun q => k12 (q12.mp q)
  simp [f59, b59_0, ht, e0, g1, g2, g3, g4, g5, g6, g7, g8, g9, g10, g11, g12, b2, g_i, g_r, g_l, g_o, p_i, p_r, p_l, p_z, c_V, c_I, c_L, c_R, x_out, z_fl_pi, z_fr_pi, z_ai_pi, z_al_pi, z_ar_pi, z_ln_pi, z_tg_pi, z_sz_pi, z_sl_pi, z_fi_pl, z_fr_pl, z_ai_pl, z_al_pl, z_ar_pl, z_ln_pl, z_tg_pl, z_sz_pl, z_sl_pl, z_fi_pr, z_fl_pr, z_ai_pr, z_al_pr, z_ar_pr, z_ln_pr, z_tg_pr, z_sz_pr, z_sl_pr, z_fi_qi, z_fl_qi, z_fr_qi, z_al_qi, z_ar_qi, z_ln_qi, z_tg_qi, z_sz_qi, z_sl_qi, z_fi_ql, z_fl_ql, z_fr_ql, z_ai_ql, z_ar_ql, z_ln_ql, z_tg_ql, z_sz_ql, z_sl_ql, z_fi_qr, z_fl_qr, z_fr_qr, z_ai_qr, z_al_qr, z_ln_qr, z_tg_qr, z_sz_qr, z_sl_qr, z_fi_ca, z_fl_ca, z_fr_ca, z_al_ca, z_ar_ca, z_ln_ca, z_tg_ca, z_sz_ca, z_sl_ca, y_pi, y_pl, y_pr, y_qi, y_ql, y_qr, y_ca]
/-- isTrue -/
theorem f63_eq (h : rd M a L) (h2 : h_tg M 2 = 10) (h9 : h_fi M 900 2 = nI sw) (h91 : h_fi M 901 2 = nI nd) (hs8 : sw < 256) (hn8 : nd < 256) (h17 : 17 ≤ L.length) (hg : h_fi M 202 a = 0 → tru sw nd L = true) : f63 [.inr (.inr (some a)), .inr (.inr (some 2))] M = some (some (.inl (b2 (tru sw nd L))), M) := by
  have h48 := h.2.2.1
  have ht := h.1.1
  have hz := h.2.1
  by_cases c0 : h_fi M 202 a = 0
  · rw [hg c0]
    simp [f63, b63_0, ht, c0, b2, g_i, g_r, g_l, g_o, p_i, p_r, p_l, p_z, c_V, c_I, c_L, c_R, x_out, z_fl_pi, z_fr_pi, z_ai_pi, z_al_pi, z_ar_pi, z_ln_pi, z_tg_pi, z_sz_pi, z_sl_pi, z_fi_pl, z_fr_pl, z_ai_pl, z_al_pl, z_ar_pl, z_ln_pl, z_tg_pl, z_sz_pl, z_sl_pl, z_fi_pr, z_fl_pr, z_ai_pr, z_al_pr, z_ar_pr, z_ln_pr, z_tg_pr, z_sz_pr, z_sl_pr, z_fi_qi, z_fl_qi, z_fr_qi, z_al_qi, z_ar_qi, z_ln_qi, z_tg_qi, z_sz_qi, z_sl_qi, z_fi_ql, z_fl_ql, z_fr_ql, z_ai_ql, z_ar_ql, z_ln_ql, z_tg_ql, z_sz_ql, z_sl_ql, z_fi_qr, z_fl_qr, z_fr_qr, z_ai_qr, z_al_qr, z_ln_qr, z_tg_qr, z_sz_qr, z_sl_qr, z_fi_ca, z_fl_ca, z_fr_ca, z_al_ca, z_ar_ca, z_ln_ca, z_tg_ca, z_sz_ca, z_sl_ca, y_pi, y_pl, y_pr, y_qi, y_ql, y_qr, y_ca]
  have e12 : f55 [.inr (.inr (some a)), .inl (12 : Int32)] M = some (some (.inl (nI (bn L 12))), M) := f55_eq (i := 12) h (by omega)
  have x1 : nI L.length - 13 = nI (L.length - 13) := pk_sub (b := 13) (by omega)
  have x2 : nI (L.length - 13) - 4 = nI (L.length - 17) := by rw [show (4 : Int32) = nI 4 from rfl, pk_sub (by omega)]; congr 1
  have x3 : nI L.length - 4 = nI (L.length - 4) := pk_sub (b := 4) (by omega)
  have e4 : f56 [.inr (.inr (some a)), .inl (nI (L.length - 4)), .inl (4 : Int32)] M = some (some (.inr (.inl (num8 L (L.length - 4) 4))), M) := f56_eq (n := 4) h (by omega)
  have ec : f42 [.inr (.inr (some a)), .inl (nI (L.length - 4))] M = some (some (.inl (crcF (fun j => L.getD j 0) (L.length - 4) ^^^ (-1))), M) := by
    rw [f42_eq h.1.1 h.1.2.1 h.1.2.2.1 h.1.2.2.2 (by omega), crcF_congr (C := fun j => L.getD j 0) (fun i hi => rd_get h (by omega))]
  have b12 := bn_lt L 12
  have e0 := f57_eq h (by omega)
  have kb := bn_lt L 0
  have q2 : nI (bn L 0) = 2 ↔ bn L 0 = 2 := nI_eq (b := 2) (by omega) (by omega)
  have n32 : (num8 L (L.length - 4) 4).toInt32 = num L (L.length - 4) 4 := num8_32
  unfold tru
  generalize crcF (fun j => L.getD j 0) (L.length - 4) ^^^ (-1) = cc at ec ⊢
  by_cases c1 : bn L 12 = L.length - 17
  · have z12 : nI (bn L 12) = nI (L.length - 17) := by rw [c1]
    by_cases c2 : num L (L.length - 4) 4 = cc
    · rw [if_pos c2, if_pos c1]
      by_cases c3 : bn L 0 = 2
      · have g2 := q2.mpr c3
        have e62 := f62_eq h h2 h9 h91 hs8 hn8 h17
        have ehf : hfF sw nd L = rcF sw nd L := by unfold hfF; rw [if_neg (by omega), if_pos c3]
        rw [ehf]
        cases r : rcF sw nd L with
        | false => rw [r, b2_f] at e62; simp [f63, b63_0, b63_83, b63_87, b63_88, ht, c0, hz, e12, x1, x2, x3, z12, e4, ec, n32, c2, e0, g2, e62, b2, g_i, g_r, g_l, g_o, p_i, p_r, p_l, p_z, c_V, c_I, c_L, c_R, x_out, z_fl_pi, z_fr_pi, z_ai_pi, z_al_pi, z_ar_pi, z_ln_pi, z_tg_pi, z_sz_pi, z_sl_pi, z_fi_pl, z_fr_pl, z_ai_pl, z_al_pl, z_ar_pl, z_ln_pl, z_tg_pl, z_sz_pl, z_sl_pl, z_fi_pr, z_fl_pr, z_ai_pr, z_al_pr, z_ar_pr, z_ln_pr, z_tg_pr, z_sz_pr, z_sl_pr, z_fi_qi, z_fl_qi, z_fr_qi, z_al_qi, z_ar_qi, z_ln_qi, z_tg_qi, z_sz_qi, z_sl_qi, z_fi_ql, z_fl_ql, z_fr_ql, z_ai_ql, z_ar_ql, z_ln_ql, z_tg_ql, z_sz_ql, z_sl_ql, z_fi_qr, z_fl_qr, z_fr_qr, z_ai_qr, z_al_qr, z_ln_qr, z_tg_qr, z_sz_qr, z_sl_qr, z_fi_ca, z_fl_ca, z_fr_ca, z_al_ca, z_ar_ca, z_ln_ca, z_tg_ca, z_sz_ca, z_sl_ca, y_pi, y_pl, y_pr, y_qi, y_ql, y_qr, y_ca]
        | true => rw [r, b2_t] at e62; simp [f63, b63_0, b63_83, b63_87, b63_88, ht, c0, hz, e12, x1, x2, x3, z12, e4, ec, n32, c2, e0, g2, e62, b2, g_i, g_r, g_l, g_o, p_i, p_r, p_l, p_z, c_V, c_I, c_L, c_R, x_out, z_fl_pi, z_fr_pi, z_ai_pi, z_al_pi, z_ar_pi, z_ln_pi, z_tg_pi, z_sz_pi, z_sl_pi, z_fi_pl, z_fr_pl, z_ai_pl, z_al_pl, z_ar_pl, z_ln_pl, z_tg_pl, z_sz_pl, z_sl_pl, z_fi_pr, z_fl_pr, z_ai_pr, z_al_pr, z_ar_pr, z_ln_pr, z_tg_pr, z_sz_pr, z_sl_pr, z_fi_qi, z_fl_qi, z_fr_qi, z_al_qi, z_ar_qi, z_ln_qi, z_tg_qi, z_sz_qi, z_sl_qi, z_fi_ql, z_fl_ql, z_fr_ql, z_ai_ql, z_ar_ql, z_ln_ql, z_tg_ql, z_sz_ql, z_sl_ql, z_fi_qr, z_fl_qr, z_fr_qr, z_ai_qr, z_al_qr, z_ln_qr, z_tg_qr, z_sz_qr, z_sl_qr, z_fi_ca, z_fl_ca, z_fr_ca, z_al_ca, z_ar_ca, z_ln_ca, z_tg_ca, z_sz_ca, z_sl_ca, y_pi, y_pl, y_pr, y_qi, y_ql, y_qr, y_ca]
      · have g2 : ¬ nI (bn L 0) = 2 := fun q => c3 (q2.mp q)
        have e59 := f59_eq h h2 h9 h91 hs8 hn8 h17 c3
        cases r : hfF sw nd L with
        | false => rw [r, b2_f] at e59; simp [f63, b63_0, b63_83, b63_87, b63_88, ht, c0, hz, e12, x1, x2, x3, z12, e4, ec, n32, c2, e0, g2, e59, b2, g_i, g_r, g_l, g_o, p_i, p_r, p_l, p_z, c_V, c_I, c_L, c_R, x_out, z_fl_pi, z_fr_pi, z_ai_pi, z_al_pi, z_ar_pi, z_ln_pi, z_tg_pi, z_sz_pi, z_sl_pi, z_fi_pl, z_fr_pl, z_ai_pl, z_al_pl, z_ar_pl, z_ln_pl, z_tg_pl, z_sz_pl, z_sl_pl, z_fi_pr, z_fl_pr, z_ai_pr, z_al_pr, z_ar_pr, z_ln_pr, z_tg_pr, z_sz_pr, z_sl_pr, z_fi_qi, z_fl_qi, z_fr_qi, z_al_qi, z_ar_qi, z_ln_qi, z_tg_qi, z_sz_qi, z_sl_qi, z_fi_ql, z_fl_ql, z_fr_ql, z_ai_ql, z_ar_ql, z_ln_ql, z_tg_ql, z_sz_ql, z_sl_ql, z_fi_qr, z_fl_qr, z_fr_qr, z_ai_qr, z_al_qr, z_ln_qr, z_tg_qr, z_sz_qr, z_sl_qr, z_fi_ca, z_fl_ca, z_fr_ca, z_al_ca, z_ar_ca, z_ln_ca, z_tg_ca, z_sz_ca, z_sl_ca, y_pi, y_pl, y_pr, y_qi, y_ql, y_qr, y_ca]
        | true => rw [r, b2_t] at e59; simp [f63, b63_0, b63_83, b63_87, b63_88, ht, c0, hz, e12, x1, x2, x3, z12, e4, ec, n32, c2, e0, g2, e59, b2, g_i, g_r, g_l, g_o, p_i, p_r, p_l, p_z, c_V, c_I, c_L, c_R, x_out, z_fl_pi, z_fr_pi, z_ai_pi, z_al_pi, z_ar_pi, z_ln_pi, z_tg_pi, z_sz_pi, z_sl_pi, z_fi_pl, z_fr_pl, z_ai_pl, z_al_pl, z_ar_pl, z_ln_pl, z_tg_pl, z_sz_pl, z_sl_pl, z_fi_pr, z_fl_pr, z_ai_pr, z_al_pr, z_ar_pr, z_ln_pr, z_tg_pr, z_sz_pr, z_sl_pr, z_fi_qi, z_fl_qi, z_fr_qi, z_al_qi, z_ar_qi, z_ln_qi, z_tg_qi, z_sz_qi, z_sl_qi, z_fi_ql, z_fl_ql, z_fr_ql, z_ai_ql, z_ar_ql, z_ln_ql, z_tg_ql, z_sz_ql, z_sl_ql, z_fi_qr, z_fl_qr, z_fr_qr, z_ai_qr, z_al_qr, z_ln_qr, z_tg_qr, z_sz_qr, z_sl_qr, z_fi_ca, z_fl_ca, z_fr_ca, z_al_ca, z_ar_ca, z_ln_ca, z_tg_ca, z_sz_ca, z_sl_ca, y_pi, y_pl, y_pr, y_qi, y_ql, y_qr, y_ca]
    · rw [if_neg c2]
      simp [f63, b63_0, b63_83, b63_87, b63_88, ht, c0, hz, e12, x1, x2, x3, z12, e4, ec, n32, c2, b2, g_i, g_r, g_l, g_o, p_i, p_r, p_l, p_z, c_V, c_I, c_L, c_R, x_out, z_fl_pi, z_fr_pi, z_ai_pi, z_al_pi, z_ar_pi, z_ln_pi, z_tg_pi, z_sz_pi, z_sl_pi, z_fi_pl, z_fr_pl, z_ai_pl, z_al_pl, z_ar_pl, z_ln_pl, z_tg_pl, z_sz_pl, z_sl_pl, z_fi_pr, z_fl_pr, z_ai_pr, z_al_pr, z_ar_pr, z_ln_pr, z_tg_pr, z_sz_pr, z_sl_pr, z_fi_qi, z_fl_qi, z_fr_qi, z_al_qi, z_ar_qi, z_ln_qi, z_tg_qi, z_sz_qi, z_sl_qi, z_fi_ql, z_fl_ql, z_fr_ql, z_ai_ql, z_ar_ql, z_ln_ql, z_tg_ql, z_sz_ql, z_sl_ql, z_fi_qr, z_fl_qr, z_fr_qr, z_ai_qr, z_al_qr, z_ln_qr, z_tg_qr, z_sz_qr, z_sl_qr, z_fi_ca, z_fl_ca, z_fr_ca, z_al_ca, z_ar_ca, z_ln_ca, z_tg_ca, z_sz_ca, z_sl_ca, y_pi, y_pl, y_pr, y_qi, y_ql, y_qr, y_ca]
  · have : (if num L (L.length - 4) 4 = cc then (if bn L 12 = L.length - 17 then hfF sw nd L else false) else false) = false := by
      rw [if_neg c1]
      split <;> rfl
    rw [this]
    have z12 : ¬ nI (bn L 12) = nI (L.length - 17) := fun q => c1 ((nI_eq (by omega) (by omega)).mp q)
    simp [f63, b63_0, b63_83, b63_87, b63_88, ht, c0, hz, e12, x1, x2, z12, b2, g_i, g_r, g_l, g_o, p_i, p_r, p_l, p_z, c_V, c_I, c_L, c_R, x_out, z_fl_pi, z_fr_pi, z_ai_pi, z_al_pi, z_ar_pi, z_ln_pi, z_tg_pi, z_sz_pi, z_sl_pi, z_fi_pl, z_fr_pl, z_ai_pl, z_al_pl, z_ar_pl, z_ln_pl, z_tg_pl, z_sz_pl, z_sl_pl, z_fi_pr, z_fl_pr, z_ai_pr, z_al_pr, z_ar_pr, z_ln_pr, z_tg_pr, z_sz_pr, z_sl_pr, z_fi_qi, z_fl_qi, z_fr_qi, z_al_qi, z_ar_qi, z_ln_qi, z_tg_qi, z_sz_qi, z_sl_qi, z_fi_ql, z_fl_ql, z_fr_ql, z_ai_ql, z_ar_ql, z_ln_ql, z_tg_ql, z_sz_ql, z_sl_ql, z_fi_qr, z_fl_qr, z_fr_qr, z_ai_qr, z_al_qr, z_ln_qr, z_tg_qr, z_sz_qr, z_sl_qr, z_fi_ca, z_fl_ca, z_fr_ca, z_al_ca, z_ar_ca, z_ln_ca, z_tg_ca, z_sz_ca, z_sl_ca, y_pi, y_pl, y_pr, y_qi, y_ql, y_qr, y_ca]
end TC
