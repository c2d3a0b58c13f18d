/-! ===== reading a frame ===== -/
/-- the byte at i -/
def bn (L : List Int32) (i : Nat) : Nat := (L.getD i 0 &&& 255).toNatClampNeg
theorem an255 (x : Int32) : ∃ j, j < 256 ∧ x &&& 255 = nI j := by
  obtain ⟨j, h1, h2⟩ := pk_andE x (m := 255) 8 (by decide)
  exact ⟨j, by omega, h2⟩
theorem bn_eq (L : List Int32) (i : Nat) : L.getD i 0 &&& 255 = nI (bn L i) := by
  obtain ⟨j, h1, h2⟩ := an255 (L.getD i 0)
  unfold bn
  rw [h2, nI_clamp (by omega)]
theorem bn_lt (L : List Int32) (i : Nat) : bn L i < 256 := by
  obtain ⟨j, h1, h2⟩ := an255 (L.getD i 0)
  unfold bn
  rw [h2, nI_clamp (by omega)]
  exact h1
/-- the number of the n bytes from i on -/
def num (L : List Int32) (i n : Nat) : Int32 := numF (fun j => L.getD j 0) i n
def numL (B : Nat → Int32) (i : Nat) : Nat → Int64
  | 0 => 0
  | n + 1 => (numL B i n <<< (Int32.toInt64 8 &&& 63)) ||| (B (i + n) &&& 255).toInt64
def num8 (L : List Int32) (i n : Nat) : Int64 := numL (fun j => L.getD j 0) i n
theorem numF_cg {B C : Nat → Int32} {i : Nat} : ∀ {n}, (∀ j, j < n → B (i + j) = C (i + j)) → numF B i n = numF C i n
  | 0, _ => rfl
  | n + 1, h => by
    show (numF B i n <<< ((8 : Int32) &&& 31)) ||| (B (i + n) &&& (255 : Int32)) = (numF C i n <<< ((8 : Int32) &&& 31)) ||| (C (i + n) &&& (255 : Int32))
    rw [numF_cg (fun j hj => h j (by omega)), h n (by omega)]
theorem numL_cg {B C : Nat → Int32} {i : Nat} : ∀ {n}, (∀ j, j < n → B (i + j) = C (i + j)) → numL B i n = numL C i n
  | 0, _ => rfl
  | n + 1, h => by
    show (numL B i n <<< (Int32.toInt64 8 &&& 63)) ||| (B (i + n) &&& 255).toInt64 = (numL C i n <<< (Int32.toInt64 8 &&& 63)) ||| (C (i + n) &&& 255).toInt64
    rw [numL_cg (fun j hj => h j (by omega)), h n (by omega)]
theorem numL_32 {B : Nat → Int32} {i : Nat} : ∀ n, (numL B i n).toInt32 = numF B i n
  | 0 => rfl
  | n + 1 => by
    show ((numL B i n <<< (Int32.toInt64 8 &&& 63)) ||| (B (i + n) &&& 255).toInt64).toInt32 = (numF B i n <<< (8 &&& 31)) ||| (B (i + n) &&& 255)
    rw [← numL_32 n]
    apply Int32.toBitVec_inj.mp
    rw [Int64.toBitVec_toInt32, Int64.toBitVec_or, Int32.toBitVec_or, Int64.toBitVec_shiftLeft, Int32.toBitVec_shiftLeft, Int64.toBitVec_toInt32, Int32.toBitVec_toInt64]
    have e1 : (Int32.toInt64 8 &&& 63).toBitVec = 8#64 := by decide
    have e2 : ((8 : Int32) &&& 31).toBitVec = 8#32 := by decide
    rw [e1, e2]
    have s1 : (8#64).smod 64 = 8#64 := by decide
    have s2 : (8#32).smod 32 = 8#32 := by decide
    rw [s1, s2]
    apply BitVec.eq_of_getLsbD_eq
    intro k hk
    simp only [BitVec.getLsbD_setWidth, BitVec.getLsbD_or, BitVec.getLsbD_shiftLeft, BitVec.getLsbD_signExtend, BitVec.shiftLeft_eq', BitVec.toNat_ofNat]
    have h64 : k < 64 := by omega
    have h1 : k - 8 < 32 := by omega
    have h2 : k - 8 < 64 := by omega
    simp [hk, h64, h1, h2]
/-- a frame of the class that holds L -/
def rd (M : hM) (a : Nat) (L : List Int32) : Prop := isFb M a (a + 1) ∧ h_fi M 201 a = nI L.length ∧ L.length ≤ 48 ∧ fbl M (a + 1) L.length = L
def rdS (S : sT) (f : Nat) (L : List Int32) : Prop := f < 1800 ∧ S.1 7 f = nI L.length ∧ L.length ≤ 80 ∧ frl S f = L
section RDc
variable {M : hM} {a i n : Nat} {L : List Int32}
theorem rd_get (h : rd M a L) (hi : i < L.length) : h_ai M (a + 1) i = L.getD i 0 := by
  have e := h.2.2.2
  have := fbl_get (M := M) (b := a + 1) hi
  rw [e] at this
  rw [List.getD_eq_getElem?_getD, this]
  rfl
theorem f55_any (h : rd M a L) (hi : i < 48) : f55 [.inr (.inr (some a)), .inl (nI i)] M = some (some (.inl (h_ai M (a + 1) i &&& 255)), M) := by
  obtain ⟨⟨h1, h2, h3, h4⟩, -⟩ := h
  show x_out (b55_0 a (nI i) M) = _
  unfold b55_0
  rw [if_neg (nI_pos (by omega)), bd_s (g_r_t (ci := 2) h1)]
  show x_out (Option.bind (a_ln M 21 (h_fr M 200 a)) _) = _
  rw [h2, bd_s (a_ln_t h3), h4, if_neg (nI_ge (by omega) (by omega)), bd_s (g_r_t (ci := 2) h1)]
  show x_out (Option.bind (al_i M 21 (h_fr M 200 a) (nI i)) _) = _
  rw [h2, bd_s (al_i_t h3 (by omega) (by omega))]
  rfl
theorem f55_eq (h : rd M a L) (hi : i < L.length) : f55 [.inr (.inr (some a)), .inl (nI i)] M = some (some (.inl (nI (bn L i))), M) := by
  have := h.2.2.1
  rw [f55_any h (by omega), rd_get h hi, bn_eq]
theorem f55_ex (h : rd M a L) (hi : i < 48) : ∃ v, v < 256 ∧ f55 [.inr (.inr (some a)), .inl (nI i)] M = some (some (.inl (nI v)), M) := by
  obtain ⟨j, h1, h2⟩ := an255 (h_ai M (a + 1) i)
  exact ⟨j, h1, by rw [f55_any h hi, h2]⟩
theorem f57_eq (h : rd M a L) (h0 : 0 < L.length) : f57 [.inr (.inr (some a))] M = some (some (.inl (nI (bn L 0))), M) := by
  have e : f55 [.inr (.inr (some a)), .inl 0] M = some (some (.inl (nI (bn L 0))), M) := f55_eq h h0
  have ht := h.1.1
  simp [f57, b57_0, ht, e, g_i, g_r, g_l, g_o, p_i, p_r, p_l, p_z, c_V, c_I, c_L, c_R, x_out, z_fl_pi, z_fr_pi, z_ai_pi, z_al_pi, z_ar_pi, z_ln_pi, z_tg_pi, z_sz_pi, z_sl_pi, z_fi_pl, z_fr_pl, z_ai_pl, z_al_pl, z_ar_pl, z_ln_pl, z_tg_pl, z_sz_pl, z_sl_pl, z_fi_pr, z_fl_pr, z_ai_pr, z_al_pr, z_ar_pr, z_ln_pr, z_tg_pr, z_sz_pr, z_sl_pr, z_fi_qi, z_fl_qi, z_fr_qi, z_al_qi, z_ar_qi, z_ln_qi, z_tg_qi, z_sz_qi, z_sl_qi, z_fi_ql, z_fl_ql, z_fr_ql, z_ai_ql, z_ar_ql, z_ln_ql, z_tg_ql, z_sz_ql, z_sl_ql, z_fi_qr, z_fl_qr, z_fr_qr, z_ai_qr, z_al_qr, z_ln_qr, z_tg_qr, z_sz_qr, z_sl_qr, z_fi_ca, z_fl_ca, z_fr_ca, z_al_ca, z_ar_ca, z_ln_ca, z_tg_ca, z_sz_ca, z_sl_ca, y_pi, y_pl, y_pr, y_qi, y_ql, y_qr, y_ca]
theorem f58_eq (h : rd M a L) (hi : 13 + i < L.length) : f58 [.inr (.inr (some a)), .inl (nI i)] M = some (some (.inl (nI (bn L (13 + i)))), M) := by
  have e : f55 [.inr (.inr (some a)), .inl ((13 : Int32) + nI i)] M = some (some (.inl (nI (bn L (13 + i)))), M) := by rw [ixb13]; exact f55_eq h hi
  have ht := h.1.1
  simp [f58, b58_0, ht, e, g_i, g_r, g_l, g_o, p_i, p_r, p_l, p_z, c_V, c_I, c_L, c_R, x_out, z_fl_pi, z_fr_pi, z_ai_pi, z_al_pi, z_ar_pi, z_ln_pi, z_tg_pi, z_sz_pi, z_sl_pi, z_fi_pl, z_fr_pl, z_ai_pl, z_al_pl, z_ar_pl, z_ln_pl, z_tg_pl, z_sz_pl, z_sl_pl, z_fi_pr, z_fl_pr, z_ai_pr, z_al_pr, z_ar_pr, z_ln_pr, z_tg_pr, z_sz_pr, z_sl_pr, z_fi_qi, z_fl_qi, z_fr_qi, z_al_qi, z_ar_qi, z_ln_qi, z_tg_qi, z_sz_qi, z_sl_qi, z_fi_ql, z_fl_ql, z_fr_ql, z_ai_ql, z_ar_ql, z_ln_ql, z_tg_ql, z_sz_ql, z_sl_ql, z_fi_qr, z_fl_qr, z_fr_qr, z_ai_qr, z_al_qr, z_ln_qr, z_tg_qr, z_sz_qr, z_sl_qr, z_fi_ca, z_fl_ca, z_fr_ca, z_al_ca, z_ar_ca, z_ln_ca, z_tg_ca, z_sz_ca, z_sl_ca, y_pi, y_pl, y_pr, y_qi, y_ql, y_qr, y_ca]
theorem f58_ex (h : rd M a L) (hi : 13 + i < 48) : ∃ v, v < 256 ∧ f58 [.inr (.inr (some a)), .inl (nI i)] M = some (some (.inl (nI v)), M) := by
  obtain ⟨v, h1, h2⟩ := f55_ex h hi
  refine ⟨v, h1, ?_⟩
  have e : f55 [.inr (.inr (some a)), .inl ((13 : Int32) + nI i)] M = some (some (.inl (nI v)), M) := by rw [ixb13]; exact h2
  have ht := h.1.1
  simp [f58, b58_0, ht, e, g_i, g_r, g_l, g_o, p_i, p_r, p_l, p_z, c_V, c_I, c_L, c_R, x_out, z_fl_pi, z_fr_pi, z_ai_pi, z_al_pi, z_ar_pi, z_ln_pi, z_tg_pi, z_sz_pi, z_sl_pi, z_fi_pl, z_fr_pl, z_ai_pl, z_al_pl, z_ar_pl, z_ln_pl, z_tg_pl, z_sz_pl, z_sl_pl, z_fi_pr, z_fl_pr, z_ai_pr, z_al_pr, z_ar_pr, z_ln_pr, z_tg_pr, z_sz_pr, z_sl_pr, z_fi_qi, z_fl_qi, z_fr_qi, z_al_qi, z_ar_qi, z_ln_qi, z_tg_qi, z_sz_qi, z_sl_qi, z_fi_ql, z_fl_ql, z_fr_ql, z_ai_ql, z_ar_ql, z_ln_ql, z_tg_ql, z_sz_ql, z_sl_ql, z_fi_qr, z_fl_qr, z_fr_qr, z_ai_qr, z_al_qr, z_ln_qr, z_tg_qr, z_sz_qr, z_sl_qr, z_fi_ca, z_fl_ca, z_fr_ca, z_al_ca, z_ar_ca, z_ln_ca, z_tg_ca, z_sz_ca, z_sl_ca, y_pi, y_pl, y_pr, y_qi, y_ql, y_qr, y_ca]
theorem f71_eq (h : rd M a L) (hi : 11 < L.length) : f71 [.inr (.inr (some a))] M = some (some (.inl (nI (bn L 11))), M) := by
  have e : f55 [.inr (.inr (some a)), .inl 11] M = some (some (.inl (nI (bn L 11))), M) := f55_eq (i := 11) h hi
  have ht := h.1.1
  simp [f71, b71_0, ht, e, g_i, g_r, g_l, g_o, p_i, p_r, p_l, p_z, c_V, c_I, c_L, c_R, x_out, z_fl_pi, z_fr_pi, z_ai_pi, z_al_pi, z_ar_pi, z_ln_pi, z_tg_pi, z_sz_pi, z_sl_pi, z_fi_pl, z_fr_pl, z_ai_pl, z_al_pl, z_ar_pl, z_ln_pl, z_tg_pl, z_sz_pl, z_sl_pl, z_fi_pr, z_fl_pr, z_ai_pr, z_al_pr, z_ar_pr, z_ln_pr, z_tg_pr, z_sz_pr, z_sl_pr, z_fi_qi, z_fl_qi, z_fr_qi, z_al_qi, z_ar_qi, z_ln_qi, z_tg_qi, z_sz_qi, z_sl_qi, z_fi_ql, z_fl_ql, z_fr_ql, z_ai_ql, z_ar_ql, z_ln_ql, z_tg_ql, z_sz_ql, z_sl_ql, z_fi_qr, z_fl_qr, z_fr_qr, z_ai_qr, z_al_qr, z_ln_qr, z_tg_qr, z_sz_qr, z_sl_qr, z_fi_ca, z_fl_ca, z_fr_ca, z_al_ca, z_ar_ca, z_ln_ca, z_tg_ca, z_sz_ca, z_sl_ca, y_pi, y_pl, y_pr, y_qi, y_ql, y_qr, y_ca]
theorem f56_loop (h : rd M a L) (hn : i + n ≤ L.length) : ∀ d k fuel, k + d = n → d < fuel → drive k56 fuel 5 [.inr (.inr (some a)), .inl (nI i), .inl (nI n), .inr (.inl (num8 L i k)), .inl (nI k)] M = some (some (.inr (.inl (num8 L i n))), M)
  | 0, k, fuel, hk, hf => by
    obtain ⟨g, rfl⟩ : ∃ g, fuel = g + 1 := ⟨fuel - 1, by omega⟩
    have : k = n := by omega
    subst this
    have h2 : nI k ≤ nI k := nI_le (by omega) (by have := h.2.2.1; omega)
    refine dr_end ?_
    simp [k56, b56_5, h2]
  | d + 1, k, fuel, hk, hf => by
    obtain ⟨g, rfl⟩ : ∃ g, fuel = g + 1 := ⟨fuel - 1, by omega⟩
    have h48 := h.2.2.1
    have h2 : ¬ nI n ≤ nI k := nI_ge (by omega) (by omega)
    have e : f55 [.inr (.inr (some a)), .inl (nI (i + k))] M = some (some (.inl (nI (bn L (i + k)))), M) := f55_eq h (by omega)
    have ht := h.1.1
    have hb : k56 5 [.inr (.inr (some a)), .inl (nI i), .inl (nI n), .inr (.inl (num8 L i k)), .inl (nI k)] M = some (.inr (5, [.inr (.inr (some a)), .inl (nI i), .inl (nI n), .inr (.inl (num8 L i (k + 1))), .inl (nI (k + 1))], M)) := by
      have e8 : num8 L i (k + 1) = (num8 L i k <<< (Int32.toInt64 8 &&& 63)) ||| (nI (bn L (i + k))).toInt64 := by
        rw [← bn_eq]; rfl
      rw [e8]
      simp [k56, b56_5, h2, ht, nI_add, e, nI_1, g_i, g_r, g_l, g_o, p_i, p_r, p_l, p_z, c_V, c_I, c_L, c_R, x_out, z_fl_pi, z_fr_pi, z_ai_pi, z_al_pi, z_ar_pi, z_ln_pi, z_tg_pi, z_sz_pi, z_sl_pi, z_fi_pl, z_fr_pl, z_ai_pl, z_al_pl, z_ar_pl, z_ln_pl, z_tg_pl, z_sz_pl, z_sl_pl, z_fi_pr, z_fl_pr, z_ai_pr, z_al_pr, z_ar_pr, z_ln_pr, z_tg_pr, z_sz_pr, z_sl_pr, z_fi_qi, z_fl_qi, z_fr_qi, z_al_qi, z_ar_qi, z_ln_qi, z_tg_qi, z_sz_qi, z_sl_qi, z_fi_ql, z_fl_ql, z_fr_ql, z_ai_ql, z_ar_ql, z_ln_ql, z_tg_ql, z_sz_ql, z_sl_ql, z_fi_qr, z_fl_qr, z_fr_qr, z_ai_qr, z_al_qr, z_ln_qr, z_tg_qr, z_sz_qr, z_sl_qr, z_fi_ca, z_fl_ca, z_fr_ca, z_al_ca, z_ar_ca, z_ln_ca, z_tg_ca, z_sz_ca, z_sl_ca, y_pi, y_pl, y_pr, y_qi, y_ql, y_qr, y_ca]
    rw [dr_go hb]
    exact f56_loop h hn d (k + 1) g (by omega) (by omega)
theorem f56_eq (h : rd M a L) (hn : i + n ≤ L.length) : f56 [.inr (.inr (some a)), .inl (nI i), .inl (nI n)] M = some (some (.inr (.inl (num8 L i n))), M) := f56_loop h hn n 0 xF (by omega) (by have := h.2.2.1; unfold xF; omega)
theorem num8_32 : (num8 L i n).toInt32 = num L i n := numL_32 n
theorem f64_eq (h : rd M a L) (h0 : 13 ≤ L.length) : f64 [.inr (.inr (some a))] M = some (some (.inl (num L 1 3)), M) := by
  have e : f56 [.inr (.inr (some a)), .inl 1, .inl 3] M = some (some (.inr (.inl (num8 L 1 3))), M) := f56_eq (i := 1) (n := 3) h (by omega)
  have ht := h.1.1
  simp [f64, b64_0, ht, e, num8_32, g_i, g_r, g_l, g_o, p_i, p_r, p_l, p_z, c_V, c_I, c_L, c_R, x_out, z_fl_pi, z_fr_pi, z_ai_pi, z_al_pi, z_ar_pi, z_ln_pi, z_tg_pi, z_sz_pi, z_sl_pi, z_fi_pl, z_fr_pl, z_ai_pl, z_al_pl, z_ar_pl, z_ln_pl, z_tg_pl, z_sz_pl, z_sl_pl, z_fi_pr, z_fl_pr, z_ai_pr, z_al_pr, z_ar_pr, z_ln_pr, z_tg_pr, z_sz_pr, z_sl_pr, z_fi_qi, z_fl_qi, z_fr_qi, z_al_qi, z_ar_qi, z_ln_qi, z_tg_qi, z_sz_qi, z_sl_qi, z_fi_ql, z_fl_ql, z_fr_ql, z_ai_ql, z_ar_ql, z_ln_ql, z_tg_ql, z_sz_ql, z_sl_ql, z_fi_qr, z_fl_qr, z_fr_qr, z_ai_qr, z_al_qr, z_ln_qr, z_tg_qr, z_sz_qr, z_sl_qr, z_fi_ca, z_fl_ca, z_fr_ca, z_al_ca, z_ar_ca, z_ln_ca, z_tg_ca, z_sz_ca, z_sl_ca, y_pi, y_pl, y_pr, y_qi, y_ql, y_qr, y_ca]
theorem f65_eq (h : rd M a L) (h0 : 13 ≤ L.length) : f65 [.inr (.inr (some a))] M = some (some (.inl (num L 4 3)), M) := by
  have e : f56 [.inr (.inr (some a)), .inl 4, .inl 3] M = some (some (.inr (.inl (num8 L 4 3))), M) := f56_eq (i := 4) (n := 3) h (by omega)
  have ht := h.1.1
  simp [f65, b65_0, ht, e, num8_32, g_i, g_r, g_l, g_o, p_i, p_r, p_l, p_z, c_V, c_I, c_L, c_R, x_out, z_fl_pi, z_fr_pi, z_ai_pi, z_al_pi, z_ar_pi, z_ln_pi, z_tg_pi, z_sz_pi, z_sl_pi, z_fi_pl, z_fr_pl, z_ai_pl, z_al_pl, z_ar_pl, z_ln_pl, z_tg_pl, z_sz_pl, z_sl_pl, z_fi_pr, z_fl_pr, z_ai_pr, z_al_pr, z_ar_pr, z_ln_pr, z_tg_pr, z_sz_pr, z_sl_pr, z_fi_qi, z_fl_qi, z_fr_qi, z_al_qi, z_ar_qi, z_ln_qi, z_tg_qi, z_sz_qi, z_sl_qi, z_fi_ql, z_fl_ql, z_fr_ql, z_ai_ql, z_ar_ql, z_ln_ql, z_tg_ql, z_sz_ql, z_sl_ql, z_fi_qr, z_fl_qr, z_fr_qr, z_ai_qr, z_al_qr, z_ln_qr, z_tg_qr, z_sz_qr, z_sl_qr, z_fi_ca, z_fl_ca, z_fr_ca, z_al_ca, z_ar_ca, z_ln_ca, z_tg_ca, z_sz_ca, z_sl_ca, y_pi, y_pl, y_pr, y_qi, y_ql, y_qr, y_ca]
theorem f66_eq (h : rd M a L) (h0 : 13 ≤ L.length) : f66 [.inr (.inr (some a))] M = some (some (.inl (num L 7 2)), M) := by
  have e : f56 [.inr (.inr (some a)), .inl 7, .inl 2] M = some (some (.inr (.inl (num8 L 7 2))), M) := f56_eq (i := 7) (n := 2) h (by omega)
  have ht := h.1.1
  simp [f66, b66_0, ht, e, num8_32, g_i, g_r, g_l, g_o, p_i, p_r, p_l, p_z, c_V, c_I, c_L, c_R, x_out, z_fl_pi, z_fr_pi, z_ai_pi, z_al_pi, z_ar_pi, z_ln_pi, z_tg_pi, z_sz_pi, z_sl_pi, z_fi_pl, z_fr_pl, z_ai_pl, z_al_pl, z_ar_pl, z_ln_pl, z_tg_pl, z_sz_pl, z_sl_pl, z_fi_pr, z_fl_pr, z_ai_pr, z_al_pr, z_ar_pr, z_ln_pr, z_tg_pr, z_sz_pr, z_sl_pr, z_fi_qi, z_fl_qi, z_fr_qi, z_al_qi, z_ar_qi, z_ln_qi, z_tg_qi, z_sz_qi, z_sl_qi, z_fi_ql, z_fl_ql, z_fr_ql, z_ai_ql, z_ar_ql, z_ln_ql, z_tg_ql, z_sz_ql, z_sl_ql, z_fi_qr, z_fl_qr, z_fr_qr, z_ai_qr, z_al_qr, z_ln_qr, z_tg_qr, z_sz_qr, z_sl_qr, z_fi_ca, z_fl_ca, z_fr_ca, z_al_ca, z_ar_ca, z_ln_ca, z_tg_ca, z_sz_ca, z_sl_ca, y_pi, y_pl, y_pr, y_qi, y_ql, y_qr, y_ca]
theorem f70_eq (h : rd M a L) (h0 : 13 ≤ L.length) : f70 [.inr (.inr (some a))] M = some (some (.inl (num L 9 2)), M) := by
  have e : f56 [.inr (.inr (some a)), .inl 9, .inl 2] M = some (some (.inr (.inl (num8 L 9 2))), M) := f56_eq (i := 9) (n := 2) h (by omega)
  have ht := h.1.1
  simp [f70, b70_0, ht, e, num8_32, g_i, g_r, g_l, g_o, p_i, p_r, p_l, p_z, c_V, c_I, c_L, c_R, x_out, z_fl_pi, z_fr_pi, z_ai_pi, z_al_pi, z_ar_pi, z_ln_pi, z_tg_pi, z_sz_pi, z_sl_pi, z_fi_pl, z_fr_pl, z_ai_pl, z_al_pl, z_ar_pl, z_ln_pl, z_tg_pl, z_sz_pl, z_sl_pl, z_fi_pr, z_fl_pr, z_ai_pr, z_al_pr, z_ar_pr, z_ln_pr, z_tg_pr, z_sz_pr, z_sl_pr, z_fi_qi, z_fl_qi, z_fr_qi, z_al_qi, z_ar_qi, z_ln_qi, z_tg_qi, z_sz_qi, z_sl_qi, z_fi_ql, z_fl_ql, z_fr_ql, z_ai_ql, z_ar_ql, z_ln_ql, z_tg_ql, z_sz_ql, z_sl_ql, z_fi_qr, z_fl_qr, z_fr_qr, z_ai_qr, z_al_qr, z_ln_qr, z_tg_qr, z_sz_qr, z_sl_qr, z_fi_ca, z_fl_ca, z_fr_ca, z_al_ca, z_ar_ca, z_ln_ca, z_tg_ca, z_sz_ca, z_sl_ca, y_pi, y_pl, y_pr, y_qi, y_ql, y_qr, y_ca]
end RDc
section RDs
variable {S : sT} {f i n : Nat} {L : List Int32}
theorem rdS_get (h : rdS S f L) (hi : i < L.length) : fB S f i = L.getD i 0 := by
  obtain ⟨h1, h2, h3, h4⟩ := h
  rw [← frl_getD h2 h3 hi, h4]
theorem r165 (h : rdS S f L) (hi : i < L.length) : e165 (nI f) (nI i) S = some (nI (bn L i), S) := by
  have := h.2.2.1
  rw [e165_eq h.1 (by omega), rdS_get h hi, bn_eq]
theorem r165_ex (h : f < 1800) (hi : i < 80) : ∃ v, v < 256 ∧ e165 (nI f) (nI i) S = some (nI v, S) := by
  obtain ⟨j, h1, h2⟩ := an255 (fB S f i)
  exact ⟨j, h1, by rw [e165_eq h hi, h2]⟩
theorem r166 (h : rdS S f L) (hi : i + n ≤ L.length) : e166 (nI f) (nI i) (nI n) S = some (num L i n, S) := by
  have := h.2.2.1
  rw [e166_eq h.1 (by omega), numF_cg (C := fun j => L.getD j 0) (fun j hj => rdS_get h (by omega))]
  rfl
theorem r166_ex (h : f < 1800) (hi : i + n ≤ 80) : ∃ v, e166 (nI f) (nI i) (nI n) S = some (v, S) := ⟨_, e166_eq h hi⟩
theorem r209_loop (h : rdS S f L) (hn : 21 ≤ L.length) : ∀ d k fuel, k + d = 8 → d < fuel → sdrive kS209 fuel 5 [.inl (nI f), .inr (.inl (num8 L 13 k)), .inl (nI k)] S = some (num8 L 13 8, S)
  | 0, k, fuel, hk, hf => by
    obtain ⟨g, rfl⟩ : ∃ g, fuel = g + 1 := ⟨fuel - 1, by omega⟩
    have : k = 8 := by omega
    subst this
    have h2 : (8 : Int32) ≤ nI 8 := by decide
    refine sd_end ?_
    simp [kS209, c209_5, h2]
  | d + 1, k, fuel, hk, hf => by
    obtain ⟨g, rfl⟩ : ∃ g, fuel = g + 1 := ⟨fuel - 1, by omega⟩
    have h2 : ¬ (8 : Int32) ≤ nI k := nI_ge (b := 8) (by omega) (by omega)
    have e : e165 (nI f) (nI (13 + k)) S = some (nI (bn L (13 + k)), S) := r165 h (by omega)
    have hb : kS209 5 [.inl (nI f), .inr (.inl (num8 L 13 k)), .inl (nI k)] S = some (.inr (5, [.inl (nI f), .inr (.inl (num8 L 13 (k + 1))), .inl (nI (k + 1))], S)) := by
      have e8 : num8 L 13 (k + 1) = (num8 L 13 k <<< (Int32.toInt64 8 &&& 63)) ||| (nI (bn L (13 + k))).toInt64 := by
        rw [← bn_eq]; rfl
      rw [e8]
      simp [kS209, c209_5, h2, ixb13, e, nI_1]
    rw [sd_go hb]
    exact r209_loop h hn d (k + 1) g (by omega) (by omega)
theorem r209 (h : rdS S f L) (hn : 21 ≤ L.length) : e209 (nI f) S = some (num8 L 13 8, S) := r209_loop h hn 8 0 xF (by omega) (by unfold xF; omega)
end RDs
