/-! ===== wires and zones, both sides ===== -/
def WI (sw nd : Nat) (M : hM) (S : sT) (w : Nat) (pe : Nat → Option Nat) (wo : Nat → Nat) : Prop :=
  (h_fi M 1105 1 = nI w ∧ S.1 13 0 = nI w ∧ w ≤ 16) ∧
  (∀ x, x < 48 → pe x = none → S.1 14 x = -1) ∧
  (∀ x, sd sw nd x → pe x = none → h_fr M 803 (200 + x) = none) ∧
  (∀ x y, pe x = some y → ((sd sw nd x ∧ sd sw nd y ∧ pe y = some x) ∧ x ≠ y ∧ (40 ≤ x → y < 40)) ∧ (wo x = wo y ∧ wo x < w ∧ S.1 14 x = nI (wo x)) ∧ h_fr M 803 (200 + x) = some (200 + y) ∧ ((S.1 10 (2 * wo x) = nI x ∧ S.1 10 (2 * wo x + 1) = nI y) ∨ (S.1 10 (2 * wo x) = nI y ∧ S.1 10 (2 * wo x + 1) = nI x)) ∧ h_fi M 804 (200 + x) = S.1 11 (wo x)) ∧
  (∀ i, i < w → (∃ c, 1 ≤ c ∧ c ≤ 9 ∧ S.1 11 i = nI c) ∧ (S.1 12 i = 0 ∨ S.1 12 i = 1) ∧ ∃ x y, pe x = some y ∧ wo x = i ∧ x < 40 ∧ S.1 10 (2 * i) = nI x ∧ S.1 10 (2 * i + 1) = nI y ∧ h_ar M 5 i = some (200 + x) ∧ h_ar M 6 i = some (200 + y)) ∧
  (∀ x, sd sw nd x → h_fi M 805 (200 + x) = upS S x)
/-- what stays while the clock ticks once -/
def ST (sw nd rm : Nat) (M : hM) (S : sT) (ia : Nat → Nat → Int32) (w : Nat) (pe : Nat → Option Nat) (wo : Nat → Nat) (t : Nat) : Prop :=
  cI sw nd rm M ∧ WI sw nd M S w pe wo ∧ (S.1 0 0 = nI sw ∧ S.1 1 0 = nI nd ∧ S.1 2 0 = nI rm) ∧ (h_fi M 903 2 = nI t ∧ S.1 3 0 = nI t ∧ t ≤ 200000) ∧ ((∀ z, z < 8 → ∃ k, k < 256 ∧ ia 4 z = nI k ∧ S.1 37 z = nI k) ∧ h_fi M 906 2 = S.1 38 0 ∧ (S.1 38 0 = 0 ∨ S.1 38 0 = 1)) ∧ (∀ s, s < sw → ∃ d, 1 ≤ d ∧ d ≤ 15 ∧ h_fi M 1003 (10 + s) = nI d ∧ S.1 26 s = nI d)
def stF : List Nat := cCF ++ [1105, 803, 804, 805, 903, 906, 1003]
def stS : List Nat := [0, 1, 2, 3, 10, 11, 12, 13, 14, 26, 37, 38]
section SW
variable {sw nd rm : Nat} {M M' : hM} {S T : sT} {ia ib : Nat → Nat → Int32} {w t x y : Nat} {pe : Nat → Option Nat} {wo : Nat → Nat} {F A G : List Nat}
theorem ST.I (h : ST sw nd rm M S ia w pe wo t) : cI sw nd rm M := h.1
theorem ST.W (h : ST sw nd rm M S ia w pe wo t) : WI sw nd M S w pe wo := h.2.1
theorem ST.keep (h : ST sw nd rm M S ia w pe wo t) (k : kp F A M M') (hF : stF.all (fun x => ! F.contains x) = true) (hA : cCA.all (fun x => ! A.contains x) = true) (l : ks G S T) (hG : stS.all (fun x => ! G.contains x) = true) (hz : ib 4 = ia 4) : ST sw nd rm M' T ib w pe wo t := by
  have qF : ∀ x, x ∈ stF → F.contains x = false := fun x hx => by have := List.all_eq_true.mp hF x hx; simpa using this
  have qA : ∀ x, x ∈ cCA → A.contains x = false := fun x hx => by have := List.all_eq_true.mp hA x hx; simpa using this
  have qS : ∀ x, x ∈ stS → T.1 x = S.1 x := fun x hx => l.i (by have := List.all_eq_true.mp hG x hx; simpa using this)
  obtain ⟨h1, h2, h3, h4, h5, h6⟩ := h
  have hI' : cI sw nd rm M' := h1.keep k (List.all_eq_true.mpr (fun x hx => List.all_eq_true.mp hF x (List.mem_append_left _ hx))) hA
  have eu : ∀ x, upS T x = upS S x := fun x => by unfold upS; rw [qS 14 (by decide), qS 12 (by decide)]
  refine ⟨hI', ?_, ?_, ?_, ?_, ?_⟩
  · obtain ⟨a1, a2, a3, a4, a5, a6⟩ := h2
    refine ⟨?_, ?_, ?_, ?_, ?_, ?_⟩
    · rw [k.fi (qF 1105 (by decide)), qS 13 (by decide)]; exact a1
    · rw [qS 14 (by decide)]; exact a2
    · rw [k.fr (qF 803 (by decide))]; exact a3
    · rw [k.fr (qF 803 (by decide)), k.fi (qF 804 (by decide)), qS 14 (by decide), qS 10 (by decide), qS 11 (by decide)]; exact a4
    · rw [qS 11 (by decide), qS 12 (by decide), qS 10 (by decide), k.ar h1.ar4 (qA 38 (by decide)), k.ar h1.ar6 (qA 38 (by decide))]; exact a5
    · intro x hx
      rw [eu, k.fi (qF 805 (by decide))]; exact a6 x hx
  · rw [qS 0 (by decide), qS 1 (by decide), qS 2 (by decide)]; exact h3
  · rw [k.fi (qF 903 (by decide)), qS 3 (by decide)]; exact h4
  · rw [hz, k.fi (qF 906 (by decide)), qS 37 (by decide), qS 38 (by decide)]; exact h5
  · rw [k.fi (qF 1003 (by decide)), qS 26 (by decide)]; exact h6
theorem WI.wO (h : WI sw nd M S w pe wo) : wO S := fun x hx => by
  cases e : pe x with
  | none => exact Or.inl (h.2.1 x hx e)
  | some y =>
    obtain ⟨-, ⟨-, h2, h3⟩, -⟩ := h.2.2.2.1 x y e
    exact Or.inr ⟨wo x, by have := h.1.2.2; omega, h3⟩
theorem WI.up (h : WI sw nd M S w pe wo) (hx : sd sw nd x) : h_fi M 805 (200 + x) = upS S x := h.2.2.2.2.2 x hx
theorem WI.sds (h : WI sw nd M S w pe wo) (e : pe x = some y) : sd sw nd x ∧ sd sw nd y ∧ pe y = some x := (h.2.2.2.1 x y e).1.1
theorem WI.pr (h : WI sw nd M S w pe wo) (e : pe x = some y) : h_fr M 803 (200 + x) = some (200 + y) := (h.2.2.2.1 x y e).2.2.1
theorem WI.pn (h : WI sw nd M S w pe wo) (hx : sd sw nd x) (e : pe x = none) : h_fr M 803 (200 + x) = none := h.2.2.1 x hx e
/-- both ends of a wire are up, or down -/
theorem WI.both (h : WI sw nd M S w pe wo) (e : pe x = some y) : upS S y = upS S x := by
  obtain ⟨⟨⟨-, -, e2⟩, -⟩, ⟨w1, w2, w3⟩, -⟩ := h.2.2.2.1 x y e
  obtain ⟨-, ⟨w4, w5, w6⟩, -⟩ := h.2.2.2.1 y x e2
  unfold upS
  rw [w3, w6, w1]
theorem upS_no (h : WI sw nd M S w pe wo) (hx : x < 48) (e : pe x = none) : upS S x = 0 := by
  unfold upS
  rw [if_pos (h.2.1 x hx e)]
theorem e178_eq (h : WI sw nd M S w pe wo) (hx : x < 48) (hy : y < 48) (e : pe x = some y) : e178 (nI x) S = some (nI y, S) := by
  obtain ⟨⟨-, hne, -⟩, ⟨-, w2, w3⟩, -, w5, -⟩ := h.2.2.2.1 x y e
  have hw := h.1.2.2
  have i1 : 2 * wo x < 32 := by omega
  have i2 : 2 * wo x + 1 < 32 := by omega
  rcases w5 with ⟨v1, v2⟩ | ⟨v1, v2⟩
  · simp [e178, c178_0, c178_40, hx, w3, i1, i2, v1, v2, ga4, gs4, ga5, gs5, ga6, gs6, ga7, gs7, ga8, gs8, ga10, gs10, ga11, gs11, ga12, gs12_0, gs12_1, gs12, ga14, gs14, ga15, gs15, ga16, gs16, ga17, gs17, ga18, gs18, ga19, gs19, ga20, gs20, ga21, gs21, ga22, gs22_0, gs22_1, gs22, ga23, gs23, ga24, gs24, ga25, gs25, ga26, gs26, ga27, gs27_0, gs27_1, gs27, ga28, gs28, ga29, gs29, ga30, gs30, ga31, gs31, ga32, gs32, ga33, gs33_0, gs33_1, gs33, ga34, gs34_0, gs34_1, gs34, ga35, gs35, ga36, gs36, ga37, gs37, ga39, gs39, ga40, gs40, ga41, gs41, ga42, gs42, ga43, gs43, ga44, gs44, ga45, gs45, ga46, gs46, ga48, gs48, ga49, gs49, ga50, gs50_0, gs50_1, gs50, ga51, gs51, ga52, gs52, ga53, gs53, ga54, gs54, ga55, gs55, ga56, gs56, ga57, gs57, ga58, gs58, ga59, gs59, ga60, gs60, ixr2, ixl2, ixr3, ixl3, ixr4, ixl4, ixr5, ixl5, ixr8, ixl8, ixr16, ixl16, ixr24, ixl24, ixr32, ixl32, ixr48, ixl48, ixr64, ixl64, ixr80, ixl80, ixa2, ixa3, ixa4, ixa5, ixa6, ixa7, ixa8, ixa13, ixa40, ixb4, ixb6, ixb7, ixb40, ixb13, ixb19, ixb14, y_su, y_sul, y_tu, y_tul, nI_add, nI_1, s_g, s_p, s_out]
  · have : ¬ nI y = nI x := fun q => hne ((nI_eq (by omega) (by omega)).mp q).symm
    simp [e178, c178_0, c178_40, hx, w3, i1, i2, v1, v2, this, ga4, gs4, ga5, gs5, ga6, gs6, ga7, gs7, ga8, gs8, ga10, gs10, ga11, gs11, ga12, gs12_0, gs12_1, gs12, ga14, gs14, ga15, gs15, ga16, gs16, ga17, gs17, ga18, gs18, ga19, gs19, ga20, gs20, ga21, gs21, ga22, gs22_0, gs22_1, gs22, ga23, gs23, ga24, gs24, ga25, gs25, ga26, gs26, ga27, gs27_0, gs27_1, gs27, ga28, gs28, ga29, gs29, ga30, gs30, ga31, gs31, ga32, gs32, ga33, gs33_0, gs33_1, gs33, ga34, gs34_0, gs34_1, gs34, ga35, gs35, ga36, gs36, ga37, gs37, ga39, gs39, ga40, gs40, ga41, gs41, ga42, gs42, ga43, gs43, ga44, gs44, ga45, gs45, ga46, gs46, ga48, gs48, ga49, gs49, ga50, gs50_0, gs50_1, gs50, ga51, gs51, ga52, gs52, ga53, gs53, ga54, gs54, ga55, gs55, ga56, gs56, ga57, gs57, ga58, gs58, ga59, gs59, ga60, gs60, ixr2, ixl2, ixr3, ixl3, ixr4, ixl4, ixr5, ixl5, ixr8, ixl8, ixr16, ixl16, ixr24, ixl24, ixr32, ixl32, ixr48, ixl48, ixr64, ixl64, ixr80, ixl80, ixa2, ixa3, ixa4, ixa5, ixa6, ixa7, ixa8, ixa13, ixa40, ixb4, ixb6, ixb7, ixb40, ixb13, ixb19, ixb14, y_su, y_sul, y_tu, y_tul, nI_add, nI_1, s_g, s_p, s_out]
/-- the node at the other end, or -1 -/
def ndA (pe : Nat → Option Nat) (x : Nat) : Int32 := match pe x with
  | some y => if 40 ≤ y then nI (y - 40) else -1
  | none => -1
theorem e179_eq (h : WI sw nd M S w pe wo) (hx : x < 48) (h48 : ∀ y, pe x = some y → y < 48) : e179 (nI x) S = some (ndA pe x, S) := by
  unfold ndA
  cases e : pe x with
  | none =>
    have := h.2.1 x hx e
    simp [e179, c179_0, c179_31, c179_32, hx, this, ga4, gs4, ga5, gs5, ga6, gs6, ga7, gs7, ga8, gs8, ga10, gs10, ga11, gs11, ga12, gs12_0, gs12_1, gs12, ga14, gs14, ga15, gs15, ga16, gs16, ga17, gs17, ga18, gs18, ga19, gs19, ga20, gs20, ga21, gs21, ga22, gs22_0, gs22_1, gs22, ga23, gs23, ga24, gs24, ga25, gs25, ga26, gs26, ga27, gs27_0, gs27_1, gs27, ga28, gs28, ga29, gs29, ga30, gs30, ga31, gs31, ga32, gs32, ga33, gs33_0, gs33_1, gs33, ga34, gs34_0, gs34_1, gs34, ga35, gs35, ga36, gs36, ga37, gs37, ga39, gs39, ga40, gs40, ga41, gs41, ga42, gs42, ga43, gs43, ga44, gs44, ga45, gs45, ga46, gs46, ga48, gs48, ga49, gs49, ga50, gs50_0, gs50_1, gs50, ga51, gs51, ga52, gs52, ga53, gs53, ga54, gs54, ga55, gs55, ga56, gs56, ga57, gs57, ga58, gs58, ga59, gs59, ga60, gs60, ixr2, ixl2, ixr3, ixl3, ixr4, ixl4, ixr5, ixl5, ixr8, ixl8, ixr16, ixl16, ixr24, ixl24, ixr32, ixl32, ixr48, ixl48, ixr64, ixl64, ixr80, ixl80, ixa2, ixa3, ixa4, ixa5, ixa6, ixa7, ixa8, ixa13, ixa40, ixb4, ixb6, ixb7, ixb40, ixb13, ixb19, ixb14, y_su, y_sul, y_tu, y_tul, nI_add, nI_1, s_g, s_p, s_out]
  | some y =>
    have hy := h48 y e
    obtain ⟨-, ⟨-, w2, w3⟩, -⟩ := h.2.2.2.1 x y e
    have hw := h.1.2.2
    have n1 := nI_m1 (n := wo x) (by omega)
    have e8 := e178_eq h hx hy e
    by_cases c : 40 ≤ y
    · have c1 : ¬ nI y < 40 := nI_nlt (b := 40) c (by omega)
      have c2 : nI y - 40 = nI (y - 40) := pk_sub (b := 40) c
      simp [e179, c179_0, c179_31, c179_32, hx, w3, n1, e8, c1, c2, c, ga4, gs4, ga5, gs5, ga6, gs6, ga7, gs7, ga8, gs8, ga10, gs10, ga11, gs11, ga12, gs12_0, gs12_1, gs12, ga14, gs14, ga15, gs15, ga16, gs16, ga17, gs17, ga18, gs18, ga19, gs19, ga20, gs20, ga21, gs21, ga22, gs22_0, gs22_1, gs22, ga23, gs23, ga24, gs24, ga25, gs25, ga26, gs26, ga27, gs27_0, gs27_1, gs27, ga28, gs28, ga29, gs29, ga30, gs30, ga31, gs31, ga32, gs32, ga33, gs33_0, gs33_1, gs33, ga34, gs34_0, gs34_1, gs34, ga35, gs35, ga36, gs36, ga37, gs37, ga39, gs39, ga40, gs40, ga41, gs41, ga42, gs42, ga43, gs43, ga44, gs44, ga45, gs45, ga46, gs46, ga48, gs48, ga49, gs49, ga50, gs50_0, gs50_1, gs50, ga51, gs51, ga52, gs52, ga53, gs53, ga54, gs54, ga55, gs55, ga56, gs56, ga57, gs57, ga58, gs58, ga59, gs59, ga60, gs60, ixr2, ixl2, ixr3, ixl3, ixr4, ixl4, ixr5, ixl5, ixr8, ixl8, ixr16, ixl16, ixr24, ixl24, ixr32, ixl32, ixr48, ixl48, ixr64, ixl64, ixr80, ixl80, ixa2, ixa3, ixa4, ixa5, ixa6, ixa7, ixa8, ixa13, ixa40, ixb4, ixb6, ixb7, ixb40, ixb13, ixb19, ixb14, y_su, y_sul, y_tu, y_tul, nI_add, nI_1, s_g, s_p, s_out]
    · have c1 : nI y < 40 := nI_lt (b := 40) (by omega) (by omega)
      simp [e179, c179_0, c179_31, c179_32, hx, w3, n1, e8, c1, c, ga4, gs4, ga5, gs5, ga6, gs6, ga7, gs7, ga8, gs8, ga10, gs10, ga11, gs11, ga12, gs12_0, gs12_1, gs12, ga14, gs14, ga15, gs15, ga16, gs16, ga17, gs17, ga18, gs18, ga19, gs19, ga20, gs20, ga21, gs21, ga22, gs22_0, gs22_1, gs22, ga23, gs23, ga24, gs24, ga25, gs25, ga26, gs26, ga27, gs27_0, gs27_1, gs27, ga28, gs28, ga29, gs29, ga30, gs30, ga31, gs31, ga32, gs32, ga33, gs33_0, gs33_1, gs33, ga34, gs34_0, gs34_1, gs34, ga35, gs35, ga36, gs36, ga37, gs37, ga39, gs39, ga40, gs40, ga41, gs41, ga42, gs42, ga43, gs43, ga44, gs44, ga45, gs45, ga46, gs46, ga48, gs48, ga49, gs49, ga50, gs50_0, gs50_1, gs50, ga51, gs51, ga52, gs52, ga53, gs53, ga54, gs54, ga55, gs55, ga56, gs56, ga57, gs57, ga58, gs58, ga59, gs59, ga60, gs60, ixr2, ixl2, ixr3, ixl3, ixr4, ixl4, ixr5, ixl5, ixr8, ixl8, ixr16, ixl16, ixr24, ixl24, ixr32, ixl32, ixr48, ixl48, ixr64, ixl64, ixr80, ixl80, ixa2, ixa3, ixa4, ixa5, ixa6, ixa7, ixa8, ixa13, ixa40, ixb4, ixb6, ixb7, ixb40, ixb13, ixb19, ixb14, y_su, y_sul, y_tu, y_tul, nI_add, nI_1, s_g, s_p, s_out]
theorem ow_lo (h : x < 40) : ow x = nI (x / 8) := if_pos h
theorem ow_hi (h : 40 ≤ x) : ow x = nI (16 + (x - 40)) := if_neg (by omega)
theorem f112_eq (hI : cI sw nd rm M) (h : WI sw nd M S w pe wo) (hx : sd sw nd x) : f112 [.inr (.inr (some (200 + x)))] M = some (some (.inl (b2 (match pe x with | some y => decide (y < 40) | none => false))), M) := by
  have h1 := hI.po0 hx
  cases e : pe x with
  | none =>
    have := h.pn hx e
    simp [f112, b112_0, b112_23, b112_24, h1, this, b2, g_i, g_r, g_l, g_o, p_i, p_r, p_l, p_z, c_V, c_I, c_L, c_R, x_out, z_fl_pi, z_fr_pi, z_ai_pi, z_al_pi, z_ar_pi, z_ln_pi, z_tg_pi, z_sz_pi, z_sl_pi, z_fi_pl, z_fr_pl, z_ai_pl, z_al_pl, z_ar_pl, z_ln_pl, z_tg_pl, z_sz_pl, z_sl_pl, z_fi_pr, z_fl_pr, z_ai_pr, z_al_pr, z_ar_pr, z_ln_pr, z_tg_pr, z_sz_pr, z_sl_pr, z_fi_qi, z_fl_qi, z_fr_qi, z_al_qi, z_ar_qi, z_ln_qi, z_tg_qi, z_sz_qi, z_sl_qi, z_fi_ql, z_fl_ql, z_fr_ql, z_ai_ql, z_ar_ql, z_ln_ql, z_tg_ql, z_sz_ql, z_sl_ql, z_fi_qr, z_fl_qr, z_fr_qr, z_ai_qr, z_al_qr, z_ln_qr, z_tg_qr, z_sz_qr, z_sl_qr, z_fi_ca, z_fl_ca, z_fr_ca, z_al_ca, z_ar_ca, z_ln_ca, z_tg_ca, z_sz_ca, z_sl_ca, y_pi, y_pl, y_pr, y_qi, y_ql, y_qr, y_ca]
  | some y =>
    have hp := h.pr e
    obtain ⟨-, hy, -⟩ := h.sds e
    have hy8 := hI.x8 hy
    have h1y := hI.po0 hy
    have ho := hI.po2 hy
    by_cases c : y < 40
    · rw [ow_lo c] at ho
      have c1 : ¬ (16 : Int32) ≤ nI (y / 8) := nI_ge (b := 16) (by omega) (by omega)
      simp [f112, b112_0, b112_23, b112_24, h1, h1y, hp, ho, c1, c, b2, g_i, g_r, g_l, g_o, p_i, p_r, p_l, p_z, c_V, c_I, c_L, c_R, x_out, z_fl_pi, z_fr_pi, z_ai_pi, z_al_pi, z_ar_pi, z_ln_pi, z_tg_pi, z_sz_pi, z_sl_pi, z_fi_pl, z_fr_pl, z_ai_pl, z_al_pl, z_ar_pl, z_ln_pl, z_tg_pl, z_sz_pl, z_sl_pl, z_fi_pr, z_fl_pr, z_ai_pr, z_al_pr, z_ar_pr, z_ln_pr, z_tg_pr, z_sz_pr, z_sl_pr, z_fi_qi, z_fl_qi, z_fr_qi, z_al_qi, z_ar_qi, z_ln_qi, z_tg_qi, z_sz_qi, z_sl_qi, z_fi_ql, z_fl_ql, z_fr_ql, z_ai_ql, z_ar_ql, z_ln_ql, z_tg_ql, z_sz_ql, z_sl_ql, z_fi_qr, z_fl_qr, z_fr_qr, z_ai_qr, z_al_qr, z_ln_qr, z_tg_qr, z_sz_qr, z_sl_qr, z_fi_ca, z_fl_ca, z_fr_ca, z_al_ca, z_ar_ca, z_ln_ca, z_tg_ca, z_sz_ca, z_sl_ca, y_pi, y_pl, y_pr, y_qi, y_ql, y_qr, y_ca]
    · rw [ow_hi (by omega)] at ho
      have c1 : (16 : Int32) ≤ nI (16 + (y - 40)) := nI_le (a := 16) (by omega) (by omega)
      simp [f112, b112_0, b112_23, b112_24, h1, h1y, hp, ho, c1, c, b2, g_i, g_r, g_l, g_o, p_i, p_r, p_l, p_z, c_V, c_I, c_L, c_R, x_out, z_fl_pi, z_fr_pi, z_ai_pi, z_al_pi, z_ar_pi, z_ln_pi, z_tg_pi, z_sz_pi, z_sl_pi, z_fi_pl, z_fr_pl, z_ai_pl, z_al_pl, z_ar_pl, z_ln_pl, z_tg_pl, z_sz_pl, z_sl_pl, z_fi_pr, z_fl_pr, z_ai_pr, z_al_pr, z_ar_pr, z_ln_pr, z_tg_pr, z_sz_pr, z_sl_pr, z_fi_qi, z_fl_qi, z_fr_qi, z_al_qi, z_ar_qi, z_ln_qi, z_tg_qi, z_sz_qi, z_sl_qi, z_fi_ql, z_fl_ql, z_fr_ql, z_ai_ql, z_ar_ql, z_ln_ql, z_tg_ql, z_sz_ql, z_sl_ql, z_fi_qr, z_fl_qr, z_fr_qr, z_ai_qr, z_al_qr, z_ln_qr, z_tg_qr, z_sz_qr, z_sl_qr, z_fi_ca, z_fl_ca, z_fr_ca, z_al_ca, z_ar_ca, z_ln_ca, z_tg_ca, z_sz_ca, z_sl_ca, y_pi, y_pl, y_pr, y_qi, y_ql, y_qr, y_ca]
theorem f115_eq (hI : cI sw nd rm M) (h : WI sw nd M S w pe wo) (hx : sd sw nd x) : f115 [.inr (.inr (some (200 + x)))] M = some (some (.inl (b2 (match pe x with | some y => decide (40 ≤ y) | none => false))), M) := by
  have h1 := hI.po0 hx
  cases e : pe x with
  | none =>
    have := h.pn hx e
    simp [f115, b115_0, b115_23, b115_24, h1, this, b2, g_i, g_r, g_l, g_o, p_i, p_r, p_l, p_z, c_V, c_I, c_L, c_R, x_out, z_fl_pi, z_fr_pi, z_ai_pi, z_al_pi, z_ar_pi, z_ln_pi, z_tg_pi, z_sz_pi, z_sl_pi, z_fi_pl, z_fr_pl, z_ai_pl, z_al_pl, z_ar_pl, z_ln_pl, z_tg_pl, z_sz_pl, z_sl_pl, z_fi_pr, z_fl_pr, z_ai_pr, z_al_pr, z_ar_pr, z_ln_pr, z_tg_pr, z_sz_pr, z_sl_pr, z_fi_qi, z_fl_qi, z_fr_qi, z_al_qi, z_ar_qi, z_ln_qi, z_tg_qi, z_sz_qi, z_sl_qi, z_fi_ql, z_fl_ql, z_fr_ql, z_ai_ql, z_ar_ql, z_ln_ql, z_tg_ql, z_sz_ql, z_sl_ql, z_fi_qr, z_fl_qr, z_fr_qr, z_ai_qr, z_al_qr, z_ln_qr, z_tg_qr, z_sz_qr, z_sl_qr, z_fi_ca, z_fl_ca, z_fr_ca, z_al_ca, z_ar_ca, z_ln_ca, z_tg_ca, z_sz_ca, z_sl_ca, y_pi, y_pl, y_pr, y_qi, y_ql, y_qr, y_ca]
  | some y =>
    have hp := h.pr e
    obtain ⟨-, hy, -⟩ := h.sds e
    have hy8 := hI.x8 hy
    have h1y := hI.po0 hy
    have ho := hI.po2 hy
    by_cases c : 40 ≤ y
    · rw [ow_hi c] at ho
      have c1 : ¬ nI (16 + (y - 40)) < 16 := nI_nlt (b := 16) (by omega) (by omega)
      simp [f115, b115_0, b115_23, b115_24, h1, h1y, hp, ho, c1, c, b2, g_i, g_r, g_l, g_o, p_i, p_r, p_l, p_z, c_V, c_I, c_L, c_R, x_out, z_fl_pi, z_fr_pi, z_ai_pi, z_al_pi, z_ar_pi, z_ln_pi, z_tg_pi, z_sz_pi, z_sl_pi, z_fi_pl, z_fr_pl, z_ai_pl, z_al_pl, z_ar_pl, z_ln_pl, z_tg_pl, z_sz_pl, z_sl_pl, z_fi_pr, z_fl_pr, z_ai_pr, z_al_pr, z_ar_pr, z_ln_pr, z_tg_pr, z_sz_pr, z_sl_pr, z_fi_qi, z_fl_qi, z_fr_qi, z_al_qi, z_ar_qi, z_ln_qi, z_tg_qi, z_sz_qi, z_sl_qi, z_fi_ql, z_fl_ql, z_fr_ql, z_ai_ql, z_ar_ql, z_ln_ql, z_tg_ql, z_sz_ql, z_sl_ql, z_fi_qr, z_fl_qr, z_fr_qr, z_ai_qr, z_al_qr, z_ln_qr, z_tg_qr, z_sz_qr, z_sl_qr, z_fi_ca, z_fl_ca, z_fr_ca, z_al_ca, z_ar_ca, z_ln_ca, z_tg_ca, z_sz_ca, z_sl_ca, y_pi, y_pl, y_pr, y_qi, y_ql, y_qr, y_ca]
    · rw [ow_lo (by omega)] at ho
      have c1 : nI (y / 8) < 16 := nI_lt (b := 16) (by omega) (by omega)
      simp [f115, b115_0, b115_23, b115_24, h1, h1y, hp, ho, c1, c, b2, g_i, g_r, g_l, g_o, p_i, p_r, p_l, p_z, c_V, c_I, c_L, c_R, x_out, z_fl_pi, z_fr_pi, z_ai_pi, z_al_pi, z_ar_pi, z_ln_pi, z_tg_pi, z_sz_pi, z_sl_pi, z_fi_pl, z_fr_pl, z_ai_pl, z_al_pl, z_ar_pl, z_ln_pl, z_tg_pl, z_sz_pl, z_sl_pl, z_fi_pr, z_fl_pr, z_ai_pr, z_al_pr, z_ar_pr, z_ln_pr, z_tg_pr, z_sz_pr, z_sl_pr, z_fi_qi, z_fl_qi, z_fr_qi, z_al_qi, z_ar_qi, z_ln_qi, z_tg_qi, z_sz_qi, z_sl_qi, z_fi_ql, z_fl_ql, z_fr_ql, z_ai_ql, z_ar_ql, z_ln_ql, z_tg_ql, z_sz_ql, z_sl_ql, z_fi_qr, z_fl_qr, z_fr_qr, z_ai_qr, z_al_qr, z_ln_qr, z_tg_qr, z_sz_qr, z_sl_qr, z_fi_ca, z_fl_ca, z_fr_ca, z_al_ca, z_ar_ca, z_ln_ca, z_tg_ca, z_sz_ca, z_sl_ca, y_pi, y_pl, y_pr, y_qi, y_ql, y_qr, y_ca]
theorem f116_eq (hI : cI sw nd rm M) (h : WI sw nd M S w pe wo) (hx : sd sw nd x) : f116 [.inr (.inr (some (200 + x)))] M = some (some (.inl (ndA pe x)), M) := by
  have h1 := hI.po0 hx
  have e5 := f115_eq hI h hx
  unfold ndA
  cases e : pe x with
  | none =>
    rw [e] at e5
    have e5 : f115 [.inr (.inr (some (200 + x)))] M = some (some (.inl 0), M) := e5
    simp [f116, b116_0, b116_21, h1, e5, g_i, g_r, g_l, g_o, p_i, p_r, p_l, p_z, c_V, c_I, c_L, c_R, x_out, z_fl_pi, z_fr_pi, z_ai_pi, z_al_pi, z_ar_pi, z_ln_pi, z_tg_pi, z_sz_pi, z_sl_pi, z_fi_pl, z_fr_pl, z_ai_pl, z_al_pl, z_ar_pl, z_ln_pl, z_tg_pl, z_sz_pl, z_sl_pl, z_fi_pr, z_fl_pr, z_ai_pr, z_al_pr, z_ar_pr, z_ln_pr, z_tg_pr, z_sz_pr, z_sl_pr, z_fi_qi, z_fl_qi, z_fr_qi, z_al_qi, z_ar_qi, z_ln_qi, z_tg_qi, z_sz_qi, z_sl_qi, z_fi_ql, z_fl_ql, z_fr_ql, z_ai_ql, z_ar_ql, z_ln_ql, z_tg_ql, z_sz_ql, z_sl_ql, z_fi_qr, z_fl_qr, z_fr_qr, z_ai_qr, z_al_qr, z_ln_qr, z_tg_qr, z_sz_qr, z_sl_qr, z_fi_ca, z_fl_ca, z_fr_ca, z_al_ca, z_ar_ca, z_ln_ca, z_tg_ca, z_sz_ca, z_sl_ca, y_pi, y_pl, y_pr, y_qi, y_ql, y_qr, y_ca]
  | some y =>
    rw [e] at e5
    have hp := h.pr e
    obtain ⟨-, hy, -⟩ := h.sds e
    have hy8 := hI.x8 hy
    have h1y := hI.po0 hy
    have ho := hI.po2 hy
    by_cases c : 40 ≤ y
    · rw [ow_hi c] at ho
      have e5 : f115 [.inr (.inr (some (200 + x)))] M = some (some (.inl 1), M) := by rw [e5]; simp [b2, c]
      have c1 : nI (16 + (y - 40)) - 16 = nI (y - 40) := by rw [show (16 : Int32) = nI 16 from rfl, pk_sub (by omega)]; congr 1; omega
      simp [f116, b116_0, b116_21, h1, h1y, e5, hp, ho, c1, c, g_i, g_r, g_l, g_o, p_i, p_r, p_l, p_z, c_V, c_I, c_L, c_R, x_out, z_fl_pi, z_fr_pi, z_ai_pi, z_al_pi, z_ar_pi, z_ln_pi, z_tg_pi, z_sz_pi, z_sl_pi, z_fi_pl, z_fr_pl, z_ai_pl, z_al_pl, z_ar_pl, z_ln_pl, z_tg_pl, z_sz_pl, z_sl_pl, z_fi_pr, z_fl_pr, z_ai_pr, z_al_pr, z_ar_pr, z_ln_pr, z_tg_pr, z_sz_pr, z_sl_pr, z_fi_qi, z_fl_qi, z_fr_qi, z_al_qi, z_ar_qi, z_ln_qi, z_tg_qi, z_sz_qi, z_sl_qi, z_fi_ql, z_fl_ql, z_fr_ql, z_ai_ql, z_ar_ql, z_ln_ql, z_tg_ql, z_sz_ql, z_sl_ql, z_fi_qr, z_fl_qr, z_fr_qr, z_ai_qr, z_al_qr, z_ln_qr, z_tg_qr, z_sz_qr, z_sl_qr, z_fi_ca, z_fl_ca, z_fr_ca, z_al_ca, z_ar_ca, z_ln_ca, z_tg_ca, z_sz_ca, z_sl_ca, y_pi, y_pl, y_pr, y_qi, y_ql, y_qr, y_ca]
    · have e5 : f115 [.inr (.inr (some (200 + x)))] M = some (some (.inl 0), M) := by rw [e5]; simp [b2, c]
      simp [f116, b116_0, b116_21, h1, e5, c, g_i, g_r, g_l, g_o, p_i, p_r, p_l, p_z, c_V, c_I, c_L, c_R, x_out, z_fl_pi, z_fr_pi, z_ai_pi, z_al_pi, z_ar_pi, z_ln_pi, z_tg_pi, z_sz_pi, z_sl_pi, z_fi_pl, z_fr_pl, z_ai_pl, z_al_pl, z_ar_pl, z_ln_pl, z_tg_pl, z_sz_pl, z_sl_pl, z_fi_pr, z_fl_pr, z_ai_pr, z_al_pr, z_ar_pr, z_ln_pr, z_tg_pr, z_sz_pr, z_sl_pr, z_fi_qi, z_fl_qi, z_fr_qi, z_al_qi, z_ar_qi, z_ln_qi, z_tg_qi, z_sz_qi, z_sl_qi, z_fi_ql, z_fl_ql, z_fr_ql, z_ai_ql, z_ar_ql, z_ln_ql, z_tg_ql, z_sz_ql, z_sl_ql, z_fi_qr, z_fl_qr, z_fr_qr, z_ai_qr, z_al_qr, z_ln_qr, z_tg_qr, z_sz_qr, z_sl_qr, z_fi_ca, z_fl_ca, z_fr_ca, z_al_ca, z_ar_ca, z_ln_ca, z_tg_ca, z_sz_ca, z_sl_ca, y_pi, y_pl, y_pr, y_qi, y_ql, y_qr, y_ca]
end SW
/-! ===== zones ===== -/
def czl (zs : Nat → Int32) (v u : Int32) : Nat → Nat → Bool
  | _, 0 => false
  | k, d + 1 => if (((zs k >>> (v &&& 31)) &&& (zs k >>> (u &&& 31))) &&& 1) = 1 then true else czl zs v u (k + 1) d
/-- whether two nodes are in a common zone -/
def cmz (nd : Nat) (zo : Int32) (zs : Nat → Int32) (v u : Int32) : Bool :=
  if v < 0 then false else if nI nd ≤ v then false else if u < 0 then false else if nI nd ≤ u then false else if zo = 0 then true else czl zs v u 0 8
theorem czl_comm (zs : Nat → Int32) (v u : Int32) : ∀ d k, czl zs v u k d = czl zs u v k d
  | 0, _ => rfl
  | d + 1, k => by
    show (if (((zs k >>> (v &&& 31)) &&& (zs k >>> (u &&& 31))) &&& 1) = 1 then true else czl zs v u (k + 1) d) = (if (((zs k >>> (u &&& 31)) &&& (zs k >>> (v &&& 31))) &&& 1) = 1 then true else czl zs u v (k + 1) d)
    rw [Int32.and_comm (zs k >>> (v &&& 31)), czl_comm zs v u d]
theorem cmz_comm (nd : Nat) (zo : Int32) (zs : Nat → Int32) (v u : Int32) : cmz nd zo zs v u = cmz nd zo zs u v := by
  unfold cmz
  rw [czl_comm zs v u]
  by_cases a1 : v < 0 <;> by_cases a2 : nI nd ≤ v <;> by_cases a3 : u < 0 <;> by_cases a4 : nI nd ≤ u <;> simp [a1, a2, a3, a4]
theorem zbits : ∀ k, k < 256 → ∀ a, a < 8 → ∀ b, b < 8 → (((nI k &&& (((1 : Int32) <<< (nI a &&& 31)) ||| ((1 : Int32) <<< (nI b &&& 31)))) = (((1 : Int32) <<< (nI a &&& 31)) ||| ((1 : Int32) <<< (nI b &&& 31)))) ↔ ((((nI k >>> (nI a &&& 31)) &&& (nI k >>> (nI b &&& 31))) &&& 1) = 1)) := by decide +kernel
section ZN
variable {sw nd rm : Nat} {M : hM} {S : sT}
theorem e188_eq {v u : Int32} (h1 : S.1 1 0 = nI nd) : e188 v u S = some (b2 (cmz nd (S.1 38 0) (S.1 37) v u), S) := by
  have loop : ∀ d k fuel, k + d = 8 → d < fuel → sdrive kS188 fuel 37 [.inl v, .inl u, .inl (nI k)] S = some (b2 (czl (S.1 37) v u k d), S) := by
    intro d
    induction d with
    | zero =>
      intro k fuel hk hf
      obtain ⟨g, rfl⟩ : ∃ g, fuel = g + 1 := ⟨fuel - 1, by omega⟩
      have e : (8 : Int32) ≤ nI k := nI_le (a := 8) (by omega) (by omega)
      refine sd_end ?_
      simp [kS188, c188_37, e, czl, b2]
    | succ d ih =>
      intro k fuel hk hf
      obtain ⟨g, rfl⟩ : ∃ g, fuel = g + 1 := ⟨fuel - 1, by omega⟩
      have e : ¬ (8 : Int32) ≤ nI k := nI_ge (b := 8) (by omega) (by omega)
      have hk8 : k < 8 := by omega
      unfold czl
      by_cases c : (((S.1 37 k >>> (v &&& 31)) &&& (S.1 37 k >>> (u &&& 31))) &&& 1) = 1
      · refine sd_end ?_
        simp [kS188, c188_37, e, ga37 hk8, c, b2]
      · have hb : kS188 37 [.inl v, .inl u, .inl (nI k)] S = some (.inr (37, [.inl v, .inl u, .inl (nI (k + 1))], S)) := by
          simp [kS188, c188_37, e, ga37 hk8, c, nI_1]
        rw [sd_go hb, if_neg c]
        exact ih (k + 1) g (by omega) (by omega)
  show s_go kS188 (c188_0 v u S) = _
  unfold cmz
  by_cases a1 : v < 0
  · simp [c188_0, c188_24, a1, s_go, b2]
  by_cases a2 : nI nd ≤ v
  · simp [c188_0, c188_24, a1, a2, s_g, h1, s_go, b2]
  by_cases a3 : u < 0
  · simp [c188_0, c188_24, a1, a2, a3, s_g, h1, s_go, b2]
  by_cases a4 : nI nd ≤ u
  · have a4' : ¬ u < nI nd := Int32.not_lt.mpr a4
    simp [c188_0, c188_24, a1, a2, a3, a4, a4', s_g, h1, s_go, b2]
  have a4' : u < nI nd := Int32.not_le.mp a4
  by_cases a5 : S.1 38 0 = 0
  · simp [c188_0, c188_24, a1, a2, a3, a4, a4', a5, s_g, h1, s_go, b2]
  have hb : c188_0 v u S = some (.inr (37, [.inl v, .inl u, .inl (nI 0)], S)) := by
    have e0 : nI 0 = 0 := rfl
    simp [c188_0, a1, a2, a3, a4', a5, s_g, h1, e0]
  rw [hb, if_neg a1, if_neg a2, if_neg a3, if_neg a4, if_neg a5]
  exact loop 8 0 xF (by omega) (by unfold xF; omega)
theorem f8_any {v : Int32} (h2 : h_tg M 2 = 10) (h9 : h_fi M 901 2 = nI nd) : f8 [.inr (.inr (some 2)), .inl v] M = some (some (.inl (b2 (if v < 0 then false else if nI nd ≤ v then false else true))), M) := by
  by_cases c : v < 0
  · simp [f8, b8_0, b8_16, b8_17, c, b2, g_i, g_r, g_l, g_o, p_i, p_r, p_l, p_z, c_V, c_I, c_L, c_R, x_out, z_fl_pi, z_fr_pi, z_ai_pi, z_al_pi, z_ar_pi, z_ln_pi, z_tg_pi, z_sz_pi, z_sl_pi, z_fi_pl, z_fr_pl, z_ai_pl, z_al_pl, z_ar_pl, z_ln_pl, z_tg_pl, z_sz_pl, z_sl_pl, z_fi_pr, z_fl_pr, z_ai_pr, z_al_pr, z_ar_pr, z_ln_pr, z_tg_pr, z_sz_pr, z_sl_pr, z_fi_qi, z_fl_qi, z_fr_qi, z_al_qi, z_ar_qi, z_ln_qi, z_tg_qi, z_sz_qi, z_sl_qi, z_fi_ql, z_fl_ql, z_fr_ql, z_ai_ql, z_ar_ql, z_ln_ql, z_tg_ql, z_sz_ql, z_sl_ql, z_fi_qr, z_fl_qr, z_fr_qr, z_ai_qr, z_al_qr, z_ln_qr, z_tg_qr, z_sz_qr, z_sl_qr, z_fi_ca, z_fl_ca, z_fr_ca, z_al_ca, z_ar_ca, z_ln_ca, z_tg_ca, z_sz_ca, z_sl_ca, y_pi, y_pl, y_pr, y_qi, y_ql, y_qr, y_ca]
  · by_cases c2 : nI nd ≤ v
    · simp [f8, b8_0, b8_16, b8_17, c, c2, h2, h9, b2, g_i, g_r, g_l, g_o, p_i, p_r, p_l, p_z, c_V, c_I, c_L, c_R, x_out, z_fl_pi, z_fr_pi, z_ai_pi, z_al_pi, z_ar_pi, z_ln_pi, z_tg_pi, z_sz_pi, z_sl_pi, z_fi_pl, z_fr_pl, z_ai_pl, z_al_pl, z_ar_pl, z_ln_pl, z_tg_pl, z_sz_pl, z_sl_pl, z_fi_pr, z_fl_pr, z_ai_pr, z_al_pr, z_ar_pr, z_ln_pr, z_tg_pr, z_sz_pr, z_sl_pr, z_fi_qi, z_fl_qi, z_fr_qi, z_al_qi, z_ar_qi, z_ln_qi, z_tg_qi, z_sz_qi, z_sl_qi, z_fi_ql, z_fl_ql, z_fr_ql, z_ai_ql, z_ar_ql, z_ln_ql, z_tg_ql, z_sz_ql, z_sl_ql, z_fi_qr, z_fl_qr, z_fr_qr, z_ai_qr, z_al_qr, z_ln_qr, z_tg_qr, z_sz_qr, z_sl_qr, z_fi_ca, z_fl_ca, z_fr_ca, z_al_ca, z_ar_ca, z_ln_ca, z_tg_ca, z_sz_ca, z_sl_ca, y_pi, y_pl, y_pr, y_qi, y_ql, y_qr, y_ca]
    · simp [f8, b8_0, b8_16, b8_17, c, c2, h2, h9, b2, g_i, g_r, g_l, g_o, p_i, p_r, p_l, p_z, c_V, c_I, c_L, c_R, x_out, z_fl_pi, z_fr_pi, z_ai_pi, z_al_pi, z_ar_pi, z_ln_pi, z_tg_pi, z_sz_pi, z_sl_pi, z_fi_pl, z_fr_pl, z_ai_pl, z_al_pl, z_ar_pl, z_ln_pl, z_tg_pl, z_sz_pl, z_sl_pl, z_fi_pr, z_fl_pr, z_ai_pr, z_al_pr, z_ar_pr, z_ln_pr, z_tg_pr, z_sz_pr, z_sl_pr, z_fi_qi, z_fl_qi, z_fr_qi, z_al_qi, z_ar_qi, z_ln_qi, z_tg_qi, z_sz_qi, z_sl_qi, z_fi_ql, z_fl_ql, z_fr_ql, z_ai_ql, z_ar_ql, z_ln_ql, z_tg_ql, z_sz_ql, z_sl_ql, z_fi_qr, z_fl_qr, z_fr_qr, z_ai_qr, z_al_qr, z_ln_qr, z_tg_qr, z_sz_qr, z_sl_qr, z_fi_ca, z_fl_ca, z_fr_ca, z_al_ca, z_ar_ca, z_ln_ca, z_tg_ca, z_sz_ca, z_sl_ca, y_pi, y_pl, y_pr, y_qi, y_ql, y_qr, y_ca]
theorem f125_eq {v u : Int32} {zs : Nat → Int32} (hI : cI sw nd rm M) (hz : ∀ z, z < 8 → ∃ k, k < 256 ∧ h_ai M 4 z = nI k ∧ zs z = nI k) : f125 [.inr (.inr (some 2)), .inl v, .inl u] M = some (some (.inl (b2 (cmz nd (h_fi M 906 2) zs v u))), M) := by
  have h2 := hI.sh0
  have h9 := hI.sh2
  have h5 := hI.sh5
  have t4 := hI.ar2
  have l4 := hI.ar3
  have hn8 := hI.bs.2.1.2
  have e1 := f8_any (v := v) h2 h9
  have e2 := f8_any (v := u) h2 h9
  show x_go k125 (b125_0 2 v u M) = _
  unfold cmz
  by_cases a1 : v < 0
  · simp [a1] at e1
    simp [b125_0, b125_16, h2, e1, a1, b2, x_go, g_i, g_r, g_l, g_o, p_i, p_r, p_l, p_z, c_V, c_I, c_L, c_R, x_out, z_fl_pi, z_fr_pi, z_ai_pi, z_al_pi, z_ar_pi, z_ln_pi, z_tg_pi, z_sz_pi, z_sl_pi, z_fi_pl, z_fr_pl, z_ai_pl, z_al_pl, z_ar_pl, z_ln_pl, z_tg_pl, z_sz_pl, z_sl_pl, z_fi_pr, z_fl_pr, z_ai_pr, z_al_pr, z_ar_pr, z_ln_pr, z_tg_pr, z_sz_pr, z_sl_pr, z_fi_qi, z_fl_qi, z_fr_qi, z_al_qi, z_ar_qi, z_ln_qi, z_tg_qi, z_sz_qi, z_sl_qi, z_fi_ql, z_fl_ql, z_fr_ql, z_ai_ql, z_ar_ql, z_ln_ql, z_tg_ql, z_sz_ql, z_sl_ql, z_fi_qr, z_fl_qr, z_fr_qr, z_ai_qr, z_al_qr, z_ln_qr, z_tg_qr, z_sz_qr, z_sl_qr, z_fi_ca, z_fl_ca, z_fr_ca, z_al_ca, z_ar_ca, z_ln_ca, z_tg_ca, z_sz_ca, z_sl_ca, y_pi, y_pl, y_pr, y_qi, y_ql, y_qr, y_ca]
  by_cases a2 : nI nd ≤ v
  · simp [a1, a2] at e1
    simp [b125_0, b125_16, h2, e1, a1, a2, b2, x_go, g_i, g_r, g_l, g_o, p_i, p_r, p_l, p_z, c_V, c_I, c_L, c_R, x_out, z_fl_pi, z_fr_pi, z_ai_pi, z_al_pi, z_ar_pi, z_ln_pi, z_tg_pi, z_sz_pi, z_sl_pi, z_fi_pl, z_fr_pl, z_ai_pl, z_al_pl, z_ar_pl, z_ln_pl, z_tg_pl, z_sz_pl, z_sl_pl, z_fi_pr, z_fl_pr, z_ai_pr, z_al_pr, z_ar_pr, z_ln_pr, z_tg_pr, z_sz_pr, z_sl_pr, z_fi_qi, z_fl_qi, z_fr_qi, z_al_qi, z_ar_qi, z_ln_qi, z_tg_qi, z_sz_qi, z_sl_qi, z_fi_ql, z_fl_ql, z_fr_ql, z_ai_ql, z_ar_ql, z_ln_ql, z_tg_ql, z_sz_ql, z_sl_ql, z_fi_qr, z_fl_qr, z_fr_qr, z_ai_qr, z_al_qr, z_ln_qr, z_tg_qr, z_sz_qr, z_sl_qr, z_fi_ca, z_fl_ca, z_fr_ca, z_al_ca, z_ar_ca, z_ln_ca, z_tg_ca, z_sz_ca, z_sl_ca, y_pi, y_pl, y_pr, y_qi, y_ql, y_qr, y_ca]
  simp [a1, a2] at e1
  rw [b2_t] at e1
  by_cases a3 : u < 0
  · simp [a3] at e2
    simp [b125_0, b125_16, h2, e1, e2, a1, a2, a3, b2, x_go, g_i, g_r, g_l, g_o, p_i, p_r, p_l, p_z, c_V, c_I, c_L, c_R, x_out, z_fl_pi, z_fr_pi, z_ai_pi, z_al_pi, z_ar_pi, z_ln_pi, z_tg_pi, z_sz_pi, z_sl_pi, z_fi_pl, z_fr_pl, z_ai_pl, z_al_pl, z_ar_pl, z_ln_pl, z_tg_pl, z_sz_pl, z_sl_pl, z_fi_pr, z_fl_pr, z_ai_pr, z_al_pr, z_ar_pr, z_ln_pr, z_tg_pr, z_sz_pr, z_sl_pr, z_fi_qi, z_fl_qi, z_fr_qi, z_al_qi, z_ar_qi, z_ln_qi, z_tg_qi, z_sz_qi, z_sl_qi, z_fi_ql, z_fl_ql, z_fr_ql, z_ai_ql, z_ar_ql, z_ln_ql, z_tg_ql, z_sz_ql, z_sl_ql, z_fi_qr, z_fl_qr, z_fr_qr, z_ai_qr, z_al_qr, z_ln_qr, z_tg_qr, z_sz_qr, z_sl_qr, z_fi_ca, z_fl_ca, z_fr_ca, z_al_ca, z_ar_ca, z_ln_ca, z_tg_ca, z_sz_ca, z_sl_ca, y_pi, y_pl, y_pr, y_qi, y_ql, y_qr, y_ca]
  by_cases a4 : nI nd ≤ u
  · simp [a3, a4] at e2
    simp [b125_0, b125_16, h2, e1, e2, a1, a2, a3, a4, b2, x_go, g_i, g_r, g_l, g_o, p_i, p_r, p_l, p_z, c_V, c_I, c_L, c_R, x_out, z_fl_pi, z_fr_pi, z_ai_pi, z_al_pi, z_ar_pi, z_ln_pi, z_tg_pi, z_sz_pi, z_sl_pi, z_fi_pl, z_fr_pl, z_ai_pl, z_al_pl, z_ar_pl, z_ln_pl, z_tg_pl, z_sz_pl, z_sl_pl, z_fi_pr, z_fl_pr, z_ai_pr, z_al_pr, z_ar_pr, z_ln_pr, z_tg_pr, z_sz_pr, z_sl_pr, z_fi_qi, z_fl_qi, z_fr_qi, z_al_qi, z_ar_qi, z_ln_qi, z_tg_qi, z_sz_qi, z_sl_qi, z_fi_ql, z_fl_ql, z_fr_ql, z_ai_ql, z_ar_ql, z_ln_ql, z_tg_ql, z_sz_ql, z_sl_ql, z_fi_qr, z_fl_qr, z_fr_qr, z_ai_qr, z_al_qr, z_ln_qr, z_tg_qr, z_sz_qr, z_sl_qr, z_fi_ca, z_fl_ca, z_fr_ca, z_al_ca, z_ar_ca, z_ln_ca, z_tg_ca, z_sz_ca, z_sl_ca, y_pi, y_pl, y_pr, y_qi, y_ql, y_qr, y_ca]
  simp [a3, a4] at e2
  rw [b2_t] at e2
  by_cases a5 : h_fi M 906 2 = 0
  · simp [b125_0, b125_16, h2, e1, e2, a1, a2, a3, a4, a5, b2, x_go, g_i, g_r, g_l, g_o, p_i, p_r, p_l, p_z, c_V, c_I, c_L, c_R, x_out, z_fl_pi, z_fr_pi, z_ai_pi, z_al_pi, z_ar_pi, z_ln_pi, z_tg_pi, z_sz_pi, z_sl_pi, z_fi_pl, z_fr_pl, z_ai_pl, z_al_pl, z_ar_pl, z_ln_pl, z_tg_pl, z_sz_pl, z_sl_pl, z_fi_pr, z_fl_pr, z_ai_pr, z_al_pr, z_ar_pr, z_ln_pr, z_tg_pr, z_sz_pr, z_sl_pr, z_fi_qi, z_fl_qi, z_fr_qi, z_al_qi, z_ar_qi, z_ln_qi, z_tg_qi, z_sz_qi, z_sl_qi, z_fi_ql, z_fl_ql, z_fr_ql, z_ai_ql, z_ar_ql, z_ln_ql, z_tg_ql, z_sz_ql, z_sl_ql, z_fi_qr, z_fl_qr, z_fr_qr, z_ai_qr, z_al_qr, z_ln_qr, z_tg_qr, z_sz_qr, z_sl_qr, z_fi_ca, z_fl_ca, z_fr_ca, z_al_ca, z_ar_ca, z_ln_ca, z_tg_ca, z_sz_ca, z_sl_ca, y_pi, y_pl, y_pr, y_qi, y_ql, y_qr, y_ca]
  obtain ⟨a, ha, rfl⟩ := nI_of a1
  obtain ⟨b, hb, rfl⟩ := nI_of a3
  have ha8 : a < 8 := by
    have : ¬ nd ≤ a := fun q => a2 (nI_le q (by omega))
    omega
  have hb8 : b < 8 := by
    have : ¬ nd ≤ b := fun q => a4 (nI_le q (by omega))
    omega
  have loop : ∀ d k fuel, k + d = 8 → d < fuel → drive k125 fuel 38 [.inr (.inr (some 2)), .inl (((1 : Int32) <<< (nI a &&& 31)) ||| ((1 : Int32) <<< (nI b &&& 31))), .inl (nI k)] M = some (some (.inl (b2 (czl zs (nI a) (nI b) k d))), M) := by
    intro d
    induction d with
    | zero =>
      intro k fuel hk hf
      obtain ⟨g, rfl⟩ : ∃ g, fuel = g + 1 := ⟨fuel - 1, by omega⟩
      have e : (8 : Int32) ≤ nI k := nI_le (a := 8) (by omega) (by omega)
      refine dr_end ?_
      simp [k125, b125_38, e, czl, b2]
    | succ d ih =>
      intro k fuel hk hf
      obtain ⟨g, rfl⟩ : ∃ g, fuel = g + 1 := ⟨fuel - 1, by omega⟩
      have e : ¬ (8 : Int32) ≤ nI k := nI_ge (b := 8) (by omega) (by omega)
      obtain ⟨kk, k1, k2, k3⟩ := hz k (by omega)
      have ea : al_i M 20 (some 4) (nI k) = some (nI kk) := by rw [al_i_t t4 (by omega) (by omega), k2]
      have hbit := zbits kk k1 a ha8 b hb8
      unfold czl
      rw [k3]
      generalize hm : (((1 : Int32) <<< (nI a &&& 31)) ||| ((1 : Int32) <<< (nI b &&& 31))) = m at *
      by_cases c : nI kk &&& m = m
      · rw [if_pos (hbit.mp c)]
        refine dr_end ?_
        simp [k125, b125_38, e, h2, h5, ea, c, b2, g_i, g_r, g_l, g_o, p_i, p_r, p_l, p_z, c_V, c_I, c_L, c_R, x_out, z_fl_pi, z_fr_pi, z_ai_pi, z_al_pi, z_ar_pi, z_ln_pi, z_tg_pi, z_sz_pi, z_sl_pi, z_fi_pl, z_fr_pl, z_ai_pl, z_al_pl, z_ar_pl, z_ln_pl, z_tg_pl, z_sz_pl, z_sl_pl, z_fi_pr, z_fl_pr, z_ai_pr, z_al_pr, z_ar_pr, z_ln_pr, z_tg_pr, z_sz_pr, z_sl_pr, z_fi_qi, z_fl_qi, z_fr_qi, z_al_qi, z_ar_qi, z_ln_qi, z_tg_qi, z_sz_qi, z_sl_qi, z_fi_ql, z_fl_ql, z_fr_ql, z_ai_ql, z_ar_ql, z_ln_ql, z_tg_ql, z_sz_ql, z_sl_ql, z_fi_qr, z_fl_qr, z_fr_qr, z_ai_qr, z_al_qr, z_ln_qr, z_tg_qr, z_sz_qr, z_sl_qr, z_fi_ca, z_fl_ca, z_fr_ca, z_al_ca, z_ar_ca, z_ln_ca, z_tg_ca, z_sz_ca, z_sl_ca, y_pi, y_pl, y_pr, y_qi, y_ql, y_qr, y_ca]
      · rw [if_neg (fun q => c (hbit.mpr q))]
        have hb : k125 38 [.inr (.inr (some 2)), .inl m, .inl (nI k)] M = some (.inr (38, [.inr (.inr (some 2)), .inl m, .inl (nI (k + 1))], M)) := by
          simp [k125, b125_38, e, h2, h5, ea, c, nI_1, g_i, g_r, g_l, g_o, p_i, p_r, p_l, p_z, c_V, c_I, c_L, c_R, x_out, z_fl_pi, z_fr_pi, z_ai_pi, z_al_pi, z_ar_pi, z_ln_pi, z_tg_pi, z_sz_pi, z_sl_pi, z_fi_pl, z_fr_pl, z_ai_pl, z_al_pl, z_ar_pl, z_ln_pl, z_tg_pl, z_sz_pl, z_sl_pl, z_fi_pr, z_fl_pr, z_ai_pr, z_al_pr, z_ar_pr, z_ln_pr, z_tg_pr, z_sz_pr, z_sl_pr, z_fi_qi, z_fl_qi, z_fr_qi, z_al_qi, z_ar_qi, z_ln_qi, z_tg_qi, z_sz_qi, z_sl_qi, z_fi_ql, z_fl_ql, z_fr_ql, z_ai_ql, z_ar_ql, z_ln_ql, z_tg_ql, z_sz_ql, z_sl_ql, z_fi_qr, z_fl_qr, z_fr_qr, z_ai_qr, z_al_qr, z_ln_qr, z_tg_qr, z_sz_qr, z_sl_qr, z_fi_ca, z_fl_ca, z_fr_ca, z_al_ca, z_ar_ca, z_ln_ca, z_tg_ca, z_sz_ca, z_sl_ca, y_pi, y_pl, y_pr, y_qi, y_ql, y_qr, y_ca]
        rw [dr_go hb]
        exact ih (k + 1) g (by omega) (by omega)
  have hb0 : b125_0 2 (nI a) (nI b) M = some (.inr (38, [.inr (.inr (some 2)), .inl (((1 : Int32) <<< (nI a &&& 31)) ||| ((1 : Int32) <<< (nI b &&& 31))), .inl (nI 0)], M)) := by
    have e0 : nI 0 = 0 := rfl
    simp [b125_0, h2, e1, e2, a5, e0, g_i, g_r, g_l, g_o, p_i, p_r, p_l, p_z, c_V, c_I, c_L, c_R, x_out, z_fl_pi, z_fr_pi, z_ai_pi, z_al_pi, z_ar_pi, z_ln_pi, z_tg_pi, z_sz_pi, z_sl_pi, z_fi_pl, z_fr_pl, z_ai_pl, z_al_pl, z_ar_pl, z_ln_pl, z_tg_pl, z_sz_pl, z_sl_pl, z_fi_pr, z_fl_pr, z_ai_pr, z_al_pr, z_ar_pr, z_ln_pr, z_tg_pr, z_sz_pr, z_sl_pr, z_fi_qi, z_fl_qi, z_fr_qi, z_al_qi, z_ar_qi, z_ln_qi, z_tg_qi, z_sz_qi, z_sl_qi, z_fi_ql, z_fl_ql, z_fr_ql, z_ai_ql, z_ar_ql, z_ln_ql, z_tg_ql, z_sz_ql, z_sl_ql, z_fi_qr, z_fl_qr, z_fr_qr, z_ai_qr, z_al_qr, z_ln_qr, z_tg_qr, z_sz_qr, z_sl_qr, z_fi_ca, z_fl_ca, z_fr_ca, z_al_ca, z_ar_ca, z_ln_ca, z_tg_ca, z_sz_ca, z_sl_ca, y_pi, y_pl, y_pr, y_qi, y_ql, y_qr, y_ca]
  rw [hb0, if_neg a1, if_neg a2, if_neg a3, if_neg a4, if_neg a5]
  exact loop 8 0 xF (by omega) (by unfold xF; omega)
end ZN
