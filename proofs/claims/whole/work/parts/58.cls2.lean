/-! ===== seal ===== -/
theorem fbl_len {M : hM} {b z : Nat} : (fbl M b z).length = z := by
  unfold fbl
  rw [List.length_map, List.length_range]
theorem fbl_get {M : hM} {b z i : Nat} (hi : i < z) : (fbl M b z)[i]? = some (h_ai M b i) := by
  unfold fbl
  rw [List.getElem?_map, List.getElem?_range hi]
  rfl
theorem crc_fbl {M : hM} {b z : Nat} : crcF (h_ai M b) z ^^^ (-1) = crcL (fbl M b z) := by
  unfold crcL
  rw [fbl_len, crcF_congr (B := h_ai M b) (C := fun i => (fbl M b z).getD i 0) (fun i hi => by
    show h_ai M b i = (fbl M b z).getD i 0
    rw [List.getD_eq_getElem?_getD, fbl_get hi]
    rfl)]
theorem fbl_set {M N : hM} {b z i : Nat} {v : Int32} (h1 : ∀ j, j ≠ i → h_ai N b j = h_ai M b j) (h2 : h_ai N b i = v) : fbl N b z = (fbl M b z).set i v := by
  apply List.ext_getElem?
  intro j
  by_cases hj : j < z
  · rw [fbl_get hj]
    by_cases e : j = i
    · subst e
      rw [List.getElem?_set_self (by rw [fbl_len]; exact hj), h2]
    · rw [List.getElem?_set_ne (Ne.symm e), fbl_get hj, h1 j e]
  · rw [List.getElem?_eq_none (by rw [fbl_len]; omega), List.getElem?_eq_none (by rw [List.length_set, fbl_len]; omega)]
theorem f43_eq {a b z : Nat} {M : hM} (hF : isFb M a b) (hz : h_fi M 201 a = nI z) (hn : z ≤ 44) : ∃ N, f43 [.inr (.inr (some a))] M = some (none, h_pi N 201 a (nI (z + 4))) ∧ bo b M N ∧ fbl N b (z + 4) = clL (fbl M b z) := by
  obtain ⟨N1, g1, g2, g3, g4⟩ := f35_eq (at_ := 12) (n := 1) (w := (nI z - 13).toInt64) hF (by omega) (by omega)
  have hF1 := g2.keepF hF
  have z1 : h_fi N1 201 a = nI z := by rw [g2.1.1]; exact hz
  have hc : f42 [.inr (.inr (some a)), .inl (nI z)] N1 = some (some (.inl (crcL (fbl N1 b z))), N1) := by
    rw [f42_eq hF1.1 hF1.2.1 hF1.2.2.1 hF1.2.2.2 (by omega), crc_fbl]
  obtain ⟨N2, k1, k2, k3, k4⟩ := f35_eq (at_ := z) (n := 4) (w := (crcL (fbl N1 b z)).toInt64) hF1 (by omega) (by omega)
  have hF2 := k2.keepF hF1
  have z2 : h_fi N2 201 a = nI z := by rw [k2.1.1]; exact z1
  refine ⟨N2, ?_, g2.tr k2, ?_⟩
  · show x_out (b43_0 a M) = _
    unfold b43_0
    rw [bd_s (g_i_t (ci := 2) hF.1), bd_s (g_o_t hF.1)]
    show x_out (Option.bind (c_V (f35 [.inr (.inr (some a)), .inl (nI 12), .inl (nI 1), .inr (.inl (h_fi M 201 a - 13).toInt64)] M)) _) = _
    rw [hz, bd_s (c_V_of g1), bd_s (g_i_t (ci := 2) hF1.1), bd_s (g_i_t (ci := 2) hF1.1), bd_s (g_o_t hF1.1)]
    show x_out (Option.bind (c_I (f42 [.inr (.inr (some a)), .inl (h_fi N1 201 a)] N1)) _) = _
    rw [z1, bd_s (c_I_of hc)]
    show x_out (Option.bind (g_o N1 2 (some a)) _) = _
    rw [bd_s (g_o_t hF1.1)]
    show x_out (Option.bind (c_V (f35 [.inr (.inr (some a)), .inl (nI z), .inl (nI 4), .inr (.inl (crcL (fbl N1 b z)).toInt64)] N1)) _) = _
    rw [bd_s (c_V_of k1), bd_s (g_i_t (ci := 2) hF2.1)]
    show x_out (Option.bind (p_i N2 2 1 (some a) (h_fi N2 201 a + nI 4)) _) = _
    rw [z2, nI_add, bd_s (p_i_t (ci := 2) hF2.1)]
    rfl
  · rw [fbl_put (M := N1) (fun j hj => k3 j (Or.inl hj)) k4]
    have e : fbl N1 b z = (fbl M b z).set 12 (nI z - 13).toInt8.toInt32 := by
      refine fbl_set (fun j hj => g3 j (by omega)) ?_
      have := g4 0 (by omega)
      rw [show 12 + 1 - 1 - 0 = 12 by omega] at this
      rw [this, by8_i0]
    rw [e]
    unfold clL
    rw [fbl_len]
