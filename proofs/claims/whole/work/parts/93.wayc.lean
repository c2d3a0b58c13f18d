/-! ===== the class: costs and sums ===== -/
/-- only int arrays at P have changed -/
def aiO (P : Nat → Prop) (M N : hM) : Prop := (h_fi N = h_fi M ∧ h_fl N = h_fl M ∧ h_fr N = h_fr M ∧ h_al N = h_al M ∧ h_ar N = h_ar M) ∧ (h_ln N = h_ln M ∧ h_tg N = h_tg M ∧ h_sz N = h_sz M ∧ h_sl N = h_sl M) ∧ ∀ a, ¬ P a → h_ai N a = h_ai M a
section AO
variable {P Q : Nat → Prop} {M N O : hM}
theorem aiO.rf : aiO P M M := ⟨⟨rfl, rfl, rfl, rfl, rfl⟩, ⟨rfl, rfl, rfl, rfl⟩, fun _ _ => rfl⟩
theorem aiO.tr (h : aiO P M N) (g : aiO Q N O) (hP : ∀ a, Q a → P a) : aiO P M O := by
  obtain ⟨⟨a1, a2, a3, a4, a5⟩, ⟨a6, a7, a8, a9⟩, a0⟩ := h
  obtain ⟨⟨b1, b2, b3, b4, b5⟩, ⟨b6, b7, b8, b9⟩, b0⟩ := g
  exact ⟨⟨b1.trans a1, b2.trans a2, b3.trans a3, b4.trans a4, b5.trans a5⟩, ⟨b6.trans a6, b7.trans a7, b8.trans a8, b9.trans a9⟩, fun x q => (b0 x (fun z => q (hP x z))).trans (a0 x q)⟩
theorem aiO_q {a i : Nat} {v : Int32} (h : P a) : aiO P M (h_qi M a i v) := ⟨⟨rfl, rfl, rfl, rfl, rfl⟩, ⟨rfl, rfl, rfl, rfl⟩, fun x q => funext fun i => u2_nk (fun z => q (z ▸ h))⟩
theorem aiO.I {sw nd rm : Nat} (h : aiO P M N) (g : cI sw nd rm M) : cI sw nd rm N := by
  obtain ⟨⟨a1, a2, a3, a4, a5⟩, ⟨a6, a7, a8, a9⟩, a0⟩ := h
  have k : kp [] [20, 21] M N → True := fun _ => trivial
  unfold cI c_fab c_sh c_ar c_si c_sa c_sp c_ss c_no c_ho c_po c_nt
  rw [a1, a3, a5, a6, a7]
  exact g
end AO
/-- a notice of the class at na holds o -/
def nt1 (M : hM) (na : Nat) (o : Option (List Nat)) : Prop := (h_tg M na = 7 ∧ h_fr M 600 na = some (na + 40) ∧ h_tg M (na + 40) = 21 ∧ h_ln M (na + 40) = 31) ∧ (match o with | none => h_fi M 601 na = 0 | some L => h_fi M 601 na = nI L.length ∧ 0 < L.length ∧ L.length ≤ 31 ∧ ∀ i, i < L.length → h_ai M (na + 40) i &&& 255 = nI (L.getD i 0) ∧ L.getD i 0 < 256 ∧ h_ai M (na + 40) i = (Int32.toInt8 (nI (L.getD i 0))).toInt32)
def ntS (M : hM) (sw s : Nat) (K : rK) : Prop := ∀ a, a < sw → ∃ na, h_ar M (30 + s) a = some na ∧ 400 ≤ na ∧ na < 440 ∧ nt1 M na (K a)
theorem nt1.ao {P : Nat → Prop} {M N : hM} {na : Nat} {o : Option (List Nat)} (h : nt1 M na o) (g : aiO P M N) (hP : ¬ P (na + 40)) : nt1 N na o := by
  obtain ⟨⟨a1, a2, a3, a4, a5⟩, ⟨a6, a7, a8, a9⟩, a0⟩ := g
  unfold nt1
  rw [a1, a3, a6, a7, a0 _ hP]
  exact h
theorem ntS.ao {P : Nat → Prop} {M N : hM} {sw s : Nat} {K : rK} (h : ntS M sw s K) (g : aiO P M N) (hP : ∀ a, P a → a < 400) : ntS N sw s K := fun a ha => by
  obtain ⟨na, h1, h2, h3, h4⟩ := h a ha
  exact ⟨na, by rw [g.1.2.2.2.2]; exact h1, h2, h3, h4.ao g (fun q => by have := hP _ q; omega)⟩
theorem rgo_lt {M : hM} {na i : Nat} {o : Option (List Nat)} (h : nt1 M na o) : rgo o i < 256 := by
  cases o with
  | none => show 0 < 256; omega
  | some L =>
    show L.getD i 0 < 256
    by_cases q : i < L.length
    · exact (h.2.2.2.2 i q).2.1
    · rw [List.getD_eq_getElem?_getD, List.getElem?_eq_none (by omega)]; show 0 < 256; omega
theorem f96_eq {M : hM} {na i : Nat} {o : Option (List Nat)} (h : nt1 M na o) (hi : i < 100000) : f96 [.inr (.inr (some na)), .inl (nI i)] M = some (some (.inl (nI (rgo o i))), M) := by
  obtain ⟨⟨h1, h2, h3, h4⟩, h5⟩ := h
  have c0 : ¬ nI i < 0 := nI_pos (by omega)
  cases o with
  | none =>
    have h5 : h_fi M 601 na = 0 := h5
    have c1 : (0 : Int32) ≤ nI i := nI_pos' (by omega)
    have e : nI (rgo none i) = 0 := rfl
    rw [e]
    simp [f96, b96_0, b96_25, b96_26, c0, h1, h5, c1, g_i, g_r, g_l, g_o, p_i, p_r, p_l, p_z, c_V, c_I, c_L, c_R, x_out, z_fl_pi, z_fr_pi, z_ai_pi, z_al_pi, z_ar_pi, z_ln_pi, z_tg_pi, z_sz_pi, z_sl_pi, z_fi_pl, z_fr_pl, z_ai_pl, z_al_pl, z_ar_pl, z_ln_pl, z_tg_pl, z_sz_pl, z_sl_pl, z_fi_pr, z_fl_pr, z_ai_pr, z_al_pr, z_ar_pr, z_ln_pr, z_tg_pr, z_sz_pr, z_sl_pr, z_fi_qi, z_fl_qi, z_fr_qi, z_al_qi, z_ar_qi, z_ln_qi, z_tg_qi, z_sz_qi, z_sl_qi, z_fi_ql, z_fl_ql, z_fr_ql, z_ai_ql, z_ar_ql, z_ln_ql, z_tg_ql, z_sz_ql, z_sl_ql, z_fi_qr, z_fl_qr, z_fr_qr, z_ai_qr, z_al_qr, z_ln_qr, z_tg_qr, z_sz_qr, z_sl_qr, z_fi_ca, z_fl_ca, z_fr_ca, z_al_ca, z_ar_ca, z_ln_ca, z_tg_ca, z_sz_ca, z_sl_ca, y_pi, y_pl, y_pr, y_qi, y_ql, y_qr, y_ca]
  | some L =>
    obtain ⟨h6, h7, h8, h9⟩ := h5
    by_cases q : i < L.length
    · have c1 : ¬ nI L.length ≤ nI i := nI_ge q (by omega)
      obtain ⟨g1, g2⟩ := h9 i q
      have e : al_i M 21 (some (na + 40)) (nI i) = some (h_ai M (na + 40) i) := al_i_t h3 (by omega) (by omega)
      have er : rgo (some L) i = L.getD i 0 := rfl
      rw [er, ← g1]
      simp [f96, b96_0, b96_25, b96_26, c0, h1, h6, c1, h2, e, g_i, g_r, g_l, g_o, p_i, p_r, p_l, p_z, c_V, c_I, c_L, c_R, x_out, z_fl_pi, z_fr_pi, z_ai_pi, z_al_pi, z_ar_pi, z_ln_pi, z_tg_pi, z_sz_pi, z_sl_pi, z_fi_pl, z_fr_pl, z_ai_pl, z_al_pl, z_ar_pl, z_ln_pl, z_tg_pl, z_sz_pl, z_sl_pl, z_fi_pr, z_fl_pr, z_ai_pr, z_al_pr, z_ar_pr, z_ln_pr, z_tg_pr, z_sz_pr, z_sl_pr, z_fi_qi, z_fl_qi, z_fr_qi, z_al_qi, z_ar_qi, z_ln_qi, z_tg_qi, z_sz_qi, z_sl_qi, z_fi_ql, z_fl_ql, z_fr_ql, z_ai_ql, z_ar_ql, z_ln_ql, z_tg_ql, z_sz_ql, z_sl_ql, z_fi_qr, z_fl_qr, z_fr_qr, z_ai_qr, z_al_qr, z_ln_qr, z_tg_qr, z_sz_qr, z_sl_qr, z_fi_ca, z_fl_ca, z_fr_ca, z_al_ca, z_ar_ca, z_ln_ca, z_tg_ca, z_sz_ca, z_sl_ca, y_pi, y_pl, y_pr, y_qi, y_ql, y_qr, y_ca]
    · have c1 : nI L.length ≤ nI i := nI_le (by omega) (by omega)
      have e : rgo (some L) i = 0 := by
        show L.getD i 0 = 0
        rw [List.getD_eq_getElem?_getD, List.getElem?_eq_none (by omega)]; rfl
      rw [e]
      have e0 : nI 0 = 0 := rfl
      simp [f96, b96_0, b96_25, b96_26, c0, h1, h6, c1, e0, g_i, g_r, g_l, g_o, p_i, p_r, p_l, p_z, c_V, c_I, c_L, c_R, x_out, z_fl_pi, z_fr_pi, z_ai_pi, z_al_pi, z_ar_pi, z_ln_pi, z_tg_pi, z_sz_pi, z_sl_pi, z_fi_pl, z_fr_pl, z_ai_pl, z_al_pl, z_ar_pl, z_ln_pl, z_tg_pl, z_sz_pl, z_sl_pl, z_fi_pr, z_fl_pr, z_ai_pr, z_al_pr, z_ar_pr, z_ln_pr, z_tg_pr, z_sz_pr, z_sl_pr, z_fi_qi, z_fl_qi, z_fr_qi, z_al_qi, z_ar_qi, z_ln_qi, z_tg_qi, z_sz_qi, z_sl_qi, z_fi_ql, z_fl_ql, z_fr_ql, z_ai_ql, z_ar_ql, z_ln_ql, z_tg_ql, z_sz_ql, z_sl_ql, z_fi_qr, z_fl_qr, z_fr_qr, z_ai_qr, z_al_qr, z_ln_qr, z_tg_qr, z_sz_qr, z_sl_qr, z_fi_ca, z_fl_ca, z_fr_ca, z_al_ca, z_ar_ca, z_ln_ca, z_tg_ca, z_sz_ca, z_sl_ca, y_pi, y_pl, y_pr, y_qi, y_ql, y_qr, y_ca]
section NT
variable {M : hM} {na k : Nat} {o : Option (List Nat)}
theorem f97_eq (h : nt1 M na o) : f97 [.inr (.inr (some na))] M = some (some (.inl (nI (rgo o 5))), M) := by
  have e : f96 [.inr (.inr (some na)), .inl 5] M = some (some (.inl (nI (rgo o 5))), M) := f96_eq (i := 5) h (by omega)
  have ht := h.1.1
  simp [f97, b97_0, ht, e, g_i, g_r, g_l, g_o, p_i, p_r, p_l, p_z, c_V, c_I, c_L, c_R, x_out, z_fl_pi, z_fr_pi, z_ai_pi, z_al_pi, z_ar_pi, z_ln_pi, z_tg_pi, z_sz_pi, z_sl_pi, z_fi_pl, z_fr_pl, z_ai_pl, z_al_pl, z_ar_pl, z_ln_pl, z_tg_pl, z_sz_pl, z_sl_pl, z_fi_pr, z_fl_pr, z_ai_pr, z_al_pr, z_ar_pr, z_ln_pr, z_tg_pr, z_sz_pr, z_sl_pr, z_fi_qi, z_fl_qi, z_fr_qi, z_al_qi, z_ar_qi, z_ln_qi, z_tg_qi, z_sz_qi, z_sl_qi, z_fi_ql, z_fl_ql, z_fr_ql, z_ai_ql, z_ar_ql, z_ln_ql, z_tg_ql, z_sz_ql, z_sl_ql, z_fi_qr, z_fl_qr, z_fr_qr, z_ai_qr, z_al_qr, z_ln_qr, z_tg_qr, z_sz_qr, z_sl_qr, z_fi_ca, z_fl_ca, z_fr_ca, z_al_ca, z_ar_ca, z_ln_ca, z_tg_ca, z_sz_ca, z_sl_ca, y_pi, y_pl, y_pr, y_qi, y_ql, y_qr, y_ca]
theorem f103_eq (h : nt1 M na o) : f103 [.inr (.inr (some na))] M = some (some (.inl (nI (rgo o 4))), M) := by
  have e : f96 [.inr (.inr (some na)), .inl 4] M = some (some (.inl (nI (rgo o 4))), M) := f96_eq (i := 4) h (by omega)
  have ht := h.1.1
  simp [f103, b103_0, ht, e, g_i, g_r, g_l, g_o, p_i, p_r, p_l, p_z, c_V, c_I, c_L, c_R, x_out, z_fl_pi, z_fr_pi, z_ai_pi, z_al_pi, z_ar_pi, z_ln_pi, z_tg_pi, z_sz_pi, z_sl_pi, z_fi_pl, z_fr_pl, z_ai_pl, z_al_pl, z_ar_pl, z_ln_pl, z_tg_pl, z_sz_pl, z_sl_pl, z_fi_pr, z_fl_pr, z_ai_pr, z_al_pr, z_ar_pr, z_ln_pr, z_tg_pr, z_sz_pr, z_sl_pr, z_fi_qi, z_fl_qi, z_fr_qi, z_al_qi, z_ar_qi, z_ln_qi, z_tg_qi, z_sz_qi, z_sl_qi, z_fi_ql, z_fl_ql, z_fr_ql, z_ai_ql, z_ar_ql, z_ln_ql, z_tg_ql, z_sz_ql, z_sl_ql, z_fi_qr, z_fl_qr, z_fr_qr, z_ai_qr, z_al_qr, z_ln_qr, z_tg_qr, z_sz_qr, z_sl_qr, z_fi_ca, z_fl_ca, z_fr_ca, z_al_ca, z_ar_ca, z_ln_ca, z_tg_ca, z_sz_ca, z_sl_ca, y_pi, y_pl, y_pr, y_qi, y_ql, y_qr, y_ca]
theorem f98_eq (h : nt1 M na o) (hk : k < 1000) : f98 [.inr (.inr (some na)), .inl (nI k)] M = some (some (.inl (nI (rgo o (7 + 3 * k)))), M) := by
  have e := f96_eq (i := 7 + 3 * k) h (by omega)
  have ht := h.1.1
  have x : (7 : Int32) + nI (3 * k) = nI (7 + 3 * k) := nI_add 7 _
  simp [f98, b98_0, ht, ixl3, x, e, g_i, g_r, g_l, g_o, p_i, p_r, p_l, p_z, c_V, c_I, c_L, c_R, x_out, z_fl_pi, z_fr_pi, z_ai_pi, z_al_pi, z_ar_pi, z_ln_pi, z_tg_pi, z_sz_pi, z_sl_pi, z_fi_pl, z_fr_pl, z_ai_pl, z_al_pl, z_ar_pl, z_ln_pl, z_tg_pl, z_sz_pl, z_sl_pl, z_fi_pr, z_fl_pr, z_ai_pr, z_al_pr, z_ar_pr, z_ln_pr, z_tg_pr, z_sz_pr, z_sl_pr, z_fi_qi, z_fl_qi, z_fr_qi, z_al_qi, z_ar_qi, z_ln_qi, z_tg_qi, z_sz_qi, z_sl_qi, z_fi_ql, z_fl_ql, z_fr_ql, z_ai_ql, z_ar_ql, z_ln_ql, z_tg_ql, z_sz_ql, z_sl_ql, z_fi_qr, z_fl_qr, z_fr_qr, z_ai_qr, z_al_qr, z_ln_qr, z_tg_qr, z_sz_qr, z_sl_qr, z_fi_ca, z_fl_ca, z_fr_ca, z_al_ca, z_ar_ca, z_ln_ca, z_tg_ca, z_sz_ca, z_sl_ca, y_pi, y_pl, y_pr, y_qi, y_ql, y_qr, y_ca]
theorem f99_eq (h : nt1 M na o) (hk : k < 1000) : f99 [.inr (.inr (some na)), .inl (nI k)] M = some (some (.inl (nI (rgo o (8 + 3 * k)))), M) := by
  have e := f96_eq (i := 8 + 3 * k) h (by omega)
  have ht := h.1.1
  have x : (8 : Int32) + nI (3 * k) = nI (8 + 3 * k) := nI_add 8 _
  simp [f99, b99_0, ht, ixl3, x, e, g_i, g_r, g_l, g_o, p_i, p_r, p_l, p_z, c_V, c_I, c_L, c_R, x_out, z_fl_pi, z_fr_pi, z_ai_pi, z_al_pi, z_ar_pi, z_ln_pi, z_tg_pi, z_sz_pi, z_sl_pi, z_fi_pl, z_fr_pl, z_ai_pl, z_al_pl, z_ar_pl, z_ln_pl, z_tg_pl, z_sz_pl, z_sl_pl, z_fi_pr, z_fl_pr, z_ai_pr, z_al_pr, z_ar_pr, z_ln_pr, z_tg_pr, z_sz_pr, z_sl_pr, z_fi_qi, z_fl_qi, z_fr_qi, z_al_qi, z_ar_qi, z_ln_qi, z_tg_qi, z_sz_qi, z_sl_qi, z_fi_ql, z_fl_ql, z_fr_ql, z_ai_ql, z_ar_ql, z_ln_ql, z_tg_ql, z_sz_ql, z_sl_ql, z_fi_qr, z_fl_qr, z_fr_qr, z_ai_qr, z_al_qr, z_ln_qr, z_tg_qr, z_sz_qr, z_sl_qr, z_fi_ca, z_fl_ca, z_fr_ca, z_al_ca, z_ar_ca, z_ln_ca, z_tg_ca, z_sz_ca, z_sl_ca, y_pi, y_pl, y_pr, y_qi, y_ql, y_qr, y_ca]
theorem f107_eq (h : nt1 M na o) (hk : k < 1000) : f107 [.inr (.inr (some na)), .inl (nI k)] M = some (some (.inl (nI (rgo o (6 + 3 * k)))), M) := by
  have e := f96_eq (i := 6 + 3 * k) h (by omega)
  have ht := h.1.1
  have x : (6 : Int32) + nI (3 * k) = nI (6 + 3 * k) := nI_add 6 _
  simp [f107, b107_0, ht, ixl3, x, e, g_i, g_r, g_l, g_o, p_i, p_r, p_l, p_z, c_V, c_I, c_L, c_R, x_out, z_fl_pi, z_fr_pi, z_ai_pi, z_al_pi, z_ar_pi, z_ln_pi, z_tg_pi, z_sz_pi, z_sl_pi, z_fi_pl, z_fr_pl, z_ai_pl, z_al_pl, z_ar_pl, z_ln_pl, z_tg_pl, z_sz_pl, z_sl_pl, z_fi_pr, z_fl_pr, z_ai_pr, z_al_pr, z_ar_pr, z_ln_pr, z_tg_pr, z_sz_pr, z_sl_pr, z_fi_qi, z_fl_qi, z_fr_qi, z_al_qi, z_ar_qi, z_ln_qi, z_tg_qi, z_sz_qi, z_sl_qi, z_fi_ql, z_fl_ql, z_fr_ql, z_ai_ql, z_ar_ql, z_ln_ql, z_tg_ql, z_sz_ql, z_sl_ql, z_fi_qr, z_fl_qr, z_fr_qr, z_ai_qr, z_al_qr, z_ln_qr, z_tg_qr, z_sz_qr, z_sl_qr, z_fi_ca, z_fl_ca, z_fr_ca, z_al_ca, z_ar_ca, z_ln_ca, z_tg_ca, z_sz_ca, z_sl_ca, y_pi, y_pl, y_pr, y_qi, y_ql, y_qr, y_ca]
theorem f105_eq (h : nt1 M na o) : f105 [.inr (.inr (some na))] M = some (some (.inl (b2 o.isSome)), M) := by
  obtain ⟨⟨h1, -⟩, h5⟩ := h
  cases o with
  | none =>
    have h5 : h_fi M 601 na = 0 := h5
    simp [f105, b105_0, b105_12, h1, h5, b2, g_i, g_r, g_l, g_o, p_i, p_r, p_l, p_z, c_V, c_I, c_L, c_R, x_out, z_fl_pi, z_fr_pi, z_ai_pi, z_al_pi, z_ar_pi, z_ln_pi, z_tg_pi, z_sz_pi, z_sl_pi, z_fi_pl, z_fr_pl, z_ai_pl, z_al_pl, z_ar_pl, z_ln_pl, z_tg_pl, z_sz_pl, z_sl_pl, z_fi_pr, z_fl_pr, z_ai_pr, z_al_pr, z_ar_pr, z_ln_pr, z_tg_pr, z_sz_pr, z_sl_pr, z_fi_qi, z_fl_qi, z_fr_qi, z_al_qi, z_ar_qi, z_ln_qi, z_tg_qi, z_sz_qi, z_sl_qi, z_fi_ql, z_fl_ql, z_fr_ql, z_ai_ql, z_ar_ql, z_ln_ql, z_tg_ql, z_sz_ql, z_sl_ql, z_fi_qr, z_fl_qr, z_fr_qr, z_ai_qr, z_al_qr, z_ln_qr, z_tg_qr, z_sz_qr, z_sl_qr, z_fi_ca, z_fl_ca, z_fr_ca, z_al_ca, z_ar_ca, z_ln_ca, z_tg_ca, z_sz_ca, z_sl_ca, y_pi, y_pl, y_pr, y_qi, y_ql, y_qr, y_ca]
  | some L =>
    obtain ⟨h6, h7, h8, -⟩ := h5
    have c : ¬ nI L.length ≤ 0 := nI_nle h7 (by omega)
    simp [f105, b105_0, b105_12, h1, h6, c, b2, g_i, g_r, g_l, g_o, p_i, p_r, p_l, p_z, c_V, c_I, c_L, c_R, x_out, z_fl_pi, z_fr_pi, z_ai_pi, z_al_pi, z_ar_pi, z_ln_pi, z_tg_pi, z_sz_pi, z_sl_pi, z_fi_pl, z_fr_pl, z_ai_pl, z_al_pl, z_ar_pl, z_ln_pl, z_tg_pl, z_sz_pl, z_sl_pl, z_fi_pr, z_fl_pr, z_ai_pr, z_al_pr, z_ar_pr, z_ln_pr, z_tg_pr, z_sz_pr, z_sl_pr, z_fi_qi, z_fl_qi, z_fr_qi, z_al_qi, z_ar_qi, z_ln_qi, z_tg_qi, z_sz_qi, z_sl_qi, z_fi_ql, z_fl_ql, z_fr_ql, z_ai_ql, z_ar_ql, z_ln_ql, z_tg_ql, z_sz_ql, z_sl_ql, z_fi_qr, z_fl_qr, z_fr_qr, z_ai_qr, z_al_qr, z_ln_qr, z_tg_qr, z_sz_qr, z_sl_qr, z_fi_ca, z_fl_ca, z_fr_ca, z_al_ca, z_ar_ca, z_ln_ca, z_tg_ca, z_sz_ca, z_sl_ca, y_pi, y_pl, y_pr, y_qi, y_ql, y_qr, y_ca]
end NT
theorem tlo_snoc {o : Option (List Nat)} {b : Nat} : ∀ d j acc, tlo o b j (d + 1) acc = (if rgo o (7 + 3 * (j + d)) = b ∧ rgo o (8 + 3 * (j + d)) < tlo o b j d acc then rgo o (8 + 3 * (j + d)) else tlo o b j d acc)
  | 0, j, acc => rfl
  | d + 1, j, acc => by
    show tlo o b (j + 1) (d + 1) _ = _
    rw [tlo_snoc d (j + 1), show j + 1 + d = j + (d + 1) by omega]
    rfl
section CO
variable {sw nd rm s : Nat} {M : hM} {K : rK}
theorem row_c (hI : cI sw nd rm M) (hs : s < sw) {a : Nat} (ha : a < sw) : al_r M 50 (some (60 + s)) (nI a) = some (some (80 + (5 * s + a))) := by
  rw [al_r_t (hI.sa8 hs) (by rw [hI.sa9 hs]; exact ha) (by have := hI.bs.1.2; omega), hI.ss0 hs ha]
theorem row_s (hI : cI sw nd rm M) (hs : s < sw) {a : Nat} (ha : a < sw) : al_r M 50 (some (70 + s)) (nI a) = some (some (110 + (5 * s + a))) := by
  rw [al_r_t (hI.sa10 hs) (by rw [hI.sa11 hs]; exact ha) (by have := hI.bs.1.2; omega), hI.ss1 hs ha]
theorem not_a (hI : cI sw nd rm M) (hs : s < sw) {a na : Nat} (ha : a < sw) (h : h_ar M (30 + s) a = some na) : al_r M 36 (some (30 + s)) (nI a) = some (some na) := by
  rw [al_r_t (hI.sa2 hs) (by rw [hI.sa3 hs]; exact ha) (by have := hI.bs.1.2; omega), h]
theorem ln_n (hI : cI sw nd rm M) (hs : s < sw) : a_ln M 36 (some (30 + s)) = some (nI sw) := by rw [a_ln_t (hI.sa2 hs), hI.sa3 hs]
theorem ln_s (hI : cI sw nd rm M) (hs : s < sw) : a_ln M 50 (some (70 + s)) = some (nI sw) := by rw [a_ln_t (hI.sa10 hs), hI.sa11 hs]
/-- the rows of the costs -/
def pC (s sw : Nat) : Nat → Prop := fun x => ∃ r, r < sw ∧ x = 80 + (5 * s + r)
theorem k100_13 (hs : s < sw) {a : Nat} (ha : a < sw) : ∀ d b M fuel, cI sw nd rm M → b + d = sw → d < fuel → ∃ M', drive k100 fuel 13 [.inr (.inr (some (10 + s))), .inl (nI a), .inl (nI b)] M = drive k100 (fuel - (d + 1)) 41 [.inr (.inr (some (10 + s))), .inl (nI a), .inl (nI 0)] M' ∧ aiO (fun x => x = 80 + (5 * s + a)) M M' ∧ (∀ j, b ≤ j → j < sw → h_ai M' (80 + (5 * s + a)) j = nI 1000000) ∧ ∀ j, j < b → h_ai M' (80 + (5 * s + a)) j = h_ai M (80 + (5 * s + a)) j
  | 0, b, M, fuel, hI, hb, hf => by
    obtain ⟨g, rfl⟩ : ∃ g, fuel = g + 1 := ⟨fuel - 1, by omega⟩
    have h1 := hI.si0 hs
    have h4 := hI.si4 hs
    have hl := ln_n hI hs
    have hsw := hI.bs.1.2
    have c : nI sw ≤ nI b := nI_le (by omega) (by omega)
    have e0 : nI 0 = 0 := rfl
    have hb' : k100 13 [.inr (.inr (some (10 + s))), .inl (nI a), .inl (nI b)] M = some (.inr (41, [.inr (.inr (some (10 + s))), .inl (nI a), .inl (nI 0)], M)) := by
      simp [k100, b100_13, h1, h4, hl, c, e0, g_i, g_r, g_l, g_o, p_i, p_r, p_l, p_z, c_V, c_I, c_L, c_R, x_out, z_fl_pi, z_fr_pi, z_ai_pi, z_al_pi, z_ar_pi, z_ln_pi, z_tg_pi, z_sz_pi, z_sl_pi, z_fi_pl, z_fr_pl, z_ai_pl, z_al_pl, z_ar_pl, z_ln_pl, z_tg_pl, z_sz_pl, z_sl_pl, z_fi_pr, z_fl_pr, z_ai_pr, z_al_pr, z_ar_pr, z_ln_pr, z_tg_pr, z_sz_pr, z_sl_pr, z_fi_qi, z_fl_qi, z_fr_qi, z_al_qi, z_ar_qi, z_ln_qi, z_tg_qi, z_sz_qi, z_sl_qi, z_fi_ql, z_fl_ql, z_fr_ql, z_ai_ql, z_ar_ql, z_ln_ql, z_tg_ql, z_sz_ql, z_sl_ql, z_fi_qr, z_fl_qr, z_fr_qr, z_ai_qr, z_al_qr, z_ln_qr, z_tg_qr, z_sz_qr, z_sl_qr, z_fi_ca, z_fl_ca, z_fr_ca, z_al_ca, z_ar_ca, z_ln_ca, z_tg_ca, z_sz_ca, z_sl_ca, y_pi, y_pl, y_pr, y_qi, y_ql, y_qr, y_ca]
    exact ⟨M, by rw [dr_go hb']; rfl, aiO.rf, fun j h1 h2 => by omega, fun _ _ => rfl⟩
  | d + 1, b, M, fuel, hI, hb, hf => by
    obtain ⟨g, rfl⟩ : ∃ g, fuel = g + 1 := ⟨fuel - 1, by omega⟩
    have h1 := hI.si0 hs
    have h4 := hI.si4 hs
    have h6 := hI.si5 hs
    have hl := ln_n hI hs
    have hsw := hI.bs.1.2
    have c : ¬ nI sw ≤ nI b := nI_ge (by omega) (by omega)
    have hr := row_c hI hs ha
    have hw : as_i M 20 (some (80 + (5 * s + a))) (nI b) 1000000 = some (h_qi M (80 + (5 * s + a)) b 1000000) := as_i_t (hI.ss2 hs ha) (by rw [hI.ss3 hs ha]; omega) (by omega)
    have hb' : k100 13 [.inr (.inr (some (10 + s))), .inl (nI a), .inl (nI b)] M = some (.inr (13, [.inr (.inr (some (10 + s))), .inl (nI a), .inl (nI (b + 1))], h_qi M (80 + (5 * s + a)) b 1000000)) := by
      simp [k100, b100_13, h1, h4, hl, c, h6, hr, hw, nI_1, g_i, g_r, g_l, g_o, p_i, p_r, p_l, p_z, c_V, c_I, c_L, c_R, x_out, z_fl_pi, z_fr_pi, z_ai_pi, z_al_pi, z_ar_pi, z_ln_pi, z_tg_pi, z_sz_pi, z_sl_pi, z_fi_pl, z_fr_pl, z_ai_pl, z_al_pl, z_ar_pl, z_ln_pl, z_tg_pl, z_sz_pl, z_sl_pl, z_fi_pr, z_fl_pr, z_ai_pr, z_al_pr, z_ar_pr, z_ln_pr, z_tg_pr, z_sz_pr, z_sl_pr, z_fi_qi, z_fl_qi, z_fr_qi, z_al_qi, z_ar_qi, z_ln_qi, z_tg_qi, z_sz_qi, z_sl_qi, z_fi_ql, z_fl_ql, z_fr_ql, z_ai_ql, z_ar_ql, z_ln_ql, z_tg_ql, z_sz_ql, z_sl_ql, z_fi_qr, z_fl_qr, z_fr_qr, z_ai_qr, z_al_qr, z_ln_qr, z_tg_qr, z_sz_qr, z_sl_qr, z_fi_ca, z_fl_ca, z_fr_ca, z_al_ca, z_ar_ca, z_ln_ca, z_tg_ca, z_sz_ca, z_sl_ca, y_pi, y_pl, y_pr, y_qi, y_ql, y_qr, y_ca]
    have ao : aiO (fun x => x = 80 + (5 * s + a)) M (h_qi M (80 + (5 * s + a)) b 1000000) := aiO_q rfl
    obtain ⟨M', j1, j2, j3, j4⟩ := k100_13 hs ha d (b + 1) (h_qi M (80 + (5 * s + a)) b 1000000) g (ao.I hI) (by omega) (by omega)
    refine ⟨M', ?_, ao.tr j2 (fun _ q => q), fun j q1 q2 => ?_, fun j q => ?_⟩
    · rw [dr_go hb']
      show drive k100 g 13 _ _ = _
      rw [j1, show g + 1 - (d + 1 + 1) = g - (d + 1) by omega]
    · by_cases z : j = b
      · subst z
        rw [j4 j (by omega), qi_eq]; rfl
      · exact j3 j (by omega) q2
    · rw [j4 j (by omega), qi_ne (by omega)]
theorem k100_41 (hs : s < sw) (hK : rKo sw K) {a : Nat} (ha : a < sw) : ∀ d k M fuel, cI sw nd rm M → ntS M sw s K → k + d = rgo (K a) 5 → d < fuel → (∀ b, b < sw → h_ai M (80 + (5 * s + a)) b = nI (tlo (K a) b 0 k 1000000)) → ∃ M', drive k100 fuel 41 [.inr (.inr (some (10 + s))), .inl (nI a), .inl (nI k)] M = drive k100 (fuel - (d + 1)) 2 [.inr (.inr (some (10 + s))), .inl (nI (a + 1))] M' ∧ aiO (fun x => x = 80 + (5 * s + a)) M M' ∧ ∀ b, b < sw → h_ai M' (80 + (5 * s + a)) b = nI (tlK K a b)
  | 0, k, M, fuel, hI, hN, hk, hf, hR => by
    obtain ⟨g, rfl⟩ : ∃ g, fuel = g + 1 := ⟨fuel - 1, by omega⟩
    have h1 := hI.si0 hs
    have h4 := hI.si4 hs
    obtain ⟨na, n1, n2, n3, n4⟩ := hN a ha
    have hn := not_a hI hs ha n1
    have ht := n4.1.1
    have e7 := f97_eq n4
    have hl5 := rgo_lt (i := 5) n4
    have c : nI (rgo (K a) 5) ≤ nI k := nI_le (by omega) (by omega)
    have hb' : k100 41 [.inr (.inr (some (10 + s))), .inl (nI a), .inl (nI k)] M = some (.inr (2, [.inr (.inr (some (10 + s))), .inl (nI (a + 1))], M)) := by
      simp [k100, b100_41, h1, h4, hn, ht, e7, c, nI_1, g_i, g_r, g_l, g_o, p_i, p_r, p_l, p_z, c_V, c_I, c_L, c_R, x_out, z_fl_pi, z_fr_pi, z_ai_pi, z_al_pi, z_ar_pi, z_ln_pi, z_tg_pi, z_sz_pi, z_sl_pi, z_fi_pl, z_fr_pl, z_ai_pl, z_al_pl, z_ar_pl, z_ln_pl, z_tg_pl, z_sz_pl, z_sl_pl, z_fi_pr, z_fl_pr, z_ai_pr, z_al_pr, z_ar_pr, z_ln_pr, z_tg_pr, z_sz_pr, z_sl_pr, z_fi_qi, z_fl_qi, z_fr_qi, z_al_qi, z_ar_qi, z_ln_qi, z_tg_qi, z_sz_qi, z_sl_qi, z_fi_ql, z_fl_ql, z_fr_ql, z_ai_ql, z_ar_ql, z_ln_ql, z_tg_ql, z_sz_ql, z_sl_ql, z_fi_qr, z_fl_qr, z_fr_qr, z_ai_qr, z_al_qr, z_ln_qr, z_tg_qr, z_sz_qr, z_sl_qr, z_fi_ca, z_fl_ca, z_fr_ca, z_al_ca, z_ar_ca, z_ln_ca, z_tg_ca, z_sz_ca, z_sl_ca, y_pi, y_pl, y_pr, y_qi, y_ql, y_qr, y_ca]
    refine ⟨M, by rw [dr_go hb']; rfl, aiO.rf, fun b hb => ?_⟩
    rw [hR b hb]
    have : k = rgo (K a) 5 := by omega
    rw [this]
    rfl
  | d + 1, k, M, fuel, hI, hN, hk, hf, hR => by
    obtain ⟨g, rfl⟩ : ∃ g, fuel = g + 1 := ⟨fuel - 1, by omega⟩
    have h1 := hI.si0 hs
    have h4 := hI.si4 hs
    have h6 := hI.si5 hs
    have hl := ln_n hI hs
    have hsw := hI.bs.1.2
    obtain ⟨na, n1, n2, n3, n4⟩ := hN a ha
    have hn := not_a hI hs ha n1
    have ht := n4.1.1
    have e7 := f97_eq n4
    have hl5 := rgo_lt (i := 5) n4
    have c : ¬ nI (rgo (K a) 5) ≤ nI k := nI_ge (by omega) (by omega)
    obtain ⟨b1, b2, b3, b4⟩ := (hK a).2 k (by omega)
    have e8 := f98_eq (k := k) n4 (by omega)
    have e9 := f99_eq (k := k) n4 (by omega)
    have c2 : ¬ nI sw ≤ nI (rgo (K a) (7 + 3 * k)) := nI_ge b1 (by omega)
    have hr := row_c hI hs ha
    have hv : al_i M 20 (some (80 + (5 * s + a))) (nI (rgo (K a) (7 + 3 * k))) = some (nI (tlo (K a) (rgo (K a) (7 + 3 * k)) 0 k 1000000)) := by
      rw [al_i_t (hI.ss2 hs ha) (by rw [hI.ss3 hs ha]; exact b1) (by omega), hR _ b1]
    have hw : ∀ v, as_i M 20 (some (80 + (5 * s + a))) (nI (rgo (K a) (7 + 3 * k))) v = some (h_qi M (80 + (5 * s + a)) (rgo (K a) (7 + 3 * k)) v) := fun v => as_i_t (hI.ss2 hs ha) (by rw [hI.ss3 hs ha]; exact b1) (by omega)
    have hle := tlo_le (o := K a) (b := rgo (K a) (7 + 3 * k)) k 0 1000000
    have hif : (if nI (rgo (K a) (8 + 3 * k)) < nI (tlo (K a) (rgo (K a) (7 + 3 * k)) 0 k 1000000) then nI (rgo (K a) (8 + 3 * k)) else nI (tlo (K a) (rgo (K a) (7 + 3 * k)) 0 k 1000000)) = nI (tlo (K a) (rgo (K a) (7 + 3 * k)) 0 (k + 1) 1000000) := by
      rw [tlo_snoc, Nat.zero_add]
      by_cases z : rgo (K a) (8 + 3 * k) < tlo (K a) (rgo (K a) (7 + 3 * k)) 0 k 1000000
      · rw [if_pos (nI_lt z (by omega)), if_pos ⟨rfl, z⟩]
      · rw [if_neg (nI_nlt (by omega) (by omega)), if_neg (fun y => z y.2)]
    have hb' : k100 41 [.inr (.inr (some (10 + s))), .inl (nI a), .inl (nI k)] M = some (.inr (41, [.inr (.inr (some (10 + s))), .inl (nI a), .inl (nI (k + 1))], h_qi M (80 + (5 * s + a)) (rgo (K a) (7 + 3 * k)) (nI (tlo (K a) (rgo (K a) (7 + 3 * k)) 0 (k + 1) 1000000)))) := by
      simp [k100, b100_41, b100_103, h1, h4, hn, ht, e7, c, e8, hl, c2, h6, hr, hv, e9, hw, hif, nI_1, g_i, g_r, g_l, g_o, p_i, p_r, p_l, p_z, c_V, c_I, c_L, c_R, x_out, z_fl_pi, z_fr_pi, z_ai_pi, z_al_pi, z_ar_pi, z_ln_pi, z_tg_pi, z_sz_pi, z_sl_pi, z_fi_pl, z_fr_pl, z_ai_pl, z_al_pl, z_ar_pl, z_ln_pl, z_tg_pl, z_sz_pl, z_sl_pl, z_fi_pr, z_fl_pr, z_ai_pr, z_al_pr, z_ar_pr, z_ln_pr, z_tg_pr, z_sz_pr, z_sl_pr, z_fi_qi, z_fl_qi, z_fr_qi, z_al_qi, z_ar_qi, z_ln_qi, z_tg_qi, z_sz_qi, z_sl_qi, z_fi_ql, z_fl_ql, z_fr_ql, z_ai_ql, z_ar_ql, z_ln_ql, z_tg_ql, z_sz_ql, z_sl_ql, z_fi_qr, z_fl_qr, z_fr_qr, z_ai_qr, z_al_qr, z_ln_qr, z_tg_qr, z_sz_qr, z_sl_qr, z_fi_ca, z_fl_ca, z_fr_ca, z_al_ca, z_ar_ca, z_ln_ca, z_tg_ca, z_sz_ca, z_sl_ca, y_pi, y_pl, y_pr, y_qi, y_ql, y_qr, y_ca]
    have ao : aiO (fun x => x = 80 + (5 * s + a)) M (h_qi M (80 + (5 * s + a)) (rgo (K a) (7 + 3 * k)) (nI (tlo (K a) (rgo (K a) (7 + 3 * k)) 0 (k + 1) 1000000))) := aiO_q rfl
    obtain ⟨M', j1, j2, j3⟩ := k100_41 hs hK ha d (k + 1) _ g (ao.I hI) (hN.ao ao (fun x q => by omega)) (by omega) (by omega) (fun b hb => by
      by_cases z : b = rgo (K a) (7 + 3 * k)
      · subst z; rw [qi_eq]
      · rw [qi_ne z, hR b hb, tlo_snoc, Nat.zero_add, if_neg (fun y => z y.1.symm)])
    refine ⟨M', ?_, ao.tr j2 (fun _ q => q), j3⟩
    rw [dr_go hb']
    show drive k100 g 41 _ _ = _
    rw [j1, show g + 1 - (d + 1 + 1) = g - (d + 1) by omega]
theorem k100_2 (hs : s < sw) (hK : rKo sw K) : ∀ d a M fuel, cI sw nd rm M → ntS M sw s K → a + d = sw → 300 * d + 1 < fuel → (∀ r b, r < a → b < sw → h_ai M (80 + (5 * s + r)) b = nI (tlK K r b)) → ∃ M', drive k100 fuel 2 [.inr (.inr (some (10 + s))), .inl (nI a)] M = some (none, M') ∧ aiO (pC s sw) M M' ∧ ∀ r b, r < sw → b < sw → h_ai M' (80 + (5 * s + r)) b = nI (tlK K r b)
  | 0, a, M, fuel, hI, hN, ha, hf, hR => by
    obtain ⟨g, rfl⟩ : ∃ g, fuel = g + 1 := ⟨fuel - 1, by omega⟩
    have h1 := hI.si0 hs
    have h4 := hI.si4 hs
    have hl := ln_n hI hs
    have hsw := hI.bs.1.2
    have c : nI sw ≤ nI a := nI_le (by omega) (by omega)
    have hb' : k100 2 [.inr (.inr (some (10 + s))), .inl (nI a)] M = some (.inl (none, M)) := by
      simp [k100, b100_2, h1, h4, hl, c, g_i, g_r, g_l, g_o, p_i, p_r, p_l, p_z, c_V, c_I, c_L, c_R, x_out, z_fl_pi, z_fr_pi, z_ai_pi, z_al_pi, z_ar_pi, z_ln_pi, z_tg_pi, z_sz_pi, z_sl_pi, z_fi_pl, z_fr_pl, z_ai_pl, z_al_pl, z_ar_pl, z_ln_pl, z_tg_pl, z_sz_pl, z_sl_pl, z_fi_pr, z_fl_pr, z_ai_pr, z_al_pr, z_ar_pr, z_ln_pr, z_tg_pr, z_sz_pr, z_sl_pr, z_fi_qi, z_fl_qi, z_fr_qi, z_al_qi, z_ar_qi, z_ln_qi, z_tg_qi, z_sz_qi, z_sl_qi, z_fi_ql, z_fl_ql, z_fr_ql, z_ai_ql, z_ar_ql, z_ln_ql, z_tg_ql, z_sz_ql, z_sl_ql, z_fi_qr, z_fl_qr, z_fr_qr, z_ai_qr, z_al_qr, z_ln_qr, z_tg_qr, z_sz_qr, z_sl_qr, z_fi_ca, z_fl_ca, z_fr_ca, z_al_ca, z_ar_ca, z_ln_ca, z_tg_ca, z_sz_ca, z_sl_ca, y_pi, y_pl, y_pr, y_qi, y_ql, y_qr, y_ca]
    exact ⟨M, dr_end hb', aiO.rf, fun r b hr hb => hR r b (by omega) hb⟩
  | d + 1, a, M, fuel, hI, hN, ha, hf, hR => by
    obtain ⟨g, rfl⟩ : ∃ g, fuel = g + 1 := ⟨fuel - 1, by omega⟩
    have h1 := hI.si0 hs
    have h4 := hI.si4 hs
    have hl := ln_n hI hs
    have hsw := hI.bs.1.2
    have c : ¬ nI sw ≤ nI a := nI_ge (by omega) (by omega)
    have e0 : nI 0 = 0 := rfl
    have hb' : k100 2 [.inr (.inr (some (10 + s))), .inl (nI a)] M = some (.inr (13, [.inr (.inr (some (10 + s))), .inl (nI a), .inl (nI 0)], M)) := by
      simp [k100, b100_2, h1, h4, hl, c, e0, g_i, g_r, g_l, g_o, p_i, p_r, p_l, p_z, c_V, c_I, c_L, c_R, x_out, z_fl_pi, z_fr_pi, z_ai_pi, z_al_pi, z_ar_pi, z_ln_pi, z_tg_pi, z_sz_pi, z_sl_pi, z_fi_pl, z_fr_pl, z_ai_pl, z_al_pl, z_ar_pl, z_ln_pl, z_tg_pl, z_sz_pl, z_sl_pl, z_fi_pr, z_fl_pr, z_ai_pr, z_al_pr, z_ar_pr, z_ln_pr, z_tg_pr, z_sz_pr, z_sl_pr, z_fi_qi, z_fl_qi, z_fr_qi, z_al_qi, z_ar_qi, z_ln_qi, z_tg_qi, z_sz_qi, z_sl_qi, z_fi_ql, z_fl_ql, z_fr_ql, z_ai_ql, z_ar_ql, z_ln_ql, z_tg_ql, z_sz_ql, z_sl_ql, z_fi_qr, z_fl_qr, z_fr_qr, z_ai_qr, z_al_qr, z_ln_qr, z_tg_qr, z_sz_qr, z_sl_qr, z_fi_ca, z_fl_ca, z_fr_ca, z_al_ca, z_ar_ca, z_ln_ca, z_tg_ca, z_sz_ca, z_sl_ca, y_pi, y_pl, y_pr, y_qi, y_ql, y_qr, y_ca]
    obtain ⟨na, n1, n2, n3, n4⟩ := hN a (by omega)
    have hl5 := rgo_lt (i := 5) n4
    obtain ⟨M1, i1, i2, i3, i4⟩ := k100_13 hs (a := a) (by omega) sw 0 M g hI (by omega) (by omega)
    have hI1 := i2.I hI
    have hN1 := hN.ao i2 (fun x q => by omega)
    obtain ⟨M2, j1, j2, j3⟩ := k100_41 hs hK (a := a) (by omega) (rgo (K a) 5) 0 M1 (g - (sw + 1)) hI1 hN1 (by omega) (by omega) (fun b hb => i3 b (by omega) hb)
    have hI2 := j2.I hI1
    have hN2 := hN1.ao j2 (fun x q => by omega)
    obtain ⟨M3, k1, k2, k3⟩ := k100_2 hs hK d (a + 1) M2 (g - (sw + 1) - (rgo (K a) 5 + 1)) hI2 hN2 (by omega) (by omega) (fun r b hr hb => by
      by_cases z : r = a
      · subst z; exact j3 b hb
      · rw [j2.2.2 _ (by omega), i2.2.2 _ (by omega)]
        exact hR r b (by omega) hb)
    refine ⟨M3, ?_, ((aiO.rf.tr i2 (fun x q => ⟨a, by omega, q⟩) : aiO (pC s sw) M M1).tr j2 (fun x q => ⟨a, by omega, q⟩)).tr k2 (fun _ q => q), k3⟩
    rw [dr_go hb']
    show drive k100 g 13 _ M = _
    rw [i1, j1, k1]
/-- noteCosts -/
theorem f100_eq (hI : cI sw nd rm M) (hs : s < sw) (hK : rKo sw K) (hN : ntS M sw s K) : ∃ M', f100 [.inr (.inr (some (10 + s)))] M = some (none, M') ∧ aiO (pC s sw) M M' ∧ ∀ r b, r < sw → b < sw → h_ai M' (80 + (5 * s + r)) b = nI (tlK K r b) := by
  have hsw := hI.bs.1.2
  exact k100_2 hs hK sw 0 M xF hI hN (by omega) (by unfold xF; omega) (fun r b hr => by omega)
/-- areJoined -/
theorem f101_eq (hI : cI sw nd rm M) (hs : s < sw) {a b : Nat} (ha : a < sw) (hb : b < sw) (hC : ∀ r b, r < sw → b < sw → h_ai M (80 + (5 * s + r)) b = nI (tlK K r b)) : f101 [.inr (.inr (some (10 + s))), .inl (nI a), .inl (nI b)] M = some (some (.inl (b2 (decide (tlK K a b < 1000000 ∧ tlK K b a < 1000000)))), M) := by
  have h1 := hI.si0 hs
  have h6 := hI.si5 hs
  have hra := row_c hI hs ha
  have hrb := row_c hI hs hb
  have hsw := hI.bs.1.2
  have va : al_i M 20 (some (80 + (5 * s + a))) (nI b) = some (nI (tlK K a b)) := by
    rw [al_i_t (hI.ss2 hs ha) (by rw [hI.ss3 hs ha]; exact hb) (by omega), hC a b ha hb]
  have vb : al_i M 20 (some (80 + (5 * s + b))) (nI a) = some (nI (tlK K b a)) := by
    rw [al_i_t (hI.ss2 hs hb) (by rw [hI.ss3 hs hb]; exact ha) (by omega), hC b a hb ha]
  have la := tlK_le (K := K) (a := a) (b := b)
  have lb := tlK_le (K := K) (a := b) (b := a)
  by_cases c1 : tlK K a b < 1000000
  · have d1 : ¬ (1000000 : Int32) ≤ nI (tlK K a b) := nI_ge (b := 1000000) c1 (by omega)
    by_cases c2 : tlK K b a < 1000000
    · have d2 : ¬ (1000000 : Int32) ≤ nI (tlK K b a) := nI_ge (b := 1000000) c2 (by omega)
      simp [f101, b101_0, b101_32, b101_33, h1, h6, hra, hrb, va, vb, d1, d2, c1, c2, b2, g_i, g_r, g_l, g_o, p_i, p_r, p_l, p_z, c_V, c_I, c_L, c_R, x_out, z_fl_pi, z_fr_pi, z_ai_pi, z_al_pi, z_ar_pi, z_ln_pi, z_tg_pi, z_sz_pi, z_sl_pi, z_fi_pl, z_fr_pl, z_ai_pl, z_al_pl, z_ar_pl, z_ln_pl, z_tg_pl, z_sz_pl, z_sl_pl, z_fi_pr, z_fl_pr, z_ai_pr, z_al_pr, z_ar_pr, z_ln_pr, z_tg_pr, z_sz_pr, z_sl_pr, z_fi_qi, z_fl_qi, z_fr_qi, z_al_qi, z_ar_qi, z_ln_qi, z_tg_qi, z_sz_qi, z_sl_qi, z_fi_ql, z_fl_ql, z_fr_ql, z_ai_ql, z_ar_ql, z_ln_ql, z_tg_ql, z_sz_ql, z_sl_ql, z_fi_qr, z_fl_qr, z_fr_qr, z_ai_qr, z_al_qr, z_ln_qr, z_tg_qr, z_sz_qr, z_sl_qr, z_fi_ca, z_fl_ca, z_fr_ca, z_al_ca, z_ar_ca, z_ln_ca, z_tg_ca, z_sz_ca, z_sl_ca, y_pi, y_pl, y_pr, y_qi, y_ql, y_qr, y_ca]
    · have d2 : (1000000 : Int32) ≤ nI (tlK K b a) := nI_le (a := 1000000) (by omega) (by omega)
      simp [f101, b101_0, b101_32, b101_33, h1, h6, hra, hrb, va, vb, d1, d2, c1, c2, b2, g_i, g_r, g_l, g_o, p_i, p_r, p_l, p_z, c_V, c_I, c_L, c_R, x_out, z_fl_pi, z_fr_pi, z_ai_pi, z_al_pi, z_ar_pi, z_ln_pi, z_tg_pi, z_sz_pi, z_sl_pi, z_fi_pl, z_fr_pl, z_ai_pl, z_al_pl, z_ar_pl, z_ln_pl, z_tg_pl, z_sz_pl, z_sl_pl, z_fi_pr, z_fl_pr, z_ai_pr, z_al_pr, z_ar_pr, z_ln_pr, z_tg_pr, z_sz_pr, z_sl_pr, z_fi_qi, z_fl_qi, z_fr_qi, z_al_qi, z_ar_qi, z_ln_qi, z_tg_qi, z_sz_qi, z_sl_qi, z_fi_ql, z_fl_ql, z_fr_ql, z_ai_ql, z_ar_ql, z_ln_ql, z_tg_ql, z_sz_ql, z_sl_ql, z_fi_qr, z_fl_qr, z_fr_qr, z_ai_qr, z_al_qr, z_ln_qr, z_tg_qr, z_sz_qr, z_sl_qr, z_fi_ca, z_fl_ca, z_fr_ca, z_al_ca, z_ar_ca, z_ln_ca, z_tg_ca, z_sz_ca, z_sl_ca, y_pi, y_pl, y_pr, y_qi, y_ql, y_qr, y_ca]
  · have d1 : (1000000 : Int32) ≤ nI (tlK K a b) := nI_le (a := 1000000) (by omega) (by omega)
    simp [f101, b101_0, b101_32, b101_33, h1, h6, hra, va, d1, c1, b2, g_i, g_r, g_l, g_o, p_i, p_r, p_l, p_z, c_V, c_I, c_L, c_R, x_out, z_fl_pi, z_fr_pi, z_ai_pi, z_al_pi, z_ar_pi, z_ln_pi, z_tg_pi, z_sz_pi, z_sl_pi, z_fi_pl, z_fr_pl, z_ai_pl, z_al_pl, z_ar_pl, z_ln_pl, z_tg_pl, z_sz_pl, z_sl_pl, z_fi_pr, z_fl_pr, z_ai_pr, z_al_pr, z_ar_pr, z_ln_pr, z_tg_pr, z_sz_pr, z_sl_pr, z_fi_qi, z_fl_qi, z_fr_qi, z_al_qi, z_ar_qi, z_ln_qi, z_tg_qi, z_sz_qi, z_sl_qi, z_fi_ql, z_fl_ql, z_fr_ql, z_ai_ql, z_ar_ql, z_ln_ql, z_tg_ql, z_sz_ql, z_sl_ql, z_fi_qr, z_fl_qr, z_fr_qr, z_ai_qr, z_al_qr, z_ln_qr, z_tg_qr, z_sz_qr, z_sl_qr, z_fi_ca, z_fl_ca, z_fr_ca, z_al_ca, z_ar_ca, z_ln_ca, z_tg_ca, z_sz_ca, z_sl_ca, y_pi, y_pl, y_pr, y_qi, y_ql, y_qr, y_ca]
end CO
