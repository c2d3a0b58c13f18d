/-! ===== put, post, leave, drop, stay ===== -/
theorem lq_b {x : Nat} (h : x < 48) : lq (48 + x) = 300 + x := by unfold lq; rw [if_pos (by omega)]; omega
theorem lq_q {x : Nat} : lq (96 + x) = 250 + x := by unfold lq; rw [if_neg (by omega)]; omega
theorem md_b {x : Nat} (h : x < 48) : (48 + x) % 48 = x := by omega
theorem md_q {x : Nat} (h : x < 48) : (96 + x) % 48 = x := by omega
section MO
variable {tr : List Int32 → Bool} {sw nd rm : Nat} {M : hM} {ia : Nat → Nat → Int32} {ct : Nat → Int32} {zb sb : Nat} {fl : Nat → List (List Int32)} {hl : List (Nat × Int32 × List Int32)} {a p q x y : Nat} {g : Int32} {L : List Int32}
theorem cI.x8 (hI : cI sw nd rm M) (hx : sd sw nd x) : x < 48 := sd_lt hx hI.bs.1.2 hI.bs.2.1.2
/-- put: n bytes of w in the midst -/
theorem FC_put {n k : Nat} {w : Int64} (hF : FC tr sw nd M ia ct zb sb fl ((a, g, L) :: hl)) (hn : k + n ≤ L.length) (h8 : n ≤ 8) : ∃ M', f35 [.inr (.inr (some a)), .inl (nI k), .inl (nI n), .inr (.inl w)] M = some (none, M') ∧ FC tr sw nd M' ia ct zb sb fl ((a, g, L.take k ++ byL w n ++ L.drop (k + n)) :: hl) := by
  obtain ⟨h1, h2, h3, h4, h5⟩ := hF.hok List.mem_cons_self
  have h4 : h_fi M 201 a = nI L.length := h4
  have h3 : fcC M a = L := h3
  have h5 : L.length ≤ 48 := h5
  obtain ⟨N, n1, n2, n3, n4⟩ := f35_eq (at_ := k) (n := n) (w := w) h1.1 (by omega) h8
  have e1 : L = fbl M (a + 1) L.length := by rw [← fcC_z h4 h5, h3]
  refine ⟨N, n1, FC_con (z := L.length) hF ⟨n2.2.1.2.1, n2.2.1.1, n2.2.1.2.2.1, n2.2.1.2.2.2, n2.1.2.2.1, by rw [n2.1.1]⟩ (fun b _ => ⟨by rw [n2.1.1], by rw [n2.1.1]⟩) (fun b q => funext fun i => n2.2.2 b i q) (by rw [n2.1.1]; exact h4) h5 ?_ (by rw [n2.1.1]; exact h2) (kf35 n1 hF.1.2.2).1⟩
  have hLg : ∀ j, j < L.length → L[j]? = some (h_ai M (a + 1) j) := fun j hj => by
    rw [e1]
    exact fbl_get hj
  apply List.ext_getElem?
  intro j
  by_cases hj : j < L.length
  · rw [fbl_get hj]
    by_cases c1 : j < k
    · rw [List.append_assoc, List.getElem?_append_left (by rw [List.length_take]; omega), List.getElem?_take_of_lt c1, hLg j hj, n3 j (Or.inl c1)]
    · by_cases c2 : j < k + n
      · rw [List.append_assoc, List.getElem?_append_right (by rw [List.length_take]; omega), List.getElem?_append_left (by rw [List.length_take, byL_len]; omega), List.length_take, show min k L.length = k by omega, byL_get w n (j - k) (by omega), ← n4 (n - 1 - (j - k)) (by omega)]
        congr 2
        omega
      · rw [List.getElem?_append_right (by rw [List.length_append, List.length_take, byL_len]; omega), List.length_append, List.length_take, byL_len, List.getElem?_drop, show k + n + (j - (min k L.length + n)) = j by omega, hLg j hj, n3 j (Or.inr (by omega))]
  · rw [List.getElem?_eq_none (by rw [fbl_len]; omega), List.getElem?_eq_none (by rw [List.length_append, List.length_append, List.length_take, byL_len, List.length_drop]; omega)]
/-- what post does to the lists and to the counts -/
def pqF (u : Int32) (fl : Nat → List (List Int32)) (x : Nat) (L : List Int32) : Nat → List (List Int32) := if u = 0 then fl else if (fl (96 + x)).length < 32 then u1 fl (96 + x) (fl (96 + x) ++ [L]) else fl
def pqC (u : Int32) (fl : Nat → List (List Int32)) (x : Nat) (ct : Nat → Int32) : Nat → Int32 := if u = 0 then ct else if (fl (96 + x)).length < 32 then ct else u1 ct 5 (ct 5 + 1)
theorem FC_post (hI : cI sw nd rm M) (hF : FC tr sw nd M ia ct zb sb fl ((a, 0, L) :: hl)) (hx : sd sw nd x) (hT : tr (clL L) = true) (hq : (fl (96 + x)).length ≤ 32) : ∃ M', f39 [.inr (.inr (some (200 + x))), .inr (.inr (some a))] M = some (none, M') ∧ FC tr sw nd M' ia (pqC (h_fi M 805 (200 + x)) fl x ct) zb sb (pqF (h_fi M 805 (200 + x)) fl x L) hl := by
  have hx8 := hI.x8 hx
  have h1 := hI.po0 hx
  have h9 := hI.po4 hx
  have hs := hI.po1 hx
  have h2 := hI.sh0
  have hq4 := hI.po6 hx
  have hsz := FC_sz (p := 96 + x) hF (by omega) (by omega) (by rw [md_q hx8]; exact hx)
  rw [lq_q] at hsz
  by_cases hu : h_fi M 805 (200 + x) = 0
  · obtain ⟨M', e1, e2⟩ := FC_rel hI hF
    refine ⟨M', ?_, ?_⟩
    · simp [f39, b39_0, b39_28, b39_43, h1, hu, hs, h2, e1, g_i, g_r, g_l, g_o, p_i, p_r, p_l, p_z, c_V, c_I, c_L, c_R, x_out, z_fl_pi, z_fr_pi, z_ai_pi, z_al_pi, z_ar_pi, z_ln_pi, z_tg_pi, z_sz_pi, z_sl_pi, z_fi_pl, z_fr_pl, z_ai_pl, z_al_pl, z_ar_pl, z_ln_pl, z_tg_pl, z_sz_pl, z_sl_pl, z_fi_pr, z_fl_pr, z_ai_pr, z_al_pr, z_ar_pr, z_ln_pr, z_tg_pr, z_sz_pr, z_sl_pr, z_fi_qi, z_fl_qi, z_fr_qi, z_al_qi, z_ar_qi, z_ln_qi, z_tg_qi, z_sz_qi, z_sl_qi, z_fi_ql, z_fl_ql, z_fr_ql, z_ai_ql, z_ar_ql, z_ln_ql, z_tg_ql, z_sz_ql, z_sl_ql, z_fi_qr, z_fl_qr, z_fr_qr, z_ai_qr, z_al_qr, z_ln_qr, z_tg_qr, z_sz_qr, z_sl_qr, z_fi_ca, z_fl_ca, z_fr_ca, z_al_ca, z_ar_ca, z_ln_ca, z_tg_ca, z_sz_ca, z_sl_ca, y_pi, y_pl, y_pr, y_qi, y_ql, y_qr, y_ca]
    · unfold pqC pqF
      rw [if_pos hu, if_pos hu]
      exact e2
  · by_cases hl32 : (fl (96 + x)).length < 32
    · obtain ⟨M', e1, e2⟩ := FC_add (p := 96 + x) hI hF (by omega) (by omega) (by rw [md_q hx8]; exact hx) (by rw [lq_q]; exact hq4) (by unfold fW; rw [if_neg (by omega)]; exact ⟨rfl, hT⟩)
      rw [lq_q] at e1
      refine ⟨M', ?_, ?_⟩
      · have hn : ¬ (32 : Int32) ≤ nI (fl (96 + x)).length := nI_ge (b := 32) hl32 (by omega)
        simp [f39, b39_0, h1, hu, h9, hq4, hsz, hn, e1, g_i, g_r, g_l, g_o, p_i, p_r, p_l, p_z, c_V, c_I, c_L, c_R, x_out, z_fl_pi, z_fr_pi, z_ai_pi, z_al_pi, z_ar_pi, z_ln_pi, z_tg_pi, z_sz_pi, z_sl_pi, z_fi_pl, z_fr_pl, z_ai_pl, z_al_pl, z_ar_pl, z_ln_pl, z_tg_pl, z_sz_pl, z_sl_pl, z_fi_pr, z_fl_pr, z_ai_pr, z_al_pr, z_ar_pr, z_ln_pr, z_tg_pr, z_sz_pr, z_sl_pr, z_fi_qi, z_fl_qi, z_fr_qi, z_al_qi, z_ar_qi, z_ln_qi, z_tg_qi, z_sz_qi, z_sl_qi, z_fi_ql, z_fl_ql, z_fr_ql, z_ai_ql, z_ar_ql, z_ln_ql, z_tg_ql, z_sz_ql, z_sl_ql, z_fi_qr, z_fl_qr, z_fr_qr, z_ai_qr, z_al_qr, z_ln_qr, z_tg_qr, z_sz_qr, z_sl_qr, z_fi_ca, z_fl_ca, z_fr_ca, z_al_ca, z_ar_ca, z_ln_ca, z_tg_ca, z_sz_ca, z_sl_ca, y_pi, y_pl, y_pr, y_qi, y_ql, y_qr, y_ca]
      · unfold pqC pqF
        rw [if_neg hu, if_neg hu, if_pos hl32, if_pos hl32]
        exact e2
    · obtain ⟨M1, k1, k2⟩ := FC_tly (k := 5) hI hF (by omega) (by omega)
      have hI1 := hI.keep (kf37 k1 hF.1.2.2) (by decide) (by decide)
      obtain ⟨M', e1, e2⟩ := FC_rel hI1 k2
      refine ⟨M', ?_, ?_⟩
      · have hn : (32 : Int32) ≤ nI (fl (96 + x)).length := nI_le (a := 32) (by omega) (by omega)
        have k1' : f37 [.inr (.inr (some 2)), .inl (5 : Int32)] M = some (none, M1) := k1
        have t1 := hI1.po0 hx
        have t2 := hI1.po1 hx
        have t3 := hI1.sh0
        simp [f39, b39_0, b39_28, b39_43, h1, hu, h9, hq4, hsz, hn, hs, h2, k1', t1, t2, t3, e1, g_i, g_r, g_l, g_o, p_i, p_r, p_l, p_z, c_V, c_I, c_L, c_R, x_out, z_fl_pi, z_fr_pi, z_ai_pi, z_al_pi, z_ar_pi, z_ln_pi, z_tg_pi, z_sz_pi, z_sl_pi, z_fi_pl, z_fr_pl, z_ai_pl, z_al_pl, z_ar_pl, z_ln_pl, z_tg_pl, z_sz_pl, z_sl_pl, z_fi_pr, z_fl_pr, z_ai_pr, z_al_pr, z_ar_pr, z_ln_pr, z_tg_pr, z_sz_pr, z_sl_pr, z_fi_qi, z_fl_qi, z_fr_qi, z_al_qi, z_ar_qi, z_ln_qi, z_tg_qi, z_sz_qi, z_sl_qi, z_fi_ql, z_fl_ql, z_fr_ql, z_ai_ql, z_ar_ql, z_ln_ql, z_tg_ql, z_sz_ql, z_sl_ql, z_fi_qr, z_fl_qr, z_fr_qr, z_ai_qr, z_al_qr, z_ln_qr, z_tg_qr, z_sz_qr, z_sl_qr, z_fi_ca, z_fl_ca, z_fr_ca, z_al_ca, z_ar_ca, z_ln_ca, z_tg_ca, z_sz_ca, z_sl_ca, y_pi, y_pl, y_pr, y_qi, y_ql, y_qr, y_ca]
      · unfold pqC pqF
        rw [if_neg hu, if_neg hu, if_neg hl32, if_neg hl32]
        exact e2
/-- leave -/
theorem FC_leave (hI : cI sw nd rm M) (hF : FC tr sw nd M ia ct zb sb fl hl) (hx : sd sw nd x) (hy : sd sw nd y) (hp : h_fr M 803 (200 + x) = some (200 + y)) {r : List (List Int32)} (hf : fl (48 + x) = L :: r) (hr : r.length ≤ 4) : ∃ a g M', f54 [.inr (.inr (some (200 + x)))] M = some (some (.inr (.inr (some a))), M') ∧ FC tr sw nd M' ia ct zb sb (u1 fl (48 + x) r) ((a, g, L) :: hl) ∧ fW tr (48 + x) g L ∧ h_fi M' 813 = u1 (h_fi M 813) (200 + x) 0 ∧ h_fi M' 807 = u1 (h_fi M 807) (200 + y) (h_fi M 807 (200 + y) + 1) ∧ h_fr M 300 (300 + x) = some a ∧ fcC M a = L ∧ h_fi M 202 a = g := by
  have hx8 := hI.x8 hx
  have h1 := hI.po0 hx
  have h1y := hI.po0 hy
  have h10 := hI.po5 hx
  have hq4 := hI.po7 hx
  have hb := hF.1.2.2
  have hI1 := hI.keep (k_hpi (f := 813) (a := 200 + x) (v := 0) hb (by rw [h1]; decide)) (by decide) (by decide)
  have hF1 := hF.cg (k_hpi (f := 813) (a := 200 + x) (v := 0) hb (by rw [h1]; decide)) (by decide)
  have ky := k_hpi (f := 807) (a := 200 + y) (v := h_fi M 807 (200 + y) + 1) hF1.1.2.2 (by rw [hI1.po0 hy]; decide)
  have hI2 := hI1.keep ky (by decide) (by decide)
  have hF2 := hF1.cg ky (by decide)
  obtain ⟨a, g, M', e0, e1, e2, e3, e4, e5, e6, e7⟩ := FC_tak (p := 48 + x) hI2 hF2 (by omega) (by omega) (by rw [md_b hx8]; exact hx) (by rw [lq_b hx8]; exact hq4) hf
  rw [lq_b hx8] at e4 e0 e7
  have kM := kf18 e4 hF2.1.2.2
  have hsz : h_fi M 302 (300 + x) = nI (r.length + 1) := e7
  have hle : ¬ nI (r.length + 1) ≤ 0 := nI_nle (by omega) (by omega)
  refine ⟨a, g, M', ?_, e5, e6, ?_, ?_, e0, e1, e2⟩
  · simp [f54, b54_0, b54_35, h1, h1y, hp, h10, hq4, hsz, hle, e4, g_i, g_r, g_l, g_o, p_i, p_r, p_l, p_z, c_V, c_I, c_L, c_R, x_out, z_fl_pi, z_fr_pi, z_ai_pi, z_al_pi, z_ar_pi, z_ln_pi, z_tg_pi, z_sz_pi, z_sl_pi, z_fi_pl, z_fr_pl, z_ai_pl, z_al_pl, z_ar_pl, z_ln_pl, z_tg_pl, z_sz_pl, z_sl_pl, z_fi_pr, z_fl_pr, z_ai_pr, z_al_pr, z_ar_pr, z_ln_pr, z_tg_pr, z_sz_pr, z_sl_pr, z_fi_qi, z_fl_qi, z_fr_qi, z_al_qi, z_ar_qi, z_ln_qi, z_tg_qi, z_sz_qi, z_sl_qi, z_fi_ql, z_fl_ql, z_fr_ql, z_ai_ql, z_ar_ql, z_ln_ql, z_tg_ql, z_sz_ql, z_sl_ql, z_fi_qr, z_fl_qr, z_fr_qr, z_ai_qr, z_al_qr, z_ln_qr, z_tg_qr, z_sz_qr, z_sl_qr, z_fi_ca, z_fl_ca, z_fr_ca, z_al_ca, z_ar_ca, z_ln_ca, z_tg_ca, z_sz_ca, z_sl_ca, y_pi, y_pl, y_pr, y_qi, y_ql, y_qr, y_ca]
  · rw [kM.fi (by decide), fi_ne (by decide), fi_eq]
  · rw [kM.fi (by decide), fi_eq, fi_ne (by decide)]
/-- leave, with nothing there -/
theorem FC_leave0 (hI : cI sw nd rm M) (hF : FC tr sw nd M ia ct zb sb fl hl) (hx : sd sw nd x) (hp : ∀ o, h_fr M 803 (200 + x) = some o → h_tg M o = 9) (hf : fl (48 + x) = []) : f54 [.inr (.inr (some (200 + x)))] M = some (some (.inr (.inr none)), h_pi M 813 (200 + x) 0) := by
  have hx8 := hI.x8 hx
  have h1 := hI.po0 hx
  have h10 := hI.po5 hx
  have hq4 := hI.po7 hx
  have hno := FC_tno (p := 48 + x) hF (by omega) (by omega) (by rw [md_b hx8]; exact hx) hf
  have hsz := FC_sz (p := 48 + x) hF (by omega) (by omega) (by rw [md_b hx8]; exact hx)
  rw [lq_b hx8] at hno hsz
  rw [hf] at hsz
  have hsz : h_fi M 302 (300 + x) = 0 := hsz
  have e4 : f18 [.inr (.inr (some (300 + x)))] (h_pi M 813 (200 + x) 0) = some (some (.inr (.inr none)), h_pi M 813 (200 + x) 0) := f18_no hq4 hno
  cases hpp : h_fr M 803 (200 + x) with
  | none => simp [f54, b54_0, b54_35, h1, hpp, h10, hq4, hsz, e4, g_i, g_r, g_l, g_o, p_i, p_r, p_l, p_z, c_V, c_I, c_L, c_R, x_out, z_fl_pi, z_fr_pi, z_ai_pi, z_al_pi, z_ar_pi, z_ln_pi, z_tg_pi, z_sz_pi, z_sl_pi, z_fi_pl, z_fr_pl, z_ai_pl, z_al_pl, z_ar_pl, z_ln_pl, z_tg_pl, z_sz_pl, z_sl_pl, z_fi_pr, z_fl_pr, z_ai_pr, z_al_pr, z_ar_pr, z_ln_pr, z_tg_pr, z_sz_pr, z_sl_pr, z_fi_qi, z_fl_qi, z_fr_qi, z_al_qi, z_ar_qi, z_ln_qi, z_tg_qi, z_sz_qi, z_sl_qi, z_fi_ql, z_fl_ql, z_fr_ql, z_ai_ql, z_ar_ql, z_ln_ql, z_tg_ql, z_sz_ql, z_sl_ql, z_fi_qr, z_fl_qr, z_fr_qr, z_ai_qr, z_al_qr, z_ln_qr, z_tg_qr, z_sz_qr, z_sl_qr, z_fi_ca, z_fl_ca, z_fr_ca, z_al_ca, z_ar_ca, z_ln_ca, z_tg_ca, z_sz_ca, z_sl_ca, y_pi, y_pl, y_pr, y_qi, y_ql, y_qr, y_ca]
  | some o => simp [f54, b54_0, b54_35, h1, hpp, h10, hq4, hsz, e4, g_i, g_r, g_l, g_o, p_i, p_r, p_l, p_z, c_V, c_I, c_L, c_R, x_out, z_fl_pi, z_fr_pi, z_ai_pi, z_al_pi, z_ar_pi, z_ln_pi, z_tg_pi, z_sz_pi, z_sl_pi, z_fi_pl, z_fr_pl, z_ai_pl, z_al_pl, z_ar_pl, z_ln_pl, z_tg_pl, z_sz_pl, z_sl_pl, z_fi_pr, z_fl_pr, z_ai_pr, z_al_pr, z_ar_pr, z_ln_pr, z_tg_pr, z_sz_pr, z_sl_pr, z_fi_qi, z_fl_qi, z_fr_qi, z_al_qi, z_ar_qi, z_ln_qi, z_tg_qi, z_sz_qi, z_sl_qi, z_fi_ql, z_fl_ql, z_fr_ql, z_ai_ql, z_ar_ql, z_ln_ql, z_tg_ql, z_sz_ql, z_sl_ql, z_fi_qr, z_fl_qr, z_fr_qr, z_ai_qr, z_al_qr, z_ln_qr, z_tg_qr, z_sz_qr, z_sl_qr, z_fi_ca, z_fl_ca, z_fr_ca, z_al_ca, z_ar_ca, z_ln_ca, z_tg_ca, z_sz_ca, z_sl_ca, y_pi, y_pl, y_pr, y_qi, y_ql, y_qr, y_ca]
/-- drop -/
theorem FC_drop {k : Nat} (h0 : 0 < k) (h9 : k < 9) (hI : cI sw nd rm M) (hF : FC tr sw nd M ia ct zb sb fl hl) (hx : sd sw nd x) (hy : sd sw nd y) (hp : h_fr M 803 (200 + x) = some (200 + y)) {r : List (List Int32)} (hf : fl (48 + x) = L :: r) (hr : r.length ≤ 4) : ∃ M', f134 [.inr (.inr (some (200 + x))), .inl (nI k)] M = some (none, M') ∧ FC tr sw nd M' ia (u1 ct k (ct k + 1)) zb sb (u1 fl (48 + x) r) hl ∧ h_fi M' 813 = u1 (h_fi M 813) (200 + x) 0 ∧ h_fi M' 807 = u1 (h_fi M 807) (200 + y) (h_fi M 807 (200 + y) + 1) := by
  have h1 := hI.po0 hx
  have hs := hI.po1 hx
  have h2 := hI.sh0
  obtain ⟨M1, k1, k2⟩ := FC_tly (k := k) hI hF h0 h9
  have kk := kf37 k1 hF.1.2.2
  have hI1 := hI.keep kk (by decide) (by decide)
  have hp1 : h_fr M1 803 (200 + x) = some (200 + y) := by rw [kk.fr (by decide)]; exact hp
  obtain ⟨a, g, M2, e1, e2, e3, e4, e5, -⟩ := FC_leave hI1 k2 hx hy hp1 hf hr
  have kl := kf54 e1 k2.1.2.2
  have hI2 := hI1.keep kl (by decide) (by decide)
  obtain ⟨M3, g1, g2⟩ := FC_rel hI2 e2
  have kr := kf17 g1 e2.1.2.2
  have t1 := hI1.po0 hx
  have t2 := hI1.po1 hx
  have t3 := hI2.sh0
  refine ⟨M3, ?_, g2, ?_, ?_⟩
  · simp [f134, b134_0, h1, hs, h2, k1, t1, t2, t3, e1, g1, g_i, g_r, g_l, g_o, p_i, p_r, p_l, p_z, c_V, c_I, c_L, c_R, x_out, z_fl_pi, z_fr_pi, z_ai_pi, z_al_pi, z_ar_pi, z_ln_pi, z_tg_pi, z_sz_pi, z_sl_pi, z_fi_pl, z_fr_pl, z_ai_pl, z_al_pl, z_ar_pl, z_ln_pl, z_tg_pl, z_sz_pl, z_sl_pl, z_fi_pr, z_fl_pr, z_ai_pr, z_al_pr, z_ar_pr, z_ln_pr, z_tg_pr, z_sz_pr, z_sl_pr, z_fi_qi, z_fl_qi, z_fr_qi, z_al_qi, z_ar_qi, z_ln_qi, z_tg_qi, z_sz_qi, z_sl_qi, z_fi_ql, z_fl_ql, z_fr_ql, z_ai_ql, z_ar_ql, z_ln_ql, z_tg_ql, z_sz_ql, z_sl_ql, z_fi_qr, z_fl_qr, z_fr_qr, z_ai_qr, z_al_qr, z_ln_qr, z_tg_qr, z_sz_qr, z_sl_qr, z_fi_ca, z_fl_ca, z_fr_ca, z_al_ca, z_ar_ca, z_ln_ca, z_tg_ca, z_sz_ca, z_sl_ca, y_pi, y_pl, y_pr, y_qi, y_ql, y_qr, y_ca]
  · rw [kr.fi (by decide), e4, kk.fi (by decide)]
  · rw [kr.fi (by decide), e5, kk.fi (by decide)]
/-- stay -/
theorem FC_stay (hI : cI sw nd rm M) (hF : FC tr sw nd M ia ct zb sb fl hl) (hx : sd sw nd x) (hy : sd sw nd y) (hp : h_fr M 803 (200 + x) = some (200 + y)) {r : List (List Int32)} (hf : fl (48 + x) = L :: r) (hr : r.length ≤ 4) : ∃ M', f135 [.inr (.inr (some (200 + x)))] M = some (none, M') ∧ (if h_fi M 813 (200 + x) + 1 < 25 then FC tr sw nd M' ia ct zb sb fl hl ∧ h_fi M' 813 = u1 (h_fi M 813) (200 + x) (h_fi M 813 (200 + x) + 1) ∧ h_fi M' 807 = h_fi M 807 else FC tr sw nd M' ia (u1 ct 4 (ct 4 + 1)) zb sb (u1 fl (48 + x) r) hl ∧ h_fi M' 813 = u1 (h_fi M 813) (200 + x) 0 ∧ h_fi M' 807 = u1 (h_fi M 807) (200 + y) (h_fi M 807 (200 + y) + 1)) := by
  have h1 := hI.po0 hx
  have hb := hF.1.2.2
  have kk := k_hpi (f := 813) (a := 200 + x) (v := h_fi M 813 (200 + x) + 1) hb (by rw [h1]; decide)
  have hI1 := hI.keep kk (by decide) (by decide)
  have hF1 := hF.cg kk (by decide)
  by_cases hc : h_fi M 813 (200 + x) + 1 < 25
  · refine ⟨h_pi M 813 (200 + x) (h_fi M 813 (200 + x) + 1), ?_, ?_⟩
    · simp [f135, b135_0, b135_24, h1, hc, g_i, g_r, g_l, g_o, p_i, p_r, p_l, p_z, c_V, c_I, c_L, c_R, x_out, z_fl_pi, z_fr_pi, z_ai_pi, z_al_pi, z_ar_pi, z_ln_pi, z_tg_pi, z_sz_pi, z_sl_pi, z_fi_pl, z_fr_pl, z_ai_pl, z_al_pl, z_ar_pl, z_ln_pl, z_tg_pl, z_sz_pl, z_sl_pl, z_fi_pr, z_fl_pr, z_ai_pr, z_al_pr, z_ar_pr, z_ln_pr, z_tg_pr, z_sz_pr, z_sl_pr, z_fi_qi, z_fl_qi, z_fr_qi, z_al_qi, z_ar_qi, z_ln_qi, z_tg_qi, z_sz_qi, z_sl_qi, z_fi_ql, z_fl_ql, z_fr_ql, z_ai_ql, z_ar_ql, z_ln_ql, z_tg_ql, z_sz_ql, z_sl_ql, z_fi_qr, z_fl_qr, z_fr_qr, z_ai_qr, z_al_qr, z_ln_qr, z_tg_qr, z_sz_qr, z_sl_qr, z_fi_ca, z_fl_ca, z_fr_ca, z_al_ca, z_ar_ca, z_ln_ca, z_tg_ca, z_sz_ca, z_sl_ca, y_pi, y_pl, y_pr, y_qi, y_ql, y_qr, y_ca]
    · rw [if_pos hc]
      exact ⟨hF1, fi_eq, fi_ne (by decide)⟩
  · obtain ⟨M', e1, e2, e3, e4⟩ := FC_drop (k := 4) (by omega) (by omega) hI1 hF1 hx hy hp hf hr
    have e1' : f134 [.inr (.inr (some (200 + x))), .inl (4 : Int32)] (h_pi M 813 (200 + x) (h_fi M 813 (200 + x) + 1)) = some (none, M') := e1
    refine ⟨M', ?_, ?_⟩
    · simp [f135, b135_0, b135_24, h1, hc, e1', g_i, g_r, g_l, g_o, p_i, p_r, p_l, p_z, c_V, c_I, c_L, c_R, x_out, z_fl_pi, z_fr_pi, z_ai_pi, z_al_pi, z_ar_pi, z_ln_pi, z_tg_pi, z_sz_pi, z_sl_pi, z_fi_pl, z_fr_pl, z_ai_pl, z_al_pl, z_ar_pl, z_ln_pl, z_tg_pl, z_sz_pl, z_sl_pl, z_fi_pr, z_fl_pr, z_ai_pr, z_al_pr, z_ar_pr, z_ln_pr, z_tg_pr, z_sz_pr, z_sl_pr, z_fi_qi, z_fl_qi, z_fr_qi, z_al_qi, z_ar_qi, z_ln_qi, z_tg_qi, z_sz_qi, z_sl_qi, z_fi_ql, z_fl_ql, z_fr_ql, z_ai_ql, z_ar_ql, z_ln_ql, z_tg_ql, z_sz_ql, z_sl_ql, z_fi_qr, z_fl_qr, z_fr_qr, z_ai_qr, z_al_qr, z_ln_qr, z_tg_qr, z_sz_qr, z_sl_qr, z_fi_ca, z_fl_ca, z_fr_ca, z_al_ca, z_ar_ca, z_ln_ca, z_tg_ca, z_sz_ca, z_sl_ca, y_pi, y_pl, y_pr, y_qi, y_ql, y_qr, y_ca]
    · rw [if_neg hc]
      refine ⟨e2, ?_, ?_⟩
      · rw [e3, fi_eq]
        funext b
        unfold u1
        split <;> rfl
      · rw [e4, fi_ne (by decide)]
end MO
