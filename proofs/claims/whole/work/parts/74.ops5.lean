/-! ===== send, sendFirst, deliver, goDown ===== -/
theorem pr_pr {M : hM} {k a j b : Nat} {v w : Option Nat} (h : k ≠ j) : h_pr (h_pr M k a v) j b w = h_pr (h_pr M j b w) k a v := by
  have : u2 (u2 (h_fr M) k a v) j b w = u2 (u2 (h_fr M) j b w) k a v := by
    funext x y
    unfold u2
    by_cases c1 : x = j ∧ y = b
    · rw [if_pos c1, if_neg (fun q => h (q.1.symm.trans c1.1)), if_pos c1]
    · rw [if_neg c1, if_neg c1]
  show (h_fi M, h_fl M, u2 (u2 (h_fr M) k a v) j b w, h_ai M, h_al M, h_ar M, h_ln M, h_tg M, h_sz M, h_sl M) = (h_fi M, h_fl M, u2 (u2 (h_fr M) j b w) k a v, h_ai M, h_al M, h_ar M, h_ln M, h_tg M, h_sz M, h_sl M)
  rw [this]
theorem pi_pr {M : hM} {k a j b : Nat} {v : Int32} {w : Option Nat} : h_pr (h_pi M k a v) j b w = h_pi (h_pr M j b w) k a v := rfl
section MO
variable {tr : List Int32 → Bool} {sw nd rm : Nat} {M : hM} {ia : Nat → Nat → Int32} {ct : Nat → Int32} {zb sb : Nat} {fl : Nat → List (List Int32)} {hl : List (Nat × Int32 × List Int32)} {a p q x y : Nat} {g : Int32} {L : List Int32}
theorem FC.way0 (hF : FC tr sw nd M ia ct zb sb fl hl) (hx : sd sw nd x) (hx8 : x < 48) : h_fr M 808 (200 + x) = none ↔ fl x = [] := by
  obtain ⟨-, cl, -, c2, c3, c4, -⟩ := hF
  rw [c3.1 x hx, ← c4.2.1 x (by omega)]
  cases cl x with
  | nil => exact ⟨fun _ => rfl, fun _ => rfl⟩
  | cons b l => exact ⟨fun q => (by cases q), fun q => (by cases q)⟩
/-- held, on the way -/
theorem FC_way (hI : cI sw nd rm M) (hF : FC tr sw nd M ia ct zb sb fl ((a, g, L) :: hl)) (hx : sd sw nd x) (hw : fl x = []) (hT : g = 0 → tr L = true) : FC tr sw nd (h_pr M 808 (200 + x) (some a)) ia ct zb sb (u1 fl x [L]) hl := by
  have hx8 := hI.x8 hx
  have hb := hI.bs
  obtain ⟨h0, cl, c1, c2, c3, c4, c5, c6⟩ := hF
  obtain ⟨l, hl1, hT⟩ := fT_add (p := x) c4 (by omega) (by unfold fW; rw [if_pos (by omega)]; exact hT)
  have hcx := fT_nil c4 (show x < 144 by omega) hw
  have mS := mv_snoc c1 hl1 (q := x) (by omega)
  rw [hw, hcx] at hT
  rw [hcx] at mS
  refine FC_ms h0 c2 c5 c6 ⟨⟨rfl, rfl, rfl, rfl, rfl⟩, fr_ne (by decide), rfl, rfl⟩ (k_hpr h0.2.2 (by rw [hI.po0 hx]; decide)).1 (mv_ex c1 hl1 (by omega) (by rw [hcx]; exact mS.1)) (fD_mv c1 hl1 (by omega) (by rw [hcx]; exact mS.1) mS.2) (sumL_mv (by omega) (by omega) (by omega) (by rw [hl1]; rfl) (by rw [hcx]; rfl)) ?_ hT
  have := fS_snd c1 c3 hb.1.2 hb.2.1.2 hx hcx hl1
  rw [fr_ne (show 203 ≠ 808 by decide), fr_ne (show 300 ≠ 808 by decide), fr_ne (show 301 ≠ 808 by decide), fr_eq, fr_ne (show 907 ≠ 808 by decide)]
  exact this
/-- from the way, held -/
theorem FC_arr (hI : cI sw nd rm M) (hF : FC tr sw nd M ia ct zb sb fl hl) (hx : sd sw nd x) (hw : fl x = [L]) : ∃ a g, h_fr M 808 (200 + x) = some a ∧ fOK M a ∧ fcC M a = L ∧ h_fi M 202 a = g ∧ (g = 0 → tr L = true) ∧ FC tr sw nd (h_pr M 808 (200 + x) none) ia ct zb sb (u1 fl x []) ((a, g, L) :: hl) := by
  have hx8 := hI.x8 hx
  have hb := hI.bs
  obtain ⟨h0, cl, c1, c2, c3, c4, c5, c6⟩ := hF
  obtain ⟨a, l, hc, hL, hW⟩ := fT_at c4 (show x < 144 by omega) hw
  have hl0 : l = [] := by
    have := c4.2.1 x (by omega)
    rw [hw, hc] at this
    exact List.map_eq_nil_iff.mp (List.cons.inj this).2
  subst hl0
  obtain ⟨s1, s2⟩ := fS_arr c3 hb.1.2 hb.2.1.2 hx hc
  have ha := c2 x a (by rw [hc]; exact List.mem_cons_self)
  unfold fW at hW
  rw [if_pos (by omega)] at hW
  refine ⟨a, h_fi M 202 a, s1, ha, hL, rfl, hW, ?_⟩
  refine FC_ms h0 c2 c5 c6 ⟨⟨rfl, rfl, rfl, rfl, rfl⟩, fr_ne (by decide), rfl, rfl⟩ (k_hpr h0.2.2 (by rw [hI.po0 hx]; decide)).1 (mv_ex c1 hc (by omega) (mv_cons c1 hc (q := 145) (by omega)).1) (fD_mv c1 hc (by omega) (mv_cons c1 hc (q := 145) (by omega)).1 (mv_cons c1 hc (q := 145) (by omega)).2) (sumL_mv (by omega) (by omega) (by omega) (by rw [hc]; rfl) rfl) ?_ (fT_tak c4 (by omega) hw hc)
  rw [fr_ne (show 203 ≠ 808 by decide), fr_ne (show 300 ≠ 808 by decide), fr_ne (show 301 ≠ 808 by decide), fr_eq, fr_ne (show 907 ≠ 808 by decide)]
  exact s2
theorem f41_eq (h1 : h_tg M (200 + x) = 9) : f41 [.inr (.inr (some (200 + x)))] M = some (some (.inl (if h_fi M 805 (200 + x) = 0 then 0 else if h_fi M 806 (200 + x) ≤ 0 then 0 else if h_fr M 808 (200 + x) = none then 1 else 0)), M) := by
  by_cases c1 : h_fi M 805 (200 + x) = 0
  · simp [f41, b41_0, b41_25, b41_26, h1, c1, g_i, g_r, g_l, g_o, p_i, p_r, p_l, p_z, c_V, c_I, c_L, c_R, x_out, z_fl_pi, z_fr_pi, z_ai_pi, z_al_pi, z_ar_pi, z_ln_pi, z_tg_pi, z_sz_pi, z_sl_pi, z_fi_pl, z_fr_pl, z_ai_pl, z_al_pl, z_ar_pl, z_ln_pl, z_tg_pl, z_sz_pl, z_sl_pl, z_fi_pr, z_fl_pr, z_ai_pr, z_al_pr, z_ar_pr, z_ln_pr, z_tg_pr, z_sz_pr, z_sl_pr, z_fi_qi, z_fl_qi, z_fr_qi, z_al_qi, z_ar_qi, z_ln_qi, z_tg_qi, z_sz_qi, z_sl_qi, z_fi_ql, z_fl_ql, z_fr_ql, z_ai_ql, z_ar_ql, z_ln_ql, z_tg_ql, z_sz_ql, z_sl_ql, z_fi_qr, z_fl_qr, z_fr_qr, z_ai_qr, z_al_qr, z_ln_qr, z_tg_qr, z_sz_qr, z_sl_qr, z_fi_ca, z_fl_ca, z_fr_ca, z_al_ca, z_ar_ca, z_ln_ca, z_tg_ca, z_sz_ca, z_sl_ca, y_pi, y_pl, y_pr, y_qi, y_ql, y_qr, y_ca]
  · by_cases c2 : h_fi M 806 (200 + x) ≤ 0
    · simp [f41, b41_0, b41_25, b41_26, h1, c1, c2, g_i, g_r, g_l, g_o, p_i, p_r, p_l, p_z, c_V, c_I, c_L, c_R, x_out, z_fl_pi, z_fr_pi, z_ai_pi, z_al_pi, z_ar_pi, z_ln_pi, z_tg_pi, z_sz_pi, z_sl_pi, z_fi_pl, z_fr_pl, z_ai_pl, z_al_pl, z_ar_pl, z_ln_pl, z_tg_pl, z_sz_pl, z_sl_pl, z_fi_pr, z_fl_pr, z_ai_pr, z_al_pr, z_ar_pr, z_ln_pr, z_tg_pr, z_sz_pr, z_sl_pr, z_fi_qi, z_fl_qi, z_fr_qi, z_al_qi, z_ar_qi, z_ln_qi, z_tg_qi, z_sz_qi, z_sl_qi, z_fi_ql, z_fl_ql, z_fr_ql, z_ai_ql, z_ar_ql, z_ln_ql, z_tg_ql, z_sz_ql, z_sl_ql, z_fi_qr, z_fl_qr, z_fr_qr, z_ai_qr, z_al_qr, z_ln_qr, z_tg_qr, z_sz_qr, z_sl_qr, z_fi_ca, z_fl_ca, z_fr_ca, z_al_ca, z_ar_ca, z_ln_ca, z_tg_ca, z_sz_ca, z_sl_ca, y_pi, y_pl, y_pr, y_qi, y_ql, y_qr, y_ca]
    · by_cases c3 : h_fr M 808 (200 + x) = none
      · simp [f41, b41_0, b41_25, b41_26, h1, c1, c2, c3, g_i, g_r, g_l, g_o, p_i, p_r, p_l, p_z, c_V, c_I, c_L, c_R, x_out, z_fl_pi, z_fr_pi, z_ai_pi, z_al_pi, z_ar_pi, z_ln_pi, z_tg_pi, z_sz_pi, z_sl_pi, z_fi_pl, z_fr_pl, z_ai_pl, z_al_pl, z_ar_pl, z_ln_pl, z_tg_pl, z_sz_pl, z_sl_pl, z_fi_pr, z_fl_pr, z_ai_pr, z_al_pr, z_ar_pr, z_ln_pr, z_tg_pr, z_sz_pr, z_sl_pr, z_fi_qi, z_fl_qi, z_fr_qi, z_al_qi, z_ar_qi, z_ln_qi, z_tg_qi, z_sz_qi, z_sl_qi, z_fi_ql, z_fl_ql, z_fr_ql, z_ai_ql, z_ar_ql, z_ln_ql, z_tg_ql, z_sz_ql, z_sl_ql, z_fi_qr, z_fl_qr, z_fr_qr, z_ai_qr, z_al_qr, z_ln_qr, z_tg_qr, z_sz_qr, z_sl_qr, z_fi_ca, z_fl_ca, z_fr_ca, z_al_ca, z_ar_ca, z_ln_ca, z_tg_ca, z_sz_ca, z_sl_ca, y_pi, y_pl, y_pr, y_qi, y_ql, y_qr, y_ca]
      · simp [f41, b41_0, b41_25, b41_26, h1, c1, c2, c3, g_i, g_r, g_l, g_o, p_i, p_r, p_l, p_z, c_V, c_I, c_L, c_R, x_out, z_fl_pi, z_fr_pi, z_ai_pi, z_al_pi, z_ar_pi, z_ln_pi, z_tg_pi, z_sz_pi, z_sl_pi, z_fi_pl, z_fr_pl, z_ai_pl, z_al_pl, z_ar_pl, z_ln_pl, z_tg_pl, z_sz_pl, z_sl_pl, z_fi_pr, z_fl_pr, z_ai_pr, z_al_pr, z_ar_pr, z_ln_pr, z_tg_pr, z_sz_pr, z_sl_pr, z_fi_qi, z_fl_qi, z_fr_qi, z_al_qi, z_ar_qi, z_ln_qi, z_tg_qi, z_sz_qi, z_sl_qi, z_fi_ql, z_fl_ql, z_fr_ql, z_ai_ql, z_ar_ql, z_ln_ql, z_tg_ql, z_sz_ql, z_sl_ql, z_fi_qr, z_fl_qr, z_fr_qr, z_ai_qr, z_al_qr, z_ln_qr, z_tg_qr, z_sz_qr, z_sl_qr, z_fi_ca, z_fl_ca, z_fr_ca, z_al_ca, z_ar_ca, z_ln_ca, z_tg_ca, z_sz_ca, z_sl_ca, y_pi, y_pl, y_pr, y_qi, y_ql, y_qr, y_ca]
/-- send -/
theorem FC_send (hI : cI sw nd rm M) (hF : FC tr sw nd M ia ct zb sb fl ((a, g, L) :: hl)) (hx : sd sw nd x) (hw : fl x = []) (hT : g = 0 → tr L = true) : ∃ M', f44 [.inr (.inr (some (200 + x))), .inr (.inr (some a))] M = some (none, M') ∧ FC tr sw nd M' ia (u1 ct 6 (ct 6 + 1)) zb sb (u1 fl x [L]) hl ∧ h_fi M' 806 = u1 (h_fi M 806) (200 + x) (h_fi M 806 (200 + x) - 1) := by
  have h1 := hI.po0 hx
  have hs := hI.po1 hx
  have h2 := hI.sh0
  have hF1 := FC_way hI hF hx hw hT
  have kA := k_hpr (M := M) (f := 808) (a := 200 + x) (v := some a) hF.1.2.2 (by rw [h1]; decide)
  have hI1 := hI.keep kA (by decide) (by decide)
  have kB := k_hpi (M := h_pr M 808 (200 + x) (some a)) (f := 806) (a := 200 + x) (v := h_fi M 806 (200 + x) - 1) hF1.1.2.2 (by rw [hI1.po0 hx]; decide)
  have hI2 := hI1.keep kB (by decide) (by decide)
  have hF2 := hF1.cg kB (by decide)
  obtain ⟨M', e1, e2⟩ := FC_tly (k := 6) hI2 hF2 (by omega) (by omega)
  have e1' : f37 [.inr (.inr (some 2)), .inl (6 : Int32)] (h_pi (h_pr M 808 (200 + x) (some a)) 806 (200 + x) (h_fi M 806 (200 + x) - 1)) = some (none, M') := e1
  refine ⟨M', ?_, e2, ?_⟩
  · simp [f44, b44_0, h1, hs, h2, e1', g_i, g_r, g_l, g_o, p_i, p_r, p_l, p_z, c_V, c_I, c_L, c_R, x_out, z_fl_pi, z_fr_pi, z_ai_pi, z_al_pi, z_ar_pi, z_ln_pi, z_tg_pi, z_sz_pi, z_sl_pi, z_fi_pl, z_fr_pl, z_ai_pl, z_al_pl, z_ar_pl, z_ln_pl, z_tg_pl, z_sz_pl, z_sl_pl, z_fi_pr, z_fl_pr, z_ai_pr, z_al_pr, z_ar_pr, z_ln_pr, z_tg_pr, z_sz_pr, z_sl_pr, z_fi_qi, z_fl_qi, z_fr_qi, z_al_qi, z_ar_qi, z_ln_qi, z_tg_qi, z_sz_qi, z_sl_qi, z_fi_ql, z_fl_ql, z_fr_ql, z_ai_ql, z_ar_ql, z_ln_ql, z_tg_ql, z_sz_ql, z_sl_ql, z_fi_qr, z_fl_qr, z_fr_qr, z_ai_qr, z_al_qr, z_ln_qr, z_tg_qr, z_sz_qr, z_sl_qr, z_fi_ca, z_fl_ca, z_fr_ca, z_al_ca, z_ar_ca, z_ln_ca, z_tg_ca, z_sz_ca, z_sl_ca, y_pi, y_pl, y_pr, y_qi, y_ql, y_qr, y_ca]
  · rw [(kf37 e1 hF2.1.2.2).fi (by decide), fi_eq]
    rfl
/-- sendFirst, where nothing is sent -/
theorem FC_sf0 (hI : cI sw nd rm M) (hF : FC tr sw nd M ia ct zb sb fl hl) (hx : sd sw nd x) (hc : fl (96 + x) = [] ∨ h_fi M 805 (200 + x) = 0 ∨ h_fi M 806 (200 + x) ≤ 0 ∨ fl x ≠ []) : f45 [.inr (.inr (some (200 + x)))] M = some (none, M) := by
  have hx8 := hI.x8 hx
  have h1 := hI.po0 hx
  have h9 := hI.po4 hx
  have hq4 := hI.po6 hx
  cases hq : fl (96 + x) with
  | nil =>
    have hno := FC_tno (p := 96 + x) hF (by omega) (by omega) (by rw [md_q hx8]; exact hx) hq
    rw [lq_q] at hno
    simp [f45, b45_0, b45_38, h1, h9, hq4, hno, g_i, g_r, g_l, g_o, p_i, p_r, p_l, p_z, c_V, c_I, c_L, c_R, x_out, z_fl_pi, z_fr_pi, z_ai_pi, z_al_pi, z_ar_pi, z_ln_pi, z_tg_pi, z_sz_pi, z_sl_pi, z_fi_pl, z_fr_pl, z_ai_pl, z_al_pl, z_ar_pl, z_ln_pl, z_tg_pl, z_sz_pl, z_sl_pl, z_fi_pr, z_fl_pr, z_ai_pr, z_al_pr, z_ar_pr, z_ln_pr, z_tg_pr, z_sz_pr, z_sl_pr, z_fi_qi, z_fl_qi, z_fr_qi, z_al_qi, z_ar_qi, z_ln_qi, z_tg_qi, z_sz_qi, z_sl_qi, z_fi_ql, z_fl_ql, z_fr_ql, z_ai_ql, z_ar_ql, z_ln_ql, z_tg_ql, z_sz_ql, z_sl_ql, z_fi_qr, z_fl_qr, z_fr_qr, z_ai_qr, z_al_qr, z_ln_qr, z_tg_qr, z_sz_qr, z_sl_qr, z_fi_ca, z_fl_ca, z_fr_ca, z_al_ca, z_ar_ca, z_ln_ca, z_tg_ca, z_sz_ca, z_sl_ca, y_pi, y_pl, y_pr, y_qi, y_ql, y_qr, y_ca]
  | cons L r =>
    obtain ⟨a, g, M', e0, -⟩ := FC_tak (p := 96 + x) hI hF (by omega) (by omega) (by rw [md_q hx8]; exact hx) (by rw [lq_q]; exact hq4) hq
    rw [lq_q] at e0
    have e41 : f41 [.inr (.inr (some (200 + x)))] M = some (some (.inl 0), M) := by
      rw [f41_eq h1]
      by_cases c1 : h_fi M 805 (200 + x) = 0
      · rw [if_pos c1]
      · rw [if_neg c1]
        by_cases c2 : h_fi M 806 (200 + x) ≤ 0
        · rw [if_pos c2]
        · rw [if_neg c2, if_neg]
          intro q
          have := (hF.way0 hx hx8).mp q
          rcases hc with hc | hc | hc | hc
          · rw [hq] at hc; cases hc
          · exact c1 hc
          · exact c2 hc
          · exact hc this
    simp [f45, b45_0, b45_38, h1, h9, hq4, e0, e41, g_i, g_r, g_l, g_o, p_i, p_r, p_l, p_z, c_V, c_I, c_L, c_R, x_out, z_fl_pi, z_fr_pi, z_ai_pi, z_al_pi, z_ar_pi, z_ln_pi, z_tg_pi, z_sz_pi, z_sl_pi, z_fi_pl, z_fr_pl, z_ai_pl, z_al_pl, z_ar_pl, z_ln_pl, z_tg_pl, z_sz_pl, z_sl_pl, z_fi_pr, z_fl_pr, z_ai_pr, z_al_pr, z_ar_pr, z_ln_pr, z_tg_pr, z_sz_pr, z_sl_pr, z_fi_qi, z_fl_qi, z_fr_qi, z_al_qi, z_ar_qi, z_ln_qi, z_tg_qi, z_sz_qi, z_sl_qi, z_fi_ql, z_fl_ql, z_fr_ql, z_ai_ql, z_ar_ql, z_ln_ql, z_tg_ql, z_sz_ql, z_sl_ql, z_fi_qr, z_fl_qr, z_fr_qr, z_ai_qr, z_al_qr, z_ln_qr, z_tg_qr, z_sz_qr, z_sl_qr, z_fi_ca, z_fl_ca, z_fr_ca, z_al_ca, z_ar_ca, z_ln_ca, z_tg_ca, z_sz_ca, z_sl_ca, y_pi, y_pl, y_pr, y_qi, y_ql, y_qr, y_ca]
/-- sendFirst -/
theorem FC_sf (hI : cI sw nd rm M) (hF : FC tr sw nd M ia ct zb sb fl hl) (hx : sd sw nd x) {r : List (List Int32)} (hq : fl (96 + x) = L :: r) (hL : L.length ≤ 44) (hu : h_fi M 805 (200 + x) ≠ 0) (hc : ¬ h_fi M 806 (200 + x) ≤ 0) (hw : fl x = []) : ∃ M', f45 [.inr (.inr (some (200 + x)))] M = some (none, M') ∧ FC tr sw nd M' ia (u1 ct 6 (ct 6 + 1)) zb sb (u1 (u1 fl (96 + x) r) x [clL L]) hl ∧ h_fi M' 806 = u1 (h_fi M 806) (200 + x) (h_fi M 806 (200 + x) - 1) := by
  have hx8 := hI.x8 hx
  have h1 := hI.po0 hx
  have h9 := hI.po4 hx
  have hq4 := hI.po6 hx
  obtain ⟨a, g, Ma, e0, e1, e2, e3, e4, e5, e6, -⟩ := FC_tak (p := 96 + x) hI hF (by omega) (by omega) (by rw [md_q hx8]; exact hx) (by rw [lq_q]; exact hq4) hq
  rw [lq_q] at e0 e4
  obtain ⟨hfb, h1000, z, hz, hz8⟩ := e3
  have hLz : L.length = z := by rw [← e1, fcC_z hz hz8, fbl_len]
  obtain ⟨N, n1, n2, n3⟩ := f43_eq hfb hz (by omega)
  unfold fW at e6
  rw [if_neg (by omega)] at e6
  obtain ⟨⟨b1, b2, b3, b4, b5⟩, ⟨b6, b7, b8, b9⟩, b0⟩ := n2
  have kS := kf43 n1 hF.1.2.2
  have hbS := kS.1
  generalize hM1 : h_pi N 201 a (nI (z + 4)) = M1 at *
  have tg1 : h_tg M1 = h_tg M := by rw [← hM1]; exact b7
  have fr1 : h_fr M1 = h_fr M := by rw [← hM1]; exact b3
  have fi302 : h_fi M1 302 = h_fi M 302 := kS.fi (by decide)
  have ev1 := f18_eq (M := M1) (q := 250 + x) (a := a) (by rw [tg1]; exact hq4) (by rw [fr1]; exact e0) (by rw [tg1]; exact hfb.1)
  have ev0 := f18_eq (M := M) (q := 250 + x) (a := a) hq4 e0 hfb.1
  rw [ev0] at e4
  have eMa := (Prod.mk.inj (Option.some.inj e4)).2
  have kT := kf18 ev1 hbS
  generalize hM2 : (h_pi (h_pr (if h_fr M1 203 a = none then h_pr (h_pr M1 300 (250 + x) (h_fr M1 203 a)) 301 (250 + x) none else h_pr M1 300 (250 + x) (h_fr M1 203 a)) 203 a none) 302 (250 + x) (h_fi M1 302 (250 + x) - 1)) = M2 at *
  have same : h_tg M2 = h_tg Ma ∧ h_ln M2 = h_ln Ma ∧ h_sz M2 = h_sz Ma ∧ h_sl M2 = h_sl Ma ∧ h_fr M2 = h_fr Ma ∧ h_fi M2 302 = h_fi Ma 302 := by
    have lnn : h_ln M1 = h_ln M := by rw [← hM1]; exact b6
    have szz : h_sz M1 = h_sz M := by rw [← hM1]; exact b8
    have sll : h_sl M1 = h_sl M := by rw [← hM1]; exact b9
    rw [← hM2, ← eMa, fr1]
    by_cases e : h_fr M 203 a = none
    · rw [if_pos e, if_pos e]
      refine ⟨tg1, lnn, szz, sll, ?_, ?_⟩
      · show u2 (u2 (u2 (h_fr M1) _ _ _) _ _ _) _ _ _ = u2 (u2 (u2 (h_fr M) _ _ _) _ _ _) _ _ _
        rw [fr1]
      · rw [fi_eq, fi_eq, fi302]
        show u1 (h_fi M1 302) _ _ = u1 (h_fi M 302) _ _
        rw [fi302]
    · rw [if_neg e, if_neg e]
      refine ⟨tg1, lnn, szz, sll, ?_, ?_⟩
      · show u2 (u2 (h_fr M1) _ _ _) _ _ _ = u2 (u2 (h_fr M) _ _ _) _ _ _
        rw [fr1]
      · rw [fi_eq, fi_eq, fi302]
        show u1 (h_fi M1 302) _ _ = u1 (h_fi M 302) _ _
        rw [fi302]
  have kTa := kf18 ev0 hF.1.2.2
  rw [eMa] at kTa
  have ai2 : h_ai M2 = h_ai M1 := funext fun b => (kT.2.2.2.1 b (by intro q; cases q)).1
  have aia : h_ai Ma = h_ai M := funext fun b => (kTa.2.2.2.1 b (by intro q; cases q)).1
  have hF2 : FC tr sw nd M2 ia ct zb sb (u1 fl (96 + x) r) ((a, 0, clL L) :: hl) := by
    refine FC_con (z := z + 4) e5 same (fun b qb => ⟨?_, ?_⟩) (fun b qb => ?_) ?_ (by omega) ?_ ?_ kT.1
    · rw [kT.fi (by decide), kTa.fi (by decide), ← hM1, fi_eq, u1_ne qb, b1]
    · rw [kT.fi (by decide), kTa.fi (by decide), ← hM1, fi_ne (by decide), b1]
    · rw [ai2, aia, ← hM1]
      exact funext fun i => b0 b i qb
    · rw [kT.fi (by decide), ← hM1, fi_eq, u1_eq]
    · show (List.range (z + 4)).map (fun i => h_ai M2 (a + 1) i) = clL L
      rw [ai2, ← hM1, ← e1, fcC_z hz hz8]
      exact n3
    · rw [kT.fi (by decide), ← hM1, fi_ne (by decide), b1, e2]; exact e6.1
  have hI1 := hI.keep kS (by decide) (by decide)
  have hI2 := hI1.keep kT (by decide) (by decide)
  obtain ⟨M', s1, s2, s3⟩ := FC_send hI2 hF2 hx (by rw [u1_ne (by omega)]; exact hw) (fun _ => e6.2)
  refine ⟨M', ?_, s2, ?_⟩
  · have e41 : f41 [.inr (.inr (some (200 + x)))] M = some (some (.inl 1), M) := by
      rw [f41_eq h1, if_neg hu, if_neg hc, if_pos ((hF.way0 hx hx8).mpr hw)]
    have t1 := hfb.1
    have t2 := hI1.po0 hx
    have t3 := hI1.po4 hx
    have t4 := hI1.po6 hx
    have t5 := hI2.po0 hx
    simp [f45, b45_0, b45_38, h1, h9, hq4, e0, e41, t1, n1, t2, t3, t4, ev1, t5, s1, g_i, g_r, g_l, g_o, p_i, p_r, p_l, p_z, c_V, c_I, c_L, c_R, x_out, z_fl_pi, z_fr_pi, z_ai_pi, z_al_pi, z_ar_pi, z_ln_pi, z_tg_pi, z_sz_pi, z_sl_pi, z_fi_pl, z_fr_pl, z_ai_pl, z_al_pl, z_ar_pl, z_ln_pl, z_tg_pl, z_sz_pl, z_sl_pl, z_fi_pr, z_fl_pr, z_ai_pr, z_al_pr, z_ar_pr, z_ln_pr, z_tg_pr, z_sz_pr, z_sl_pr, z_fi_qi, z_fl_qi, z_fr_qi, z_al_qi, z_ar_qi, z_ln_qi, z_tg_qi, z_sz_qi, z_sl_qi, z_fi_ql, z_fl_ql, z_fr_ql, z_ai_ql, z_ar_ql, z_ln_ql, z_tg_ql, z_sz_ql, z_sl_ql, z_fi_qr, z_fl_qr, z_fr_qr, z_ai_qr, z_al_qr, z_ln_qr, z_tg_qr, z_sz_qr, z_sl_qr, z_fi_ca, z_fl_ca, z_fr_ca, z_al_ca, z_ar_ca, z_ln_ca, z_tg_ca, z_sz_ca, z_sl_ca, y_pi, y_pl, y_pr, y_qi, y_ql, y_qr, y_ca]
  · rw [s3, kT.fi (by decide), kS.fi (by decide)]
end MO
