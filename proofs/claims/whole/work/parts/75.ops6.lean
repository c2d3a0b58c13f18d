/-! ===== deliver, goDown, turnOver ===== -/
section MO
variable {tr : List Int32 → Bool} {sw nd rm : Nat} {M : hM} {ia : Nat → Nat → Int32} {ct : Nat → Int32} {zb sb : Nat} {fl : Nat → List (List Int32)} {hl : List (Nat × Int32 × List Int32)} {a p q x y : Nat} {g : Int32} {L : List Int32}
/-- deliver, with nothing on the way -/
theorem FC_del0 (hI : cI sw nd rm M) (hF : FC tr sw nd M ia ct zb sb fl hl) (hx : sd sw nd x) (hw : fl x = []) : f139 [.inr (.inr (some (200 + x)))] M = some (some (.inl 0), h_pi (h_pi M 806 (200 + x) (h_fi M 806 (200 + x) + h_fi M 807 (200 + x))) 807 (200 + x) 0) := by
  have hx8 := hI.x8 hx
  have h1 := hI.po0 hx
  have hn := (hF.way0 hx hx8).mpr hw
  simp [f139, b139_0, b139_32, h1, hn, g_i, g_r, g_l, g_o, p_i, p_r, p_l, p_z, c_V, c_I, c_L, c_R, x_out, z_fl_pi, z_fr_pi, z_ai_pi, z_al_pi, z_ar_pi, z_ln_pi, z_tg_pi, z_sz_pi, z_sl_pi, z_fi_pl, z_fr_pl, z_ai_pl, z_al_pl, z_ar_pl, z_ln_pl, z_tg_pl, z_sz_pl, z_sl_pl, z_fi_pr, z_fl_pr, z_ai_pr, z_al_pr, z_ar_pr, z_ln_pr, z_tg_pr, z_sz_pr, z_sl_pr, z_fi_qi, z_fl_qi, z_fr_qi, z_al_qi, z_ar_qi, z_ln_qi, z_tg_qi, z_sz_qi, z_sl_qi, z_fi_ql, z_fl_ql, z_fr_ql, z_ai_ql, z_ar_ql, z_ln_ql, z_tg_ql, z_sz_ql, z_sl_ql, z_fi_qr, z_fl_qr, z_fr_qr, z_ai_qr, z_al_qr, z_ln_qr, z_tg_qr, z_sz_qr, z_sl_qr, z_fi_ca, z_fl_ca, z_fr_ca, z_al_ca, z_ar_ca, z_ln_ca, z_tg_ca, z_sz_ca, z_sl_ca, y_pi, y_pl, y_pr, y_qi, y_ql, y_qr, y_ca]
theorem FC_del (hI : cI sw nd rm M) (hF : FC tr sw nd M ia ct zb sb fl hl) (hx : sd sw nd x) (hy : sd sw nd y) (hp : h_fr M 803 (200 + x) = some (200 + y)) (hw : fl x = [L]) : ∃ M', f139 [.inr (.inr (some (200 + x)))] M = some (some (.inl 1), M') ∧ FC tr sw nd M' ia ct zb sb (u1 (u1 fl x []) (48 + y) (fl (48 + y) ++ [L])) hl ∧ h_fi M' 806 = u1 (h_fi M 806) (200 + x) (h_fi M 806 (200 + x) + h_fi M 807 (200 + x)) ∧ h_fi M' 807 = u1 (h_fi M 807) (200 + x) 0 := by
  have hx8 := hI.x8 hx
  have hy8 := hI.x8 hy
  have h1 := hI.po0 hx
  have h1y := hI.po0 hy
  have h10 := hI.po5 hy
  have hq4 := hI.po7 hy
  have kA := k_hpi (M := M) (f := 806) (a := 200 + x) (v := h_fi M 806 (200 + x) + h_fi M 807 (200 + x)) hF.1.2.2 (by rw [h1]; decide)
  have hI1 := hI.keep kA (by decide) (by decide)
  have hF1 := hF.cg kA (by decide)
  have kB := k_hpi (M := h_pi M 806 (200 + x) (h_fi M 806 (200 + x) + h_fi M 807 (200 + x))) (f := 807) (a := 200 + x) (v := 0) hF1.1.2.2 (by rw [hI1.po0 hx]; decide)
  have hI2 := hI1.keep kB (by decide) (by decide)
  have hF2 := hF1.cg kB (by decide)
  obtain ⟨a, g, a1, a2, a3, a4, a5, a6⟩ := FC_arr hI2 hF2 hx hw
  have s806 : h_fi (h_pi (h_pi M 806 (200 + x) (h_fi M 806 (200 + x) + h_fi M 807 (200 + x))) 807 (200 + x) 0) 806 = u1 (h_fi M 806) (200 + x) (h_fi M 806 (200 + x) + h_fi M 807 (200 + x)) := by rw [fi_ne (by decide), fi_eq]
  have s807 : h_fi (h_pi (h_pi M 806 (200 + x) (h_fi M 806 (200 + x) + h_fi M 807 (200 + x))) 807 (200 + x) 0) 807 = u1 (h_fi M 807) (200 + x) 0 := by rw [fi_eq, fi_ne (by decide)]
  have g808 : h_fr M 808 (200 + x) = some a := a1
  have gt : h_tg M a = 3 := a2.1.1
  generalize hM2 : h_pi (h_pi M 806 (200 + x) (h_fi M 806 (200 + x) + h_fi M 807 (200 + x))) 807 (200 + x) 0 = M2 at *
  have kC := k_hpr (M := M2) (f := 808) (a := 200 + x) (v := none) hF2.1.2.2 (by rw [hI2.po0 hx]; decide)
  have hI3 := hI2.keep kC (by decide) (by decide)
  have hl0 : ∀ z, h_fr M2 301 (300 + y) = some z → h_tg M2 z = 3 := fun z hz => by
    obtain ⟨-, cl, -, c2, c3, c4, -⟩ := hF2
    have := (c3.2.1 (48 + y) (by omega) (by omega) (by rw [md_b hy8]; exact hy)).2.1
    rw [lq_b hy8] at this
    exact (c2 (48 + y) z (List.mem_of_getLast? (this.symm.trans hz))).1.1
  obtain ⟨M', e1, e2⟩ := FC_add (p := 48 + y) hI3 a6 (by omega) (by omega) (by rw [md_b hy8]; exact hy) (by rw [lq_b hy8]; exact hI3.po7 hy) (by unfold fW; rw [if_pos (by omega)]; exact a5)
  rw [lq_b hy8] at e1
  rw [u1_ne (show 48 + y ≠ x by omega)] at e2
  have kD := kf38 e1 a6.1.2.2
  have ev2 := f38_eq (M := M2) (q := 300 + y) (a := a) (hI2.po7 hy) a2.1.1 hl0
  have ev3 := f38_eq (M := h_pr M2 808 (200 + x) none) (q := 300 + y) (a := a) (hI3.po7 hy) a2.1.1 (by rw [fr_ne (by decide)]; exact hl0)
  rw [ev3] at e1
  have eM := (Prod.mk.inj (Option.some.inj e1)).2
  generalize hM3 : (h_pi (h_pr (match h_fr M2 301 (300 + y) with | none => h_pr (h_pr M2 203 a none) 300 (300 + y) (some a) | some z => h_pr (h_pr M2 203 a none) 203 z (some a)) 301 (300 + y) (some a)) 302 (300 + y) (h_fi M2 302 (300 + y) + 1)) = M3 at *
  have eq3 : h_pr M3 808 (200 + x) none = M' := by
    rw [← eM, ← hM3, fr_ne (show 301 ≠ 808 by decide)]
    cases h_fr M2 301 (300 + y) with
    | none =>
      show h_pr (h_pi (h_pr (h_pr (h_pr M2 203 a none) 300 (300 + y) (some a)) 301 (300 + y) (some a)) 302 (300 + y) (h_fi M2 302 (300 + y) + 1)) 808 (200 + x) none = h_pi (h_pr (h_pr (h_pr (h_pr M2 808 (200 + x) none) 203 a none) 300 (300 + y) (some a)) 301 (300 + y) (some a)) 302 (300 + y) (h_fi M2 302 (300 + y) + 1)
      rw [pi_pr, pr_pr (show 301 ≠ 808 by decide), pr_pr (show 300 ≠ 808 by decide), pr_pr (show 203 ≠ 808 by decide)]
    | some z =>
      show h_pr (h_pi (h_pr (h_pr (h_pr M2 203 a none) 203 z (some a)) 301 (300 + y) (some a)) 302 (300 + y) (h_fi M2 302 (300 + y) + 1)) 808 (200 + x) none = h_pi (h_pr (h_pr (h_pr (h_pr M2 808 (200 + x) none) 203 a none) 203 z (some a)) 301 (300 + y) (some a)) 302 (300 + y) (h_fi M2 302 (300 + y) + 1)
      rw [pi_pr, pr_pr (show 301 ≠ 808 by decide), pr_pr (show 203 ≠ 808 by decide), pr_pr (show 203 ≠ 808 by decide)]
  have t9 : h_tg M3 (200 + x) = 9 := by
    have := (kf38 ev2 hF2.1.2.2).t0 (hI2.po0 hx)
    exact this
  refine ⟨M', ?_, e2, ?_, ?_⟩
  · simp [f139, b139_0, h1, h1y, h10, g808, hp, hq4, hM2, ev2, t9, eq3, g_i, g_r, g_l, g_o, p_i, p_r, p_l, p_z, c_V, c_I, c_L, c_R, x_out, z_fl_pi, z_fr_pi, z_ai_pi, z_al_pi, z_ar_pi, z_ln_pi, z_tg_pi, z_sz_pi, z_sl_pi, z_fi_pl, z_fr_pl, z_ai_pl, z_al_pl, z_ar_pl, z_ln_pl, z_tg_pl, z_sz_pl, z_sl_pl, z_fi_pr, z_fl_pr, z_ai_pr, z_al_pr, z_ar_pr, z_ln_pr, z_tg_pr, z_sz_pr, z_sl_pr, z_fi_qi, z_fl_qi, z_fr_qi, z_al_qi, z_ar_qi, z_ln_qi, z_tg_qi, z_sz_qi, z_sl_qi, z_fi_ql, z_fl_ql, z_fr_ql, z_ai_ql, z_ar_ql, z_ln_ql, z_tg_ql, z_sz_ql, z_sl_ql, z_fi_qr, z_fl_qr, z_fr_qr, z_ai_qr, z_al_qr, z_ln_qr, z_tg_qr, z_sz_qr, z_sl_qr, z_fi_ca, z_fl_ca, z_fr_ca, z_al_ca, z_ar_ca, z_ln_ca, z_tg_ca, z_sz_ca, z_sl_ca, y_pi, y_pl, y_pr, y_qi, y_ql, y_qr, y_ca]
  · rw [kD.fi (by decide)]; exact s806
  · rw [kD.fi (by decide)]; exact s807
/-- a line is emptied -/
theorem k19_q (hx : sd sw nd x) : ∀ (r : List (List Int32)) (M : hM) (fl : Nat → List (List Int32)) (fuel : Nat), cI sw nd rm M → FC tr sw nd M ia ct zb sb fl hl → fl (96 + x) = r → r.length ≤ 1000 → r.length < fuel → ∃ M', drive k19 fuel 54 [.inr (.inr (some (200 + x))), .inl (nI r.length)] M = drive k19 (fuel - r.length - 1) 86 [.inr (.inr (some (200 + x))), .inl (h_fi M' 302 (300 + x))] M' ∧ FC tr sw nd M' ia ct zb sb (u1 fl (96 + x) []) hl ∧ kp [203, 300, 301, 302, 907] [] M M'
  | [], M, fl, fuel, hI, hF, hf, _, hfu => by
    obtain ⟨n, rfl⟩ : ∃ n, fuel = n + 1 := ⟨fuel - 1, by simp at hfu; omega⟩
    have h1 := hI.po0 hx
    have h10 := hI.po5 hx
    have hq4 := hI.po7 hx
    have hb : k19 54 [.inr (.inr (some (200 + x))), .inl (nI ([] : List (List Int32)).length)] M = some (.inr (86, [.inr (.inr (some (200 + x))), .inl (h_fi M 302 (300 + x))], M)) := by
      have e0 : nI ([] : List (List Int32)).length = 0 := rfl
      rw [e0]
      simp [k19, b19_54, h1, h10, hq4, g_i, g_r, g_l, g_o, p_i, p_r, p_l, p_z, c_V, c_I, c_L, c_R, x_out, z_fl_pi, z_fr_pi, z_ai_pi, z_al_pi, z_ar_pi, z_ln_pi, z_tg_pi, z_sz_pi, z_sl_pi, z_fi_pl, z_fr_pl, z_ai_pl, z_al_pl, z_ar_pl, z_ln_pl, z_tg_pl, z_sz_pl, z_sl_pl, z_fi_pr, z_fl_pr, z_ai_pr, z_al_pr, z_ar_pr, z_ln_pr, z_tg_pr, z_sz_pr, z_sl_pr, z_fi_qi, z_fl_qi, z_fr_qi, z_al_qi, z_ar_qi, z_ln_qi, z_tg_qi, z_sz_qi, z_sl_qi, z_fi_ql, z_fl_ql, z_fr_ql, z_ai_ql, z_ar_ql, z_ln_ql, z_tg_ql, z_sz_ql, z_sl_ql, z_fi_qr, z_fl_qr, z_fr_qr, z_ai_qr, z_al_qr, z_ln_qr, z_tg_qr, z_sz_qr, z_sl_qr, z_fi_ca, z_fl_ca, z_fr_ca, z_al_ca, z_ar_ca, z_ln_ca, z_tg_ca, z_sz_ca, z_sl_ca, y_pi, y_pl, y_pr, y_qi, y_ql, y_qr, y_ca]
    refine ⟨M, by rw [dr_go hb]; rfl, ?_, kp.rf hF.1.2.2⟩
    have : u1 fl (96 + x) [] = fl := funext fun p => by
      unfold u1
      split
      · rename_i q; rw [q, hf]
      · rfl
    rw [this]
    exact hF
  | L :: r, M, fl, fuel, hI, hF, hf, hr, hfu => by
    obtain ⟨n, rfl⟩ : ∃ n, fuel = n + 1 := ⟨fuel - 1, by simp at hfu; omega⟩
    have hx8 := hI.x8 hx
    have h1 := hI.po0 hx
    have h9 := hI.po4 hx
    have hs := hI.po1 hx
    have hq4 := hI.po6 hx
    obtain ⟨a, g, M1, -, -, -, -, e4, e5, -⟩ := FC_tak (p := 96 + x) hI hF (by omega) (by omega) (by rw [md_q hx8]; exact hx) (by rw [lq_q]; exact hq4) hf
    rw [lq_q] at e4
    have kA := kf18 e4 hF.1.2.2
    have hI1 := hI.keep kA (by decide) (by decide)
    obtain ⟨M2, g1, g2⟩ := FC_rel hI1 e5
    have kB := kf17 g1 e5.1.2.2
    have hI2 := hI1.keep kB (by decide) (by decide)
    have t2 := hI1.sh0
    have hb : k19 54 [.inr (.inr (some (200 + x))), .inl (nI (L :: r).length)] M = some (.inr (54, [.inr (.inr (some (200 + x))), .inl (nI r.length)], M2)) := by
      have e0 : nI (L :: r).length = nI (r.length + 1) := rfl
      have e1 : ¬ nI (r.length + 1) ≤ 0 := nI_nle (by omega) (by rw [List.length_cons] at hr; omega)
      rw [e0]
      simp [k19, b19_54, e1, h1, h9, hs, hq4, e4, t2, g1, pk_m1, g_i, g_r, g_l, g_o, p_i, p_r, p_l, p_z, c_V, c_I, c_L, c_R, x_out, z_fl_pi, z_fr_pi, z_ai_pi, z_al_pi, z_ar_pi, z_ln_pi, z_tg_pi, z_sz_pi, z_sl_pi, z_fi_pl, z_fr_pl, z_ai_pl, z_al_pl, z_ar_pl, z_ln_pl, z_tg_pl, z_sz_pl, z_sl_pl, z_fi_pr, z_fl_pr, z_ai_pr, z_al_pr, z_ar_pr, z_ln_pr, z_tg_pr, z_sz_pr, z_sl_pr, z_fi_qi, z_fl_qi, z_fr_qi, z_al_qi, z_ar_qi, z_ln_qi, z_tg_qi, z_sz_qi, z_sl_qi, z_fi_ql, z_fl_ql, z_fr_ql, z_ai_ql, z_ar_ql, z_ln_ql, z_tg_ql, z_sz_ql, z_sl_ql, z_fi_qr, z_fl_qr, z_fr_qr, z_ai_qr, z_al_qr, z_ln_qr, z_tg_qr, z_sz_qr, z_sl_qr, z_fi_ca, z_fl_ca, z_fr_ca, z_al_ca, z_ar_ca, z_ln_ca, z_tg_ca, z_sz_ca, z_sl_ca, y_pi, y_pl, y_pr, y_qi, y_ql, y_qr, y_ca]
    obtain ⟨M', j1, j2, j3⟩ := k19_q hx r M2 (u1 fl (96 + x) r) n hI2 g2 u1_eq (by rw [List.length_cons] at hr; omega) (by rw [List.length_cons] at hfu; omega)
    refine ⟨M', ?_, ?_, ?_⟩
    · rw [dr_go hb]
      show drive k19 n 54 _ M2 = _
      rw [j1, show n + 1 - (L :: r).length - 1 = n - r.length - 1 by rw [List.length_cons]; omega]
    · have : u1 (u1 fl (96 + x) r) (96 + x) [] = u1 fl (96 + x) [] := funext fun p => by unfold u1; split <;> rfl
      rw [this] at j2
      exact j2
    · exact ((kp.rf hF.1.2.2 : kp [203, 300, 301, 302, 907] [] M M).tr kA rfl rfl |>.tr kB rfl rfl).tt j3 (fun _ q => q) (fun _ q => q)
theorem k19_b (hx : sd sw nd x) : ∀ (r : List (List Int32)) (M : hM) (fl : Nat → List (List Int32)) (fuel : Nat), cI sw nd rm M → FC tr sw nd M ia ct zb sb fl hl → fl (48 + x) = r → r.length ≤ 1000 → r.length < fuel → ∃ M', drive k19 fuel 86 [.inr (.inr (some (200 + x))), .inl (nI r.length)] M = some (none, M') ∧ FC tr sw nd M' ia ct zb sb (u1 fl (48 + x) []) hl ∧ kp [203, 300, 301, 302, 907] [] M M'
  | [], M, fl, fuel, hI, hF, hf, _, hfu => by
    obtain ⟨n, rfl⟩ : ∃ n, fuel = n + 1 := ⟨fuel - 1, by simp at hfu; omega⟩
    have hb : k19 86 [.inr (.inr (some (200 + x))), .inl (nI ([] : List (List Int32)).length)] M = some (.inl (none, M)) := by
      have e0 : nI ([] : List (List Int32)).length = 0 := rfl
      rw [e0]
      simp [k19, b19_86]
    refine ⟨M, dr_end hb, ?_, kp.rf hF.1.2.2⟩
    have : u1 fl (48 + x) [] = fl := funext fun p => by
      unfold u1
      split
      · rename_i q; rw [q, hf]
      · rfl
    rw [this]
    exact hF
  | L :: r, M, fl, fuel, hI, hF, hf, hr, hfu => by
    obtain ⟨n, rfl⟩ : ∃ n, fuel = n + 1 := ⟨fuel - 1, by simp at hfu; omega⟩
    have hx8 := hI.x8 hx
    have h1 := hI.po0 hx
    have h9 := hI.po5 hx
    have hs := hI.po1 hx
    have hq4 := hI.po7 hx
    obtain ⟨a, g, M1, -, -, -, -, e4, e5, -⟩ := FC_tak (p := 48 + x) hI hF (by omega) (by omega) (by rw [md_b hx8]; exact hx) (by rw [lq_b hx8]; exact hq4) hf
    rw [lq_b hx8] at e4
    have kA := kf18 e4 hF.1.2.2
    have hI1 := hI.keep kA (by decide) (by decide)
    obtain ⟨M2, g1, g2⟩ := FC_rel hI1 e5
    have kB := kf17 g1 e5.1.2.2
    have hI2 := hI1.keep kB (by decide) (by decide)
    have t2 := hI1.sh0
    have hb : k19 86 [.inr (.inr (some (200 + x))), .inl (nI (L :: r).length)] M = some (.inr (86, [.inr (.inr (some (200 + x))), .inl (nI r.length)], M2)) := by
      have e0 : nI (L :: r).length = nI (r.length + 1) := rfl
      have e1 : ¬ nI (r.length + 1) ≤ 0 := nI_nle (by omega) (by rw [List.length_cons] at hr; omega)
      rw [e0]
      simp [k19, b19_86, e1, h1, h9, hs, hq4, e4, t2, g1, pk_m1, g_i, g_r, g_l, g_o, p_i, p_r, p_l, p_z, c_V, c_I, c_L, c_R, x_out, z_fl_pi, z_fr_pi, z_ai_pi, z_al_pi, z_ar_pi, z_ln_pi, z_tg_pi, z_sz_pi, z_sl_pi, z_fi_pl, z_fr_pl, z_ai_pl, z_al_pl, z_ar_pl, z_ln_pl, z_tg_pl, z_sz_pl, z_sl_pl, z_fi_pr, z_fl_pr, z_ai_pr, z_al_pr, z_ar_pr, z_ln_pr, z_tg_pr, z_sz_pr, z_sl_pr, z_fi_qi, z_fl_qi, z_fr_qi, z_al_qi, z_ar_qi, z_ln_qi, z_tg_qi, z_sz_qi, z_sl_qi, z_fi_ql, z_fl_ql, z_fr_ql, z_ai_ql, z_ar_ql, z_ln_ql, z_tg_ql, z_sz_ql, z_sl_ql, z_fi_qr, z_fl_qr, z_fr_qr, z_ai_qr, z_al_qr, z_ln_qr, z_tg_qr, z_sz_qr, z_sl_qr, z_fi_ca, z_fl_ca, z_fr_ca, z_al_ca, z_ar_ca, z_ln_ca, z_tg_ca, z_sz_ca, z_sl_ca, y_pi, y_pl, y_pr, y_qi, y_ql, y_qr, y_ca]
    obtain ⟨M', j1, j2, j3⟩ := k19_b hx r M2 (u1 fl (48 + x) r) n hI2 g2 u1_eq (by rw [List.length_cons] at hr; omega) (by rw [List.length_cons] at hfu; omega)
    refine ⟨M', ?_, ?_, ?_⟩
    · rw [dr_go hb]
      exact j1
    · have : u1 (u1 fl (48 + x) r) (48 + x) [] = u1 fl (48 + x) [] := funext fun p => by unfold u1; split <;> rfl
      rw [this] at j2
      exact j2
    · exact ((kp.rf hF.1.2.2 : kp [203, 300, 301, 302, 907] [] M M).tr kA rfl rfl |>.tr kB rfl rfl).tt j3 (fun _ q => q) (fun _ q => q)
/-- the fields that goDown sets -/
def gdM (M : hM) (x : Nat) : hM := h_pi (h_pi (h_pi (h_pi (h_pi (h_pi M 805 (200 + x) 0) 806 (200 + x) 0) 807 (200 + x) 0) 811 (200 + x) (-1)) 812 (200 + x) 0) 813 (200 + x) 0
theorem gd_kp (hb : bk M) (ht : h_tg M (200 + x) = 9) : kp [805, 806, 807, 811, 812, 813] [] M (gdM M x) := by
  have h0 : h_tg M (200 + x) ≠ 0 := by rw [ht]; decide
  have k1 := k_hpi (f := 805) (v := 0) hb h0
  have k2 := k_hpi (f := 806) (v := 0) k1.1 (show h_tg (h_pi M 805 (200 + x) 0) (200 + x) ≠ 0 from h0)
  have k3 := k_hpi (f := 807) (v := 0) k2.1 (show h_tg (h_pi (h_pi M 805 (200 + x) 0) 806 (200 + x) 0) (200 + x) ≠ 0 from h0)
  have k4 := k_hpi (f := 811) (v := -1) k3.1 (show h_tg (h_pi (h_pi (h_pi M 805 (200 + x) 0) 806 (200 + x) 0) 807 (200 + x) 0) (200 + x) ≠ 0 from h0)
  have k5 := k_hpi (f := 812) (v := 0) k4.1 (show h_tg (h_pi (h_pi (h_pi (h_pi M 805 (200 + x) 0) 806 (200 + x) 0) 807 (200 + x) 0) 811 (200 + x) (-1)) (200 + x) ≠ 0 from h0)
  have k6 := k_hpi (f := 813) (v := 0) k5.1 (show h_tg (h_pi (h_pi (h_pi (h_pi (h_pi M 805 (200 + x) 0) 806 (200 + x) 0) 807 (200 + x) 0) 811 (200 + x) (-1)) 812 (200 + x) 0) (200 + x) ≠ 0 from h0)
  exact (((((((kp.rf hb : kp [805, 806, 807, 811, 812, 813] [] M M).tr k1 rfl rfl).tr k2 rfl rfl).tr k3 rfl rfl).tr k4 rfl rfl).tr k5 rfl rfl).tr k6 rfl rfl)
/-- goDown -/
theorem FC_down (hI : cI sw nd rm M) (hF : FC tr sw nd M ia ct zb sb fl hl) (hx : sd sw nd x) (hB : FLb fl) : ∃ M', f19 [.inr (.inr (some (200 + x)))] M = some (none, M') ∧ FC tr sw nd M' ia ct zb sb (u1 (u1 (u1 fl x []) (96 + x) []) (48 + x) []) hl ∧ kp [203, 300, 301, 302, 808, 907] [] (gdM M x) M' := by
  have hx8 := hI.x8 hx
  have h1 := hI.po0 hx
  have hs := hI.po1 hx
  have h2 := hI.sh0
  have h9 := hI.po4 hx
  have hq4 := hI.po6 hx
  have kG := gd_kp (x := x) hF.1.2.2 h1
  have hI1 := hI.keep kG (by decide) (by decide)
  have hF1 := hF.cg kG (by decide)
  -- the frame on the way
  have step : ∃ M2, f17 [.inr (.inr (some 2)), .inr (.inr (h_fr M 808 (200 + x)))] (gdM M x) = some (none, M2) ∧ FC tr sw nd (h_pr M2 808 (200 + x) none) ia ct zb sb (u1 fl x []) hl ∧ kp [203, 300, 301, 302, 808, 907] [] (gdM M x) (h_pr M2 808 (200 + x) none) ∧ h_tg M2 = h_tg M ∧ h_fr M2 809 = h_fr M 809 ∧ h_fi M2 302 = h_fi M 302 := by
    have hx1 := (hB x hx8).1
    cases hw : fl x with
    | nil =>
      have hn := (hF.way0 hx hx8).mpr hw
      rw [hn]
      have kA := k_hpr (M := gdM M x) (f := 808) (a := 200 + x) (v := none) hF1.1.2.2 (by rw [hI1.po0 hx]; decide)
      refine ⟨gdM M x, f17_no, ?_, ((kp.rf hF1.1.2.2 : kp [203, 300, 301, 302, 808, 907] [] (gdM M x) (gdM M x)).tr kA rfl rfl), rfl, rfl, ?_⟩
      · have e1 : h_pr (gdM M x) 808 (200 + x) none = gdM M x := by
          have : u2 (h_fr (gdM M x)) 808 (200 + x) none = h_fr (gdM M x) := by
            funext k b
            unfold u2
            by_cases c : k = 808 ∧ b = 200 + x
            · rw [if_pos c, c.1, c.2]; exact hn.symm
            · rw [if_neg c]
          show (h_fi (gdM M x), h_fl (gdM M x), u2 (h_fr (gdM M x)) 808 (200 + x) none, h_ai (gdM M x), h_al (gdM M x), h_ar (gdM M x), h_ln (gdM M x), h_tg (gdM M x), h_sz (gdM M x), h_sl (gdM M x)) = _
          rw [this]
          rfl
        have e2 : u1 fl x [] = fl := funext fun p => by
          unfold u1
          split
          · rename_i q; rw [q, hw]
          · rfl
        rw [e1, e2]
        exact hF1
      · exact kG.fi (by decide)
    | cons L r =>
      have hr : r = [] := by
        rw [hw, List.length_cons] at hx1
        exact List.length_eq_zero_iff.mp (by omega)
      subst hr
      obtain ⟨a, g, a1, a2, a3, a4, a5, a6⟩ := FC_arr hI1 hF1 hx hw
      have a1' : h_fr M 808 (200 + x) = some a := a1
      rw [a1']
      have kA := k_hpr (M := gdM M x) (f := 808) (a := 200 + x) (v := none) hF1.1.2.2 (by rw [hI1.po0 hx]; decide)
      have hI2 := hI1.keep kA (by decide) (by decide)
      obtain ⟨M3, e1, e2⟩ := FC_rel hI2 a6
      have kR := kf17 e1 a6.1.2.2
      have ev := f17_eq (M := gdM M x) (a := a) hI1.sh0 a2.1.1
      have ev2 := f17_eq (M := h_pr (gdM M x) 808 (200 + x) none) (a := a) hI2.sh0 a2.1.1
      rw [ev2] at e1
      have eM := (Prod.mk.inj (Option.some.inj e1)).2
      have e3 : h_pr (h_pr (h_pr (gdM M x) 203 a (h_fr (gdM M x) 907 2)) 907 2 (some a)) 808 (200 + x) none = M3 := by
        rw [← eM, fr_ne (show 907 ≠ 808 by decide), pr_pr (show 907 ≠ 808 by decide), pr_pr (show 203 ≠ 808 by decide)]
      refine ⟨_, ev, by rw [e3]; exact e2, ?_, rfl, ?_, ?_⟩
      · rw [e3]
        exact ((kp.rf hF1.1.2.2 : kp [203, 300, 301, 302, 808, 907] [] (gdM M x) (gdM M x)).tr kA rfl rfl).tr kR rfl rfl
      · rw [fr_ne (by decide), fr_ne (by decide)]; rfl
      · show h_fi (gdM M x) 302 = h_fi M 302
        exact kG.fi (by decide)
  obtain ⟨M2, s1, s2, s3, s4, s5, s6⟩ := step
  have hI3 := hI1.keep s3 (by decide) (by decide)
  have hlen := FC_sz (p := 96 + x) hF (by omega) (by omega) (by rw [md_q hx8]; exact hx)
  rw [lq_q] at hlen
  obtain ⟨M4, j1, j2, j3⟩ := k19_q hx (fl (96 + x)) _ (u1 fl x []) xF hI3 s2 (u1_ne (by omega)) (by have := (hB x hx8).2.2; omega) (by have := (hB x hx8).2.2; unfold xF; omega)
  have hI4 := hI3.keep j3 (by decide) (by decide)
  have hsz4 := FC_sz (p := 48 + x) j2 (by omega) (by omega) (by rw [md_b hx8]; exact hx)
  rw [lq_b hx8, u1_ne (by omega), u1_ne (by omega)] at hsz4
  rw [hsz4] at j1
  obtain ⟨M5, i1, i2, i3⟩ := k19_b hx (fl (48 + x)) M4 _ (xF - (fl (96 + x)).length - 1) hI4 j2 (by rw [u1_ne (by omega), u1_ne (by omega)]) (by have := (hB x hx8).2.1; omega) (by have := (hB x hx8).2.1; have := (hB x hx8).2.2; unfold xF; omega)
  refine ⟨M5, ?_, i2, ?_⟩
  · have eb : b19_0 (200 + x) M = some (.inr (54, [.inr (.inr (some (200 + x))), .inl (nI (fl (96 + x)).length)], h_pr M2 808 (200 + x) none)) := by
      have s1' : f17 [.inr (.inr (some 2)), .inr (.inr (h_fr M 808 (200 + x)))] (h_pi (h_pi (h_pi (h_pi (h_pi (h_pi M 805 (200 + x) 0) 806 (200 + x) 0) 807 (200 + x) 0) 811 (200 + x) (-1)) 812 (200 + x) 0) 813 (200 + x) 0) = some (none, M2) := s1
      simp [b19_0, h1, hs, h2, h9, hq4, s1', s4, s5, s6, hlen, g_i, g_r, g_l, g_o, p_i, p_r, p_l, p_z, c_V, c_I, c_L, c_R, x_out, z_fl_pi, z_fr_pi, z_ai_pi, z_al_pi, z_ar_pi, z_ln_pi, z_tg_pi, z_sz_pi, z_sl_pi, z_fi_pl, z_fr_pl, z_ai_pl, z_al_pl, z_ar_pl, z_ln_pl, z_tg_pl, z_sz_pl, z_sl_pl, z_fi_pr, z_fl_pr, z_ai_pr, z_al_pr, z_ar_pr, z_ln_pr, z_tg_pr, z_sz_pr, z_sl_pr, z_fi_qi, z_fl_qi, z_fr_qi, z_al_qi, z_ar_qi, z_ln_qi, z_tg_qi, z_sz_qi, z_sl_qi, z_fi_ql, z_fl_ql, z_fr_ql, z_ai_ql, z_ar_ql, z_ln_ql, z_tg_ql, z_sz_ql, z_sl_ql, z_fi_qr, z_fl_qr, z_fr_qr, z_ai_qr, z_al_qr, z_ln_qr, z_tg_qr, z_sz_qr, z_sl_qr, z_fi_ca, z_fl_ca, z_fr_ca, z_al_ca, z_ar_ca, z_ln_ca, z_tg_ca, z_sz_ca, z_sl_ca, y_pi, y_pl, y_pr, y_qi, y_ql, y_qr, y_ca]
    show x_go k19 (b19_0 (200 + x) M) = _
    rw [eb]
    show drive k19 xF 54 _ _ = _
    rw [j1, i1]
  · exact (s3.tr j3 rfl rfl).tr i3 rfl rfl
end MO
