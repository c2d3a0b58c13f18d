/-! ===== the class: sums, ways ===== -/
section SU
variable {sw nd rm s : Nat} {M : hM} {K : rK}
def pS (s sw : Nat) : Nat → Prop := fun x => ∃ r, r < sw ∧ x = 110 + (5 * s + r)
/-- the sums lie in their rows -/
def suD (M : hM) (sw s : Nat) (D : Nat → Nat → Nat) : Prop := ∀ a b, a < sw → b < sw → h_ai M (110 + (5 * s + a)) b = nI (D a b)
def coD (M : hM) (sw s : Nat) (K : rK) : Prop := ∀ r b, r < sw → b < sw → h_ai M (80 + (5 * s + r)) b = nI (tlK K r b)
theorem coD.ao {P : Nat → Prop} {N : hM} (h : coD M sw s K) (g : aiO P M N) (hP : ∀ a, P a → ¬ (80 ≤ a ∧ a < 105)) (hs : s < sw) (h5 : sw ≤ 5) : coD N sw s K := fun r b hr hb => by
  rw [g.2.2 _ (fun q => hP _ q (by omega))]
  exact h r b hr hb
/-- the start of the sums: entries behind (a, b) are not yet set -/
theorem k102_13 (hs : s < sw) {a : Nat} (ha : a < sw) : ∀ d b M fuel, cI sw nd rm M → coD M sw s K → b + d = sw → d < fuel → ∃ M', drive k102 fuel 13 [.inr (.inr (some (10 + s))), .inl (nI a), .inl (nI b)] M = drive k102 (fuel - (d + 1)) 2 [.inr (.inr (some (10 + s))), .inl (nI (a + 1))] M' ∧ aiO (fun x => x = 110 + (5 * s + a)) M M' ∧ (∀ j, b ≤ j → j < sw → h_ai M' (110 + (5 * s + a)) j = nI (wK K a j)) ∧ ∀ j, j < b → h_ai M' (110 + (5 * s + a)) j = h_ai M (110 + (5 * s + a)) j
  | 0, b, M, fuel, hI, hC, hb, hf => by
    obtain ⟨g, rfl⟩ : ∃ g, fuel = g + 1 := ⟨fuel - 1, by omega⟩
    have h1 := hI.si0 hs
    have h7 := hI.si6 hs
    have hl := ln_s hI hs
    have hsw := hI.bs.1.2
    have c : nI sw ≤ nI b := nI_le (by omega) (by omega)
    have hb' : k102 13 [.inr (.inr (some (10 + s))), .inl (nI a), .inl (nI b)] M = some (.inr (2, [.inr (.inr (some (10 + s))), .inl (nI (a + 1))], M)) := by
      simp [k102, b102_13, h1, h7, hl, c, nI_1, g_i, g_r, g_l, g_o, p_i, p_r, p_l, p_z, c_V, c_I, c_L, c_R, x_out, z_fl_pi, z_fr_pi, z_ai_pi, z_al_pi, z_ar_pi, z_ln_pi, z_tg_pi, z_sz_pi, z_sl_pi, z_fi_pl, z_fr_pl, z_ai_pl, z_al_pl, z_ar_pl, z_ln_pl, z_tg_pl, z_sz_pl, z_sl_pl, z_fi_pr, z_fl_pr, z_ai_pr, z_al_pr, z_ar_pr, z_ln_pr, z_tg_pr, z_sz_pr, z_sl_pr, z_fi_qi, z_fl_qi, z_fr_qi, z_al_qi, z_ar_qi, z_ln_qi, z_tg_qi, z_sz_qi, z_sl_qi, z_fi_ql, z_fl_ql, z_fr_ql, z_ai_ql, z_ar_ql, z_ln_ql, z_tg_ql, z_sz_ql, z_sl_ql, z_fi_qr, z_fl_qr, z_fr_qr, z_ai_qr, z_al_qr, z_ln_qr, z_tg_qr, z_sz_qr, z_sl_qr, z_fi_ca, z_fl_ca, z_fr_ca, z_al_ca, z_ar_ca, z_ln_ca, z_tg_ca, z_sz_ca, z_sl_ca, y_pi, y_pl, y_pr, y_qi, y_ql, y_qr, y_ca]
    exact ⟨M, by rw [dr_go hb']; rfl, aiO.rf, fun j h1 h2 => by omega, fun _ _ => rfl⟩
  | d + 1, b, M, fuel, hI, hC, hb, hf => by
    obtain ⟨g, rfl⟩ : ∃ g, fuel = g + 1 := ⟨fuel - 1, by omega⟩
    have h1 := hI.si0 hs
    have h6 := hI.si5 hs
    have h7 := hI.si6 hs
    have hl := ln_s hI hs
    have hsw := hI.bs.1.2
    have hbs : b < sw := by omega
    have c : ¬ nI sw ≤ nI b := nI_ge (by omega) (by omega)
    have hr := row_s hI hs ha
    have hrc := row_c hI hs ha
    have hw : ∀ v, as_i M 20 (some (110 + (5 * s + a))) (nI b) v = some (h_qi M (110 + (5 * s + a)) b v) := fun v => as_i_t (hI.ss4 hs ha) (by rw [hI.ss5 hs ha]; omega) (by omega)
    have hb' : k102 13 [.inr (.inr (some (10 + s))), .inl (nI a), .inl (nI b)] M = some (.inr (13, [.inr (.inr (some (10 + s))), .inl (nI a), .inl (nI (b + 1))], h_qi M (110 + (5 * s + a)) b (nI (wK K a b)))) := by
      unfold wK
      by_cases z : a = b
      · subst z
        rw [if_pos rfl]
        have e0 : nI 0 = 0 := rfl
        simp [k102, b102_13, b102_61, h1, h7, hl, c, hr, hw, nI_1, e0, g_i, g_r, g_l, g_o, p_i, p_r, p_l, p_z, c_V, c_I, c_L, c_R, x_out, z_fl_pi, z_fr_pi, z_ai_pi, z_al_pi, z_ar_pi, z_ln_pi, z_tg_pi, z_sz_pi, z_sl_pi, z_fi_pl, z_fr_pl, z_ai_pl, z_al_pl, z_ar_pl, z_ln_pl, z_tg_pl, z_sz_pl, z_sl_pl, z_fi_pr, z_fl_pr, z_ai_pr, z_al_pr, z_ar_pr, z_ln_pr, z_tg_pr, z_sz_pr, z_sl_pr, z_fi_qi, z_fl_qi, z_fr_qi, z_al_qi, z_ar_qi, z_ln_qi, z_tg_qi, z_sz_qi, z_sl_qi, z_fi_ql, z_fl_ql, z_fr_ql, z_ai_ql, z_ar_ql, z_ln_ql, z_tg_ql, z_sz_ql, z_sl_ql, z_fi_qr, z_fl_qr, z_fr_qr, z_ai_qr, z_al_qr, z_ln_qr, z_tg_qr, z_sz_qr, z_sl_qr, z_fi_ca, z_fl_ca, z_fr_ca, z_al_ca, z_ar_ca, z_ln_ca, z_tg_ca, z_sz_ca, z_sl_ca, y_pi, y_pl, y_pr, y_qi, y_ql, y_qr, y_ca]
      · have z' : ¬ nI a = nI b := fun q => z ((nI_eq (by omega) (by omega)).mp q)
        rw [if_neg z]
        have ej := f101_eq hI hs ha hbs hC
        by_cases y : tlK K a b < 1000000 ∧ tlK K b a < 1000000
        · rw [if_pos y]
          rw [decide_eq_true y, b2_t] at ej
          have hv : al_i M 20 (some (80 + (5 * s + a))) (nI b) = some (nI (tlK K a b)) := by
            rw [al_i_t (hI.ss2 hs ha) (by rw [hI.ss3 hs ha]; exact hbs) (by omega), hC a b ha hbs]
          simp [k102, b102_13, b102_61, h1, h7, hl, c, hr, z', ej, h6, hrc, hv, hw, nI_1, g_i, g_r, g_l, g_o, p_i, p_r, p_l, p_z, c_V, c_I, c_L, c_R, x_out, z_fl_pi, z_fr_pi, z_ai_pi, z_al_pi, z_ar_pi, z_ln_pi, z_tg_pi, z_sz_pi, z_sl_pi, z_fi_pl, z_fr_pl, z_ai_pl, z_al_pl, z_ar_pl, z_ln_pl, z_tg_pl, z_sz_pl, z_sl_pl, z_fi_pr, z_fl_pr, z_ai_pr, z_al_pr, z_ar_pr, z_ln_pr, z_tg_pr, z_sz_pr, z_sl_pr, z_fi_qi, z_fl_qi, z_fr_qi, z_al_qi, z_ar_qi, z_ln_qi, z_tg_qi, z_sz_qi, z_sl_qi, z_fi_ql, z_fl_ql, z_fr_ql, z_ai_ql, z_ar_ql, z_ln_ql, z_tg_ql, z_sz_ql, z_sl_ql, z_fi_qr, z_fl_qr, z_fr_qr, z_ai_qr, z_al_qr, z_ln_qr, z_tg_qr, z_sz_qr, z_sl_qr, z_fi_ca, z_fl_ca, z_fr_ca, z_al_ca, z_ar_ca, z_ln_ca, z_tg_ca, z_sz_ca, z_sl_ca, y_pi, y_pl, y_pr, y_qi, y_ql, y_qr, y_ca]
        · rw [if_neg y]
          rw [decide_eq_false y, b2_f] at ej
          have e0 : nI 1000000 = 1000000 := rfl
          simp [k102, b102_13, b102_61, h1, h7, hl, c, hr, z', ej, hw, nI_1, e0, g_i, g_r, g_l, g_o, p_i, p_r, p_l, p_z, c_V, c_I, c_L, c_R, x_out, z_fl_pi, z_fr_pi, z_ai_pi, z_al_pi, z_ar_pi, z_ln_pi, z_tg_pi, z_sz_pi, z_sl_pi, z_fi_pl, z_fr_pl, z_ai_pl, z_al_pl, z_ar_pl, z_ln_pl, z_tg_pl, z_sz_pl, z_sl_pl, z_fi_pr, z_fl_pr, z_ai_pr, z_al_pr, z_ar_pr, z_ln_pr, z_tg_pr, z_sz_pr, z_sl_pr, z_fi_qi, z_fl_qi, z_fr_qi, z_al_qi, z_ar_qi, z_ln_qi, z_tg_qi, z_sz_qi, z_sl_qi, z_fi_ql, z_fl_ql, z_fr_ql, z_ai_ql, z_ar_ql, z_ln_ql, z_tg_ql, z_sz_ql, z_sl_ql, z_fi_qr, z_fl_qr, z_fr_qr, z_ai_qr, z_al_qr, z_ln_qr, z_tg_qr, z_sz_qr, z_sl_qr, z_fi_ca, z_fl_ca, z_fr_ca, z_al_ca, z_ar_ca, z_ln_ca, z_tg_ca, z_sz_ca, z_sl_ca, y_pi, y_pl, y_pr, y_qi, y_ql, y_qr, y_ca]
    have ao : aiO (fun x => x = 110 + (5 * s + a)) M (h_qi M (110 + (5 * s + a)) b (nI (wK K a b))) := aiO_q rfl
    obtain ⟨M', j1, j2, j3, j4⟩ := k102_13 hs ha d (b + 1) _ g (ao.I hI) (hC.ao ao (fun x q => by omega) hs hsw) (by omega) (by omega)
    refine ⟨M', ?_, ao.tr j2 (fun _ q => q), fun j q1 q2 => ?_, fun j q => ?_⟩
    · rw [dr_go hb']
      show drive k102 g 13 _ _ = _
      rw [j1, show g + 1 - (d + 1 + 1) = g - (d + 1) by omega]
    · by_cases z : j = b
      · subst z
        rw [j4 j (by omega), qi_eq]
      · exact j3 j (by omega) q2
    · rw [j4 j (by omega), qi_ne (by omega)]
theorem k102_2 (hs : s < sw) : ∀ d a M fuel, cI sw nd rm M → coD M sw s K → a + d = sw → 10 * d + 1 < fuel → (∀ r b, r < a → b < sw → h_ai M (110 + (5 * s + r)) b = nI (wK K r b)) → ∃ M' fu, fuel ≤ fu + 10 * d + 1 ∧ drive k102 fuel 2 [.inr (.inr (some (10 + s))), .inl (nI a)] M = drive k102 fu 76 [.inr (.inr (some (10 + s))), .inl (nI 0)] M' ∧ aiO (pS s sw) M M' ∧ suD M' sw s (wK K)
  | 0, a, M, fuel, hI, hC, ha, hf, hR => by
    obtain ⟨g, rfl⟩ : ∃ g, fuel = g + 1 := ⟨fuel - 1, by omega⟩
    have h1 := hI.si0 hs
    have h7 := hI.si6 hs
    have hl := ln_s hI hs
    have hsw := hI.bs.1.2
    have c : nI sw ≤ nI a := nI_le (by omega) (by omega)
    have e0 : nI 0 = 0 := rfl
    have hb' : k102 2 [.inr (.inr (some (10 + s))), .inl (nI a)] M = some (.inr (76, [.inr (.inr (some (10 + s))), .inl (nI 0)], M)) := by
      simp [k102, b102_2, h1, h7, hl, c, e0, g_i, g_r, g_l, g_o, p_i, p_r, p_l, p_z, c_V, c_I, c_L, c_R, x_out, z_fl_pi, z_fr_pi, z_ai_pi, z_al_pi, z_ar_pi, z_ln_pi, z_tg_pi, z_sz_pi, z_sl_pi, z_fi_pl, z_fr_pl, z_ai_pl, z_al_pl, z_ar_pl, z_ln_pl, z_tg_pl, z_sz_pl, z_sl_pl, z_fi_pr, z_fl_pr, z_ai_pr, z_al_pr, z_ar_pr, z_ln_pr, z_tg_pr, z_sz_pr, z_sl_pr, z_fi_qi, z_fl_qi, z_fr_qi, z_al_qi, z_ar_qi, z_ln_qi, z_tg_qi, z_sz_qi, z_sl_qi, z_fi_ql, z_fl_ql, z_fr_ql, z_ai_ql, z_ar_ql, z_ln_ql, z_tg_ql, z_sz_ql, z_sl_ql, z_fi_qr, z_fl_qr, z_fr_qr, z_ai_qr, z_al_qr, z_ln_qr, z_tg_qr, z_sz_qr, z_sl_qr, z_fi_ca, z_fl_ca, z_fr_ca, z_al_ca, z_ar_ca, z_ln_ca, z_tg_ca, z_sz_ca, z_sl_ca, y_pi, y_pl, y_pr, y_qi, y_ql, y_qr, y_ca]
    exact ⟨M, g, by omega, by rw [dr_go hb'], aiO.rf, fun r b hr hb => hR r b (by omega) hb⟩
  | d + 1, a, M, fuel, hI, hC, ha, hf, hR => by
    obtain ⟨g, rfl⟩ : ∃ g, fuel = g + 1 := ⟨fuel - 1, by omega⟩
    have h1 := hI.si0 hs
    have h7 := hI.si6 hs
    have hl := ln_s hI hs
    have hsw := hI.bs.1.2
    have c : ¬ nI sw ≤ nI a := nI_ge (by omega) (by omega)
    have e0 : nI 0 = 0 := rfl
    have hb' : k102 2 [.inr (.inr (some (10 + s))), .inl (nI a)] M = some (.inr (13, [.inr (.inr (some (10 + s))), .inl (nI a), .inl (nI 0)], M)) := by
      simp [k102, b102_2, h1, h7, hl, c, e0, g_i, g_r, g_l, g_o, p_i, p_r, p_l, p_z, c_V, c_I, c_L, c_R, x_out, z_fl_pi, z_fr_pi, z_ai_pi, z_al_pi, z_ar_pi, z_ln_pi, z_tg_pi, z_sz_pi, z_sl_pi, z_fi_pl, z_fr_pl, z_ai_pl, z_al_pl, z_ar_pl, z_ln_pl, z_tg_pl, z_sz_pl, z_sl_pl, z_fi_pr, z_fl_pr, z_ai_pr, z_al_pr, z_ar_pr, z_ln_pr, z_tg_pr, z_sz_pr, z_sl_pr, z_fi_qi, z_fl_qi, z_fr_qi, z_al_qi, z_ar_qi, z_ln_qi, z_tg_qi, z_sz_qi, z_sl_qi, z_fi_ql, z_fl_ql, z_fr_ql, z_ai_ql, z_ar_ql, z_ln_ql, z_tg_ql, z_sz_ql, z_sl_ql, z_fi_qr, z_fl_qr, z_fr_qr, z_ai_qr, z_al_qr, z_ln_qr, z_tg_qr, z_sz_qr, z_sl_qr, z_fi_ca, z_fl_ca, z_fr_ca, z_al_ca, z_ar_ca, z_ln_ca, z_tg_ca, z_sz_ca, z_sl_ca, y_pi, y_pl, y_pr, y_qi, y_ql, y_qr, y_ca]
    obtain ⟨M1, i1, i2, i3, i4⟩ := k102_13 (K := K) hs (a := a) (by omega) sw 0 M g hI hC (by omega) (by omega)
    obtain ⟨M3, fu, k0, k1, k2, k3⟩ := k102_2 hs d (a + 1) M1 (g - (sw + 1)) (i2.I hI) (hC.ao i2 (fun x q => by omega) hs hsw) (by omega) (by omega) (fun r b hr hb => by
      by_cases z : r = a
      · subst z; exact i3 b (by omega) hb
      · rw [i2.2.2 _ (by omega)]
        exact hR r b (by omega) hb)
    refine ⟨M3, fu, by omega, ?_, (aiO.rf.tr i2 (fun x q => ⟨a, by omega, q⟩) : aiO (pS s sw) M M1).tr k2 (fun _ q => q), k3⟩
    rw [dr_go hb']
    show drive k102 g 13 _ M = _
    rw [i1, k1]
theorem fs1_le {D : Nat → Nat → Nat} {m a b F : Nat} (h : ∀ x y, D x y ≤ F) : ∀ x y, fs1 m a b D x y ≤ F := fun x y => by
  unfold fs1 u2
  split
  · exact Nat.le_trans (Nat.min_le_left _ _) (h a b)
  · exact h x y
theorem fsb_le {m a F : Nat} : ∀ d b (D : Nat → Nat → Nat), (∀ x y, D x y ≤ F) → ∀ x y, fsb m a b d D x y ≤ F
  | 0, _, _, h => h
  | d + 1, b, _, h => fsb_le d (b + 1) _ (fs1_le h)
theorem fsa_le {n m F : Nat} : ∀ d a (D : Nat → Nat → Nat), (∀ x y, D x y ≤ F) → ∀ x y, fsa n m a d D x y ≤ F
  | 0, _, _, h => h
  | d + 1, a, _, h => fsa_le d (a + 1) _ (fsb_le n 0 _ h)
theorem k102_98 (hs : s < sw) {m a : Nat} (hm : m < sw) (ha : a < sw) : ∀ d b M fuel D, cI sw nd rm M → suD M sw s D → (∀ x y, D x y ≤ 1000000) → b + d = sw → d < fuel → ∃ M', drive k102 fuel 98 [.inr (.inr (some (10 + s))), .inl (nI m), .inl (nI a), .inl (nI b)] M = drive k102 (fuel - (d + 1)) 87 [.inr (.inr (some (10 + s))), .inl (nI m), .inl (nI (a + 1))] M' ∧ aiO (pS s sw) M M' ∧ suD M' sw s (fsb m a b d D)
  | 0, b, M, fuel, D, hI, hD, hF, hb, hf => by
    obtain ⟨g, rfl⟩ : ∃ g, fuel = g + 1 := ⟨fuel - 1, by omega⟩
    have h1 := hI.si0 hs
    have h7 := hI.si6 hs
    have hl := ln_s hI hs
    have hsw := hI.bs.1.2
    have c : nI sw ≤ nI b := nI_le (by omega) (by omega)
    have hb' : k102 98 [.inr (.inr (some (10 + s))), .inl (nI m), .inl (nI a), .inl (nI b)] M = some (.inr (87, [.inr (.inr (some (10 + s))), .inl (nI m), .inl (nI (a + 1))], M)) := by
      simp [k102, b102_98, h1, h7, hl, c, nI_1, g_i, g_r, g_l, g_o, p_i, p_r, p_l, p_z, c_V, c_I, c_L, c_R, x_out, z_fl_pi, z_fr_pi, z_ai_pi, z_al_pi, z_ar_pi, z_ln_pi, z_tg_pi, z_sz_pi, z_sl_pi, z_fi_pl, z_fr_pl, z_ai_pl, z_al_pl, z_ar_pl, z_ln_pl, z_tg_pl, z_sz_pl, z_sl_pl, z_fi_pr, z_fl_pr, z_ai_pr, z_al_pr, z_ar_pr, z_ln_pr, z_tg_pr, z_sz_pr, z_sl_pr, z_fi_qi, z_fl_qi, z_fr_qi, z_al_qi, z_ar_qi, z_ln_qi, z_tg_qi, z_sz_qi, z_sl_qi, z_fi_ql, z_fl_ql, z_fr_ql, z_ai_ql, z_ar_ql, z_ln_ql, z_tg_ql, z_sz_ql, z_sl_ql, z_fi_qr, z_fl_qr, z_fr_qr, z_ai_qr, z_al_qr, z_ln_qr, z_tg_qr, z_sz_qr, z_sl_qr, z_fi_ca, z_fl_ca, z_fr_ca, z_al_ca, z_ar_ca, z_ln_ca, z_tg_ca, z_sz_ca, z_sl_ca, y_pi, y_pl, y_pr, y_qi, y_ql, y_qr, y_ca]
    exact ⟨M, by rw [dr_go hb']; rfl, aiO.rf, hD⟩
  | d + 1, b, M, fuel, D, hI, hD, hF, hb, hf => by
    obtain ⟨g, rfl⟩ : ∃ g, fuel = g + 1 := ⟨fuel - 1, by omega⟩
    have h1 := hI.si0 hs
    have h7 := hI.si6 hs
    have hl := ln_s hI hs
    have hsw := hI.bs.1.2
    have hbs : b < sw := by omega
    have c : ¬ nI sw ≤ nI b := nI_ge (by omega) (by omega)
    have hra := row_s hI hs ha
    have hrm := row_s hI hs hm
    have v1 : al_i M 20 (some (110 + (5 * s + a))) (nI b) = some (nI (D a b)) := by
      rw [al_i_t (hI.ss4 hs ha) (by rw [hI.ss5 hs ha]; exact hbs) (by omega), hD a b ha hbs]
    have v2 : al_i M 20 (some (110 + (5 * s + a))) (nI m) = some (nI (D a m)) := by
      rw [al_i_t (hI.ss4 hs ha) (by rw [hI.ss5 hs ha]; exact hm) (by omega), hD a m ha hm]
    have v3 : al_i M 20 (some (110 + (5 * s + m))) (nI b) = some (nI (D m b)) := by
      rw [al_i_t (hI.ss4 hs hm) (by rw [hI.ss5 hs hm]; exact hbs) (by omega), hD m b hm hbs]
    have hw : ∀ v, as_i M 20 (some (110 + (5 * s + a))) (nI b) v = some (h_qi M (110 + (5 * s + a)) b v) := fun v => as_i_t (hI.ss4 hs ha) (by rw [hI.ss5 hs ha]; omega) (by omega)
    have l1 := hF a b
    have l2 := hF a m
    have l3 := hF m b
    have hadd : nI (D a m) + nI (D m b) = nI (D a m + D m b) := nI_add _ _
    have hif : (if nI (D a m + D m b) < nI (D a b) then nI (D a m + D m b) else nI (D a b)) = nI (min (D a b) (D a m + D m b)) := by
      by_cases z : D a m + D m b < D a b
      · rw [if_pos (nI_lt z (by omega)), Nat.min_eq_right (by omega)]
      · rw [if_neg (nI_nlt (by omega) (by omega)), Nat.min_eq_left (by omega)]
    have hb' : k102 98 [.inr (.inr (some (10 + s))), .inl (nI m), .inl (nI a), .inl (nI b)] M = some (.inr (98, [.inr (.inr (some (10 + s))), .inl (nI m), .inl (nI a), .inl (nI (b + 1))], h_qi M (110 + (5 * s + a)) b (nI (min (D a b) (D a m + D m b))))) := by
      simp [k102, b102_98, h1, h7, hl, c, hra, hrm, v1, v2, v3, hadd, hw, hif, nI_1, g_i, g_r, g_l, g_o, p_i, p_r, p_l, p_z, c_V, c_I, c_L, c_R, x_out, z_fl_pi, z_fr_pi, z_ai_pi, z_al_pi, z_ar_pi, z_ln_pi, z_tg_pi, z_sz_pi, z_sl_pi, z_fi_pl, z_fr_pl, z_ai_pl, z_al_pl, z_ar_pl, z_ln_pl, z_tg_pl, z_sz_pl, z_sl_pl, z_fi_pr, z_fl_pr, z_ai_pr, z_al_pr, z_ar_pr, z_ln_pr, z_tg_pr, z_sz_pr, z_sl_pr, z_fi_qi, z_fl_qi, z_fr_qi, z_al_qi, z_ar_qi, z_ln_qi, z_tg_qi, z_sz_qi, z_sl_qi, z_fi_ql, z_fl_ql, z_fr_ql, z_ai_ql, z_ar_ql, z_ln_ql, z_tg_ql, z_sz_ql, z_sl_ql, z_fi_qr, z_fl_qr, z_fr_qr, z_ai_qr, z_al_qr, z_ln_qr, z_tg_qr, z_sz_qr, z_sl_qr, z_fi_ca, z_fl_ca, z_fr_ca, z_al_ca, z_ar_ca, z_ln_ca, z_tg_ca, z_sz_ca, z_sl_ca, y_pi, y_pl, y_pr, y_qi, y_ql, y_qr, y_ca]
    have ao : aiO (pS s sw) M (h_qi M (110 + (5 * s + a)) b (nI (min (D a b) (D a m + D m b)))) := aiO_q ⟨a, ha, rfl⟩
    have hD' : suD (h_qi M (110 + (5 * s + a)) b (nI (min (D a b) (D a m + D m b)))) sw s (fs1 m a b D) := fun x y hx hy => by
      unfold fs1 u2
      by_cases z : x = a
      · subst z
        by_cases z2 : y = b
        · subst z2; rw [qi_eq, if_pos ⟨rfl, rfl⟩]
        · rw [qi_ne z2, if_neg (fun q => z2 q.2)]; exact hD x y hx hy
      · have : h_ai (h_qi M (110 + (5 * s + a)) b (nI (min (D a b) (D a m + D m b)))) (110 + (5 * s + x)) = h_ai M (110 + (5 * s + x)) := funext fun i => u2_nk (by omega)
        rw [this, if_neg (fun q => z q.1)]; exact hD x y hx hy
    obtain ⟨M', j1, j2, j3⟩ := k102_98 hs hm ha d (b + 1) _ g (fs1 m a b D) (ao.I hI) hD' (fs1_le hF) (by omega) (by omega)
    refine ⟨M', ?_, ao.tr j2 (fun _ q => q), j3⟩
    rw [dr_go hb']
    show drive k102 g 98 _ _ = _
    rw [j1, show g + 1 - (d + 1 + 1) = g - (d + 1) by omega]
theorem k102_87 (hs : s < sw) {m : Nat} (hm : m < sw) : ∀ d a M fuel D, cI sw nd rm M → suD M sw s D → (∀ x y, D x y ≤ 1000000) → a + d = sw → 10 * d + 1 < fuel → ∃ M' fu, fuel ≤ fu + 10 * d + 1 ∧ drive k102 fuel 87 [.inr (.inr (some (10 + s))), .inl (nI m), .inl (nI a)] M = drive k102 fu 76 [.inr (.inr (some (10 + s))), .inl (nI (m + 1))] M' ∧ aiO (pS s sw) M M' ∧ suD M' sw s (fsa sw m a d D)
  | 0, a, M, fuel, D, hI, hD, hF, ha, hf => by
    obtain ⟨g, rfl⟩ : ∃ g, fuel = g + 1 := ⟨fuel - 1, by omega⟩
    have h1 := hI.si0 hs
    have h7 := hI.si6 hs
    have hl := ln_s hI hs
    have hsw := hI.bs.1.2
    have c : nI sw ≤ nI a := nI_le (by omega) (by omega)
    have hb' : k102 87 [.inr (.inr (some (10 + s))), .inl (nI m), .inl (nI a)] M = some (.inr (76, [.inr (.inr (some (10 + s))), .inl (nI (m + 1))], M)) := by
      simp [k102, b102_87, h1, h7, hl, c, nI_1, g_i, g_r, g_l, g_o, p_i, p_r, p_l, p_z, c_V, c_I, c_L, c_R, x_out, z_fl_pi, z_fr_pi, z_ai_pi, z_al_pi, z_ar_pi, z_ln_pi, z_tg_pi, z_sz_pi, z_sl_pi, z_fi_pl, z_fr_pl, z_ai_pl, z_al_pl, z_ar_pl, z_ln_pl, z_tg_pl, z_sz_pl, z_sl_pl, z_fi_pr, z_fl_pr, z_ai_pr, z_al_pr, z_ar_pr, z_ln_pr, z_tg_pr, z_sz_pr, z_sl_pr, z_fi_qi, z_fl_qi, z_fr_qi, z_al_qi, z_ar_qi, z_ln_qi, z_tg_qi, z_sz_qi, z_sl_qi, z_fi_ql, z_fl_ql, z_fr_ql, z_ai_ql, z_ar_ql, z_ln_ql, z_tg_ql, z_sz_ql, z_sl_ql, z_fi_qr, z_fl_qr, z_fr_qr, z_ai_qr, z_al_qr, z_ln_qr, z_tg_qr, z_sz_qr, z_sl_qr, z_fi_ca, z_fl_ca, z_fr_ca, z_al_ca, z_ar_ca, z_ln_ca, z_tg_ca, z_sz_ca, z_sl_ca, y_pi, y_pl, y_pr, y_qi, y_ql, y_qr, y_ca]
    exact ⟨M, g, by omega, by rw [dr_go hb'], aiO.rf, hD⟩
  | d + 1, a, M, fuel, D, hI, hD, hF, ha, hf => by
    obtain ⟨g, rfl⟩ : ∃ g, fuel = g + 1 := ⟨fuel - 1, by omega⟩
    have h1 := hI.si0 hs
    have h7 := hI.si6 hs
    have hl := ln_s hI hs
    have hsw := hI.bs.1.2
    have c : ¬ nI sw ≤ nI a := nI_ge (by omega) (by omega)
    have e0 : nI 0 = 0 := rfl
    have hb' : k102 87 [.inr (.inr (some (10 + s))), .inl (nI m), .inl (nI a)] M = some (.inr (98, [.inr (.inr (some (10 + s))), .inl (nI m), .inl (nI a), .inl (nI 0)], M)) := by
      simp [k102, b102_87, h1, h7, hl, c, e0, g_i, g_r, g_l, g_o, p_i, p_r, p_l, p_z, c_V, c_I, c_L, c_R, x_out, z_fl_pi, z_fr_pi, z_ai_pi, z_al_pi, z_ar_pi, z_ln_pi, z_tg_pi, z_sz_pi, z_sl_pi, z_fi_pl, z_fr_pl, z_ai_pl, z_al_pl, z_ar_pl, z_ln_pl, z_tg_pl, z_sz_pl, z_sl_pl, z_fi_pr, z_fl_pr, z_ai_pr, z_al_pr, z_ar_pr, z_ln_pr, z_tg_pr, z_sz_pr, z_sl_pr, z_fi_qi, z_fl_qi, z_fr_qi, z_al_qi, z_ar_qi, z_ln_qi, z_tg_qi, z_sz_qi, z_sl_qi, z_fi_ql, z_fl_ql, z_fr_ql, z_ai_ql, z_ar_ql, z_ln_ql, z_tg_ql, z_sz_ql, z_sl_ql, z_fi_qr, z_fl_qr, z_fr_qr, z_ai_qr, z_al_qr, z_ln_qr, z_tg_qr, z_sz_qr, z_sl_qr, z_fi_ca, z_fl_ca, z_fr_ca, z_al_ca, z_ar_ca, z_ln_ca, z_tg_ca, z_sz_ca, z_sl_ca, y_pi, y_pl, y_pr, y_qi, y_ql, y_qr, y_ca]
    obtain ⟨M1, i1, i2, i3⟩ := k102_98 hs hm (a := a) (by omega) sw 0 M g D hI hD hF (by omega) (by omega)
    obtain ⟨M3, fu, k0, k1, k2, k3⟩ := k102_87 hs hm d (a + 1) M1 (g - (sw + 1)) (fsb m a 0 sw D) (i2.I hI) i3 (fsb_le sw 0 D hF) (by omega) (by omega)
    refine ⟨M3, fu, by omega, ?_, i2.tr k2 (fun _ q => q), k3⟩
    rw [dr_go hb']
    show drive k102 g 98 _ M = _
    rw [i1, k1]
theorem k102_76 (hs : s < sw) : ∀ d m M fuel D, cI sw nd rm M → suD M sw s D → (∀ x y, D x y ≤ 1000000) → m + d = sw → 100 * d + 1 < fuel → ∃ M', drive k102 fuel 76 [.inr (.inr (some (10 + s))), .inl (nI m)] M = some (none, M') ∧ aiO (pS s sw) M M' ∧ suD M' sw s (fsm sw m d D)
  | 0, m, M, fuel, D, hI, hD, hF, hm, hf => by
    obtain ⟨g, rfl⟩ : ∃ g, fuel = g + 1 := ⟨fuel - 1, by omega⟩
    have h1 := hI.si0 hs
    have h7 := hI.si6 hs
    have hl := ln_s hI hs
    have hsw := hI.bs.1.2
    have c : nI sw ≤ nI m := nI_le (by omega) (by omega)
    have hb' : k102 76 [.inr (.inr (some (10 + s))), .inl (nI m)] M = some (.inl (none, M)) := by
      simp [k102, b102_76, h1, h7, hl, c, g_i, g_r, g_l, g_o, p_i, p_r, p_l, p_z, c_V, c_I, c_L, c_R, x_out, z_fl_pi, z_fr_pi, z_ai_pi, z_al_pi, z_ar_pi, z_ln_pi, z_tg_pi, z_sz_pi, z_sl_pi, z_fi_pl, z_fr_pl, z_ai_pl, z_al_pl, z_ar_pl, z_ln_pl, z_tg_pl, z_sz_pl, z_sl_pl, z_fi_pr, z_fl_pr, z_ai_pr, z_al_pr, z_ar_pr, z_ln_pr, z_tg_pr, z_sz_pr, z_sl_pr, z_fi_qi, z_fl_qi, z_fr_qi, z_al_qi, z_ar_qi, z_ln_qi, z_tg_qi, z_sz_qi, z_sl_qi, z_fi_ql, z_fl_ql, z_fr_ql, z_ai_ql, z_ar_ql, z_ln_ql, z_tg_ql, z_sz_ql, z_sl_ql, z_fi_qr, z_fl_qr, z_fr_qr, z_ai_qr, z_al_qr, z_ln_qr, z_tg_qr, z_sz_qr, z_sl_qr, z_fi_ca, z_fl_ca, z_fr_ca, z_al_ca, z_ar_ca, z_ln_ca, z_tg_ca, z_sz_ca, z_sl_ca, y_pi, y_pl, y_pr, y_qi, y_ql, y_qr, y_ca]
    exact ⟨M, dr_end hb', aiO.rf, hD⟩
  | d + 1, m, M, fuel, D, hI, hD, hF, hm, hf => by
    obtain ⟨g, rfl⟩ : ∃ g, fuel = g + 1 := ⟨fuel - 1, by omega⟩
    have h1 := hI.si0 hs
    have h7 := hI.si6 hs
    have hl := ln_s hI hs
    have hsw := hI.bs.1.2
    have c : ¬ nI sw ≤ nI m := nI_ge (by omega) (by omega)
    have e0 : nI 0 = 0 := rfl
    have hb' : k102 76 [.inr (.inr (some (10 + s))), .inl (nI m)] M = some (.inr (87, [.inr (.inr (some (10 + s))), .inl (nI m), .inl (nI 0)], M)) := by
      simp [k102, b102_76, h1, h7, hl, c, e0, g_i, g_r, g_l, g_o, p_i, p_r, p_l, p_z, c_V, c_I, c_L, c_R, x_out, z_fl_pi, z_fr_pi, z_ai_pi, z_al_pi, z_ar_pi, z_ln_pi, z_tg_pi, z_sz_pi, z_sl_pi, z_fi_pl, z_fr_pl, z_ai_pl, z_al_pl, z_ar_pl, z_ln_pl, z_tg_pl, z_sz_pl, z_sl_pl, z_fi_pr, z_fl_pr, z_ai_pr, z_al_pr, z_ar_pr, z_ln_pr, z_tg_pr, z_sz_pr, z_sl_pr, z_fi_qi, z_fl_qi, z_fr_qi, z_al_qi, z_ar_qi, z_ln_qi, z_tg_qi, z_sz_qi, z_sl_qi, z_fi_ql, z_fl_ql, z_fr_ql, z_ai_ql, z_ar_ql, z_ln_ql, z_tg_ql, z_sz_ql, z_sl_ql, z_fi_qr, z_fl_qr, z_fr_qr, z_ai_qr, z_al_qr, z_ln_qr, z_tg_qr, z_sz_qr, z_sl_qr, z_fi_ca, z_fl_ca, z_fr_ca, z_al_ca, z_ar_ca, z_ln_ca, z_tg_ca, z_sz_ca, z_sl_ca, y_pi, y_pl, y_pr, y_qi, y_ql, y_qr, y_ca]
    obtain ⟨M1, fu, i0, i1, i2, i3⟩ := k102_87 hs (m := m) (by omega) sw 0 M g D hI hD hF (by omega) (by omega)
    obtain ⟨M3, k1, k2, k3⟩ := k102_76 hs d (m + 1) M1 fu (fsa sw m 0 sw D) (i2.I hI) i3 (fsa_le sw 0 D hF) (by omega) (by omega)
    refine ⟨M3, ?_, i2.tr k2 (fun _ q => q), k3⟩
    rw [dr_go hb']
    show drive k102 g 87 _ M = _
    rw [i1, k1]
/-- addUpCosts -/
theorem f102_eq (hI : cI sw nd rm M) (hs : s < sw) (hC : coD M sw s K) : ∃ M', f102 [.inr (.inr (some (10 + s)))] M = some (none, M') ∧ aiO (pS s sw) M M' ∧ suD M' sw s (dK sw K) := by
  have hsw := hI.bs.1.2
  obtain ⟨M1, fu, i0, i1, i2, i3⟩ := k102_2 (K := K) hs sw 0 M xF hI hC (by omega) (by unfold xF; omega) (fun r b hr => by omega)
  obtain ⟨M2, j1, j2, j3⟩ := k102_76 hs sw 0 M1 fu (wK K) (i2.I hI) i3 (fun x y => wK_le) (by omega) (by unfold xF at i0; omega)
  rw [fw_eq (wK_dg K)] at j3
  refine ⟨M2, ?_, i2.tr j2 (fun _ q => q), j3⟩
  show drive k102 xF 2 [.inr (.inr (some (10 + s))), .inl (nI 0)] M = _
  rw [i1, j1]
theorem k108_21 (hI : cI sw nd rm M) (hs : s < sw) (hK : rKo sw K) (hC : coD M sw s K) (hD : suD M sw s (dK sw K)) {na t : Nat} (ht : t < sw) (hn : nt1 M na (K s)) : ∀ d k fuel, k + d = rgo (K s) 5 → d < fuel → drive k108 fuel 21 [.inr (.inr (some (10 + s))), .inl (nI t), .inr (.inr (some na)), .inl (nI k)] M = some (some (.inl (wyc sw K s t k d)), M)
  | 0, k, fuel, hk, hf => by
    obtain ⟨g, rfl⟩ : ∃ g, fuel = g + 1 := ⟨fuel - 1, by omega⟩
    have h7 := hn.1.1
    have e7 := f97_eq hn
    have hl5 := rgo_lt (i := 5) hn
    have c : nI (rgo (K s) 5) ≤ nI k := nI_le (by omega) (by omega)
    refine dr_end ?_
    simp [k108, b108_21, h7, e7, c, wyc, g_i, g_r, g_l, g_o, p_i, p_r, p_l, p_z, c_V, c_I, c_L, c_R, x_out, z_fl_pi, z_fr_pi, z_ai_pi, z_al_pi, z_ar_pi, z_ln_pi, z_tg_pi, z_sz_pi, z_sl_pi, z_fi_pl, z_fr_pl, z_ai_pl, z_al_pl, z_ar_pl, z_ln_pl, z_tg_pl, z_sz_pl, z_sl_pl, z_fi_pr, z_fl_pr, z_ai_pr, z_al_pr, z_ar_pr, z_ln_pr, z_tg_pr, z_sz_pr, z_sl_pr, z_fi_qi, z_fl_qi, z_fr_qi, z_al_qi, z_ar_qi, z_ln_qi, z_tg_qi, z_sz_qi, z_sl_qi, z_fi_ql, z_fl_ql, z_fr_ql, z_ai_ql, z_ar_ql, z_ln_ql, z_tg_ql, z_sz_ql, z_sl_ql, z_fi_qr, z_fl_qr, z_fr_qr, z_ai_qr, z_al_qr, z_ln_qr, z_tg_qr, z_sz_qr, z_sl_qr, z_fi_ca, z_fl_ca, z_fr_ca, z_al_ca, z_ar_ca, z_ln_ca, z_tg_ca, z_sz_ca, z_sl_ca, y_pi, y_pl, y_pr, y_qi, y_ql, y_qr, y_ca]
  | d + 1, k, fuel, hk, hf => by
    obtain ⟨g, rfl⟩ : ∃ g, fuel = g + 1 := ⟨fuel - 1, by omega⟩
    have h7 := hn.1.1
    have e7 := f97_eq hn
    have hl5 := rgo_lt (i := 5) hn
    have c : ¬ nI (rgo (K s) 5) ≤ nI k := nI_ge (by omega) (by omega)
    obtain ⟨b1, b2', b3, b4⟩ := (hK s).2 k (by omega)
    have e8 := f98_eq (k := k) hn (by omega)
    have e9 := f99_eq (k := k) hn (by omega)
    have e6 := f107_eq (k := k) hn (by omega)
    have h1 := hI.si0 hs
    have h17 := hI.si6 hs
    have h11 := hI.si2 hs
    have hl := ln_s hI hs
    have hsw := hI.bs.1.2
    have c2 : ¬ nI sw ≤ nI (rgo (K s) (7 + 3 * k)) := nI_ge b1 (by omega)
    have ej := f101_eq hI hs hs b1 hC
    have hrn := row_s hI hs b1
    have hrs := row_s hI hs hs
    have v1 : al_i M 20 (some (110 + (5 * s + rgo (K s) (7 + 3 * k)))) (nI t) = some (nI (dK sw K (rgo (K s) (7 + 3 * k)) t)) := by
      rw [al_i_t (hI.ss4 hs b1) (by rw [hI.ss5 hs b1]; exact ht) (by omega), hD _ t b1 ht]
    have v2 : al_i M 20 (some (110 + (5 * s + s))) (nI t) = some (nI (dK sw K s t)) := by
      rw [al_i_t (hI.ss4 hs hs) (by rw [hI.ss5 hs hs]; exact ht) (by omega), hD s t hs ht]
    have l1 := dK_le (n := sw) (K := K) (a := rgo (K s) (7 + 3 * k)) (b := t)
    have l2 := dK_le (n := sw) (K := K) (a := s) (b := t)
    have hadd : nI (rgo (K s) (8 + 3 * k)) + nI (dK sw K (rgo (K s) (7 + 3 * k)) t) = nI (rgo (K s) (8 + 3 * k) + dK sw K (rgo (K s) (7 + 3 * k)) t) := nI_add _ _
    have next : k108 21 [.inr (.inr (some (10 + s))), .inl (nI t), .inr (.inr (some na)), .inl (nI k)] M = some (.inr (21, [.inr (.inr (some (10 + s))), .inl (nI t), .inr (.inr (some na)), .inl (nI (k + 1))], M)) → drive k108 (g + 1) 21 [.inr (.inr (some (10 + s))), .inl (nI t), .inr (.inr (some na)), .inl (nI k)] M = some (some (.inl (wyc sw K s t (k + 1) d)), M) := fun hb => by
      rw [dr_go hb]
      exact k108_21 hI hs hK hC hD ht hn d (k + 1) g (by omega) (by omega)
    unfold wyc
    by_cases y : tlK K s (rgo (K s) (7 + 3 * k)) < 1000000 ∧ tlK K (rgo (K s) (7 + 3 * k)) s < 1000000
    · rw [decide_eq_true y, b2_t] at ej
      by_cases z : rgo (K s) (8 + 3 * k) + dK sw K (rgo (K s) (7 + 3 * k)) t = dK sw K s t
      · have z' : nI (rgo (K s) (8 + 3 * k) + dK sw K (rgo (K s) (7 + 3 * k)) t) = nI (dK sw K s t) := by rw [z]
        rw [if_pos ⟨b1, y, z⟩]
        refine dr_end ?_
        simp [k108, b108_21, h7, e7, c, e8, h1, h17, hl, c2, h11, ej, e9, hrn, v1, hrs, v2, hadd, z', e6, g_i, g_r, g_l, g_o, p_i, p_r, p_l, p_z, c_V, c_I, c_L, c_R, x_out, z_fl_pi, z_fr_pi, z_ai_pi, z_al_pi, z_ar_pi, z_ln_pi, z_tg_pi, z_sz_pi, z_sl_pi, z_fi_pl, z_fr_pl, z_ai_pl, z_al_pl, z_ar_pl, z_ln_pl, z_tg_pl, z_sz_pl, z_sl_pl, z_fi_pr, z_fl_pr, z_ai_pr, z_al_pr, z_ar_pr, z_ln_pr, z_tg_pr, z_sz_pr, z_sl_pr, z_fi_qi, z_fl_qi, z_fr_qi, z_al_qi, z_ar_qi, z_ln_qi, z_tg_qi, z_sz_qi, z_sl_qi, z_fi_ql, z_fl_ql, z_fr_ql, z_ai_ql, z_ar_ql, z_ln_ql, z_tg_ql, z_sz_ql, z_sl_ql, z_fi_qr, z_fl_qr, z_fr_qr, z_ai_qr, z_al_qr, z_ln_qr, z_tg_qr, z_sz_qr, z_sl_qr, z_fi_ca, z_fl_ca, z_fr_ca, z_al_ca, z_ar_ca, z_ln_ca, z_tg_ca, z_sz_ca, z_sl_ca, y_pi, y_pl, y_pr, y_qi, y_ql, y_qr, y_ca]
      · have z' : ¬ nI (rgo (K s) (8 + 3 * k) + dK sw K (rgo (K s) (7 + 3 * k)) t) = nI (dK sw K s t) := fun q => z ((nI_eq (by omega) (by omega)).mp q)
        have cN : ¬ (rgo (K s) (7 + 3 * k) < sw ∧ (tlK K s (rgo (K s) (7 + 3 * k)) < 1000000 ∧ tlK K (rgo (K s) (7 + 3 * k)) s < 1000000) ∧ rgo (K s) (8 + 3 * k) + dK sw K (rgo (K s) (7 + 3 * k)) t = dK sw K s t) := fun q => z q.2.2
        rw [if_neg cN]
        exact next (by simp [k108, b108_21, b108_94, h7, e7, c, e8, h1, h17, hl, c2, h11, ej, e9, hrn, v1, hrs, v2, hadd, z', nI_1, g_i, g_r, g_l, g_o, p_i, p_r, p_l, p_z, c_V, c_I, c_L, c_R, x_out, z_fl_pi, z_fr_pi, z_ai_pi, z_al_pi, z_ar_pi, z_ln_pi, z_tg_pi, z_sz_pi, z_sl_pi, z_fi_pl, z_fr_pl, z_ai_pl, z_al_pl, z_ar_pl, z_ln_pl, z_tg_pl, z_sz_pl, z_sl_pl, z_fi_pr, z_fl_pr, z_ai_pr, z_al_pr, z_ar_pr, z_ln_pr, z_tg_pr, z_sz_pr, z_sl_pr, z_fi_qi, z_fl_qi, z_fr_qi, z_al_qi, z_ar_qi, z_ln_qi, z_tg_qi, z_sz_qi, z_sl_qi, z_fi_ql, z_fl_ql, z_fr_ql, z_ai_ql, z_ar_ql, z_ln_ql, z_tg_ql, z_sz_ql, z_sl_ql, z_fi_qr, z_fl_qr, z_fr_qr, z_ai_qr, z_al_qr, z_ln_qr, z_tg_qr, z_sz_qr, z_sl_qr, z_fi_ca, z_fl_ca, z_fr_ca, z_al_ca, z_ar_ca, z_ln_ca, z_tg_ca, z_sz_ca, z_sl_ca, y_pi, y_pl, y_pr, y_qi, y_ql, y_qr, y_ca])
    · rw [decide_eq_false y, b2_f] at ej
      have cN : ¬ (rgo (K s) (7 + 3 * k) < sw ∧ (tlK K s (rgo (K s) (7 + 3 * k)) < 1000000 ∧ tlK K (rgo (K s) (7 + 3 * k)) s < 1000000) ∧ rgo (K s) (8 + 3 * k) + dK sw K (rgo (K s) (7 + 3 * k)) t = dK sw K s t) := fun q => y q.2.1
      rw [if_neg cN]
      exact next (by simp [k108, b108_21, b108_94, h7, e7, c, e8, h1, h17, hl, c2, h11, ej, nI_1, g_i, g_r, g_l, g_o, p_i, p_r, p_l, p_z, c_V, c_I, c_L, c_R, x_out, z_fl_pi, z_fr_pi, z_ai_pi, z_al_pi, z_ar_pi, z_ln_pi, z_tg_pi, z_sz_pi, z_sl_pi, z_fi_pl, z_fr_pl, z_ai_pl, z_al_pl, z_ar_pl, z_ln_pl, z_tg_pl, z_sz_pl, z_sl_pl, z_fi_pr, z_fl_pr, z_ai_pr, z_al_pr, z_ar_pr, z_ln_pr, z_tg_pr, z_sz_pr, z_sl_pr, z_fi_qi, z_fl_qi, z_fr_qi, z_al_qi, z_ar_qi, z_ln_qi, z_tg_qi, z_sz_qi, z_sl_qi, z_fi_ql, z_fl_ql, z_fr_ql, z_ai_ql, z_ar_ql, z_ln_ql, z_tg_ql, z_sz_ql, z_sl_ql, z_fi_qr, z_fl_qr, z_fr_qr, z_ai_qr, z_al_qr, z_ln_qr, z_tg_qr, z_sz_qr, z_sl_qr, z_fi_ca, z_fl_ca, z_fr_ca, z_al_ca, z_ar_ca, z_ln_ca, z_tg_ca, z_sz_ca, z_sl_ca, y_pi, y_pl, y_pr, y_qi, y_ql, y_qr, y_ca])
/-- firstPortTo -/
theorem f108_eq (hI : cI sw nd rm M) (hs : s < sw) (hK : rKo sw K) (hC : coD M sw s K) (hD : suD M sw s (dK sw K)) {na t : Nat} (ht : t < sw) (hts : t ≠ s) (hn : nt1 M na (K s)) : f108 [.inr (.inr (some (10 + s))), .inl (nI t), .inr (.inr (some na))] M = some (some (.inl (wyK sw K s t)), M) := by
  have h1 := hI.si0 hs
  have h17 := hI.si6 hs
  have h11 := hI.si2 hs
  have hsw := hI.bs.1.2
  have hrs := row_s hI hs hs
  have v2 : al_i M 20 (some (110 + (5 * s + s))) (nI t) = some (nI (dK sw K s t)) := by
    rw [al_i_t (hI.ss4 hs hs) (by rw [hI.ss5 hs hs]; exact ht) (by omega), hD s t hs ht]
  have l2 := dK_le (n := sw) (K := K) (a := s) (b := t)
  have hl5 := rgo_lt (i := 5) hn
  show x_go k108 (b108_0 (10 + s) (nI t) (some na) M) = _
  unfold wyK
  rw [if_neg hts]
  by_cases c : 1000000 ≤ dK sw K s t
  · have c' : ¬ nI (dK sw K s t) < 1000000 := nI_nlt (b := 1000000) c (by omega)
    have : b108_0 (10 + s) (nI t) (some na) M = some (.inl (some (.inl (-1)), M)) := by
      simp [b108_0, h1, h17, h11, hrs, v2, c', g_i, g_r, g_l, g_o, p_i, p_r, p_l, p_z, c_V, c_I, c_L, c_R, x_out, z_fl_pi, z_fr_pi, z_ai_pi, z_al_pi, z_ar_pi, z_ln_pi, z_tg_pi, z_sz_pi, z_sl_pi, z_fi_pl, z_fr_pl, z_ai_pl, z_al_pl, z_ar_pl, z_ln_pl, z_tg_pl, z_sz_pl, z_sl_pl, z_fi_pr, z_fl_pr, z_ai_pr, z_al_pr, z_ar_pr, z_ln_pr, z_tg_pr, z_sz_pr, z_sl_pr, z_fi_qi, z_fl_qi, z_fr_qi, z_al_qi, z_ar_qi, z_ln_qi, z_tg_qi, z_sz_qi, z_sl_qi, z_fi_ql, z_fl_ql, z_fr_ql, z_ai_ql, z_ar_ql, z_ln_ql, z_tg_ql, z_sz_ql, z_sl_ql, z_fi_qr, z_fl_qr, z_fr_qr, z_ai_qr, z_al_qr, z_ln_qr, z_tg_qr, z_sz_qr, z_sl_qr, z_fi_ca, z_fl_ca, z_fr_ca, z_al_ca, z_ar_ca, z_ln_ca, z_tg_ca, z_sz_ca, z_sl_ca, y_pi, y_pl, y_pr, y_qi, y_ql, y_qr, y_ca]
    rw [this, if_pos c]; rfl
  · have c' : nI (dK sw K s t) < 1000000 := nI_lt (b := 1000000) (by omega) (by omega)
    have e0 : nI 0 = 0 := rfl
    have : b108_0 (10 + s) (nI t) (some na) M = some (.inr (21, [.inr (.inr (some (10 + s))), .inl (nI t), .inr (.inr (some na)), .inl (nI 0)], M)) := by
      simp [b108_0, h1, h17, h11, hrs, v2, c', e0, g_i, g_r, g_l, g_o, p_i, p_r, p_l, p_z, c_V, c_I, c_L, c_R, x_out, z_fl_pi, z_fr_pi, z_ai_pi, z_al_pi, z_ar_pi, z_ln_pi, z_tg_pi, z_sz_pi, z_sl_pi, z_fi_pl, z_fr_pl, z_ai_pl, z_al_pl, z_ar_pl, z_ln_pl, z_tg_pl, z_sz_pl, z_sl_pl, z_fi_pr, z_fl_pr, z_ai_pr, z_al_pr, z_ar_pr, z_ln_pr, z_tg_pr, z_sz_pr, z_sl_pr, z_fi_qi, z_fl_qi, z_fr_qi, z_al_qi, z_ar_qi, z_ln_qi, z_tg_qi, z_sz_qi, z_sl_qi, z_fi_ql, z_fl_ql, z_fr_ql, z_ai_ql, z_ar_ql, z_ln_ql, z_tg_ql, z_sz_ql, z_sl_ql, z_fi_qr, z_fl_qr, z_fr_qr, z_ai_qr, z_al_qr, z_ln_qr, z_tg_qr, z_sz_qr, z_sl_qr, z_fi_ca, z_fl_ca, z_fr_ca, z_al_ca, z_ar_ca, z_ln_ca, z_tg_ca, z_sz_ca, z_sl_ca, y_pi, y_pl, y_pr, y_qi, y_ql, y_qr, y_ca]
    rw [this, if_neg c]
    exact k108_21 hI hs hK hC hD ht hn (rgo (K s) 5) 0 xF (by omega) (by unfold xF; omega)
end SU
