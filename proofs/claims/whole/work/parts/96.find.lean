/-! ===== the class: findWays ===== -/
section FN
variable {sw nd rm s : Nat} {M : hM} {K : rK}
def pW (s sw : Nat) : Nat → Prop := fun x => pC s sw x ∨ pS s sw x ∨ x = 40 + s ∨ x = 50 + s
theorem pW_lt {x : Nat} (hs : s < sw) (h5 : sw ≤ 5) (h : pW s sw x) : 40 ≤ x ∧ x < 140 := by
  rcases h with ⟨r, r1, r2⟩ | ⟨r, r1, r2⟩ | h | h <;> omega
theorem k109_20 (hs : s < sw) (hK : rKo sw K) {na : Nat} : ∀ d t M fuel, cI sw nd rm M → nt1 M na (K s) → 400 ≤ na → coD M sw s K → suD M sw s (dK sw K) → t + d = sw → d < fuel → (∀ r, r < t → h_ai M (40 + s) r = wyK sw K s r) → ∃ M' fu, fuel = fu + d ∧ drive k109 fuel 20 [.inr (.inr (some (10 + s))), .inr (.inr (some na)), .inl (nI t)] M = drive k109 fu 20 [.inr (.inr (some (10 + s))), .inr (.inr (some na)), .inl (nI sw)] M' ∧ aiO (fun x => x = 40 + s) M M' ∧ wyA M' sw s K
  | 0, t, M, fuel, hI, hn, h4, hC, hD, ht, hf, hR => by
    have : t = sw := by omega
    subst this
    exact ⟨M, fuel, rfl, rfl, aiO.rf, fun r hr => hR r hr⟩
  | d + 1, t, M, fuel, hI, hn, h4, hC, hD, ht, hf, hR => by
    obtain ⟨g, rfl⟩ : ∃ g, fuel = g + 1 := ⟨fuel - 1, by omega⟩
    have h1 := hI.si0 hs
    have h14 := hI.si4 hs
    have h8 := hI.si7 hs
    have h11 := hI.si2 hs
    have hl := ln_n hI hs
    have hsw := hI.bs.1.2
    have hts : t < sw := by omega
    have c : ¬ nI sw ≤ nI t := nI_ge (by omega) (by omega)
    have hw : ∀ v, as_i M 20 (some (40 + s)) (nI t) v = some (h_qi M (40 + s) t v) := fun v => as_i_t (hI.sa4 hs) (by rw [hI.sa5 hs]; exact hts) (by omega)
    have hb' : k109 20 [.inr (.inr (some (10 + s))), .inr (.inr (some na)), .inl (nI t)] M = some (.inr (20, [.inr (.inr (some (10 + s))), .inr (.inr (some na)), .inl (nI (t + 1))], h_qi M (40 + s) t (wyK sw K s t))) := by
      by_cases z : t = s
      · subst z
        have e : wyK sw K t t = -1 := if_pos rfl
        rw [e]
        simp [k109, b109_20, b109_52, h1, h14, hl, c, h8, h11, hw, nI_1, g_i, g_r, g_l, g_o, p_i, p_r, p_l, p_z, c_V, c_I, c_L, c_R, x_out, z_fl_pi, z_fr_pi, z_ai_pi, z_al_pi, z_ar_pi, z_ln_pi, z_tg_pi, z_sz_pi, z_sl_pi, z_fi_pl, z_fr_pl, z_ai_pl, z_al_pl, z_ar_pl, z_ln_pl, z_tg_pl, z_sz_pl, z_sl_pl, z_fi_pr, z_fl_pr, z_ai_pr, z_al_pr, z_ar_pr, z_ln_pr, z_tg_pr, z_sz_pr, z_sl_pr, z_fi_qi, z_fl_qi, z_fr_qi, z_al_qi, z_ar_qi, z_ln_qi, z_tg_qi, z_sz_qi, z_sl_qi, z_fi_ql, z_fl_ql, z_fr_ql, z_ai_ql, z_ar_ql, z_ln_ql, z_tg_ql, z_sz_ql, z_sl_ql, z_fi_qr, z_fl_qr, z_fr_qr, z_ai_qr, z_al_qr, z_ln_qr, z_tg_qr, z_sz_qr, z_sl_qr, z_fi_ca, z_fl_ca, z_fr_ca, z_al_ca, z_ar_ca, z_ln_ca, z_tg_ca, z_sz_ca, z_sl_ca, y_pi, y_pl, y_pr, y_qi, y_ql, y_qr, y_ca]
      · have z' : ¬ nI t = nI s := fun q => z ((nI_eq (by omega) (by omega)).mp q)
        have e8 := f108_eq hI hs hK hC hD hts z hn
        simp [k109, b109_20, b109_52, h1, h14, hl, c, h8, h11, z', e8, hw, nI_1, g_i, g_r, g_l, g_o, p_i, p_r, p_l, p_z, c_V, c_I, c_L, c_R, x_out, z_fl_pi, z_fr_pi, z_ai_pi, z_al_pi, z_ar_pi, z_ln_pi, z_tg_pi, z_sz_pi, z_sl_pi, z_fi_pl, z_fr_pl, z_ai_pl, z_al_pl, z_ar_pl, z_ln_pl, z_tg_pl, z_sz_pl, z_sl_pl, z_fi_pr, z_fl_pr, z_ai_pr, z_al_pr, z_ar_pr, z_ln_pr, z_tg_pr, z_sz_pr, z_sl_pr, z_fi_qi, z_fl_qi, z_fr_qi, z_al_qi, z_ar_qi, z_ln_qi, z_tg_qi, z_sz_qi, z_sl_qi, z_fi_ql, z_fl_ql, z_fr_ql, z_ai_ql, z_ar_ql, z_ln_ql, z_tg_ql, z_sz_ql, z_sl_ql, z_fi_qr, z_fl_qr, z_fr_qr, z_ai_qr, z_al_qr, z_ln_qr, z_tg_qr, z_sz_qr, z_sl_qr, z_fi_ca, z_fl_ca, z_fr_ca, z_al_ca, z_ar_ca, z_ln_ca, z_tg_ca, z_sz_ca, z_sl_ca, y_pi, y_pl, y_pr, y_qi, y_ql, y_qr, y_ca]
    have ao : aiO (fun x => x = 40 + s) M (h_qi M (40 + s) t (wyK sw K s t)) := aiO_q rfl
    obtain ⟨M', fu, j0, j1, j2, j3⟩ := k109_20 hs hK d (t + 1) _ g (ao.I hI) (hn.ao ao (by omega)) h4 (hC.ao ao (fun x q => by omega) hs hsw) (fun a b ha hb => by rw [ao.2.2 _ (by omega)]; exact hD a b ha hb) (by omega) (by omega) (fun r hr => by
      by_cases z : r = t
      · subst z; rw [qi_eq]
      · rw [qi_ne z]; exact hR r (by omega))
    refine ⟨M', fu, by omega, ?_, ao.tr j2 (fun _ q => q), j3⟩
    rw [dr_go hb']
    exact j1
/-- findWays -/
theorem f109_eq (hI : cI sw nd rm M) (hs : s < sw) (hK : rKo sw K) (hN : ntS M sw s K) (hdm : rgo (K s) 4 < 16) : ∃ N, f109 [.inr (.inr (some (10 + s)))] M = some (none, h_pi N 1010 (10 + s) (b2 (ofK sw K s))) ∧ aiO (pW s sw) M N ∧ wyA N sw s K ∧ hoA N sw s K := by
  have hsw := hI.bs.1.2
  obtain ⟨M1, a1, a2, a3⟩ := f100_eq hI hs hK hN
  have hI1 := a2.I hI
  have hN1 := hN.ao a2 (fun x q => by obtain ⟨r, r1, r2⟩ := q; omega)
  obtain ⟨M2, b1, b2', b3⟩ := f102_eq hI1 hs (show coD M1 sw s K from a3)
  have hI2 := b2'.I hI1
  have hN2 := hN1.ao b2' (fun x q => by obtain ⟨r, r1, r2⟩ := q; omega)
  have hC2 : coD M2 sw s K := (show coD M1 sw s K from a3).ao b2' (fun x q => by obtain ⟨r, r1, r2⟩ := q; omega) hs hsw
  obtain ⟨na, n1, n2, n3, n4⟩ := hN2 s hs
  obtain ⟨M3, fu, c0, c1, c2, c3⟩ := k109_20 hs hK sw 0 M2 xF hI2 n4 n2 hC2 b3 (by omega) (by unfold xF; omega) (fun r hr => by omega)
  have hI3 := c2.I hI2
  have hN3 := hN2.ao c2 (fun x q => by omega)
  obtain ⟨M4, d1, d2, d3⟩ := f104_eq hI3 hs hN3 c3
  have hI4 := d2.I hI3
  have hN4 := hN3.ao d2 (fun x q => by omega)
  have hW4 : wyA M4 sw s K := fun t ht => by rw [d2.2.2 _ (by omega)]; exact c3 t ht
  have n4' : nt1 M4 na (K s) := (n4.ao c2 (by omega)).ao d2 (by omega)
  have e105 := f105_eq n4'
  have e106 := f106_eq hI4 hs hN4 d3 hs
  rw [if_neg (by omega)] at e106
  have h1 := hI.si0 hs
  have h1a := hI1.si0 hs
  have h2a := hI2.si0 hs
  have h24 := hI2.si4 hs
  have h21 := hI2.si2 hs
  have hn2 := not_a hI2 hs hs n1
  have h31 := hI3.si0 hs
  have h34 := hI3.si4 hs
  have hl3 := ln_n hI3 hs
  have h41 := hI4.si0 hs
  have h4n := hI4.si2 hs
  have tna := n4'.1.1
  obtain ⟨g, rfl⟩ : ∃ g, fu = g + 1 := ⟨fu - 1, by unfold xF at c0; omega⟩
  refine ⟨M4, ?_, ?_, hW4, d3⟩
  · have e0 : nI 0 = 0 := rfl
    have hb0 : b109_0 (10 + s) M = some (.inr (20, [.inr (.inr (some (10 + s))), .inr (.inr (some na)), .inl (nI 0)], M2)) := by
      simp [b109_0, h1, a1, h1a, b1, h2a, h24, h21, hn2, e0, g_i, g_r, g_l, g_o, p_i, p_r, p_l, p_z, c_V, c_I, c_L, c_R, x_out, z_fl_pi, z_fr_pi, z_ai_pi, z_al_pi, z_ar_pi, z_ln_pi, z_tg_pi, z_sz_pi, z_sl_pi, z_fi_pl, z_fr_pl, z_ai_pl, z_al_pl, z_ar_pl, z_ln_pl, z_tg_pl, z_sz_pl, z_sl_pl, z_fi_pr, z_fl_pr, z_ai_pr, z_al_pr, z_ar_pr, z_ln_pr, z_tg_pr, z_sz_pr, z_sl_pr, z_fi_qi, z_fl_qi, z_fr_qi, z_al_qi, z_ar_qi, z_ln_qi, z_tg_qi, z_sz_qi, z_sl_qi, z_fi_ql, z_fl_ql, z_fr_ql, z_ai_ql, z_ar_ql, z_ln_ql, z_tg_ql, z_sz_ql, z_sl_ql, z_fi_qr, z_fl_qr, z_fr_qr, z_ai_qr, z_al_qr, z_ln_qr, z_tg_qr, z_sz_qr, z_sl_qr, z_fi_ca, z_fl_ca, z_fr_ca, z_al_ca, z_ar_ca, z_ln_ca, z_tg_ca, z_sz_ca, z_sl_ca, y_pi, y_pl, y_pr, y_qi, y_ql, y_qr, y_ca]
    show x_go k109 (b109_0 (10 + s) M) = _
    rw [hb0]
    show drive k109 xF 20 _ M2 = _
    rw [c1]
    refine dr_end ?_
    have c : nI sw ≤ nI sw := nI_le (by omega) (by omega)
    unfold ofK
    cases hk : (K s).isSome with
    | false =>
      rw [hk, b2_f] at e105
      simp [k109, b109_20, b109_86, b109_87, h31, h34, hl3, c, d1, tna, e105, h41, b2, g_i, g_r, g_l, g_o, p_i, p_r, p_l, p_z, c_V, c_I, c_L, c_R, x_out, z_fl_pi, z_fr_pi, z_ai_pi, z_al_pi, z_ar_pi, z_ln_pi, z_tg_pi, z_sz_pi, z_sl_pi, z_fi_pl, z_fr_pl, z_ai_pl, z_al_pl, z_ar_pl, z_ln_pl, z_tg_pl, z_sz_pl, z_sl_pl, z_fi_pr, z_fl_pr, z_ai_pr, z_al_pr, z_ar_pr, z_ln_pr, z_tg_pr, z_sz_pr, z_sl_pr, z_fi_qi, z_fl_qi, z_fr_qi, z_al_qi, z_ar_qi, z_ln_qi, z_tg_qi, z_sz_qi, z_sl_qi, z_fi_ql, z_fl_ql, z_fr_ql, z_ai_ql, z_ar_ql, z_ln_ql, z_tg_ql, z_sz_ql, z_sl_ql, z_fi_qr, z_fl_qr, z_fr_qr, z_ai_qr, z_al_qr, z_ln_qr, z_tg_qr, z_sz_qr, z_sl_qr, z_fi_ca, z_fl_ca, z_fr_ca, z_al_ca, z_ar_ca, z_ln_ca, z_tg_ca, z_sz_ca, z_sl_ca, y_pi, y_pl, y_pr, y_qi, y_ql, y_qr, y_ca]
    | true =>
      rw [hk, b2_t] at e105
      by_cases z : hoK sw K s (rgo (K s) 4) = nI s
      · rw [decide_eq_true z, b2_t] at e106
        simp [k109, b109_20, b109_86, b109_87, h31, h34, hl3, c, d1, tna, e105, h41, h4n, e106, z, b2, g_i, g_r, g_l, g_o, p_i, p_r, p_l, p_z, c_V, c_I, c_L, c_R, x_out, z_fl_pi, z_fr_pi, z_ai_pi, z_al_pi, z_ar_pi, z_ln_pi, z_tg_pi, z_sz_pi, z_sl_pi, z_fi_pl, z_fr_pl, z_ai_pl, z_al_pl, z_ar_pl, z_ln_pl, z_tg_pl, z_sz_pl, z_sl_pl, z_fi_pr, z_fl_pr, z_ai_pr, z_al_pr, z_ar_pr, z_ln_pr, z_tg_pr, z_sz_pr, z_sl_pr, z_fi_qi, z_fl_qi, z_fr_qi, z_al_qi, z_ar_qi, z_ln_qi, z_tg_qi, z_sz_qi, z_sl_qi, z_fi_ql, z_fl_ql, z_fr_ql, z_ai_ql, z_ar_ql, z_ln_ql, z_tg_ql, z_sz_ql, z_sl_ql, z_fi_qr, z_fl_qr, z_fr_qr, z_ai_qr, z_al_qr, z_ln_qr, z_tg_qr, z_sz_qr, z_sl_qr, z_fi_ca, z_fl_ca, z_fr_ca, z_al_ca, z_ar_ca, z_ln_ca, z_tg_ca, z_sz_ca, z_sl_ca, y_pi, y_pl, y_pr, y_qi, y_ql, y_qr, y_ca]
      · rw [decide_eq_false z, b2_f] at e106
        simp [k109, b109_20, b109_86, b109_87, h31, h34, hl3, c, d1, tna, e105, h41, h4n, e106, z, b2, g_i, g_r, g_l, g_o, p_i, p_r, p_l, p_z, c_V, c_I, c_L, c_R, x_out, z_fl_pi, z_fr_pi, z_ai_pi, z_al_pi, z_ar_pi, z_ln_pi, z_tg_pi, z_sz_pi, z_sl_pi, z_fi_pl, z_fr_pl, z_ai_pl, z_al_pl, z_ar_pl, z_ln_pl, z_tg_pl, z_sz_pl, z_sl_pl, z_fi_pr, z_fl_pr, z_ai_pr, z_al_pr, z_ar_pr, z_ln_pr, z_tg_pr, z_sz_pr, z_sl_pr, z_fi_qi, z_fl_qi, z_fr_qi, z_al_qi, z_ar_qi, z_ln_qi, z_tg_qi, z_sz_qi, z_sl_qi, z_fi_ql, z_fl_ql, z_fr_ql, z_ai_ql, z_ar_ql, z_ln_ql, z_tg_ql, z_sz_ql, z_sl_ql, z_fi_qr, z_fl_qr, z_fr_qr, z_ai_qr, z_al_qr, z_ln_qr, z_tg_qr, z_sz_qr, z_sl_qr, z_fi_ca, z_fl_ca, z_fr_ca, z_al_ca, z_ar_ca, z_ln_ca, z_tg_ca, z_sz_ca, z_sl_ca, y_pi, y_pl, y_pr, y_qi, y_ql, y_qr, y_ca]
  · exact (((aiO.rf.tr a2 (fun x q => Or.inl q) : aiO (pW s sw) M M1).tr b2' (fun x q => Or.inr (Or.inl q))).tr c2 (fun x q => Or.inr (Or.inr (Or.inl q)))).tr d2 (fun x q => Or.inr (Or.inr (Or.inr q)))
end FN
