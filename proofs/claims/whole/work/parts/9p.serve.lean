/-! ===== serve and looks ===== -/
section SV
variable {sw nd rm : Nat} {M M' : hM} {S T : sT} {ia ib : Nat → Nat → Int32} {w t x y z zb sb s p a f τ : Nat} {pe : Nat → Option Nat} {wo : Nat → Nat} {fl fm flc flr : Nat → List (List Int32)} {L X : List Int32} {r : List (List Int32)} {F A G : List Nat} {kR : Nat → rK} {ka : Nat → Nat → Nat} {tog : Nat → Bool}
theorem tru_hf (h : tru sw nd L = true) : hfF sw nd L = true := by
  unfold tru at h
  split at h
  · split at h
    · exact h
    · cases h
  · cases h
theorem tru_1 (h : tru sw nd L = true) (k : bn L 0 = 1) : L.length = 18 ∧ bn L 13 < sw := by
  have := tru_hf h
  unfold hfF at this
  rw [if_pos k] at this
  split at this
  · rename_i q; exact ⟨q, of_decide_eq_true this⟩
  · cases this
theorem tru_2 (h : tru sw nd L = true) (k : bn L 0 = 2) : rcF sw nd L = true := by
  have := tru_hf h
  unfold hfF at this
  rw [k, if_neg (by decide), if_pos rfl] at this
  exact this
theorem tru_5 (h : tru sw nd L = true) (k : bn L 0 = 5) : L.length = 18 ∧ bn L 13 < nd := by
  have := tru_hf h
  unfold hfF at this
  rw [k, if_neg (by decide), if_neg (by decide), if_pos (by decide)] at this
  split at this
  · rename_i q; exact ⟨q, of_decide_eq_true this⟩
  · cases this
theorem bn_k {k : Nat} (hk : k < 256) : (nI (bn L 0) = nI k) = (bn L 0 = k) := propext (nI_eq (by have := bn_lt L 0; omega) (by omega))
theorem P_taken (h : SB sw nd rm M S ia w pe wo t zb sb flc flr [] [(f, L)] kR ka tog) (hss : s < sw) (hp : p < 8) (e : pe (8 * s + p) = some y) (hX : rd M a L) (ha : 1000 ≤ a) (hXs : rdS S f L) (h17 : 17 ≤ L.length) (ht : tru sw nd L = true) (hτ : τ = 16777212 ∨ τ = 16777213 ∨ τ = 16777214) : ∃ M1 S1 ib fmc fmr kR' ka', b137_66 (10 + s) (some (200 + (8 * s + p))) (some a) (nI τ) (nI (bn L 0)) M = b137_174 (10 + s) (some (200 + (8 * s + p))) M1 ∧ e228 (nI s) (nI (8 * s + p)) (nI f) (nI τ) S = some S1 ∧ SB sw nd rm M1 S1 ib w pe wo t zb sb fmc fmr [] [(f, L)] kR' ka' tog ∧ (qx S flc fmc ∧ qx S flr fmr) ∧ i20 M M1 ∧ kp [200, 201, 202, 203, 300, 301, 302, 601, 602, 811, 812, 907, 1010] [0, 20, 21] M M1 ∧ ∀ s', kR' s' s' = kR s' s' ∧ ka' s' s' = ka s' s' := by
  have hI := h.st.I
  have hW := h.st.W
  have hx : sd sw nd (8 * s + p) := sd_sp hss hp
  have hx8 := hI.x8 hx
  have hy8 := hI.x8 (hW.sds e).2.1
  have tp := hI.po0 hx
  have ts := hI.si0 hss
  have e112 := f112_eq hI hW hx
  have e115 := f115_eq hI hW hx
  rw [e] at e112 e115
  have e112 : f112 [.inr (.inr (some (200 + (8 * s + p))))] M = some (some (.inl (b2 (decide (y < 40)))), M) := e112
  have e115 : f115 [.inr (.inr (some (200 + (8 * s + p))))] M = some (some (.inl (b2 (decide (40 ≤ y)))), M) := e115
  have g179 : e179 (nI (8 * s + p)) S = some (ndA pe (8 * s + p), S) := e179_eq hW hx8 (fun y hy => hI.x8 (hW.sds hy).2.1)
  have g0 : e165 (nI f) 0 S = some (nI (bn L 0), S) := r165 (i := 0) hXs (by omega)
  have g13 : e165 (nI f) 13 S = some (nI (bn L 13), S) := r165 (i := 13) hXs (by omega)
  have hbk := h.pb.bk
  have hsw := hI.bs.1.2
  have i1 : nI 1 = (1 : Int32) := rfl
  have i2 : nI 2 = (2 : Int32) := rfl
  have i3 : nI 3 = (3 : Int32) := rfl
  have i5 : nI 5 = (5 : Int32) := rfl
  have b13 := bn_lt L 13
  have q1 : (nI (bn L 0) = 1) = (bn L 0 = 1) := bn_k (k := 1) (by omega)
  have q2 : (nI (bn L 0) = 2) = (bn L 0 = 2) := bn_k (k := 2) (by omega)
  have q3 : (nI (bn L 0) = 3) = (bn L 0 = 3) := bn_k (k := 3) (by omega)
  have q5 : (nI (bn L 0) = 5) = (bn L 0 = 5) := bn_k (k := 5) (by omega)
  -- nothing is done
  have none' : b137_66 (10 + s) (some (200 + (8 * s + p))) (some a) (nI τ) (nI (bn L 0)) M = b137_174 (10 + s) (some (200 + (8 * s + p))) M → c228_0 (nI s) (nI (8 * s + p)) (nI f) (nI τ) S = some (.inl S) → ∃ M1 S1 ib fmc fmr kR' ka', b137_66 (10 + s) (some (200 + (8 * s + p))) (some a) (nI τ) (nI (bn L 0)) M = b137_174 (10 + s) (some (200 + (8 * s + p))) M1 ∧ e228 (nI s) (nI (8 * s + p)) (nI f) (nI τ) S = some S1 ∧ SB sw nd rm M1 S1 ib w pe wo t zb sb fmc fmr [] [(f, L)] kR' ka' tog ∧ (qx S flc fmc ∧ qx S flr fmr) ∧ i20 M M1 ∧ kp [200, 201, 202, 203, 300, 301, 302, 601, 602, 811, 812, 907, 1010] [0, 20, 21] M M1 ∧ ∀ s', kR' s' s' = kR s' s' ∧ ka' s' s' = ka s' s' := fun c1 c2 =>
    ⟨M, S, ia, flc, flr, kR, ka, c1, by unfold e228; rw [c2]; rfl, h, ⟨qx.rf, qx.rf⟩, i20_rf, kp.rf hbk, fun _ => ⟨rfl, rfl⟩⟩
  by_cases cy : y < 40
  · have n1 : ndA pe (8 * s + p) = -1 := by unfold ndA; rw [e]; exact if_neg (by omega)
    rw [n1] at g179
    have e112 : f112 [.inr (.inr (some (200 + (8 * s + p))))] M = some (some (.inl 1), M) := by rw [e112]; simp [b2, cy]
    have e115 : f115 [.inr (.inr (some (200 + (8 * s + p))))] M = some (some (.inl 0), M) := by rw [e115]; simp [b2]; omega
    rcases hτ with rfl | rfl | rfl
    · have t1 : ¬ nI 16777212 = 16777213 := by decide
      have t2 : ¬ nI 16777212 = 16777214 := by decide
      refine none' ?_ ?_
      · by_cases c5 : bn L 0 = 5
        · simp [b137_66, b137_94, b137_122, b137_149, t1, t2, q5, c5, e115, tp, i1, i2, i3, i5, g_i, g_r, g_l, g_o, p_i, p_r, p_l, p_z, c_V, c_I, c_L, c_R, x_out, z_fl_pi, z_fr_pi, z_ai_pi, z_al_pi, z_ar_pi, z_ln_pi, z_tg_pi, z_sz_pi, z_sl_pi, z_fi_pl, z_fr_pl, z_ai_pl, z_al_pl, z_ar_pl, z_ln_pl, z_tg_pl, z_sz_pl, z_sl_pl, z_fi_pr, z_fl_pr, z_ai_pr, z_al_pr, z_ar_pr, z_ln_pr, z_tg_pr, z_sz_pr, z_sl_pr, z_fi_qi, z_fl_qi, z_fr_qi, z_al_qi, z_ar_qi, z_ln_qi, z_tg_qi, z_sz_qi, z_sl_qi, z_fi_ql, z_fl_ql, z_fr_ql, z_ai_ql, z_ar_ql, z_ln_ql, z_tg_ql, z_sz_ql, z_sl_ql, z_fi_qr, z_fl_qr, z_fr_qr, z_ai_qr, z_al_qr, z_ln_qr, z_tg_qr, z_sz_qr, z_sl_qr, z_fi_ca, z_fl_ca, z_fr_ca, z_al_ca, z_ar_ca, z_ln_ca, z_tg_ca, z_sz_ca, z_sl_ca, y_pi, y_pl, y_pr, y_qi, y_ql, y_qr, y_ca]
        · simp [b137_66, b137_94, b137_122, b137_149, t1, t2, q5, c5]
      · simp [c228_0, c228_105, c228_276, c228_360, c228_483, g0, g179, g13, i1, i2, i3, i5, t1, t2]
    · have t1 : nI 16777213 = 16777213 := rfl
      have t2 : ¬ nI 16777213 = 16777214 := by decide
      have t3 : ¬ nI 16777213 = 16777212 := by decide
      by_cases c1 : bn L 0 = 1
      · obtain ⟨l1, l2⟩ := tru_1 ht c1
        obtain ⟨M1, S1, fmc, fmr, j1, j2, j3, j4, j5⟩ := P_hello h hss hx (by omega) e cy hX (by omega) l2 (by simp) (by simp)
        have kM := kf131 j1 hbk
        refine ⟨M1, S1, ia, fmc, fmr, kR, ka, ?_, ?_, j3, ⟨j4, j5⟩, PB_i20 h.pb j3.pb kM, (kp.rf hbk : kp [200, 201, 202, 203, 300, 301, 302, 601, 602, 811, 812, 907, 1010] [0, 20, 21] M M).tr kM rfl rfl, fun _ => ⟨rfl, rfl⟩⟩
        · simp [b137_66, t1, q1, c1, e112, tp, ts, j1, i1, i2, i3, i5, g_i, g_r, g_l, g_o, p_i, p_r, p_l, p_z, c_V, c_I, c_L, c_R, x_out, z_fl_pi, z_fr_pi, z_ai_pi, z_al_pi, z_ar_pi, z_ln_pi, z_tg_pi, z_sz_pi, z_sl_pi, z_fi_pl, z_fr_pl, z_ai_pl, z_al_pl, z_ar_pl, z_ln_pl, z_tg_pl, z_sz_pl, z_sl_pl, z_fi_pr, z_fl_pr, z_ai_pr, z_al_pr, z_ar_pr, z_ln_pr, z_tg_pr, z_sz_pr, z_sl_pr, z_fi_qi, z_fl_qi, z_fr_qi, z_al_qi, z_ar_qi, z_ln_qi, z_tg_qi, z_sz_qi, z_sl_qi, z_fi_ql, z_fl_ql, z_fr_ql, z_ai_ql, z_ar_ql, z_ln_ql, z_tg_ql, z_sz_ql, z_sl_ql, z_fi_qr, z_fl_qr, z_fr_qr, z_ai_qr, z_al_qr, z_ln_qr, z_tg_qr, z_sz_qr, z_sl_qr, z_fi_ca, z_fl_ca, z_fr_ca, z_al_ca, z_ar_ca, z_ln_ca, z_tg_ca, z_sz_ca, z_sl_ca, y_pi, y_pl, y_pr, y_qi, y_ql, y_qr, y_ca]
        · have gs := gs23 (S := S) (v := nI (bn L 13)) hx8
          have : c228_0 (nI s) (nI (8 * s + p)) (nI f) (nI 16777213) S = some (.inr (55, [.inl (nI s), .inl (nI (8 * s + p)), .inl (nI 0)], s_u S 23 (8 * s + p) (nI (bn L 13)))) := by
            have e0 : nI 0 = 0 := rfl
            simp [c228_0, g0, g179, g13, t1, q1, c1, gs, e0, i1]
          unfold e228
          rw [this]
          exact j2
      · by_cases c2 : bn L 0 = 2
        · obtain ⟨M1, S1, ib, fmc, fmr, kR', ka', j1, j2, j3, j4, j5, j6, j7⟩ := P_recd h hss hp hX ha hXs (tru_2 ht c2) h17 (by simp) (by simp)
          have kM := kf130 j1 hbk
          refine ⟨M1, S1, ib, fmc, fmr, kR', ka', ?_, ?_, j3, ⟨j4, j5⟩, j6, (kp.rf hbk : kp [200, 201, 202, 203, 300, 301, 302, 601, 602, 811, 812, 907, 1010] [0, 20, 21] M M).tr kM rfl rfl, j7⟩
          · simp [b137_66, b137_94, t1, q1, q2, c1, c2, e112, tp, ts, j1, i1, i2, i3, i5, g_i, g_r, g_l, g_o, p_i, p_r, p_l, p_z, c_V, c_I, c_L, c_R, x_out, z_fl_pi, z_fr_pi, z_ai_pi, z_al_pi, z_ar_pi, z_ln_pi, z_tg_pi, z_sz_pi, z_sl_pi, z_fi_pl, z_fr_pl, z_ai_pl, z_al_pl, z_ar_pl, z_ln_pl, z_tg_pl, z_sz_pl, z_sl_pl, z_fi_pr, z_fl_pr, z_ai_pr, z_al_pr, z_ar_pr, z_ln_pr, z_tg_pr, z_sz_pr, z_sl_pr, z_fi_qi, z_fl_qi, z_fr_qi, z_al_qi, z_ar_qi, z_ln_qi, z_tg_qi, z_sz_qi, z_sl_qi, z_fi_ql, z_fl_ql, z_fr_ql, z_ai_ql, z_ar_ql, z_ln_ql, z_tg_ql, z_sz_ql, z_sl_ql, z_fi_qr, z_fl_qr, z_fr_qr, z_ai_qr, z_al_qr, z_ln_qr, z_tg_qr, z_sz_qr, z_sl_qr, z_fi_ca, z_fl_ca, z_fr_ca, z_al_ca, z_ar_ca, z_ln_ca, z_tg_ca, z_sz_ca, z_sl_ca, y_pi, y_pl, y_pr, y_qi, y_ql, y_qr, y_ca]
          · have : c228_0 (nI s) (nI (8 * s + p)) (nI f) (nI 16777213) S = c228_105 (nI s) (nI (8 * s + p)) (nI f) 16777213 2 (-1) (nI (bn L 13)) S := by
              have e2 : nI 2 = 2 := rfl
              have c1' : ¬ (2 : Int32) = 1 := by decide
              simp only [c228_0, g0, g179, g13, Option.bind_some, c2, e2, if_neg c1', t1]
            unfold e228
            rw [this]
            exact j2
        · refine none' ?_ ?_
          · simp [b137_66, b137_94, b137_122, b137_149, t1, t2, t3, q1, q2, c1, c2]
          · simp [c228_0, c228_105, c228_276, c228_360, c228_483, g0, g179, g13, i1, i2, i3, i5, t1, t2, t3, q1, q2, c1, c2]
    · have t1 : ¬ nI 16777214 = 16777213 := by decide
      have t2 : nI 16777214 = 16777214 := rfl
      have t3 : ¬ nI 16777214 = 16777212 := by decide
      refine none' ?_ ?_
      · by_cases c3 : bn L 0 = 3
        · simp [b137_66, b137_94, b137_122, b137_149, t1, t2, t3, q3, c3, e115, tp, i1, i2, i3, i5, g_i, g_r, g_l, g_o, p_i, p_r, p_l, p_z, c_V, c_I, c_L, c_R, x_out, z_fl_pi, z_fr_pi, z_ai_pi, z_al_pi, z_ar_pi, z_ln_pi, z_tg_pi, z_sz_pi, z_sl_pi, z_fi_pl, z_fr_pl, z_ai_pl, z_al_pl, z_ar_pl, z_ln_pl, z_tg_pl, z_sz_pl, z_sl_pl, z_fi_pr, z_fl_pr, z_ai_pr, z_al_pr, z_ar_pr, z_ln_pr, z_tg_pr, z_sz_pr, z_sl_pr, z_fi_qi, z_fl_qi, z_fr_qi, z_al_qi, z_ar_qi, z_ln_qi, z_tg_qi, z_sz_qi, z_sl_qi, z_fi_ql, z_fl_ql, z_fr_ql, z_ai_ql, z_ar_ql, z_ln_ql, z_tg_ql, z_sz_ql, z_sl_ql, z_fi_qr, z_fl_qr, z_fr_qr, z_ai_qr, z_al_qr, z_ln_qr, z_tg_qr, z_sz_qr, z_sl_qr, z_fi_ca, z_fl_ca, z_fr_ca, z_al_ca, z_ar_ca, z_ln_ca, z_tg_ca, z_sz_ca, z_sl_ca, y_pi, y_pl, y_pr, y_qi, y_ql, y_qr, y_ca]
        · simp [b137_66, b137_94, b137_122, b137_149, t1, t2, t3, q3, c3]
      · by_cases c3 : bn L 0 = 3
        · simp [c228_0, c228_105, c228_276, c228_360, c228_483, g0, g179, g13, i1, i2, i3, i5, t1, t2, t3, q1, q2, q3, q5, c3]
        · simp [c228_0, c228_105, c228_276, c228_360, c228_483, g0, g179, g13, i1, i2, i3, i5, t1, t2, t3, q1, q2, q3, q5, c3]
  · obtain ⟨n, rfl⟩ : ∃ n, y = 40 + n := ⟨y - 40, by omega⟩
    have n1 : ndA pe (8 * s + p) = nI n := by
      unfold ndA
      rw [e]
      show (if 40 ≤ 40 + n then nI (40 + n - 40) else -1) = _
      rw [if_pos (by omega), show 40 + n - 40 = n by omega]
    rw [n1] at g179
    have nm : ¬ nI n = -1 := nI_m1 (by omega)
    have e112 : f112 [.inr (.inr (some (200 + (8 * s + p))))] M = some (some (.inl 0), M) := by rw [e112]; simp [b2]
    have e115 : f115 [.inr (.inr (some (200 + (8 * s + p))))] M = some (some (.inl 1), M) := by rw [e115]; simp [b2]
    rcases hτ with rfl | rfl | rfl
    · have t1 : ¬ nI 16777212 = 16777213 := by decide
      have t2 : ¬ nI 16777212 = 16777214 := by decide
      have t3 : nI 16777212 = 16777212 := rfl
      by_cases c5 : bn L 0 = 5
      · obtain ⟨l1, l2⟩ := tru_5 ht c5
        obtain ⟨M1, S1, fmc, fmr, j1, j2, j3, j4, j5⟩ := P_ask h hss hp e hX hXs (by omega) l2 (by simp) (by simp)
        have kM := kf128 j1 hbk
        refine ⟨M1, S1, ia, fmc, fmr, kR, ka, ?_, ?_, j3, ⟨j4, j5⟩, PB_i20 h.pb j3.pb kM, (kp.rf hbk : kp [200, 201, 202, 203, 300, 301, 302, 601, 602, 811, 812, 907, 1010] [0, 20, 21] M M).tr kM rfl rfl, fun _ => ⟨rfl, rfl⟩⟩
        · simp [b137_66, b137_94, b137_122, b137_149, t1, t2, t3, q5, c5, e115, tp, ts, j1, i1, i2, i3, i5, g_i, g_r, g_l, g_o, p_i, p_r, p_l, p_z, c_V, c_I, c_L, c_R, x_out, z_fl_pi, z_fr_pi, z_ai_pi, z_al_pi, z_ar_pi, z_ln_pi, z_tg_pi, z_sz_pi, z_sl_pi, z_fi_pl, z_fr_pl, z_ai_pl, z_al_pl, z_ar_pl, z_ln_pl, z_tg_pl, z_sz_pl, z_sl_pl, z_fi_pr, z_fl_pr, z_ai_pr, z_al_pr, z_ar_pr, z_ln_pr, z_tg_pr, z_sz_pr, z_sl_pr, z_fi_qi, z_fl_qi, z_fr_qi, z_al_qi, z_ar_qi, z_ln_qi, z_tg_qi, z_sz_qi, z_sl_qi, z_fi_ql, z_fl_ql, z_fr_ql, z_ai_ql, z_ar_ql, z_ln_ql, z_tg_ql, z_sz_ql, z_sl_ql, z_fi_qr, z_fl_qr, z_fr_qr, z_ai_qr, z_al_qr, z_ln_qr, z_tg_qr, z_sz_qr, z_sl_qr, z_fi_ca, z_fl_ca, z_fr_ca, z_al_ca, z_ar_ca, z_ln_ca, z_tg_ca, z_sz_ca, z_sl_ca, y_pi, y_pl, y_pr, y_qi, y_ql, y_qr, y_ca]
        · have : c228_0 (nI s) (nI (8 * s + p)) (nI f) (nI 16777212) S = c228_360 (nI s) (nI (8 * s + p)) (nI f) 16777212 5 (nI n) (nI (bn L 13)) S := by
            have e5 : nI 5 = 5 := rfl
            have c1 : ¬ (5 : Int32) = 1 := by decide
            have c2 : ¬ (5 : Int32) = 2 := by decide
            have c3 : ¬ (5 : Int32) = 3 := by decide
            simp only [c228_0, c228_105, c228_276, g0, g179, g13, Option.bind_some, c5, e5, if_neg c1, if_neg c2, if_neg c3, t3]
          unfold e228
          rw [this, j2]
          rfl
      · refine none' ?_ ?_
        · simp [b137_66, b137_94, b137_122, b137_149, t1, t2, t3, q5, c5]
        · simp [c228_0, c228_105, c228_276, c228_360, c228_483, g0, g179, g13, i1, i2, i3, i5, t1, t2, t3, q5, c5]
    · have t1 : nI 16777213 = 16777213 := rfl
      have t2 : ¬ nI 16777213 = 16777214 := by decide
      have t3 : ¬ nI 16777213 = 16777212 := by decide
      refine none' ?_ ?_
      · by_cases c1 : bn L 0 = 1
        · simp [b137_66, b137_94, b137_122, b137_149, t1, t2, t3, q1, q2, c1, e112, tp, i1, i2, i3, i5, g_i, g_r, g_l, g_o, p_i, p_r, p_l, p_z, c_V, c_I, c_L, c_R, x_out, z_fl_pi, z_fr_pi, z_ai_pi, z_al_pi, z_ar_pi, z_ln_pi, z_tg_pi, z_sz_pi, z_sl_pi, z_fi_pl, z_fr_pl, z_ai_pl, z_al_pl, z_ar_pl, z_ln_pl, z_tg_pl, z_sz_pl, z_sl_pl, z_fi_pr, z_fl_pr, z_ai_pr, z_al_pr, z_ar_pr, z_ln_pr, z_tg_pr, z_sz_pr, z_sl_pr, z_fi_qi, z_fl_qi, z_fr_qi, z_al_qi, z_ar_qi, z_ln_qi, z_tg_qi, z_sz_qi, z_sl_qi, z_fi_ql, z_fl_ql, z_fr_ql, z_ai_ql, z_ar_ql, z_ln_ql, z_tg_ql, z_sz_ql, z_sl_ql, z_fi_qr, z_fl_qr, z_fr_qr, z_ai_qr, z_al_qr, z_ln_qr, z_tg_qr, z_sz_qr, z_sl_qr, z_fi_ca, z_fl_ca, z_fr_ca, z_al_ca, z_ar_ca, z_ln_ca, z_tg_ca, z_sz_ca, z_sl_ca, y_pi, y_pl, y_pr, y_qi, y_ql, y_qr, y_ca]
        · by_cases c2 : bn L 0 = 2
          · simp [b137_66, b137_94, b137_122, b137_149, t1, t2, t3, q1, q2, c2, e112, tp, i1, i2, i3, i5, g_i, g_r, g_l, g_o, p_i, p_r, p_l, p_z, c_V, c_I, c_L, c_R, x_out, z_fl_pi, z_fr_pi, z_ai_pi, z_al_pi, z_ar_pi, z_ln_pi, z_tg_pi, z_sz_pi, z_sl_pi, z_fi_pl, z_fr_pl, z_ai_pl, z_al_pl, z_ar_pl, z_ln_pl, z_tg_pl, z_sz_pl, z_sl_pl, z_fi_pr, z_fl_pr, z_ai_pr, z_al_pr, z_ar_pr, z_ln_pr, z_tg_pr, z_sz_pr, z_sl_pr, z_fi_qi, z_fl_qi, z_fr_qi, z_al_qi, z_ar_qi, z_ln_qi, z_tg_qi, z_sz_qi, z_sl_qi, z_fi_ql, z_fl_ql, z_fr_ql, z_ai_ql, z_ar_ql, z_ln_ql, z_tg_ql, z_sz_ql, z_sl_ql, z_fi_qr, z_fl_qr, z_fr_qr, z_ai_qr, z_al_qr, z_ln_qr, z_tg_qr, z_sz_qr, z_sl_qr, z_fi_ca, z_fl_ca, z_fr_ca, z_al_ca, z_ar_ca, z_ln_ca, z_tg_ca, z_sz_ca, z_sl_ca, y_pi, y_pl, y_pr, y_qi, y_ql, y_qr, y_ca]
          · simp [b137_66, b137_94, b137_122, b137_149, t1, t2, t3, q1, q2, c1, c2]
      · simp [c228_0, c228_105, c228_276, c228_360, c228_483, g0, g179, g13, i1, i2, i3, i5, t1, t2, t3, nm]
    · have t1 : ¬ nI 16777214 = 16777213 := by decide
      have t2 : nI 16777214 = 16777214 := rfl
      have t3 : ¬ nI 16777214 = 16777212 := by decide
      by_cases c3 : bn L 0 = 3
      · obtain ⟨M1, S1, fmc, fmr, j1, j2, j3, j4, j5⟩ := P_flogi (v3 := nI f) (v7 := nI (bn L 13)) h hss hp e (by simp) (by simp)
        have kM := kf129 j1 hbk
        refine ⟨M1, S1, ia, fmc, fmr, kR, ka, ?_, ?_, j3, ⟨j4, j5⟩, PB_i20 h.pb j3.pb kM, (kp.rf hbk : kp [200, 201, 202, 203, 300, 301, 302, 601, 602, 811, 812, 907, 1010] [0, 20, 21] M M).tr kM rfl rfl, fun _ => ⟨rfl, rfl⟩⟩
        · simp [b137_66, b137_94, b137_122, t1, t2, q3, c3, e115, tp, ts, j1, i1, i2, i3, i5, g_i, g_r, g_l, g_o, p_i, p_r, p_l, p_z, c_V, c_I, c_L, c_R, x_out, z_fl_pi, z_fr_pi, z_ai_pi, z_al_pi, z_ar_pi, z_ln_pi, z_tg_pi, z_sz_pi, z_sl_pi, z_fi_pl, z_fr_pl, z_ai_pl, z_al_pl, z_ar_pl, z_ln_pl, z_tg_pl, z_sz_pl, z_sl_pl, z_fi_pr, z_fl_pr, z_ai_pr, z_al_pr, z_ar_pr, z_ln_pr, z_tg_pr, z_sz_pr, z_sl_pr, z_fi_qi, z_fl_qi, z_fr_qi, z_al_qi, z_ar_qi, z_ln_qi, z_tg_qi, z_sz_qi, z_sl_qi, z_fi_ql, z_fl_ql, z_fr_ql, z_ai_ql, z_ar_ql, z_ln_ql, z_tg_ql, z_sz_ql, z_sl_ql, z_fi_qr, z_fl_qr, z_fr_qr, z_ai_qr, z_al_qr, z_ln_qr, z_tg_qr, z_sz_qr, z_sl_qr, z_fi_ca, z_fl_ca, z_fr_ca, z_al_ca, z_ar_ca, z_ln_ca, z_tg_ca, z_sz_ca, z_sl_ca, y_pi, y_pl, y_pr, y_qi, y_ql, y_qr, y_ca]
        · have : c228_0 (nI s) (nI (8 * s + p)) (nI f) (nI 16777214) S = c228_276 (nI s) (nI (8 * s + p)) (nI f) 16777214 3 (nI n) (nI (bn L 13)) S := by
            have e3 : nI 3 = 3 := rfl
            have c1 : ¬ (3 : Int32) = 1 := by decide
            have c2 : ¬ (3 : Int32) = 2 := by decide
            simp only [c228_0, c228_105, g0, g179, g13, Option.bind_some, c3, e3, if_neg c1, if_neg c2, t2]
          unfold e228
          rw [this, j2]
          rfl
      · refine none' ?_ ?_
        · simp [b137_66, b137_94, b137_122, b137_149, t1, t2, t3, q3, c3]
        · simp [c228_0, c228_105, c228_276, c228_360, c228_483, g0, g179, g13, i1, i2, i3, i5, t1, t2, t3, q3, c3]
end SV
