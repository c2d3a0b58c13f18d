/-! ===== takeRecord, both sides ===== -/
section TR
variable {sw nd rm : Nat} {M M' : hM} {S T : sT} {ia : Nat → Nat → Int32} {w t zb sb : Nat} {pe : Nat → Option Nat} {wo : Nat → Nat} {flc flr fmc fmr : Nat → List (List Int32)} {hc : List (Nat × Int32 × List Int32)} {hs : List (Nat × List Int32)} {kR : Nat → rK} {ka : Nat → Nat → Nat} {tog : Nat → Bool} {s p x y n o na a f : Nat} {X : List Int32}
theorem k130_loop (hI : cI sw nd rm M) (hst : h_tg M na = 7 ∧ h_fr M 600 na = some (na + 40) ∧ h_tg M (na + 40) = 21 ∧ h_ln M (na + 40) = 31) (hna : na + 40 < 1000) (hX : rd M a X) (ha : 1000 ≤ a) (h17 : 17 ≤ X.length) {o1 : Option Nat} : ∀ d k N fuel, noO na M N → h_fi N 601 na = nI k → (∀ i, i < k → h_ai N (na + 40) i = (Int32.toInt8 (nI (bn X (13 + i)))).toInt32) → k + d = X.length - 17 → d < fuel → ∃ N', drive k130 fuel 64 [.inr (.inr (some (10 + s))), .inr (.inr o1), .inr (.inr (some a)), .inr (.inr (some na)), .inl (nI k)] N = drive k130 (fuel - d) 64 [.inr (.inr (some (10 + s))), .inr (.inr o1), .inr (.inr (some a)), .inr (.inr (some na)), .inl (nI (X.length - 17))] N' ∧ noO na M N' ∧ h_fi N' 601 na = nI (X.length - 17) ∧ ∀ i, i < X.length - 17 → h_ai N' (na + 40) i = (Int32.toInt8 (nI (bn X (13 + i)))).toInt32
  | 0, k, N, fuel, hn, hk, hb, hd, hf => by
    have : k = X.length - 17 := by omega
    subst this
    exact ⟨N, rfl, hn, hk, hb⟩
  | d + 1, k, N, fuel, hn, hk, hb, hd, hf => by
    obtain ⟨g, rfl⟩ : ∃ g, fuel = g + 1 := ⟨fuel - 1, by omega⟩
    have hXN := hn.rd hX ha hna
    have h48 := hX.2.2.1
    have hstN : h_tg N na = 7 ∧ h_fr N 600 na = some (na + 40) ∧ h_tg N (na + 40) = 21 ∧ h_ln N (na + 40) = 31 := by
      rw [hn.2.1.2.1, hn.1.2.1, hn.2.1.1]; exact hst
    have t3 := hXN.1.1
    have hz := hXN.2.1
    have x1 : nI X.length - 13 = nI (X.length - 13) := pk_sub (b := 13) (by omega)
    have x2 : nI (X.length - 13) - 4 = nI (X.length - 17) := by rw [show (4 : Int32) = nI 4 from rfl, pk_sub (by omega)]; congr 1
    have c : ¬ nI (X.length - 17) ≤ nI k := nI_ge (by omega) (by omega)
    have e58 := f58_eq (i := k) hXN (by omega)
    have e114 := f114_eq (v := bn X (13 + k)) hstN hk (by omega)
    have t7 := hstN.1
    have hb' : k130 64 [.inr (.inr (some (10 + s))), .inr (.inr o1), .inr (.inr (some a)), .inr (.inr (some na)), .inl (nI k)] N = some (.inr (64, [.inr (.inr (some (10 + s))), .inr (.inr o1), .inr (.inr (some a)), .inr (.inr (some na)), .inl (nI (k + 1))], h_pi (h_qi N (na + 40) k (Int32.toInt8 (nI (bn X (13 + k)))).toInt32) 601 na (nI (k + 1)))) := by
      simp [k130, b130_64, t3, hz, x1, x2, c, e58, t7, e114, nI_1, g_i, g_r, g_l, g_o, p_i, p_r, p_l, p_z, c_V, c_I, c_L, c_R, x_out, z_fl_pi, z_fr_pi, z_ai_pi, z_al_pi, z_ar_pi, z_ln_pi, z_tg_pi, z_sz_pi, z_sl_pi, z_fi_pl, z_fr_pl, z_ai_pl, z_al_pl, z_ar_pl, z_ln_pl, z_tg_pl, z_sz_pl, z_sl_pl, z_fi_pr, z_fl_pr, z_ai_pr, z_al_pr, z_ar_pr, z_ln_pr, z_tg_pr, z_sz_pr, z_sl_pr, z_fi_qi, z_fl_qi, z_fr_qi, z_al_qi, z_ar_qi, z_ln_qi, z_tg_qi, z_sz_qi, z_sl_qi, z_fi_ql, z_fl_ql, z_fr_ql, z_ai_ql, z_ar_ql, z_ln_ql, z_tg_ql, z_sz_ql, z_sl_ql, z_fi_qr, z_fl_qr, z_fr_qr, z_ai_qr, z_al_qr, z_ln_qr, z_tg_qr, z_sz_qr, z_sl_qr, z_fi_ca, z_fl_ca, z_fr_ca, z_al_ca, z_ar_ca, z_ln_ca, z_tg_ca, z_sz_ca, z_sl_ca, y_pi, y_pl, y_pr, y_qi, y_ql, y_qr, y_ca]
    obtain ⟨N', j1, j2⟩ := k130_loop hI hst hna hX ha h17 d (k + 1) _ g (hn.tr (noO_q.tr noO_1)) (by rw [fi_eq, u1_eq]) (fun i hi => by
      show h_ai (h_qi N (na + 40) k (Int32.toInt8 (nI (bn X (13 + k)))).toInt32) (na + 40) i = _
      by_cases z : i = k
      · subst z; rw [qi_eq]
      · rw [qi_ne z]; exact hb i (by omega)) (by omega) (by omega)
    refine ⟨N', ?_, j2⟩
    rw [dr_go hb']
    show drive k130 g 64 _ _ = _
    rw [j1, show g + 1 - (d + 1) = g - d by omega]
theorem k228_loop (hs5 : s < 5) (ho5 : o < 5) (h17 : 17 ≤ X.length) (h48 : X.length ≤ 48) : ∀ d k S fuel, rdS S f X → k + d = X.length - 17 → d < fuel → ∃ T, sdrive kS228 fuel 218 [.inl (nI s), .inl (nI x), .inl (nI f), .inl (nI o), .inl (nI k)] S = sdrive kS228 (fuel - d) 218 [.inl (nI s), .inl (nI x), .inl (nI f), .inl (nI o), .inl (nI (X.length - 17))] T ∧ ks [29] S T ∧ (∀ i, k ≤ i → i < X.length - 17 → T.1 29 (64 * (5 * s + o) + i) = nI (bn X (13 + i))) ∧ ∀ j, (j < 64 * (5 * s + o) + k ∨ 64 * (5 * s + o) + 64 ≤ j) → T.1 29 j = S.1 29 j
  | 0, k, S, fuel, hX, hd, hf => by
    have : k = X.length - 17 := by omega
    subst this
    exact ⟨S, rfl, ks.rf, fun i h1 h2 => by omega, fun _ _ => rfl⟩
  | d + 1, k, S, fuel, hX, hd, hf => by
    obtain ⟨g, rfl⟩ : ∃ g, fuel = g + 1 := ⟨fuel - 1, by omega⟩
    have g7 : s_a S 7 (nI f) = some (nI X.length) := by rw [ga7 hX.1, hX.2.1]
    have x17 : nI X.length - 17 = nI (X.length - 17) := pk_sub (b := 17) (by omega)
    have c : ¬ nI (X.length - 17) ≤ nI k := nI_ge (by omega) (by omega)
    have e165' := r165 (i := 13 + k) hX (by omega)
    have x1 : nI (5 * s) + nI o = nI (5 * s + o) := nI_add _ _
    have x2 : nI (64 * (5 * s + o)) + nI k = nI (64 * (5 * s + o) + k) := nI_add _ _
    have i1 : 64 * (5 * s + o) + k < 1600 := by omega
    have hb' : kS228 218 [.inl (nI s), .inl (nI x), .inl (nI f), .inl (nI o), .inl (nI k)] S = some (.inr (218, [.inl (nI s), .inl (nI x), .inl (nI f), .inl (nI o), .inl (nI (k + 1))], s_u S 29 (64 * (5 * s + o) + k) (nI (bn X (13 + k))))) := by
      simp [kS228, c228_218, g7, x17, c, ixb13, e165', ixl5, x1, ixl64, x2, gs29 i1, nI_1]
    have k1 : ks [29] S (s_u S 29 (64 * (5 * s + o) + k) (nI (bn X (13 + k)))) := k_su
    have hX' : rdS (s_u S 29 (64 * (5 * s + o) + k) (nI (bn X (13 + k)))) f X := by
      obtain ⟨a1, a2, a3, a4⟩ := hX
      refine ⟨a1, by rw [su_ne (by decide)]; exact a2, a3, ?_⟩
      rw [← a4]
      unfold frl fB
      rw [su_ne (by decide), su_ne (by decide)]
    obtain ⟨T, j1, j2, j3, j4⟩ := k228_loop hs5 ho5 h17 h48 d (k + 1) _ g hX' (by omega) (by omega)
    refine ⟨T, ?_, k1.tt j2 (fun _ q => q), fun i q1 q2 => ?_, fun j q => ?_⟩
    · rw [sd_go hb']
      show sdrive kS228 g 218 _ _ = _
      rw [j1, show g + 1 - (d + 1) = g - d by omega]
    · by_cases z : i = k
      · subst z; rw [j4 _ (by omega), su_eq, u1_eq]
      · exact j3 i (by omega) q2
    · rw [j4 j (by omega), su_eq, u1_ne (by omega)]
/-- takeRecord -/
theorem P_recd (h : SB sw nd rm M S ia w pe wo t zb sb flc flr hc hs kR ka tog) (hss : s < sw) (hp : p < 8) (hX : rd M a X) (ha : 1000 ≤ a) (hXs : rdS S f X) (hrc : rcF sw nd X = true) (h17 : 17 ≤ X.length) (hh : hc.length ≤ 3) (hh2 : hs.length ≤ 3) : ∃ M' S' ib fmc fmr kR' ka', f130 [.inr (.inr (some (10 + s))), .inr (.inr (some (200 + (8 * s + p)))), .inr (.inr (some a))] M = some (none, M') ∧ s_go kS228 (c228_105 (nI s) (nI (8 * s + p)) (nI f) 16777213 2 (-1) (nI (bn X 13)) S) = some S' ∧ SB sw nd rm M' S' ib w pe wo t zb sb fmc fmr hc hs kR' ka' tog ∧ qx S flc fmc ∧ qx S flr fmr ∧ i20 M M' ∧ ∀ s', kR' s' s' = kR s' s' ∧ ka' s' s' = ka s' s' := by
  have hI := h.st.I
  have hsw := hI.bs.1.2
  have h48 := hX.2.2.1
  have ok := rOK_ld hrc h17 h48
  obtain ⟨ff1, ff2, ff3, ff4, ff5⟩ := ok.f (by omega)
  rw [ld_len] at ff1
  have eo : (ldN X).getD 0 0 = bn X 13 := ld_get (i := 0) (by omega)
  rw [eo] at ff3
  have rc := h.rc hss
  have h1 := hI.si0 hss
  have h4 := hI.si4 hss
  have h2 := hI.si2 hss
  have hl := ln_n hI hss
  have t3 := hX.1.1
  have e58 : f58 [.inr (.inr (some a)), .inl 0] M = some (some (.inl (nI (bn X 13))), M) := f58_eq (i := 0) hX (by omega)
  have e56 : f56 [.inr (.inr (some a)), .inl 14, .inl 3] M = some (some (.inr (.inl (num8 X 14 3))), M) := f56_eq (i := 14) (n := 3) hX (by omega)
  have n32 : (num8 X 14 3).toInt32 = num X 14 3 := num8_32
  have e166 : e166 (nI f) 14 3 S = some (num X 14 3, S) := r166 (i := 14) (n := 3) hXs (by omega)
  have c1 : ¬ nI sw ≤ nI (bn X 13) := nI_ge ff3 (by omega)
  by_cases z : bn X 13 = s
  · refine ⟨M, S, ia, flc, flr, kR, ka, ?_, ?_, h, qx.rf, qx.rf, i20_rf, fun _ => ⟨rfl, rfl⟩⟩
    · have z' : nI (bn X 13) = nI s := by rw [z]
      show x_go k130 (b130_0 (10 + s) (some (200 + (8 * s + p))) (some a) M) = _
      have : b130_0 (10 + s) (some (200 + (8 * s + p))) (some a) M = some (.inl (none, M)) := by
        simp [b130_0, b130_47, t3, e58, e56, h1, h4, hl, c1, h2, z', g_i, g_r, g_l, g_o, p_i, p_r, p_l, p_z, c_V, c_I, c_L, c_R, x_out, z_fl_pi, z_fr_pi, z_ai_pi, z_al_pi, z_ar_pi, z_ln_pi, z_tg_pi, z_sz_pi, z_sl_pi, z_fi_pl, z_fr_pl, z_ai_pl, z_al_pl, z_ar_pl, z_ln_pl, z_tg_pl, z_sz_pl, z_sl_pl, z_fi_pr, z_fl_pr, z_ai_pr, z_al_pr, z_ar_pr, z_ln_pr, z_tg_pr, z_sz_pr, z_sl_pr, z_fi_qi, z_fl_qi, z_fr_qi, z_al_qi, z_ar_qi, z_ln_qi, z_tg_qi, z_sz_qi, z_sl_qi, z_fi_ql, z_fl_ql, z_fr_ql, z_ai_ql, z_ar_ql, z_ln_ql, z_tg_ql, z_sz_ql, z_sl_ql, z_fi_qr, z_fl_qr, z_fr_qr, z_ai_qr, z_al_qr, z_ln_qr, z_tg_qr, z_sz_qr, z_sl_qr, z_fi_ca, z_fl_ca, z_fr_ca, z_al_ca, z_ar_ca, z_ln_ca, z_tg_ca, z_sz_ca, z_sl_ca, y_pi, y_pl, y_pr, y_qi, y_ql, y_qr, y_ca]
      rw [this]; rfl
    · have : c228_105 (nI s) (nI (8 * s + p)) (nI f) 16777213 2 (-1) (nI (bn X 13)) S = some (.inl S) := by
        rw [z]
        simp [c228_105, c228_167]
      rw [this]; rfl
  have z' : ¬ nI (bn X 13) = nI s := fun q => z ((nI_eq (by omega) (by omega)).mp q)
  obtain ⟨a1, a2, a3⟩ := rc.1 (bn X 13) ff3
  have hj := nJ_lt (tg := tog s) (s := s) ff3 hsw
  have hna := not_a hI hss ff3 a1
  have t7 := a2.1.1
  have e118 := f118_eq a2
  have e27' : s_a S 27 (5 * nI s + nI (bn X 13)) = some (S.1 27 (5 * s + bn X 13)) := e27 (by omega) (by omega)
  have hK := rc.2.2.1 (bn X 13) (by omega)
  -- the reference's road to the comparison
  have toCmp : c228_105 (nI s) (nI (8 * s + p)) (nI f) 16777213 2 (-1) (nI (bn X 13)) S = c228_164 (nI s) (nI (8 * s + p)) (nI f) (nI (bn X 13)) (isK (kR s (bn X 13))) (num X 14 3) S := by
    cases hL : kR s (bn X 13) with
    | none =>
      rw [hL] at hK
      have hK : S.1 27 (5 * s + bn X 13) = 0 := hK
      rw [hK] at e27'
      have e0 : isK none = 0 := by decide
      rw [e0]
      simp [c228_105, z', e166, e27']
    | some L =>
      rw [hL] at hK
      obtain ⟨hK1, -⟩ := hK
      rw [hK1] at e27'
      have okL := (rc.2.2.2.1 _ L hL).2
      have e191 := e191_eq (s := s) (r := bn X 13) (by omega) (by omega) rc.2.2.1 hL (okL.f (by omega)).1 okL.2.1
      rw [hL] at e191
      simp [c228_105, z', e166, e27', e191]
  by_cases ci : isK (kR s (bn X 13)) < num X 14 3
  · -- the record is taken
    have hnj : nj sw (nJ (tog s) s (bn X 13)) := by unfold nj nJ; split <;> omega
    have hst : h_tg M (400 + (6 * s + nJ (tog s) s (bn X 13))) = 7 ∧ h_fr M 600 (400 + (6 * s + nJ (tog s) s (bn X 13))) = some (400 + (6 * s + nJ (tog s) s (bn X 13)) + 40) ∧ h_tg M (400 + (6 * s + nJ (tog s) s (bn X 13)) + 40) = 21 ∧ h_ln M (400 + (6 * s + nJ (tog s) s (bn X 13)) + 40) = 31 := a2.1
    obtain ⟨N, b1, b2', b3, b4⟩ := k130_loop (s := s) (o1 := some (200 + (8 * s + p))) hI hst (by omega) hX ha h17 (X.length - 17) 0 (h_pi M 601 (400 + (6 * s + nJ (tog s) s (bn X 13))) 0) xF noO_1 (by rw [fi_eq, u1_eq]; rfl) (fun i hi => by omega) (by omega) (by unfold xF; omega)
    have ht3 := h.st.2.2.2.1.1
    have nt2 : nt1 (h_pi N 602 (400 + (6 * s + nJ (tog s) s (bn X 13))) (nI t)) (400 + (6 * s + nJ (tog s) s (bn X 13))) (some (ldN X)) := by
      refine ⟨?_, ?_, ?_, ?_, fun i hi => ?_⟩
      · show h_tg N _ = 7 ∧ h_fr N 600 _ = _ ∧ h_tg N _ = 21 ∧ h_ln N _ = 31
        rw [b2'.2.1.2.1, b2'.1.2.1, b2'.2.1.1]
        exact hst
      · rw [fi_ne (by decide), ld_len]; exact b3
      · rw [ld_len]; omega
      · exact ok.2.1
      · rw [ld_len] at hi
        rw [ld_get hi]
        exact ⟨by rw [show h_ai (h_pi N 602 (400 + (6 * s + nJ (tog s) s (bn X 13))) (nI t)) = h_ai N from rfl, b4 i hi]; exact i8b _ (bn_lt _ _), bn_lt _ _, b4 i hi⟩
    -- the reference's
    have x1 : nI (5 * s) + nI (bn X 13) = nI (5 * s + bn X 13) := nI_add _ _
    have i25 : 5 * s + bn X 13 < 25 := by omega
    have x17 : nI X.length - 17 = nI (X.length - 17) := pk_sub (b := 17) (by omega)
    have ht : S.1 3 0 = nI t := h.st.2.2.2.1.2.1
    let S1 := s_u S 27 (5 * s + bn X 13) 1
    let S2 := s_u S1 28 (5 * s + bn X 13) (nI t)
    let S3 := s_u S2 30 (5 * s + bn X 13) (nI (X.length - 17))
    have kS3 : ks [27, 28, 29, 30] S S3 := ((ks.rf.tr k_su rfl : ks [27, 28, 29, 30] S S1).tr k_su rfl).tr k_su rfl
    have hX3 : rdS S3 f X := by
      obtain ⟨c1, c2, c3, c4⟩ := hXs
      refine ⟨c1, by rw [kS3.i (by decide)]; exact c2, c3, ?_⟩
      rw [← c4]
      unfold frl fB
      rw [kS3.i (show [27, 28, 29, 30].contains 7 = false by decide), kS3.i (show [27, 28, 29, 30].contains 6 = false by decide)]
    have g164 : c228_164 (nI s) (nI (8 * s + p)) (nI f) (nI (bn X 13)) (isK (kR s (bn X 13))) (num X 14 3) S = some (.inr (218, [.inl (nI s), .inl (nI (8 * s + p)), .inl (nI f), .inl (nI (bn X 13)), .inl (nI 0)], S3)) := by
      have g3 : s_g S1 3 = nI t := by
        show S1.1 3 0 = nI t
        show (s_u S 27 (5 * s + bn X 13) 1).1 3 0 = nI t
        rw [su_ne (by decide)]; exact ht
      have g7 : s_a S2 7 (nI f) = some (nI X.length) := by
        rw [ga7 hXs.1]
        show some ((s_u (s_u S 27 (5 * s + bn X 13) 1) 28 (5 * s + bn X 13) (nI t)).1 7 f) = _
        rw [su_ne (by decide), su_ne (by decide), hXs.2.1]
      unfold c228_164
      rw [if_pos ci, ixl5, x1, bd_s (gs27_1 i25)]
      show Option.bind (s_s S1 28 (nI (5 * s + bn X 13)) (s_g S1 3)) _ = _
      rw [g3, bd_s (gs28 i25)]
      show Option.bind (s_a S2 7 (nI f)) _ = _
      rw [bd_s g7, x17, bd_s (gs30 i25)]
      rfl
    obtain ⟨T, t1, t2, t4, t5⟩ := k228_loop (x := 8 * s + p) (o := bn X 13) (s := s) (by omega) (by omega) h17 h48 (X.length - 17) 0 S3 xF hX3 (by omega) (by unfold xF; omega)
    have kT : ks [27, 28, 29, 30] S T := kS3.tr t2 rfl
    have T27 : T.1 27 = u1 (S.1 27) (5 * s + bn X 13) 1 := by
      rw [t2.i (by decide)]
      show (s_u (s_u (s_u S 27 (5 * s + bn X 13) 1) 28 (5 * s + bn X 13) (nI t)) 30 (5 * s + bn X 13) (nI (X.length - 17))).1 27 = _
      rw [su_ne (by decide), su_ne (by decide), su_eq]
    have T28 : T.1 28 = u1 (S.1 28) (5 * s + bn X 13) (nI t) := by
      rw [t2.i (by decide)]
      show (s_u (s_u (s_u S 27 (5 * s + bn X 13) 1) 28 (5 * s + bn X 13) (nI t)) 30 (5 * s + bn X 13) (nI (X.length - 17))).1 28 = _
      rw [su_ne (by decide), su_eq, su_ne (by decide)]
    have T30 : T.1 30 = u1 (S.1 30) (5 * s + bn X 13) (nI (X.length - 17)) := by
      rw [t2.i (by decide)]
      show (s_u (s_u (s_u S 27 (5 * s + bn X 13) 1) 28 (5 * s + bn X 13) (nI t)) 30 (5 * s + bn X 13) (nI (X.length - 17))).1 30 = _
      rw [su_eq, su_ne (by decide), su_ne (by decide)]
    have T29 : ∀ j, (j < 64 * (5 * s + bn X 13) ∨ 64 * (5 * s + bn X 13) + 64 ≤ j) → T.1 29 j = S.1 29 j := fun j q => by
      rw [t5 j (by omega)]
      show (s_u (s_u (s_u S 27 (5 * s + bn X 13) 1) 28 (5 * s + bn X 13) (nI t)) 30 (5 * s + bn X 13) (nI (X.length - 17))).1 29 j = _
      rw [su_ne (by decide), su_ne (by decide), su_ne (by decide)]
    have oth : ∀ s' r, s' < sw → r < 5 → ¬ (s' = s ∧ r = bn X 13) → ∀ o' : Option (List Nat), (match o' with | none => S.1 27 (5 * s' + r) = 0 | some L => S.1 27 (5 * s' + r) = 1 ∧ S.1 30 (5 * s' + r) = nI L.length ∧ ∀ i, i < L.length → S.1 29 (64 * (5 * s' + r) + i) = nI (L.getD i 0)) → (∀ L, o' = some L → L.length ≤ 31) → (match o' with | none => T.1 27 (5 * s' + r) = 0 | some L => T.1 27 (5 * s' + r) = 1 ∧ T.1 30 (5 * s' + r) = nI L.length ∧ ∀ i, i < L.length → T.1 29 (64 * (5 * s' + r) + i) = nI (L.getD i 0)) := fun s' r hs' hr hne o' ho' hl31 => by
      have hix : 5 * s' + r ≠ 5 * s + bn X 13 := by omega
      cases o' with
      | none =>
        show T.1 27 (5 * s' + r) = 0
        rw [T27, u1_ne hix]; exact ho'
      | some L =>
        have := hl31 L rfl
        obtain ⟨q1, q2, q3⟩ := ho'
        refine ⟨by rw [T27, u1_ne hix]; exact q1, by rw [T30, u1_ne hix]; exact q2, fun i hi => ?_⟩
        rw [T29 _ (by omega)]
        exact q3 i hi
    have hrT : rkS T s (u1 (kR s) (bn X 13) (some (ldN X))) := fun r hr => by
      by_cases q : r = bn X 13
      · subst q
        rw [u1_eq]
        refine ⟨by rw [T27, u1_eq], by rw [T30, u1_eq, ld_len], fun i hi => ?_⟩
        rw [ld_len] at hi
        rw [t4 i (by omega) hi, ld_get hi]
      · rw [u1_ne q]
        exact oth s r hss hr (fun z => q z.2) _ (rc.2.2.1 r hr) (fun L hL => (rc.2.2.2.1 r L hL).2.2.1)
    obtain ⟨M3, f1, i03, f2⟩ := SB_new h hss ff3 ok (b2'.tr noO_2) nt2 (by rw [fi_eq, u1_eq]) kT hrT (fun r hr => by rw [T28, u1_ne hr]) (by rw [T28, u1_eq]) (fun s' hs' q => fun r hr => oth s' r hs' hr (fun z => q z.1) _ ((h.rc hs').2.2.1 r hr) (fun L hL => ((h.rc hs').2.2.2.1 r L hL).2.2.1))
    have hLn : u1 kR s (u1 (kR s) (bn X 13) (some (ldN X))) s (bn X 13) = some (ldN X) := by rw [u1_eq, u1_eq]
    obtain ⟨M4, S4, fmc, fmr, g1, g2, g3, g4, g5⟩ := P_spread (c := nI p) (b := nI (8 * s + p)) f2 hss ff3 hLn (Or.inr ⟨p, hp, rfl, rfl⟩) hh hh2
    have eu : ∀ z, upS S z = upS T z := fun z => (upS_ks kT (by decide) (by decide)).symm
    refine ⟨M4, S4, h_ai M3, fmc, fmr, _, _, ?_, ?_, g3, g4.up eu, g5.up eu, i20_tr i03 (PB_i20 f2.pb g3.pb (kf122 g1 f2.pb.bk)), fun s' => ?_⟩
    · have e110 : f110 [.inr (.inr (some (400 + (6 * s + nJ (tog s) s (bn X 13)))))] M = some (none, h_pi M 601 (400 + (6 * s + nJ (tog s) s (bn X 13))) 0) := by
        simp [f110, b110_0, t7, g_i, g_r, g_l, g_o, p_i, p_r, p_l, p_z, c_V, c_I, c_L, c_R, x_out, z_fl_pi, z_fr_pi, z_ai_pi, z_al_pi, z_ar_pi, z_ln_pi, z_tg_pi, z_sz_pi, z_sl_pi, z_fi_pl, z_fr_pl, z_ai_pl, z_al_pl, z_ar_pl, z_ln_pl, z_tg_pl, z_sz_pl, z_sl_pl, z_fi_pr, z_fl_pr, z_ai_pr, z_al_pr, z_ar_pr, z_ln_pr, z_tg_pr, z_sz_pr, z_sl_pr, z_fi_qi, z_fl_qi, z_fr_qi, z_al_qi, z_ar_qi, z_ln_qi, z_tg_qi, z_sz_qi, z_sl_qi, z_fi_ql, z_fl_ql, z_fr_ql, z_ai_ql, z_ar_ql, z_ln_ql, z_tg_ql, z_sz_ql, z_sl_ql, z_fi_qr, z_fl_qr, z_fr_qr, z_ai_qr, z_al_qr, z_ln_qr, z_tg_qr, z_sz_qr, z_sl_qr, z_fi_ca, z_fl_ca, z_fr_ca, z_al_ca, z_ar_ca, z_ln_ca, z_tg_ca, z_sz_ca, z_sl_ca, y_pi, y_pl, y_pr, y_qi, y_ql, y_qr, y_ca]
      have hb0 : b130_0 (10 + s) (some (200 + (8 * s + p))) (some a) M = some (.inr (64, [.inr (.inr (some (10 + s))), .inr (.inr (some (200 + (8 * s + p)))), .inr (.inr (some a)), .inr (.inr (some (400 + (6 * s + nJ (tog s) s (bn X 13))))), .inl (nI 0)], h_pi M 601 (400 + (6 * s + nJ (tog s) s (bn X 13))) 0)) := by
        have e0 : nI 0 = 0 := rfl
        simp [b130_0, t3, e58, e56, h1, h4, hl, c1, h2, z', hna, t7, e118, n32, ci, e110, e0, g_i, g_r, g_l, g_o, p_i, p_r, p_l, p_z, c_V, c_I, c_L, c_R, x_out, z_fl_pi, z_fr_pi, z_ai_pi, z_al_pi, z_ar_pi, z_ln_pi, z_tg_pi, z_sz_pi, z_sl_pi, z_fi_pl, z_fr_pl, z_ai_pl, z_al_pl, z_ar_pl, z_ln_pl, z_tg_pl, z_sz_pl, z_sl_pl, z_fi_pr, z_fl_pr, z_ai_pr, z_al_pr, z_ar_pr, z_ln_pr, z_tg_pr, z_sz_pr, z_sl_pr, z_fi_qi, z_fl_qi, z_fr_qi, z_al_qi, z_ar_qi, z_ln_qi, z_tg_qi, z_sz_qi, z_sl_qi, z_fi_ql, z_fl_ql, z_fr_ql, z_ai_ql, z_ar_ql, z_ln_ql, z_tg_ql, z_sz_ql, z_sl_ql, z_fi_qr, z_fl_qr, z_fr_qr, z_ai_qr, z_al_qr, z_ln_qr, z_tg_qr, z_sz_qr, z_sl_qr, z_fi_ca, z_fl_ca, z_fr_ca, z_al_ca, z_ar_ca, z_ln_ca, z_tg_ca, z_sz_ca, z_sl_ca, y_pi, y_pl, y_pr, y_qi, y_ql, y_qr, y_ca]
      show x_go k130 (b130_0 (10 + s) (some (200 + (8 * s + p))) (some a) M) = _
      rw [hb0]
      show drive k130 xF 64 _ _ = _
      rw [b1]
      obtain ⟨g, hg⟩ : ∃ g, xF - (X.length - 17) = g + 1 := ⟨xF - (X.length - 17) - 1, by unfold xF; omega⟩
      rw [hg]
      refine dr_end ?_
      have hXN := b2'.rd hX ha (by omega)
      have t3N := hXN.1.1
      have hzN := hXN.2.1
      have y1 : nI X.length - 13 = nI (X.length - 13) := pk_sub (b := 13) (by omega)
      have y2 : nI (X.length - 13) - 4 = nI (X.length - 17) := by rw [show (4 : Int32) = nI 4 from rfl, pk_sub (by omega)]; congr 1
      have cle : nI (X.length - 17) ≤ nI (X.length - 17) := nI_le (by omega) (by omega)
      have hIN := b2'.I hI
      have q1 := hIN.si0 hss
      have q2 := hIN.si1 hss
      have q3 := hIN.sh0
      have q4 : h_fi N 903 2 = nI t := by rw [b2'.2.2.1 903 (by decide) (by decide)]; exact ht3
      have q5 : h_tg N (400 + (6 * s + nJ (tog s) s (bn X 13))) = 7 := by rw [b2'.2.1.2.1]; exact t7
      have hx : sd sw nd (8 * s + p) := sd_sp hss hp
      have hI3 := f2.st.I
      have q6 := hI3.po0 hx
      have q7 := hI3.po3 hx
      rw [nu_lo (by omega), show (8 * s + p) % 8 = p by omega] at q7
      have q8 := hI3.si0 hss
      simp [k130, b130_64, t3N, hzN, y1, y2, cle, q1, q2, q3, q4, q5, f1, q6, q7, q8, g1, g_i, g_r, g_l, g_o, p_i, p_r, p_l, p_z, c_V, c_I, c_L, c_R, x_out, z_fl_pi, z_fr_pi, z_ai_pi, z_al_pi, z_ar_pi, z_ln_pi, z_tg_pi, z_sz_pi, z_sl_pi, z_fi_pl, z_fr_pl, z_ai_pl, z_al_pl, z_ar_pl, z_ln_pl, z_tg_pl, z_sz_pl, z_sl_pl, z_fi_pr, z_fl_pr, z_ai_pr, z_al_pr, z_ar_pr, z_ln_pr, z_tg_pr, z_sz_pr, z_sl_pr, z_fi_qi, z_fl_qi, z_fr_qi, z_al_qi, z_ar_qi, z_ln_qi, z_tg_qi, z_sz_qi, z_sl_qi, z_fi_ql, z_fl_ql, z_fr_ql, z_ai_ql, z_ar_ql, z_ln_ql, z_tg_ql, z_sz_ql, z_sl_ql, z_fi_qr, z_fl_qr, z_fr_qr, z_ai_qr, z_al_qr, z_ln_qr, z_tg_qr, z_sz_qr, z_sl_qr, z_fi_ca, z_fl_ca, z_fr_ca, z_al_ca, z_ar_ca, z_ln_ca, z_tg_ca, z_sz_ca, z_sl_ca, y_pi, y_pl, y_pr, y_qi, y_ql, y_qr, y_ca]
    · rw [toCmp, g164]
      show sdrive kS228 xF 218 _ S3 = _
      rw [t1]
      obtain ⟨g, hg⟩ : ∃ g, xF - (X.length - 17) = g + 1 := ⟨xF - (X.length - 17) - 1, by unfold xF; omega⟩
      rw [hg]
      refine sd_end ?_
      have g7 : s_a T 7 (nI f) = some (nI X.length) := by rw [ga7 hXs.1, kT.i (by decide), hXs.2.1]
      have cle : nI (X.length - 17) ≤ nI (X.length - 17) := nI_le (by omega) (by omega)
      simp [kS228, c228_218, c228_483, g7, x17, cle, g2]
    · by_cases q : s' = s
      · subst q
        rw [u1_eq, u1_eq, u1_ne (fun z2 => z z2.symm), u1_ne (fun z2 => z z2.symm)]
        exact ⟨rfl, rfl⟩
      · rw [u1_ne q, u1_ne q]
        exact ⟨rfl, rfl⟩
  · refine ⟨M, S, ia, flc, flr, kR, ka, ?_, ?_, h, qx.rf, qx.rf, i20_rf, fun _ => ⟨rfl, rfl⟩⟩
    · show x_go k130 (b130_0 (10 + s) (some (200 + (8 * s + p))) (some a) M) = _
      have : b130_0 (10 + s) (some (200 + (8 * s + p))) (some a) M = some (.inl (none, M)) := by
        simp [b130_0, b130_47, t3, e58, e56, h1, h4, hl, c1, h2, z', hna, t7, e118, n32, ci, g_i, g_r, g_l, g_o, p_i, p_r, p_l, p_z, c_V, c_I, c_L, c_R, x_out, z_fl_pi, z_fr_pi, z_ai_pi, z_al_pi, z_ar_pi, z_ln_pi, z_tg_pi, z_sz_pi, z_sl_pi, z_fi_pl, z_fr_pl, z_ai_pl, z_al_pl, z_ar_pl, z_ln_pl, z_tg_pl, z_sz_pl, z_sl_pl, z_fi_pr, z_fl_pr, z_ai_pr, z_al_pr, z_ar_pr, z_ln_pr, z_tg_pr, z_sz_pr, z_sl_pr, z_fi_qi, z_fl_qi, z_fr_qi, z_al_qi, z_ar_qi, z_ln_qi, z_tg_qi, z_sz_qi, z_sl_qi, z_fi_ql, z_fl_ql, z_fr_ql, z_ai_ql, z_ar_ql, z_ln_ql, z_tg_ql, z_sz_ql, z_sl_ql, z_fi_qr, z_fl_qr, z_fr_qr, z_ai_qr, z_al_qr, z_ln_qr, z_tg_qr, z_sz_qr, z_sl_qr, z_fi_ca, z_fl_ca, z_fr_ca, z_al_ca, z_ar_ca, z_ln_ca, z_tg_ca, z_sz_ca, z_sl_ca, y_pi, y_pl, y_pr, y_qi, y_ql, y_qr, y_ca]
      rw [this]; rfl
    · rw [toCmp]
      have : c228_164 (nI s) (nI (8 * s + p)) (nI f) (nI (bn X 13)) (isK (kR s (bn X 13))) (num X 14 3) S = some (.inl S) := by
        unfold c228_164 c228_167
        rw [if_neg ci]
      rw [this]; rfl
end TR
