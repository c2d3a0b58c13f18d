/-! ===== takeHello, takeFlogi ===== -/
section TK
variable {sw nd rm : Nat} {M M' : hM} {S T : sT} {ia : Nat → Nat → Int32} {w t zb sb : Nat} {pe : Nat → Option Nat} {wo : Nat → Nat} {flc flr fmc fmr : Nat → List (List Int32)} {hc : List (Nat × Int32 × List Int32)} {hs : List (Nat × List Int32)} {kR : Nat → rK} {ka : Nat → Nat → Nat} {tog : Nat → Bool} {s p x y : Nat}
theorem PX.nb {v : Nat} (h : PX sw nd M S pe) (hx4 : x < 40) (e : pe x = some y) (hy : y < 40) (hv : v < sw) : PX sw nd (h_pi M 811 (200 + x) (nI v)) (s_u S 23 x (nI v)) pe := fun z hz => by
  have k : ks [23] S (s_u S 23 x (nI v)) := k_su
  obtain ⟨⟨a1, a2⟩, a3, a4⟩ := h z hz
  rw [fi_eq, fi_ne (show 812 ≠ 811 by decide), fi_ne (show 814 ≠ 811 by decide), su_eq, su_ne (show 25 ≠ 23 by decide), su_ne (show 24 ≠ 23 by decide), su_ne (show 36 ≠ 23 by decide), upS_ks k (by decide) (by decide)]
  by_cases q : z = x
  · subst q
    rw [u1_eq, u1_eq]
    exact ⟨⟨rfl, a2⟩, Or.inr ⟨⟨v, hv, rfl⟩, hx4, y, e, hy⟩, a4⟩
  · rw [u1_ne (by omega), u1_ne q]
    exact ⟨⟨a1, a2⟩, a3, a4⟩
theorem PX.gv {g : Int32} (h : PX sw nd M S pe) (hg : g = 0 ∨ (x < 40 ∧ ∃ n d, pe x = some (40 + n) ∧ 1 ≤ d ∧ d ≤ 15 ∧ g = nI (d * 65536 + x % 8 * 256 + (n + 1)))) : PX sw nd (h_pi M 812 (200 + x) g) (s_u S 25 x g) pe := fun z hz => by
  have k : ks [25] S (s_u S 25 x g) := k_su
  obtain ⟨⟨a1, a2⟩, a3, a4, a5⟩ := h z hz
  rw [fi_eq, fi_ne (show 811 ≠ 812 by decide), fi_ne (show 814 ≠ 812 by decide), su_eq, su_ne (show 23 ≠ 25 by decide), su_ne (show 24 ≠ 25 by decide), su_ne (show 36 ≠ 25 by decide), upS_ks k (by decide) (by decide)]
  by_cases q : z = x
  · subst q
    rw [u1_eq, u1_eq]
    exact ⟨⟨a1, rfl⟩, a3, hg, a5⟩
  · rw [u1_ne (by omega), u1_ne q]
    exact ⟨⟨a1, a2⟩, a3, a4, a5⟩
/-- a port's field and its twin -/
theorem SB.setp {f g : Nat} {u v : Int32} (h : SB sw nd rm M S ia w pe wo t zb sb flc flr hc hs kR ka tog) (hx : sd sw nd x) (hp : PX sw nd (h_pi M f (200 + x) u) (s_u S g x v) pe) (hF : ((stF ++ [200, 201, 202, 203, 300, 301, 302, 808, 907] ++ [600, 601, 602, 1005, 1010]).all (fun x => ! [f].contains x)) = true) (hG : ((stS ++ (4 :: frF) ++ [27, 28, 29, 30]).all (fun x => ! [g].contains x)) = true) : SB sw nd rm (h_pi M f (200 + x) u) (s_u S g x v) ia w pe wo t zb sb flc flr hc hs kR ka tog := by
  obtain ⟨h1, h2, h3, h4⟩ := h
  have k : kp [f] [] M (h_pi M f (200 + x) u) := k_hpi h2.bk (by rw [h1.I.po0 hx]; decide)
  have l : ks [g] S (s_u S g x v) := k_su
  refine ⟨h1.keep k (all_sub hF (by decide)) (by decide) l (all_sub hG (by decide)) rfl, (h2.kp k (all_sub hF (by decide))).ks l (all_sub hG (by decide)), hp, fun s hs => ?_⟩
  exact (h4 s hs).keep h1.I hs k (all_sub hF (by decide)) (by decide) (fun _ _ _ => rfl) l (all_sub hG (by decide))
theorem P_hel (hss : s < sw) (hx : sd sw nd x) (hh : hc.length ≤ 3) (hh2 : hs.length ≤ 3) : ∀ d r M S flc flr fuel fus, SB sw nd rm M S ia w pe wo t zb sb flc flr hc hs kR ka tog → r + d = sw → d < fuel → d < fus → ∃ M' S' fmc fmr, drive k131 fuel 11 [.inr (.inr (some (10 + s))), .inr (.inr (some (200 + x))), .inl (nI r)] M = some (none, M') ∧ sdrive kS228 fus 55 [.inl (nI s), .inl (nI x), .inl (nI r)] S = some S' ∧ SB sw nd rm M' S' ia w pe wo t zb sb fmc fmr hc hs kR ka tog ∧ qx S flc fmc ∧ qx S flr fmr
  | 0, r, M, S, flc, flr, fuel, fus, h, hr, hf, hg => by
    obtain ⟨f, rfl⟩ : ∃ f, fuel = f + 1 := ⟨fuel - 1, by omega⟩
    obtain ⟨g, rfl⟩ : ∃ g, fus = g + 1 := ⟨fus - 1, by omega⟩
    have hI := h.st.I
    have hsw := hI.bs.1.2
    have e : nI sw ≤ nI r := nI_le (by omega) (by omega)
    have h1 := hI.si0 hss
    have h4 := hI.si4 hss
    have hl := ln_n hI hss
    have h0 := h.st.2.2.1.1
    refine ⟨M, S, flc, flr, dr_end ?_, sd_end ?_, h, qx.rf, qx.rf⟩
    · simp [k131, b131_11, h1, h4, hl, e, g_i, g_r, g_l, g_o, p_i, p_r, p_l, p_z, c_V, c_I, c_L, c_R, x_out, z_fl_pi, z_fr_pi, z_ai_pi, z_al_pi, z_ar_pi, z_ln_pi, z_tg_pi, z_sz_pi, z_sl_pi, z_fi_pl, z_fr_pl, z_ai_pl, z_al_pl, z_ar_pl, z_ln_pl, z_tg_pl, z_sz_pl, z_sl_pl, z_fi_pr, z_fl_pr, z_ai_pr, z_al_pr, z_ar_pr, z_ln_pr, z_tg_pr, z_sz_pr, z_sl_pr, z_fi_qi, z_fl_qi, z_fr_qi, z_al_qi, z_ar_qi, z_ln_qi, z_tg_qi, z_sz_qi, z_sl_qi, z_fi_ql, z_fl_ql, z_fr_ql, z_ai_ql, z_ar_ql, z_ln_ql, z_tg_ql, z_sz_ql, z_sl_ql, z_fi_qr, z_fl_qr, z_fr_qr, z_ai_qr, z_al_qr, z_ln_qr, z_tg_qr, z_sz_qr, z_sl_qr, z_fi_ca, z_fl_ca, z_fr_ca, z_al_ca, z_ar_ca, z_ln_ca, z_tg_ca, z_sz_ca, z_sl_ca, y_pi, y_pl, y_pr, y_qi, y_ql, y_qr, y_ca]
    · simp [kS228, c228_55, c228_483, s_g, h0, e]
  | d + 1, r, M, S, flc, flr, fuel, fus, h, hr, hf, hg => by
    obtain ⟨f, rfl⟩ : ∃ f, fuel = f + 1 := ⟨fuel - 1, by omega⟩
    obtain ⟨g, rfl⟩ : ∃ g, fus = g + 1 := ⟨fus - 1, by omega⟩
    have hI := h.st.I
    have hsw := hI.bs.1.2
    have hrs : r < sw := by omega
    have e : ¬ nI sw ≤ nI r := nI_ge (by omega) (by omega)
    have h1 := hI.si0 hss
    have h4 := hI.si4 hss
    have h2 := hI.si2 hss
    have hl := ln_n hI hss
    have h0 := h.st.2.2.1.1
    have rc := h.rc hss
    obtain ⟨a1, a2, a3⟩ := rc.1 r hrs
    have hj := nJ_lt (tg := tog s) (s := s) hrs hsw
    have hna := not_a hI hss hrs a1
    have e5 := f105_eq a2
    have t7 := a2.1.1
    have e27' : s_a S 27 (5 * nI s + nI r) = some (S.1 27 (5 * s + r)) := e27 (by omega) (by omega)
    have stay : k131 11 [.inr (.inr (some (10 + s))), .inr (.inr (some (200 + x))), .inl (nI r)] M = some (.inr (11, [.inr (.inr (some (10 + s))), .inr (.inr (some (200 + x))), .inl (nI (r + 1))], M)) → kS228 55 [.inl (nI s), .inl (nI x), .inl (nI r)] S = some (.inr (55, [.inl (nI s), .inl (nI x), .inl (nI (r + 1))], S)) → ∃ M' S' fmc fmr, drive k131 (f + 1) 11 [.inr (.inr (some (10 + s))), .inr (.inr (some (200 + x))), .inl (nI r)] M = some (none, M') ∧ sdrive kS228 (g + 1) 55 [.inl (nI s), .inl (nI x), .inl (nI r)] S = some S' ∧ SB sw nd rm M' S' ia w pe wo t zb sb fmc fmr hc hs kR ka tog ∧ qx S flc fmc ∧ qx S flr fmr := fun b1 b2 => by
      obtain ⟨M', S', fmc, fmr, j1, j2, j3⟩ := P_hel hss hx hh hh2 d (r + 1) M S flc flr f g h (by omega) (by omega) (by omega)
      exact ⟨M', S', fmc, fmr, by rw [dr_go b1]; exact j1, by rw [sd_go b2]; exact j2, j3⟩
    by_cases z : r = s
    · subst z
      refine stay ?_ ?_
      · simp [k131, b131_11, b131_51, h1, h4, hl, e, h2, nI_1, g_i, g_r, g_l, g_o, p_i, p_r, p_l, p_z, c_V, c_I, c_L, c_R, x_out, z_fl_pi, z_fr_pi, z_ai_pi, z_al_pi, z_ar_pi, z_ln_pi, z_tg_pi, z_sz_pi, z_sl_pi, z_fi_pl, z_fr_pl, z_ai_pl, z_al_pl, z_ar_pl, z_ln_pl, z_tg_pl, z_sz_pl, z_sl_pl, z_fi_pr, z_fl_pr, z_ai_pr, z_al_pr, z_ar_pr, z_ln_pr, z_tg_pr, z_sz_pr, z_sl_pr, z_fi_qi, z_fl_qi, z_fr_qi, z_al_qi, z_ar_qi, z_ln_qi, z_tg_qi, z_sz_qi, z_sl_qi, z_fi_ql, z_fl_ql, z_fr_ql, z_ai_ql, z_ar_ql, z_ln_ql, z_tg_ql, z_sz_ql, z_sl_ql, z_fi_qr, z_fl_qr, z_fr_qr, z_ai_qr, z_al_qr, z_ln_qr, z_tg_qr, z_sz_qr, z_sl_qr, z_fi_ca, z_fl_ca, z_fr_ca, z_al_ca, z_ar_ca, z_ln_ca, z_tg_ca, z_sz_ca, z_sl_ca, y_pi, y_pl, y_pr, y_qi, y_ql, y_qr, y_ca]
      · simp [kS228, c228_55, c228_96, s_g, h0, e, nI_1]
    · have z' : ¬ nI r = nI s := fun q => z ((nI_eq (by omega) (by omega)).mp q)
      have hK := rc.2.2.1 r (by omega)
      cases hL : kR s r with
      | none =>
        rw [hL] at e5 hK
        have hK : S.1 27 (5 * s + r) = 0 := hK
        rw [hK] at e27'
        have e5 : f105 [.inr (.inr (some (400 + (6 * s + nJ (tog s) s r))))] M = some (some (.inl 0), M) := e5
        refine stay ?_ ?_
        · simp [k131, b131_11, b131_51, h1, h4, hl, e, h2, z', hna, t7, e5, nI_1, g_i, g_r, g_l, g_o, p_i, p_r, p_l, p_z, c_V, c_I, c_L, c_R, x_out, z_fl_pi, z_fr_pi, z_ai_pi, z_al_pi, z_ar_pi, z_ln_pi, z_tg_pi, z_sz_pi, z_sl_pi, z_fi_pl, z_fr_pl, z_ai_pl, z_al_pl, z_ar_pl, z_ln_pl, z_tg_pl, z_sz_pl, z_sl_pl, z_fi_pr, z_fl_pr, z_ai_pr, z_al_pr, z_ar_pr, z_ln_pr, z_tg_pr, z_sz_pr, z_sl_pr, z_fi_qi, z_fl_qi, z_fr_qi, z_al_qi, z_ar_qi, z_ln_qi, z_tg_qi, z_sz_qi, z_sl_qi, z_fi_ql, z_fl_ql, z_fr_ql, z_ai_ql, z_ar_ql, z_ln_ql, z_tg_ql, z_sz_ql, z_sl_ql, z_fi_qr, z_fl_qr, z_fr_qr, z_ai_qr, z_al_qr, z_ln_qr, z_tg_qr, z_sz_qr, z_sl_qr, z_fi_ca, z_fl_ca, z_fr_ca, z_al_ca, z_ar_ca, z_ln_ca, z_tg_ca, z_sz_ca, z_sl_ca, y_pi, y_pl, y_pr, y_qi, y_ql, y_qr, y_ca]
        · simp [kS228, c228_55, c228_96, s_g, h0, e, z', e27', nI_1]
      | some L =>
        rw [hL] at e5 hK a2
        obtain ⟨hK1, -⟩ := hK
        rw [hK1] at e27'
        have e5 : f105 [.inr (.inr (some (400 + (6 * s + nJ (tog s) s r))))] M = some (some (.inl 1), M) := e5
        have hW := h.st.W
        have ok := (rc.2.2.2.1 r L hL).2
        obtain ⟨M1, S1, S2, ff, m1, s1, s2, p1⟩ := P_rec (K := kR s) hI h.pb hss (show r < 5 by omega) hx hW.wO (hW.up hx) a2 (by omega) rc.2.2.1 hL ok hh hh2
        have kM := kf121 m1 h.pb.bk
        have kS : ks [4, 6, 7, 8, 9, 18, 19] S S2 := ((ks.rf.tr (ke202 s1) rfl : ks [4, 6, 7, 8, 9, 18, 19] S S1)).tr (ke183 s2) rfl
        have hB := h.keep kM (by decide) (by decide) kS (by decide) p1
        have q1 : qx S flc (pqF (upS S x) flc x (hdN ++ sbL L)) := qx_pq (by rw [rec_len]; omega) (by rw [rec_len]; have := ok.2.1; omega)
        have q2 : qx S flr (pqF (upS S x) flr x (hdN ++ sbL L)) := qx_pq (by rw [rec_len]; omega) (by rw [rec_len]; have := ok.2.1; omega)
        have eu : ∀ z, upS S z = upS S2 z := fun z => (upS_ks kS (by decide) (by decide)).symm
        obtain ⟨M', S', fmc, fmr, j1, j2, j3, j4, j5⟩ := P_hel hss hx hh hh2 d (r + 1) M1 S2 _ _ f g hB (by omega) (by omega) (by omega)
        refine ⟨M', S', fmc, fmr, ?_, ?_, j3, q1.tr (j4.up eu), q2.tr (j5.up eu)⟩
        · have a : k131 11 [.inr (.inr (some (10 + s))), .inr (.inr (some (200 + x))), .inl (nI r)] M = some (.inr (11, [.inr (.inr (some (10 + s))), .inr (.inr (some (200 + x))), .inl (nI (r + 1))], M1)) := by
            simp [k131, b131_11, b131_51, h1, h4, hl, e, h2, z', hna, t7, e5, m1, nI_1, g_i, g_r, g_l, g_o, p_i, p_r, p_l, p_z, c_V, c_I, c_L, c_R, x_out, z_fl_pi, z_fr_pi, z_ai_pi, z_al_pi, z_ar_pi, z_ln_pi, z_tg_pi, z_sz_pi, z_sl_pi, z_fi_pl, z_fr_pl, z_ai_pl, z_al_pl, z_ar_pl, z_ln_pl, z_tg_pl, z_sz_pl, z_sl_pl, z_fi_pr, z_fl_pr, z_ai_pr, z_al_pr, z_ar_pr, z_ln_pr, z_tg_pr, z_sz_pr, z_sl_pr, z_fi_qi, z_fl_qi, z_fr_qi, z_al_qi, z_ar_qi, z_ln_qi, z_tg_qi, z_sz_qi, z_sl_qi, z_fi_ql, z_fl_ql, z_fr_ql, z_ai_ql, z_ar_ql, z_ln_ql, z_tg_ql, z_sz_ql, z_sl_ql, z_fi_qr, z_fl_qr, z_fr_qr, z_ai_qr, z_al_qr, z_ln_qr, z_tg_qr, z_sz_qr, z_sl_qr, z_fi_ca, z_fl_ca, z_fr_ca, z_al_ca, z_ar_ca, z_ln_ca, z_tg_ca, z_sz_ca, z_sl_ca, y_pi, y_pl, y_pr, y_qi, y_ql, y_qr, y_ca]
          rw [dr_go a]; exact j1
        · have a : kS228 55 [.inl (nI s), .inl (nI x), .inl (nI r)] S = some (.inr (55, [.inl (nI s), .inl (nI x), .inl (nI (r + 1))], S2)) := by
            simp [kS228, c228_55, c228_96, s_g, h0, e, z', e27', s1, s2, nI_1]
          rw [sd_go a]; exact j2
/-- takeHello -/
theorem P_hello {a : Nat} {X : List Int32} (h : SB sw nd rm M S ia w pe wo t zb sb flc flr hc hs kR ka tog) (hss : s < sw) (hx : sd sw nd x) (hx4 : x < 40) (e : pe x = some y) (hy : y < 40) (hX : rd M a X) (h18 : 14 ≤ X.length) (hv : bn X 13 < sw) (hh : hc.length ≤ 3) (hh2 : hs.length ≤ 3) : ∃ M' S' fmc fmr, f131 [.inr (.inr (some (10 + s))), .inr (.inr (some (200 + x))), .inr (.inr (some a))] M = some (none, M') ∧ sdrive kS228 xF 55 [.inl (nI s), .inl (nI x), .inl (nI 0)] (s_u S 23 x (nI (bn X 13))) = some S' ∧ SB sw nd rm M' S' ia w pe wo t zb sb fmc fmr hc hs kR ka tog ∧ qx S flc fmc ∧ qx S flr fmr := by
  have hI := h.st.I
  have hsw := hI.bs.1.2
  have hB := h.setp (f := 811) (g := 23) (u := nI (bn X 13)) (v := nI (bn X 13)) hx (h.px.nb hx4 e hy hv) (by decide) (by decide)
  obtain ⟨M', S', fmc, fmr, j1, j2, j3, j4, j5⟩ := P_hel hss hx hh hh2 sw 0 _ _ flc flr xF xF hB (by omega) (by unfold xF; omega) (by unfold xF; omega)
  have eu : ∀ z, upS S z = upS (s_u S 23 x (nI (bn X 13))) z := fun z => (upS_ks (k_su (S := S) (k := 23) (i := x) (v := nI (bn X 13))) (by decide) (by decide)).symm
  refine ⟨M', S', fmc, fmr, ?_, j2, j3, j4.up eu, j5.up eu⟩
  have ht := hX.1.1
  have e58 : f58 [.inr (.inr (some a)), .inl 0] M = some (some (.inl (nI (bn X 13))), M) := f58_eq (i := 0) hX (by omega)
  have tp := hI.po0 hx
  have e0 : nI 0 = 0 := rfl
  have hb : b131_0 (10 + s) (some (200 + x)) (some a) M = some (.inr (11, [.inr (.inr (some (10 + s))), .inr (.inr (some (200 + x))), .inl (nI 0)], h_pi M 811 (200 + x) (nI (bn X 13)))) := by
    simp [b131_0, ht, e58, tp, e0, g_i, g_r, g_l, g_o, p_i, p_r, p_l, p_z, c_V, c_I, c_L, c_R, x_out, z_fl_pi, z_fr_pi, z_ai_pi, z_al_pi, z_ar_pi, z_ln_pi, z_tg_pi, z_sz_pi, z_sl_pi, z_fi_pl, z_fr_pl, z_ai_pl, z_al_pl, z_ar_pl, z_ln_pl, z_tg_pl, z_sz_pl, z_sl_pl, z_fi_pr, z_fl_pr, z_ai_pr, z_al_pr, z_ar_pr, z_ln_pr, z_tg_pr, z_sz_pr, z_sl_pr, z_fi_qi, z_fl_qi, z_fr_qi, z_al_qi, z_ar_qi, z_ln_qi, z_tg_qi, z_sz_qi, z_sl_qi, z_fi_ql, z_fl_ql, z_fr_ql, z_ai_ql, z_ar_ql, z_ln_ql, z_tg_ql, z_sz_ql, z_sl_ql, z_fi_qr, z_fl_qr, z_fr_qr, z_ai_qr, z_al_qr, z_ln_qr, z_tg_qr, z_sz_qr, z_sl_qr, z_fi_ca, z_fl_ca, z_fr_ca, z_al_ca, z_ar_ca, z_ln_ca, z_tg_ca, z_sz_ca, z_sl_ca, y_pi, y_pl, y_pr, y_qi, y_ql, y_qr, y_ca]
  show x_go k131 (b131_0 (10 + s) (some (200 + x)) (some a) M) = _
  rw [hb]
  exact j1
/-- addresses -/
theorem adr {d q n : Nat} (hd : d < 16) (hq : q < 8) (hn : n < 8) : ((nI d <<< ((16 : Int32) &&& 31)) ||| (nI q <<< ((8 : Int32) &&& 31))) ||| (nI (n + 1)) = nI (d * 65536 + q * 256 + (n + 1)) := by
  have : ∀ d, d < 16 → ∀ q, q < 8 → ∀ n, n < 8 → ((nI d <<< ((16 : Int32) &&& 31)) ||| (nI q <<< ((8 : Int32) &&& 31))) ||| (nI (n + 1)) = nI (d * 65536 + q * 256 + (n + 1)) := by decide +kernel
  exact this d hd q hq n hn
theorem tru_4 {to fr : Int32} : tru sw nd (clL (hdL (nI 4) to fr (nI 0) (nI 0) (nI 0))) = true := by
  have hl : (hdL (nI 4) to fr (nI 0) (nI 0) (nI 0)).length = 13 := rfl
  rw [tru_cl (by rw [hl]; omega) (by rw [hl]; omega)]
  have e0 : bn (clL (hdL (nI 4) to fr (nI 0) (nI 0) (nI 0))) 0 = 4 := by
    rw [clL_get (by rw [hl]; omega) (by omega)]
    have := hd_0 (k := 4) (t := to) (f := fr) (o := nI 0) (r := nI 0) (p := nI 0) (T := []) (by omega)
    rw [List.append_nil] at this
    exact this
  unfold hfF
  rw [e0]
  rfl
/-- a WELCOME goes to the queue -/
theorem P_wel {to : Int32} (h : SB sw nd rm M S ia w pe wo t zb sb flc flr hc hs kR ka tog) (hx : sd sw nd x) (hh : hc.length ≤ 3) (hh2 : hs.length ≤ 3) : ∃ a f M1 M' S1 S' fmc fmr, f34 [.inr (.inr (some 2)), .inl 4, .inl to, .inl 16777214, .inl 0] M = some (some (.inr (.inr (some a))), M1) ∧ f39 [.inr (.inr (some (200 + x))), .inr (.inr (some a))] M1 = some (none, M') ∧ e168 4 to 16777214 0 0 0 S = some (nI f, S1) ∧ e183 (nI x) (nI f) S1 = some S' ∧ cI sw nd rm M1 ∧ SB sw nd rm M' S' ia w pe wo t zb sb fmc fmr hc hs kR ka tog ∧ qx S flc fmc ∧ qx S flr fmr := by
  have hI := h.st.I
  have hW := h.st.W
  obtain ⟨a, f, M1, S1, m1, s1, hf, p1⟩ := P_draft (v1 := nI 4) (v2 := to) (v3 := nI 16777214) (v4 := nI 0) (v5 := nI 0) (v6 := nI 0) hI h.pb hh hh2
  have kM1 := kf34 m1 h.pb.bk
  have hI1 := hI.keep kM1 (by decide) (by decide)
  have kS1 := ke168 s1
  have eu : upS S1 x = upS S x := upS_ks kS1 (by decide) (by decide)
  obtain ⟨M2, S2, m2, s2, p2⟩ := P_post hI1 p1 (hW.wO.ks kS1 (by decide)) (by rw [kM1.fi (by decide), eu]; exact hW.up hx) hx tru_4 (by show 13 ≤ 44; omega)
  rw [eu] at p2
  have kM2 := kf39 m2 p1.bk
  have kS2 := ke183 s2
  have kM : kp [200, 201, 202, 203, 300, 301, 302, 907] [0, 20, 21] M M2 := ((kp.rf h.pb.bk : kp [200, 201, 202, 203, 300, 301, 302, 907] [0, 20, 21] M M).tr kM1 rfl rfl).tr kM2 rfl rfl
  have kS : ks [4, 6, 7, 8, 9, 18, 19] S S2 := ((ks.rf.tr kS1 rfl : ks [4, 6, 7, 8, 9, 18, 19] S S1)).tr kS2 rfl
  exact ⟨a, f, M1, M2, S1, S2, _, _, m1, m2, s1, s2, hI1, h.keep kM (by decide) (by decide) kS (by decide) p2, qx_pq (by show 13 ≤ 13; omega) (by show 13 ≤ 44; omega), qx_pq (by show 13 ≤ 13; omega) (by show 13 ≤ 44; omega)⟩
end TK
