/-! ===== takeAsk ===== -/
theorem bn_ap {A C : List Int32} {i : Nat} (hi : i < A.length) : bn (A ++ C) i = bn A i := by
  unfold bn
  rw [List.getD_eq_getElem?_getD, List.getElem?_append_left hi, ← List.getD_eq_getElem?_getD]
theorem lN_nat {v : Nat} (hv : v < 2147483648) : (nI v).toInt64.toBitVec.toNat = v := by
  rw [nI_l (by omega)]
  show (BitVec.ofNat 64 v).toNat = v
  rw [BitVec.toNat_ofNat]
  exact Nat.mod_eq_of_lt (by omega)
theorem tru_6 {sw nd v a : Nat} {to fr : Int32} (hv : v < nd) (hn : nd ≤ 8) (ha : a = 0 ∨ ∃ d q, d < 16 ∧ q < 8 ∧ a = d * 65536 + q * 256 + (v + 1)) : tru sw nd (clL (hdL (nI 6) to fr (nI 0) (nI 0) (nI 0) ++ byL (nI v).toInt64 1 ++ byL (nI a).toInt64 3)) = true := by
  have a24 : a < 16777216 := by
    rcases ha with rfl | ⟨d, q, h1, h2, rfl⟩
    · omega
    · omega
  have hl : (hdL (nI 6) to fr (nI 0) (nI 0) (nI 0) ++ byL (nI v).toInt64 1 ++ byL (nI a).toInt64 3).length = 17 := rfl
  have hl2 := clL_len (L := hdL (nI 6) to fr (nI 0) (nI 0) (nI 0) ++ byL (nI v).toInt64 1 ++ byL (nI a).toInt64 3)
  rw [hl] at hl2
  rw [tru_cl (by rw [hl]; omega) (by rw [hl]; omega)]
  have e0 : bn (clL (hdL (nI 6) to fr (nI 0) (nI 0) (nI 0) ++ byL (nI v).toInt64 1 ++ byL (nI a).toInt64 3)) 0 = 6 := by
    rw [clL_get (by rw [hl]; omega) (by omega), List.append_assoc, hd_0 (by omega)]
  have e13 : bn (clL (hdL (nI 6) to fr (nI 0) (nI 0) (nI 0) ++ byL (nI v).toInt64 1 ++ byL (nI a).toInt64 3)) 13 = v := by
    rw [clL_get (by rw [hl]; omega) (by omega)]
    have := bn_by (nI v).toInt64 (A := hdL (nI 6) to fr (nI 0) (nI 0) (nI 0)) (C := byL (nI a).toInt64 3) (n := 1) (j := 0) (by omega) (by omega)
    have this : bn (hdL (nI 6) to fr (nI 0) (nI 0) (nI 0) ++ byL (nI v).toInt64 1 ++ byL (nI a).toInt64 3) 13 = _ := this
    rw [this, lN_nat (by omega)]
    show v / 1 % 256 = v
    omega
  have e16 : bn (clL (hdL (nI 6) to fr (nI 0) (nI 0) (nI 0) ++ byL (nI v).toInt64 1 ++ byL (nI a).toInt64 3)) 16 = a % 256 := by
    rw [clL_get (by rw [hl]; omega) (by omega)]
    have := bn_by (nI a).toInt64 (A := hdL (nI 6) to fr (nI 0) (nI 0) (nI 0) ++ byL (nI v).toInt64 1) (C := []) (n := 3) (j := 2) (by omega) (by omega)
    rw [List.append_nil] at this
    have this : bn (hdL (nI 6) to fr (nI 0) (nI 0) (nI 0) ++ byL (nI v).toInt64 1 ++ byL (nI a).toInt64 3) 16 = _ := this
    rw [this, lN_nat (by omega)]
    show a / 1 % 256 = a % 256
    omega
  have e143 : num (clL (hdL (nI 6) to fr (nI 0) (nI 0) (nI 0) ++ byL (nI v).toInt64 1 ++ byL (nI a).toInt64 3)) 14 3 = nI a := by
    rw [num_N _ _ 3 (by omega)]
    congr 1
    have hb : ∀ j, j < 3 → bn (clL (hdL (nI 6) to fr (nI 0) (nI 0) (nI 0) ++ byL (nI v).toInt64 1 ++ byL (nI a).toInt64 3)) (14 + j) = bn (hdL (nI 6) to fr (nI 0) (nI 0) (nI 0) ++ byL (nI v).toInt64 1 ++ byL (nI a).toInt64 3) (14 + j) := fun j hj => clL_get (by rw [hl]; omega) (by omega)
    have := numN_by (nI a).toInt64 (A := hdL (nI 6) to fr (nI 0) (nI 0) (nI 0) ++ byL (nI v).toInt64 1) (C := []) (n := 3) (by omega) 3 (by omega)
    rw [List.append_nil] at this
    have this : numN (hdL (nI 6) to fr (nI 0) (nI 0) (nI 0) ++ byL (nI v).toInt64 1 ++ byL (nI a).toInt64 3) 14 3 = _ := this
    rw [lN_nat (by omega), Nat.sub_self, Nat.pow_zero, Nat.div_one, Nat.mod_eq_of_lt (by omega)] at this
    refine Eq.trans ?_ this
    show ((0 * 256 + bn _ (14 + 0)) * 256 + bn _ (14 + 1)) * 256 + bn _ (14 + 2) = ((0 * 256 + bn _ (14 + 0)) * 256 + bn _ (14 + 1)) * 256 + bn _ (14 + 2)
    rw [hb 0 (by omega), hb 1 (by omega), hb 2 (by omega)]
  unfold hfF
  rw [e0, hl2, e13, e143, e16]
  rw [if_neg (by omega), if_neg (by omega), if_neg (by omega), if_pos rfl, if_pos rfl, if_pos hv]
  rcases ha with rfl | ⟨d, q, h1, h2, rfl⟩
  · rfl
  · split
    · rfl
    · exact decide_eq_true (by omega)
theorem adL_rg {sw nd : Nat} {K : rK} {s v : Nat} (hl : rKl K) (hok : ∀ r L, K r = some L → r < sw ∧ rOK sw nd L) (h5 : sw ≤ 5) (hv : v < 8) : ∀ d r, r + d = sw → ∃ a, adL sw K s v r d = nI a ∧ (a = 0 ∨ ∃ d q, d < 16 ∧ q < 8 ∧ a = d * 65536 + q * 256 + (v + 1))
  | 0, _, _ => ⟨0, rfl, Or.inl rfl⟩
  | d + 1, r, hr => by
    unfold adL
    split
    · rename_i c
      rcases poK_rg hok (by omega) r with h | ⟨q, q1, q2⟩
      · exact absurd h c.2
      · have hd : rgo (K r) 4 < 16 := by
          have := c.1
          unfold onK at this
          by_cases z : 16 ≤ rgo (K r) 4
          · rw [if_pos z] at this; cases this
          · omega
        rw [q2, adr hd q1 hv]
        exact ⟨_, rfl, Or.inr ⟨_, q, hd, q1, rfl⟩⟩
    · exact adL_rg hl hok h5 hv d (r + 1) (by omega)
section TK
variable {sw nd rm : Nat} {M M' : hM} {S T : sT} {ia : Nat → Nat → Int32} {w t zb sb : Nat} {pe : Nat → Option Nat} {wo : Nat → Nat} {flc flr fmc fmr : Nat → List (List Int32)} {hc : List (Nat × Int32 × List Int32)} {hs : List (Nat × List Int32)} {kR : Nat → rK} {ka : Nat → Nat → Nat} {tog : Nat → Bool} {s p x y n : Nat}
theorem ST.zn (h : ST sw nd rm M S ia w pe wo t) (g : PB sw nd M S ia zb sb flc flr hc hs) : ∀ z, z < 8 → ∃ k, k < 256 ∧ h_ai M 4 z = nI k ∧ S.1 37 z = nI k := fun z hz => by
  obtain ⟨k, k1, k2, k3⟩ := h.2.2.2.2.1.1 z hz
  obtain ⟨ct, c1, -⟩ := g
  refine ⟨k, k1, ?_, k3⟩
  rw [c1.1.1 4 (Or.inl (by omega)) (by omega)]
  exact k2
theorem ndA_n (e : pe x = some (40 + n)) : ndA pe x = nI n := by
  unfold ndA
  rw [e]
  show (if 40 ≤ 40 + n then nI (40 + n - 40) else -1) = nI n
  rw [if_pos (by omega), show 40 + n - 40 = n by omega]
/-- takeAsk -/
theorem P_ask {a f : Nat} {X : List Int32} (h : SB sw nd rm M S ia w pe wo t zb sb flc flr hc hs kR ka tog) (hss : s < sw) (hp : p < 8) (e : pe (8 * s + p) = some (40 + n)) (hX : rd M a X) (hXs : rdS S f X) (h18 : 14 ≤ X.length) (hv : bn X 13 < nd) (hh : hc.length ≤ 3) (hh2 : hs.length ≤ 3) : ∃ M' S' fmc fmr, f128 [.inr (.inr (some (10 + s))), .inr (.inr (some (200 + (8 * s + p)))), .inr (.inr (some a))] M = some (none, M') ∧ c228_360 (nI s) (nI (8 * s + p)) (nI f) 16777212 5 (nI n) (nI (bn X 13)) S = some (.inl S') ∧ SB sw nd rm M' S' ia w pe wo t zb sb fmc fmr hc hs kR ka tog ∧ qx S flc fmc ∧ qx S flr fmr := by
  have hI := h.st.I
  have hsw := hI.bs.1.2
  have hnd8 := hI.bs.2.1.2
  have hW := h.st.W
  have hn := nd_lt hI hW e
  have hx : sd sw nd (8 * s + p) := sd_sp hss hp
  have hx8 := hI.x8 hx
  have tp := hI.po0 hx
  have h1 := hI.si0 hss
  have h2 := hI.si1 hss
  have hsh := hI.sh0
  have t3 := hX.1.1
  have e65 := f65_eq hX (by omega)
  have e166 : e166 (nI f) 4 3 S = some (num X 4 3, S) := r166 (i := 4) (n := 3) hXs (by omega)
  obtain ⟨⟨-, g2⟩, -⟩ := h.px (8 * s + p) hx
  have m1 : ¬ nI n = -1 := nI_m1 (by omega)
  have deny : ∀ (b1 : f128 [.inr (.inr (some (10 + s))), .inr (.inr (some (200 + (8 * s + p)))), .inr (.inr (some a))] M = x_out (b128_18 (10 + s) M)) (b2 : c228_360 (nI s) (nI (8 * s + p)) (nI f) 16777212 5 (nI n) (nI (bn X 13)) S = c228_405 S), ∃ M' S' fmc fmr, f128 [.inr (.inr (some (10 + s))), .inr (.inr (some (200 + (8 * s + p)))), .inr (.inr (some a))] M = some (none, M') ∧ c228_360 (nI s) (nI (8 * s + p)) (nI f) 16777212 5 (nI n) (nI (bn X 13)) S = some (.inl S') ∧ SB sw nd rm M' S' ia w pe wo t zb sb fmc fmr hc hs kR ka tog ∧ qx S flc fmc ∧ qx S flr fmr := fun b1 b2 => by
    obtain ⟨M', k1, k2⟩ := P_tly (k := 2) hI h.pb (by omega) (by omega)
    have k1' : f37 [.inr (.inr (some 2)), .inl 2] M = some (none, M') := k1
    have kM := kf37 k1 h.pb.bk
    refine ⟨M', s_u S 4 2 (S.1 4 2 + 1), flc, flr, ?_, ?_, h.keep kM (by decide) (by decide) (k_su (S := S) (k := 4)) (by decide) k2, qx.rf, qx.rf⟩
    · rw [b1]
      simp [b128_18, h1, h2, hsh, k1', g_i, g_r, g_l, g_o, p_i, p_r, p_l, p_z, c_V, c_I, c_L, c_R, x_out, z_fl_pi, z_fr_pi, z_ai_pi, z_al_pi, z_ar_pi, z_ln_pi, z_tg_pi, z_sz_pi, z_sl_pi, z_fi_pl, z_fr_pl, z_ai_pl, z_al_pl, z_ar_pl, z_ln_pl, z_tg_pl, z_sz_pl, z_sl_pl, z_fi_pr, z_fl_pr, z_ai_pr, z_al_pr, z_ar_pr, z_ln_pr, z_tg_pr, z_sz_pr, z_sl_pr, z_fi_qi, z_fl_qi, z_fr_qi, z_al_qi, z_ar_qi, z_ln_qi, z_tg_qi, z_sz_qi, z_sl_qi, z_fi_ql, z_fl_ql, z_fr_ql, z_ai_ql, z_ar_ql, z_ln_ql, z_tg_ql, z_sz_ql, z_sl_ql, z_fi_qr, z_fl_qr, z_fr_qr, z_ai_qr, z_al_qr, z_ln_qr, z_tg_qr, z_sz_qr, z_sl_qr, z_fi_ca, z_fl_ca, z_fr_ca, z_al_ca, z_ar_ca, z_ln_ca, z_tg_ca, z_sz_ca, z_sl_ca, y_pi, y_pl, y_pr, y_qi, y_ql, y_qr, y_ca]
    · rw [b2]
      have e2 : (2 : Int32) = nI 2 := rfl
      unfold c228_405
      rw [e2, bd_s (ga4 (by omega)), bd_s (gs4 (by omega))]
  by_cases cg : S.1 25 (8 * s + p) = 0
  · have cg' : h_fi M 812 (200 + (8 * s + p)) = 0 := by rw [g2]; exact cg
    refine deny ?_ ?_
    · show x_out (b128_0 (10 + s) (some (200 + (8 * s + p))) (some a) M) = _
      unfold b128_0
      rw [bd_s ((g_i_t (ci := 8) tp).trans (congrArg some cg')), if_pos rfl]
    · unfold c228_360
      rw [if_pos rfl, if_pos rfl, if_neg m1, bd_s (ga25 hx8), if_pos cg]
  have cg' : ¬ h_fi M 812 (200 + (8 * s + p)) = 0 := by rw [g2]; exact cg
  have gi : g_i M 8 12 (some (200 + (8 * s + p))) = some (S.1 25 (8 * s + p)) := (g_i_t (ci := 8) tp).trans (congrArg some g2)
  by_cases cf : num X 4 3 = S.1 25 (8 * s + p)
  · -- TOLD
    have e58 : f58 [.inr (.inr (some a)), .inl 0] M = some (some (.inl (nI (bn X 13))), M) := f58_eq (i := 0) hX (by omega)
    have e116 := f116_eq hI hW hx
    rw [ndA_n e] at e116
    have hzn := h.st.zn h.pb
    have e125 := f125_eq (v := nI (bn X 13)) (u := nI n) (zs := S.1 37) hI hzn
    have h906 := h.st.2.2.2.2.1.2.1
    rw [h906, cmz_comm] at e125
    have e188 : ∀ T : sT, T.1 1 = S.1 1 → T.1 37 = S.1 37 → T.1 38 = S.1 38 → e188 (nI n) (nI (bn X 13)) T = some (b2 (cmz nd (S.1 38 0) (S.1 37) (nI n) (nI (bn X 13))), T) := fun T q1 q2 q3 => by
      have := e188_eq (S := T) (nd := nd) (v := nI n) (u := nI (bn X 13)) (by rw [q1]; exact h.st.2.2.1.2.1)
      rw [q2, q3] at this
      exact this
    obtain ⟨b, fr, M1, S1, d1, d2, d3, d4⟩ := P_draft (v1 := nI 6) (v2 := S.1 25 (8 * s + p)) (v3 := nI 16777212) (v4 := nI 0) (v5 := nI 0) (v6 := nI 0) hI h.pb hh hh2
    have kM1 := kf34 d1 h.pb.bk
    have kS1 := ke168 d2
    obtain ⟨M2, S2, l1, l2, l3⟩ := P_load (n := 1) (w := (nI (bn X 13)).toInt64) d4 (by show 13 + 1 ≤ 44; omega) (by omega) (by show 13 + 1 ≤ 80; omega)
    have kM2 := kf36 l1 d4.bk
    have kS2 := ke167 l2
    have kM02 : kp [200, 201, 202, 203, 300, 301, 302, 907] [0, 20, 21] M M2 := ((kp.rf h.pb.bk : kp [200, 201, 202, 203, 300, 301, 302, 907] [0, 20, 21] M M).tr kM1 rfl rfl).tr kM2 rfl rfl
    have kS02 : ks [4, 6, 7, 8, 9, 18, 19] S S2 := ((ks.rf.tr kS1 rfl : ks [4, 6, 7, 8, 9, 18, 19] S S1)).tr kS2 rfl
    have hB2 := h.keep kM02 (by decide) (by decide) kS02 (by decide) l3
    have hI2 := hB2.st.I
    have rc2 := hB2.rc hss
    obtain ⟨hkl, hko⟩ := rc2.kl hsw
    -- what is told
    have tell : ∃ aa T, (aa = 0 ∨ ∃ d q, d < 16 ∧ q < 8 ∧ aa = d * 65536 + q * 256 + (bn X 13 + 1)) ∧ ks [32] S2 T ∧ (if b2 (cmz nd (S.1 38 0) (S.1 37) (nI n) (nI (bn X 13))) = 0 then aa = 0 ∧ T = S2 else f127 [.inr (.inr (some (10 + s))), .inl (nI (bn X 13))] M2 = some (some (.inl (nI aa)), M2) ∧ e227 (nI s) (nI (bn X 13)) S2 = some (nI aa, T)) := by
      by_cases z : b2 (cmz nd (S.1 38 0) (S.1 37) (nI n) (nI (bn X 13))) = 0
      · exact ⟨0, S2, Or.inl rfl, ks.rf, by rw [if_pos z]; exact ⟨rfl, rfl⟩⟩
      · obtain ⟨aa, r1, r2⟩ := adL_rg (s := s) (v := bn X 13) hkl rc2.2.2.2.1 hsw (by omega) sw 0 (by omega)
        obtain ⟨T, t1, t2⟩ := e227_eq (v := bn X 13) hss hsw (by omega) hB2.st.2.2.1.1 rc2.2.2.1 hkl hko
        rw [r1] at t1
        have f7 := f127_eq hI2 hss (rc2.nS hss hsw) rc2.2.2.2.2.2.1 (v := bn X 13) (by omega)
        rw [r1] at f7
        exact ⟨aa, T, r2, t2, by rw [if_neg z]; exact ⟨f7, t1⟩⟩
    obtain ⟨aa, T, a1, a2, a3⟩ := tell
    have l3' : PB sw nd M2 T ia zb sb flc flr _ _ := l3.ks a2 (by decide)
    obtain ⟨M3, S3, n1, n2, n3⟩ := P_load (n := 3) (w := (nI aa).toInt64) l3' (by show 14 + 3 ≤ 44; omega) (by omega) (by show 14 + 3 ≤ 80; omega)
    have kM3 := kf36 n1 l3'.bk
    have kS3 := ke167 n2
    have hI3 := hI2.keep kM3 (by decide) (by decide)
    have kST : ks [4, 6, 7, 8, 9, 18, 19, 32] S S3 := ((ks.rf.tr kS02 rfl : ks [4, 6, 7, 8, 9, 18, 19, 32] S S2).tr a2 rfl).tr kS3 rfl
    have eu : upS S3 (8 * s + p) = upS S (8 * s + p) := upS_ks kST (by decide) (by decide)
    obtain ⟨M4, S4, o1, o2, o3⟩ := P_post hI3 n3 (hW.wO.ks kST (by decide)) (by rw [kM3.fi (by decide), kM02.fi (by decide), eu]; exact hW.up hx) hx (tru_6 hv hnd8 a1) (by show 17 ≤ 44; omega)
    rw [eu] at o3
    have kM4 := kf39 o1 n3.bk
    have kS4 := ke183 o2
    have kM : kp [200, 201, 202, 203, 300, 301, 302, 907] [0, 20, 21] M M4 := (kM02.tr kM3 rfl rfl).tr kM4 rfl rfl
    have kS : ks [4, 6, 7, 8, 9, 18, 19, 32] S S4 := kST.tr kS4 rfl
    refine ⟨M4, S4, _, _, ?_, ?_, h.keep kM (by decide) (by decide) kS (by decide) o3, qx_pq (by show 13 ≤ 17; omega) (by show 17 ≤ 44; omega), qx_pq (by show 13 ≤ 17; omega) (by show 17 ≤ 44; omega)⟩
    · have d1' : f34 [.inr (.inr (some 2)), .inl 6, .inl (S.1 25 (8 * s + p)), .inl 16777212, .inl 0] M = some (some (.inr (.inr (some b))), M1) := d1
      have l1' : f36 [.inr (.inr (some b)), .inl 1, .inr (.inl (nI (bn X 13)).toInt64)] M1 = some (none, M2) := l1
      have n1' : f36 [.inr (.inr (some b)), .inl 3, .inr (.inl (nI aa).toInt64)] M2 = some (none, M3) := n1
      have tb1 : h_tg M1 b = 3 := (d4.rd List.mem_cons_self).1.1.1
      have tb2 : h_tg M2 b = 3 := (l3.rd List.mem_cons_self).1.1.1
      have h12 := hI2.si0 hss
      have tp3 := hI3.po0 hx
      show x_out (b128_0 (10 + s) (some (200 + (8 * s + p))) (some a) M) = _
      unfold b128_0
      rw [bd_s gi, if_neg cg, bd_s (g_o_t (ci := 2) t3), bd_s (c_I_of e65)]
      show x_out (Option.bind (g_i M 8 12 (some (200 + (8 * s + p)))) _) = _
      rw [bd_s gi]
      show x_out (if num X 4 3 = S.1 25 (8 * s + p) then _ else _) = _
      rw [if_pos cf]
      show x_out (Option.bind (g_o M 2 (some a)) _) = _
      rw [bd_s (g_o_t (ci := 2) t3), bd_s (c_I_of e58)]
      show x_out (Option.bind (g_r M 10 0 (some (10 + s))) _) = _
      rw [bd_s ((g_r_t (ci := 10) h1).trans (congrArg some h2)), bd_s (g_o_t (ci := 8) tp), bd_s (c_I_of e116)]
      show x_out (Option.bind (g_o M 9 (some 2)) _) = _
      rw [bd_s (g_o_t (ci := 9) hsh), bd_s (c_I_of e125)]
      show x_out (Option.bind (g_r M 10 0 (some (10 + s))) _) = _
      rw [bd_s ((g_r_t (ci := 10) h1).trans (congrArg some h2)), bd_s gi, bd_s (g_o_t (ci := 9) hsh), bd_s (show c_R _ = some (some b, M1) by rw [d1']; rfl)]
      show x_out (Option.bind (g_o M1 2 (some b)) _) = _
      rw [bd_s (g_o_t (ci := 2) tb1), bd_s (c_V_of l1')]
      show x_out (if b2 (cmz nd (S.1 38 0) (S.1 37) (nI n) (nI (bn X 13))) = 0 then _ else _) = _
      by_cases z : b2 (cmz nd (S.1 38 0) (S.1 37) (nI n) (nI (bn X 13))) = 0
      · rw [if_pos z] at a3 ⊢
        rw [a3.1] at n1'
        have n1'' : f36 [.inr (.inr (some b)), .inl 3, .inr (.inl (0 : Int64))] M2 = some (none, M3) := n1'
        unfold b128_91
        rw [bd_s (g_o_t (ci := 2) tb2), bd_s (c_V_of n1''), bd_s (g_o_t (ci := 8) tp3), bd_s (c_V_of o1)]
        rfl
      · rw [if_neg z] at a3 ⊢
        rw [bd_s (g_o_t (ci := 10) h12), bd_s (c_I_of a3.1)]
        unfold b128_91
        show x_out (Option.bind (g_o M2 2 (some b)) _) = _
        rw [bd_s (g_o_t (ci := 2) tb2), bd_s (c_V_of n1'), bd_s (g_o_t (ci := 8) tp3), bd_s (c_V_of o1)]
        rfl
    · have d2' : e168 6 (S.1 25 (8 * s + p)) 16777212 0 0 0 S = some (nI fr, S1) := d2
      have l2' : e167 (nI fr) (nI (bn X 13)).toInt64 1 S1 = some S2 := l2
      have n2' : e167 (nI fr) (nI aa).toInt64 3 T = some S3 := n2
      have e8 := e188 S2 (kS02.i (by decide)) (kS02.i (by decide)) (kS02.i (by decide))
      unfold c228_360
      rw [if_pos rfl, if_pos rfl, if_neg m1, bd_s (ga25 hx8), if_neg cg, bd_s e166]
      show Option.bind (s_a S 25 (nI (8 * s + p))) _ = _
      rw [bd_s (ga25 hx8)]
      show (if num X 4 3 = S.1 25 (8 * s + p) then _ else _) = _
      rw [if_pos cf, bd_s (ga25 hx8), bd_s d2']
      show Option.bind (e167 (nI fr) (nI (bn X 13)).toInt64 1 S1) _ = _
      rw [bd_s l2', bd_s e8]
      show (if b2 (cmz nd (S.1 38 0) (S.1 37) (nI n) (nI (bn X 13))) = 0 then _ else _) = _
      by_cases z : b2 (cmz nd (S.1 38 0) (S.1 37) (nI n) (nI (bn X 13))) = 0
      · rw [if_pos z] at a3 ⊢
        obtain ⟨rfl, rfl⟩ := a3
        have n2'' : e167 (nI fr) (0 : Int64) 3 T = some S3 := n2'
        unfold c228_472 c228_483
        show Option.bind (e167 (nI fr) (0 : Int64) 3 T) _ = _
        rw [bd_s n2'', bd_s o2]
      · rw [if_neg z] at a3 ⊢
        rw [bd_s a3.2]
        unfold c228_472 c228_483
        show Option.bind (e167 (nI fr) (nI aa).toInt64 3 T) _ = _
        rw [bd_s n2', bd_s o2]
  · refine deny ?_ ?_
    · show x_out (b128_0 (10 + s) (some (200 + (8 * s + p))) (some a) M) = _
      unfold b128_0
      rw [bd_s gi, if_neg cg, bd_s (g_o_t (ci := 2) t3), bd_s (c_I_of e65)]
      show x_out (Option.bind (g_i M 8 12 (some (200 + (8 * s + p)))) _) = _
      rw [bd_s gi]
      show x_out (if num X 4 3 = S.1 25 (8 * s + p) then _ else _) = _
      rw [if_neg cf]
    · unfold c228_360
      rw [if_pos rfl, if_pos rfl, if_neg m1, bd_s (ga25 hx8), if_neg cg, bd_s e166]
      show Option.bind (s_a S 25 (nI (8 * s + p))) _ = _
      rw [bd_s (ga25 hx8)]
      show (if num X 4 3 = S.1 25 (8 * s + p) then _ else _) = _
      rw [if_neg cf]
end TK
