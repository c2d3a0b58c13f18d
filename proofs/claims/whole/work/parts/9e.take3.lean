/-! ===== takeFlogi, takeAsk ===== -/
theorem nu_lo {x : Nat} (h : x < 40) : nu x = nI (x % 8) := if_pos h
section TK
variable {sw nd rm : Nat} {M M' : hM} {S T : sT} {ia : Nat → Nat → Int32} {w t zb sb : Nat} {pe : Nat → Option Nat} {wo : Nat → Nat} {flc flr fmc fmr : Nat → List (List Int32)} {hc : List (Nat × Int32 × List Int32)} {hs : List (Nat × List Int32)} {kR : Nat → rK} {ka : Nat → Nat → Nat} {tog : Nat → Bool} {s p x y n : Nat}
/-- the reference has reckoned sums -/
theorem SB.ks32 (h : SB sw nd rm M S ia w pe wo t zb sb flc flr hc hs kR ka tog) (l : ks [32] S T) : SB sw nd rm M T ia w pe wo t zb sb flc flr hc hs kR ka tog := h.keep (kp.rf h.pb.bk : kp [] [] M M) (by decide) (by decide) l (by decide) (h.pb.ks l (by decide))
theorem nd_lt (hI : cI sw nd rm M) (hW : WI sw nd M S w pe wo) (e : pe x = some (40 + n)) : n < nd := by
  obtain ⟨-, hy, -⟩ := hW.sds e
  rcases hy with hy | hy
  · have := hI.bs.1.2; omega
  · omega
/-- takeFlogi -/
theorem P_flogi {v3 v7 : Int32} (h : SB sw nd rm M S ia w pe wo t zb sb flc flr hc hs kR ka tog) (hss : s < sw) (hp : p < 8) (e : pe (8 * s + p) = some (40 + n)) (hh : hc.length ≤ 3) (hh2 : hs.length ≤ 3) : ∃ M' S' fmc fmr, f129 [.inr (.inr (some (10 + s))), .inr (.inr (some (200 + (8 * s + p))))] M = some (none, M') ∧ c228_276 (nI s) (nI (8 * s + p)) v3 16777214 3 (nI n) v7 S = some (.inl S') ∧ SB sw nd rm M' S' ia w pe wo t zb sb fmc fmr hc hs kR ka tog ∧ qx S flc fmc ∧ qx S flr fmr := by
  have hI := h.st.I
  have hsw := hI.bs.1.2
  have hnd8 := hI.bs.2.1.2
  have hW := h.st.W
  have hn := nd_lt hI hW e
  have hx : sd sw nd (8 * s + p) := sd_sp hss hp
  have hx8 := hI.x8 hx
  have rc := h.rc hss
  obtain ⟨hl, hK⟩ := rc.kl hsw
  obtain ⟨T, t1, t2⟩ := e200_eq hss hsw rc.2.2.1 hl hK
  have hT := h.ks32 t2
  have h10 := rc.2.2.2.2.2.2
  have h1 := hI.si0 hss
  have m1 : ¬ nI n = -1 := nI_m1 (by omega)
  cases ho : ofK sw (kR s) s with
  | true =>
    rw [ho] at t1 h10
    have h10 : h_fi M 1010 (10 + s) = 1 := h10
    have t1 : e200 (nI s) S = some (1, T) := t1
    refine ⟨M, T, flc, flr, ?_, ?_, hT, qx.rf, qx.rf⟩
    · simp [f129, b129_0, b129_52, h1, h10, g_i, g_r, g_l, g_o, p_i, p_r, p_l, p_z, c_V, c_I, c_L, c_R, x_out, z_fl_pi, z_fr_pi, z_ai_pi, z_al_pi, z_ar_pi, z_ln_pi, z_tg_pi, z_sz_pi, z_sl_pi, z_fi_pl, z_fr_pl, z_ai_pl, z_al_pl, z_ar_pl, z_ln_pl, z_tg_pl, z_sz_pl, z_sl_pl, z_fi_pr, z_fl_pr, z_ai_pr, z_al_pr, z_ar_pr, z_ln_pr, z_tg_pr, z_sz_pr, z_sl_pr, z_fi_qi, z_fl_qi, z_fr_qi, z_al_qi, z_ar_qi, z_ln_qi, z_tg_qi, z_sz_qi, z_sl_qi, z_fi_ql, z_fl_ql, z_fr_ql, z_ai_ql, z_ar_ql, z_ln_ql, z_tg_ql, z_sz_ql, z_sl_ql, z_fi_qr, z_fl_qr, z_fr_qr, z_ai_qr, z_al_qr, z_ln_qr, z_tg_qr, z_sz_qr, z_sl_qr, z_fi_ca, z_fl_ca, z_fr_ca, z_al_ca, z_ar_ca, z_ln_ca, z_tg_ca, z_sz_ca, z_sl_ca, y_pi, y_pl, y_pr, y_qi, y_ql, y_qr, y_ca]
    · simp [c228_276, m1, t1]
  | false =>
    rw [ho] at t1 h10
    have h10 : h_fi M 1010 (10 + s) = 0 := h10
    have t1 : e200 (nI s) S = some (0, T) := t1
    obtain ⟨d, d1, d2, d3, d4⟩ := h.st.2.2.2.2.2 s hss
    have d4T : T.1 26 s = nI d := by rw [t2.i (by decide)]; exact d4
    have hg : nI (d * 65536 + (8 * s + p) % 8 * 256 + (n + 1)) = ((nI d <<< ((16 : Int32) &&& 31)) ||| (nI p <<< ((8 : Int32) &&& 31))) ||| (nI (n + 1)) := by
      rw [adr (by omega) hp (by omega), show (8 * s + p) % 8 = p by omega]
    have hB := hT.setp (f := 812) (g := 25) (u := nI (d * 65536 + (8 * s + p) % 8 * 256 + (n + 1))) (v := nI (d * 65536 + (8 * s + p) % 8 * 256 + (n + 1))) hx (hT.px.gv (Or.inr ⟨by omega, n, d, e, d1, d2, rfl⟩)) (by decide) (by decide)
    obtain ⟨a, f, M1, M', S1, S', fmc, fmr, m1', m2', s1', s2', hI1, hB', q1, q2⟩ := P_wel (to := nI (d * 65536 + (8 * s + p) % 8 * 256 + (n + 1))) hB hx hh hh2
    have eu : ∀ z, upS S z = upS (s_u T 25 (8 * s + p) (nI (d * 65536 + (8 * s + p) % 8 * 256 + (n + 1)))) z := fun z => by
      rw [upS_ks (k_su (S := T) (k := 25)) (by decide) (by decide), upS_ks t2 (by decide) (by decide)]
    refine ⟨M', S', fmc, fmr, ?_, ?_, hB', q1.up eu, q2.up eu⟩
    · have tp := hI.po0 hx
      have h3 := hI.po3 hx
      rw [nu_lo (by omega), show (8 * s + p) % 8 = p by omega] at h3
      have e116 := f116_eq hI hW hx
      have en : ndA pe (8 * s + p) = nI n := by
        unfold ndA
        rw [e]
        show (if 40 ≤ 40 + n then nI (40 + n - 40) else -1) = nI n
        rw [if_pos (by omega), show 40 + n - 40 = n by omega]
      rw [en] at e116
      have h2 := hI.si1 hss
      have hsh := hI.sh0
      have tp1 := hI1.po0 hx
      rw [hg] at m1'
      have hg' : nI (d * 65536 + (8 * s + p) % 8 * 256 + (n + 1)) = ((nI d <<< ((16 : Int32) &&& 31)) ||| (nI p <<< ((8 : Int32) &&& 31))) ||| (nI n + 1) := by rw [hg, nI_1]
      have m1'' : f34 [.inr (.inr (some 2)), .inl 4, .inl (((nI d <<< ((16 : Int32) &&& 31)) ||| (nI p <<< ((8 : Int32) &&& 31))) ||| (nI n + 1)), .inl 16777214, .inl 0] (h_pi M 812 (200 + (8 * s + p)) (((nI d <<< ((16 : Int32) &&& 31)) ||| (nI p <<< ((8 : Int32) &&& 31))) ||| (nI n + 1))) = some (some (.inr (.inr (some a))), M1) := by
        rw [nI_1]; exact m1'
      generalize hG : (((nI d <<< ((16 : Int32) &&& 31)) ||| (nI p <<< ((8 : Int32) &&& 31))) ||| (nI n + 1)) = G at m1''
      show x_out (b129_0 (10 + s) (some (200 + (8 * s + p))) M) = _
      unfold b129_0
      rw [bd_s ((g_i_t (ci := 10) h1).trans (congrArg some h10)), if_pos rfl, bd_s ((g_i_t (ci := 10) h1).trans (congrArg some d3)), bd_s ((g_i_t (ci := 8) tp).trans (congrArg some h3)), bd_s (g_o_t (ci := 8) tp), bd_s (c_I_of e116)]
      show x_out (Option.bind (p_i M 8 12 (some (200 + (8 * s + p))) (((nI d <<< ((16 : Int32) &&& 31)) ||| (nI p <<< ((8 : Int32) &&& 31))) ||| (nI n + 1))) _) = _
      rw [hG, bd_s (p_i_t (ci := 8) tp)]
      have r1 : g_r (h_pi M 812 (200 + (8 * s + p)) G) 10 0 (some (10 + s)) = some (some 2) := (g_r_t (ci := 10) h1).trans (congrArg some h2)
      have r2 : g_i (h_pi M 812 (200 + (8 * s + p)) G) 8 12 (some (200 + (8 * s + p))) = some G := by
        have e1 : h_fi (h_pi M 812 (200 + (8 * s + p)) G) 812 (200 + (8 * s + p)) = G := by rw [fi_eq, u1_eq]
        exact (g_i_t (M := h_pi M 812 (200 + (8 * s + p)) G) (ci := 8) (k := 12) tp).trans (congrArg some e1)
      rw [bd_s r1, bd_s r2, bd_s (g_o_t (ci := 9) (show h_tg (h_pi M 812 (200 + (8 * s + p)) G) 2 = 10 from hsh)), bd_s (show c_R _ = some (some a, M1) by rw [m1'']; rfl)]
      show x_out (Option.bind (g_o M1 8 (some (200 + (8 * s + p)))) _) = _
      rw [bd_s (g_o_t (ci := 8) tp1), bd_s (c_V_of m2')]
      rfl
    · have x1 : nI (8 * s + p) - nI (8 * s) = nI p := by rw [pk_sub (by omega), show 8 * s + p - 8 * s = p by omega]
      rw [hg] at s1'
      have hs5 : s < 5 := by omega
      have hg3 : ((nI d <<< ((16 : Int32) &&& 31)) ||| (nI p <<< ((8 : Int32) &&& 31))) ||| (nI n + 1) = ((nI d <<< ((16 : Int32) &&& 31)) ||| (nI p <<< ((8 : Int32) &&& 31))) ||| (nI (n + 1)) := by rw [nI_1]
      generalize hG : ((nI d <<< ((16 : Int32) &&& 31)) ||| (nI p <<< ((8 : Int32) &&& 31))) ||| (nI (n + 1)) = G at *
      unfold c228_276
      rw [if_pos rfl, if_pos rfl, if_neg m1, bd_s t1]
      show (if (0 : Int32) = 0 then _ else _) = _
      rw [if_pos rfl]
      show Option.bind (s_a T 26 (nI s)) _ = _
      rw [bd_s (ga26 hs5), d4T, ixl8, x1, nI_1, hG, bd_s (gs25 hx8), bd_s (ga25 hx8)]
      have r1 : (s_u T 25 (8 * s + p) G).1 25 (8 * s + p) = G := by rw [su_eq, u1_eq]
      rw [r1, bd_s s1', bd_s s2']
      rfl
end TK
