/-! ===== cut, and the node that loses its wire ===== -/
section CT
variable {sw nd rm : Nat} {M N M' Z : hM} {S T U V : sT} {ia : Nat → Nat → Int32} {ct : Nat → Int32} {w t x y z zb sb nc c s p n i a b f j : Nat} {pe : Nat → Option Nat} {wo : Nat → Nat} {fl : Nat → List (List Int32)} {kR : Nat → rK} {ka : Nat → Nat → Nat} {tog : Nat → Bool} {ca hh : Nat → Nat} {lv : Nat → Bool} {jj : Nat → Nat} {G : Nat → nG} {v v1 v2 v3 v4 v5 : Int32}
theorem e186_fx (hn : n < 8) : ∃ U, e186 (nI n) S = some U ∧ e186 (nI n) (fx22 fl S) = some (fx22 fl U) := by
  obtain ⟨U, y1, y2, y3, y4, y5, y6, y7⟩ := k186_2 hn 8 0 S xF (by omega) (by unfold xF; omega)
  obtain ⟨V, z1, z2, z3, z4, z5, z6, z7⟩ := k186_2 hn 8 0 (fx22 fl S) xF (by omega) (by unfold xF; omega)
  have o : ∀ (X : sT) k, k ≠ 22 → (fx22 fl X).1 k = X.1 k := fun X k hk => (fx22_a k (fun q => hk (List.mem_singleton.mp q))).1
  have e : V = fx22 fl U := by
    refine Prod.ext (funext fun k => funext fun i => ?_) (z3.trans y3.symm)
    by_cases c1 : k = 39
    · subst c1
      rw [o U 39 (by decide)]
      by_cases c : i < 8 * n + 0 ∨ 8 * n + 8 ≤ i
      · rw [z7 i c, y7 i c, o S 39 (by decide)]
      · obtain ⟨d, rfl⟩ : ∃ d, i = 8 * n + d := ⟨i - 8 * n, by omega⟩
        rw [z6 d (by omega) (by omega), y6 d (by omega) (by omega)]
    by_cases c2 : k = 41
    · subst c2; rw [o U 41 (by decide), z4, y4, o S 41 (by decide)]
    by_cases c3 : k = 46
    · subst c3; rw [o U 46 (by decide), z5, y5, o S 46 (by decide)]
    have hk : k ∉ [39, 41, 46] := fun q => by
      rcases List.mem_cons.mp q with q | q
      · exact c1 q
      rcases List.mem_cons.mp q with q | q
      · exact c2 q
      · exact c3 (List.mem_singleton.mp q)
    rw [(z2 k hk).1]
    by_cases c4 : k = 22
    · subst c4; rfl
    · rw [o U k c4, o S k c4, (y2 k hk).1]
  exact ⟨U, y1, by rw [← e]; exact z1⟩
theorem P_forgW (h : TW sw nd rm M S ia w pe wo t zb sb fl kR ka tog) (hN : NR nd M S t nc ca hh lv jj G) (hn : n < nd) : ∃ M' S' ib G', f22 [.inr (.inr (some (140 + n)))] M = some (none, M') ∧ e186 (nI n) S = some S' ∧ TW sw nd rm M' S' ib w pe wo t zb sb fl kR ka tog ∧ NR nd M' S' t nc ca hh lv jj G' ∧ (∀ m, m ≠ n → G' m = G m) ∧ (∀ R, G n = .inl R → G' n = G n) ∧ (∀ q, G n = .inr q → G' n = .inr (q.1, [])) := by
  have n8 := h.I.bs.2.1.2
  obtain ⟨U, u1', u2'⟩ := e186_fx (S := S) (fl := fl) (n := n) (by omega)
  have hN' : NR nd M (fx22 fl S) t nc ca hh lv jj G := hN.kp h.I (kp.rf h.1.pb.bk : kp [] [] M M) (by decide) (by decide) i20_rf fx22_a (by decide)
  obtain ⟨M', S1, ib, G', a1, a2, a3, a4, a5, a6, a7⟩ := P_forg (hc := []) (hs := []) h.tb hN' hn
  rw [u2'] at a2
  cases a2
  have a3 : TB sw nd rm M' (fx22 fl U) ib w pe wo t zb sb fl kR ka tog := a3
  exact ⟨M', U, ib, G', a1, u1', TW.of a3, a4.kp a3.I (kp.rf a3.1.pb.bk : kp [] [] M' M') (by decide) (by decide) i20_rf fx22_b (by decide), a5, a6, a7⟩
theorem C_cut (h : AX sw nd rm t zb sb M S) : ∃ r M' S', f24 [.inr (.inr (some 1)), .inl v] M = some (some (.inl r), M') ∧ e235 v S = some (r, S') ∧ CR sw nd rm t zb sb M' S' := by
  have h0 := h
  obtain ⟨ia, w, pe, wo, fl, kR, ka, tog, nc, ca, hh, lv, jj, G, ⟨hT, ha, hN, hin⟩, qz⟩ := h
  have hI := hT.I
  have hW := hT.W
  obtain ⟨w1, w2, w3⟩ := hW.1
  have n1 : ¬ (1 : Int32) = 0 := by decide
  have fd : f24 [.inr (.inr (some 1)), .inl v] M = x_out (b24_0 1 v M) := rfl
  have ed : e235 v S = s_out (c235_0 v S) := rfl
  rw [fd, ed]
  unfold b24_0 c235_0
  rw [bd_s (o11 hI)]
  rcases px2 v (n := w) (by omega) with z | ⟨i, hi, rfl⟩
  · rw [bd_s (c_I_of (f16_no hI w1 z)), bd_s (e234_no w2 z), if_pos rfl, if_pos rfl]
    exact ⟨_, M, S, rfl, rfl, h0.cr⟩
  obtain ⟨x, y, e1, ⟨wx, wy, x40⟩, ⟨e4, e5⟩, ⟨e6, e7⟩, huq⟩ := hW.end2 hI hi
  obtain ⟨sx, sy, e1'⟩ := hW.sds e1
  have x8 := hI.x8 sx
  have y8 := hI.x8 sy
  have ux := upS_w hW e1
  rw [wx] at ux
  have g3 : ∀ N : hM, cI sw nd rm N → h_ar N 5 = h_ar M 5 → g_r N 11 3 (some 1) = some (some 5) ∧ al_r N 38 (some 5) (nI i) = some (some (200 + x)) := fun N hN e => ⟨(g_r_t (ci := 11) hN.fab0).trans (congrArg some hN.fab4), (al_r_t hN.ar4 (by rw [hN.ar5]; omega) (by omega)).trans (congrArg some (by rw [e]; exact e6))⟩
  have g4 : ∀ N : hM, cI sw nd rm N → h_ar N 6 = h_ar M 6 → g_r N 11 4 (some 1) = some (some 6) ∧ al_r N 38 (some 6) (nI i) = some (some (200 + y)) := fun N hN e => ⟨(g_r_t (ci := 11) hN.fab0).trans (congrArg some hN.fab5), (al_r_t hN.ar6 (by rw [hN.ar7]; omega) (by omega)).trans (congrArg some (by rw [e]; exact e7))⟩
  rw [bd_s (c_I_of (f16_yes hI w1 hi w3)), bd_s (e234_yes w2 hi w3), if_neg n1, if_neg n1, bd_s (g3 M hI rfl).1, bd_s (g3 M hI rfl).2, bd_s ((g_i_t (ci := 8) (hI.po0 sx)).trans (congrArg some ((hW.up sx).trans ux))), bd_s (ga12 (show i < 16 by omega))]
  by_cases u : S.1 12 i = 0
  · rw [if_pos u, if_pos (show (0 : Int32) = 0 from rfl), if_pos u]
    exact ⟨_, M, S, rfl, rfl, h0.cr⟩
  obtain ⟨ct, d1, d2, d3, d4, d5, d6, d7⟩ := hT.1.pb
  obtain ⟨N, z1, z2, z3⟩ := D_cls hI d1 sx d3
  have hIN := hI.keep z3.1 (by decide) (by decide)
  obtain ⟨Z, y1, y2, y3⟩ := D_cls hIN z2 sy (emF_b d3)
  have hIZ := hIN.keep y3.1 (by decide) (by decide)
  have arN : h_ar N 6 = h_ar M 6 := z3.1.ar hI.ar6 rfl
  have arZ : h_ar Z 6 = h_ar M 6 := (y3.1.ar hIN.ar6 rfl).trans arN
  -- the reference
  have l0 : ks [12] S (s_u S 12 i 0) := k_su
  have i1 : (2 : Int32) * nI i = nI (2 * i) := pk_mul 2 i
  obtain ⟨U, u1', u2', -, u4', -⟩ := FR_emp (d2.cg l0 (by decide)) x8 d4
  have em1 := em_st (x := x) u2'
  obtain ⟨V, v1', v2', -, v4', v5'⟩ := FR_emp u1' y8 (emF_b (x := x) d4)
  have em2 := em_st (x := y) v2'
  have q10 : (emS U x).1 10 = S.1 10 := by rw [em1.1.i (by decide), l0.i (by decide)]
  have ds : ∀ T, (y < 40 → T = emS V y) → (40 ≤ y → T = s_u (emS V y) 36 (y - 40) (-1000)) → dSt S T x y i ∧ FR T (emF (emF fl x) y) [] := fun T q1 q2 => by
    have base : ks [8, 9, 12, 15, 17, 19, 20, 21, 23, 24, 25, 36] S (emS V y) := (((ks.rf : ks [8, 9, 12, 15, 17, 19, 20, 21, 23, 24, 25, 36] S S).tr l0 rfl).tr em1.1 rfl).tr em2.1 rfl
    obtain ⟨m1, m2, m3, m4, m5, m6⟩ := em1
    obtain ⟨o1, o2, o3, o4, o5, o6⟩ := em2
    have b12 : (emS V y).1 12 = u1 (S.1 12) i 0 := by rw [o1.i (by decide), m1.i (by decide), su_eq]
    have b20 : (emS V y).1 20 = u1 (u1 (S.1 20) x 0) y 0 := by rw [o2, m2, l0.i (by decide)]
    have b21 : (emS V y).1 21 = u1 (u1 (S.1 21) x 0) y 0 := by rw [o3, m3, l0.i (by decide)]
    have b23 : (emS V y).1 23 = u1 (u1 (S.1 23) x (-1)) y (-1) := by rw [o4, m4, l0.i (by decide)]
    have b24 : (emS V y).1 24 = u1 (u1 (S.1 24) x (-1000)) y (-1000) := by rw [o5, m5, l0.i (by decide)]
    have b25 : (emS V y).1 25 = u1 (u1 (S.1 25) x 0) y 0 := by rw [o6, m6, l0.i (by decide)]
    have b36 : (emS V y).1 36 = S.1 36 := by rw [o1.i (by decide), m1.i (by decide), l0.i (by decide)]
    by_cases y40 : 40 ≤ y
    · rw [q2 y40]
      refine ⟨⟨base.tr k_su rfl, ?_, ?_, ?_, ?_, ?_, ?_, ?_⟩, v1'.cg (k_su : ks [36] _ _) (by decide)⟩
      · rw [su_ne (by decide)]; exact b12
      · rw [su_ne (by decide)]; exact b20
      · rw [su_ne (by decide)]; exact b21
      · rw [su_ne (by decide)]; exact b23
      · rw [su_ne (by decide)]; exact b24
      · rw [su_ne (by decide)]; exact b25
      · rw [su_eq, b36, if_pos y40]
    · rw [q1 (by omega)]
      exact ⟨⟨base, b12, b20, b21, b23, b24, b25, by rw [b36, if_neg y40]⟩, v1'⟩
  rw [if_neg u, if_neg n1, if_neg u, bd_s (g3 M hI rfl).1, bd_s (g3 M hI rfl).2, bd_s (g_o_t (ci := 8) (hI.po0 sx)), bd_s (c_V_of z1), bd_s (g4 N hIN arN).1, bd_s (g4 N hIN arN).2, bd_s (g_o_t (ci := 8) (hIN.po0 sy)), bd_s (c_V_of y1), bd_s (g4 Z hIZ arZ).1, bd_s (g4 Z hIZ arZ).2, bd_s ((g_i_t (ci := 8) (hIZ.po0 sy)).trans (congrArg some (hIZ.po2 sy))), bd_s ((g_r_t (ci := 11) hIZ.fab0).trans (congrArg some hIZ.fab1)), bd_s (g_o_t (ci := 9) hIZ.sh0), bd_s (gs12_0 (show i < 16 by omega)), i1, bd_s ((ga10 (show 2 * i < 32 by omega)).trans (congrArg some (show (s_u S 12 i 0).1 10 (2 * i) = nI x by rw [su_ne (by decide)]; exact e4))), bd_s (u4' x40), nI_1, bd_s ((ga10 (show 2 * i + 1 < 32 by omega)).trans (congrArg some (show (emS U x).1 10 (2 * i + 1) = nI y by rw [q10]; exact e5)))]
  by_cases y40 : 40 ≤ y
  · obtain ⟨n, rfl⟩ : ∃ n, y = 40 + n := ⟨y - 40, by omega⟩
    have hn : n < nd := by
      rcases sy with q | q
      · have := hI.bs.1.2; omega
      · omega
    have n8 := hI.bs.2.1.2
    rw [show 40 + n - 40 = n by omega] at v5' ds
    obtain ⟨q1, q2⟩ := ds (s_u (emS V (40 + n)) 36 n (-1000)) (fun q => by omega) (fun _ => rfl)
    obtain ⟨t1, t2, t3⟩ := D_new hT hN qz hi e1 wx wy huq x40 z3 y3 d6 y2 q2 q1
    have k : kp [503] [] Z (h_pi Z 503 (140 + n) 0) := k_hpi t1.1.pb.bk (by rw [hIZ.no0 hn]; decide)
    have l : ks [35] (s_u (emS V (40 + n)) 36 n (-1000)) (s_u (s_u (emS V (40 + n)) 36 n (-1000)) 35 n 0) := k_su
    have t1' := t1.st' k (by decide) l (by decide) (t1.1.st.keep k (by decide) (by decide) l (by decide) rfl)
    have t2' := t2.ad (v := 0) hIZ t1.1.pb.bk hn
    have t3' : QZ pe nd (s_u (s_u (emS V (40 + n)) 36 n (-1000)) 35 n 0) := t3.su (by decide) (Or.inl rfl)
    obtain ⟨M4, S4, ib, G', a1, a2, a3, a4, a5, a6, a7⟩ := P_forgW t1' t2' hn
    have q4 := qe186 a2 t3' ⟨n, rfl, by omega, by rw [e1']; exact (fun q => by cases q)⟩
    have f23' : f23 [.inr (.inr (some (140 + n)))] Z = some (none, M4) := by
      show x_out (b23_0 (140 + n) Z) = _
      unfold b23_0
      rw [bd_s (p_i_t (ci := 5) (hIZ.no0 hn)), bd_s (g_o_t (ci := 5) (t1'.I.no0 hn)), bd_s (c_V_of a1)]
      rfl
    have ow16 : ow (40 + n) - 16 = nI n := by rw [ow_hi (by omega), show 40 + n - 40 = n by omega]; exact sub16
    rw [ow16, bd_s (c_I_of (f8_yes hIZ hn)), if_neg n1, bd_s (nod_a hIZ hn).1, bd_s (nod_a hIZ hn).2, bd_s (g_o_t (ci := 5) (hIZ.no0 hn)), bd_s (c_V_of f23'), bd_s (v5' S4 y40 a2)]
    refine ⟨1, M4, S4, rfl, rfl, t, zb, sb, ⟨ib, w, pe, wo, _, kR, ka, tog, nc, ca, hh, lv, jj, G', ⟨a3, ha, a4, fun m hm => ?_⟩, q4⟩, by omega, by omega, by omega⟩
    obtain ⟨i1, i2, i3⟩ := hin m hm
    refine ⟨i1, i2, fun q hq => ?_⟩
    by_cases mn : m = n
    · subst mn
      cases hG : G m with
      | inl R => rw [a6 R hG, hG] at hq; cases hq
      | inr q' =>
        rw [a7 q' hG] at hq
        cases hq
        intro e he
        cases he
    · rw [a5 m mn] at hq
      exact i3 q hq
  · obtain ⟨q1, q2⟩ := ds (emS V y) (fun _ => rfl) (fun q => absurd q y40)
    obtain ⟨t1, t2, t3⟩ := D_new hT hN qz hi e1 wx wy huq x40 z3 y3 d6 y2 q2 q1
    have neg : ow y - 16 < 0 := by
      rw [ow_lo (by omega)]
      exact pk_sneg (b := 16) (by omega) (by omega)
    rw [bd_s (c_I_of (f8_no hIZ (Or.inl neg))), if_pos rfl, bd_s (v4' (by omega))]
    exact ⟨1, Z, emS V y, rfl, rfl, t, zb, sb, ⟨ia, w, pe, wo, _, kR, ka, tog, nc, ca, hh, lv, jj, G, ⟨t1, ha, t2, hin⟩, t3⟩, by omega, by omega, by omega⟩
end CT
