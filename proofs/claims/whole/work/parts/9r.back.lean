/-! ===== takeBackAddresses, sayHello ===== -/
section BK
variable {sw nd rm : Nat} {M M1 M' : hM} {S S0 S1 T : sT} {ia ib : Nat → Nat → Int32} {w t x y z zb sb s p a f : Nat} {pe : Nat → Option Nat} {wo : Nat → Nat} {fl fm flc flr fmc fmr : Nat → List (List Int32)} {L X : List Int32} {r : List (List Int32)} {F A G : List Nat} {kR kR' : Nat → rK} {ka ka' : Nat → Nat → Nat} {tog tog' : Nat → Bool}
theorem SB_fls {hc : List (Nat × Int32 × List Int32)} {hs : List (Nat × List Int32)} (h : SB sw nd rm M S ia w pe wo t zb sb flc flr hc hs kR ka tog) (h1 : ∀ p, p < 144 → fmc p = flc p) (h2 : ∀ p, p < 144 → fmr p = flr p) : SB sw nd rm M S ia w pe wo t zb sb fmc fmr hc hs kR ka tog := ⟨h.1, h.2.1.fls h1 h2, h.2.2⟩
/-- queues have grown on both sides -/
theorem TB.grow (h : TB sw nd rm M S ia w pe wo t zb sb fl kR ka tog) (hB : SB sw nd rm M' T ib w pe wo t zb sb fmc fmr [] [] kR' ka' tog') (q1 : qx S fl fmc) (q2 : qx S fl fmr) (k : kp F A M M') (hF : [806, 807, 813].all (fun x => ! F.contains x) = true) (l : ks G S T) (hG : [5, 12, 14, 20, 21, 22].all (fun x => ! G.contains x) = true) (hown : OWN sw pe kR') : TB sw nd rm M' T ib w pe wo t zb sb fmc kR' ka' tog' := by
  have eq : ∀ p, p < 144 → fmc p = fmr p := fun p hp => by
    by_cases q : p < 96
    · rw [q1.1 p q, q2.1 p q]
    · obtain ⟨ct, -, -, -, -, c5, -⟩ := hB.pb
      exact c5 p (by omega) hp
  exact ⟨SB_fls hB (fun _ _ => rfl) eq, h.2.1.keep k hF l hG q1 h.x48, hown⟩
theorem e175_v (U : sT) : e175 (nI s) (nI p) U = some (nI (8 * s + p), U) := by
  have : nI (8 * s) + nI p = nI (8 * s + p) := nI_add _ _
  simp [e175, c175_0, ixl8, this, s_out]
theorem P_tkb (hss : s < sw) : ∀ d p M S fl fuel fus, TB sw nd rm M S ia w pe wo t zb sb fl kR ka tog → p + d = 8 → d < fuel → d < fus → ∃ M' S' fm, drive k95 fuel 2 [.inr (.inr (some (10 + s))), .inl (nI p)] M = some (none, M') ∧ sdrive kS224 fus 2 [.inl (nI s), .inl (nI p)] S = sdrive kS224 (fus - d - 1) 85 [.inl (nI s), .inl (nI 0)] S' ∧ TB sw nd rm M' S' ia w pe wo t zb sb fm kR ka tog ∧ i20 M M'
  | 0, p, M, S, fl, fuel, fus, h, hp, hf, hg => by
    obtain ⟨f, rfl⟩ : ∃ f, fuel = f + 1 := ⟨fuel - 1, by omega⟩
    obtain ⟨g, rfl⟩ : ∃ g, fus = g + 1 := ⟨fus - 1, by omega⟩
    have e : (8 : Int32) ≤ nI p := nI_le (a := 8) (by omega) (by omega)
    have e0 : nI 0 = 0 := rfl
    refine ⟨M, S, fl, dr_end (by simp [k95, b95_2, e]), ?_, h, i20_rf⟩
    have : kS224 2 [.inl (nI s), .inl (nI p)] S = some (.inr (85, [.inl (nI s), .inl (nI 0)], S)) := by simp [kS224, c224_2, e, e0]
    rw [sd_go this]
    rfl
  | d + 1, p, M, S, fl, fuel, fus, h, hp, hf, hg => by
    obtain ⟨f, rfl⟩ : ∃ f, fuel = f + 1 := ⟨fuel - 1, by omega⟩
    obtain ⟨g, rfl⟩ : ∃ g, fus = g + 1 := ⟨fus - 1, by omega⟩
    have hI := h.I
    have hsw := hI.bs.1.2
    have hp8 : p < 8 := by omega
    have hs5 : s < 5 := by omega
    have hx : sd sw nd (8 * s + p) := sd_sp hss hp8
    have hx8 := hI.x8 hx
    have tp := hI.po0 hx
    have ts := hI.si0 hss
    have e : ¬ (8 : Int32) ≤ nI p := nI_ge (b := 8) hp8 (by omega)
    obtain ⟨⟨-, p2⟩, -⟩ := h.1.px (8 * s + p) hx
    have gp : g_r M 10 2 (some (10 + s)) = some (some (20 + s)) := (g_r_t (ci := 10) ts).trans (congrArg some (hI.si3 hss))
    have gg : g_i M 8 12 (some (200 + (8 * s + p))) = some (S.1 25 (8 * s + p)) := (g_i_t (ci := 8) tp).trans (congrArg some p2)
    obtain ⟨dm, d1, d2, d3, d4⟩ := h.1.st.2.2.2.2.2 s hss
    have gd : g_i M 10 3 (some (10 + s)) = some (S.1 26 s) := (g_i_t (ci := 10) ts).trans (congrArg some (by rw [d4]; exact d3))
    have rc := h.1.rc hss
    obtain ⟨hl, hK⟩ := rc.kl hsw
    obtain ⟨T, t1, t2⟩ := e200_eq hss hsw rc.2.2.1 hl hK
    have go : g_i M 10 10 (some (10 + s)) = some (b2 (ofK sw (kR s) s)) := (g_i_t (ci := 10) ts).trans (congrArg some rc.2.2.2.2.2.2)
    -- go on without a change but of sums
    have skip : ∀ U, ks [32] S U → k95 2 [.inr (.inr (some (10 + s))), .inl (nI p)] M = some (.inr (2, [.inr (.inr (some (10 + s))), .inl (nI (p + 1))], M)) → kS224 2 [.inl (nI s), .inl (nI p)] S = some (.inr (2, [.inl (nI s), .inl (nI (p + 1))], U)) → ∃ M' S' fm, drive k95 (f + 1) 2 [.inr (.inr (some (10 + s))), .inl (nI p)] M = some (none, M') ∧ sdrive kS224 (g + 1) 2 [.inl (nI s), .inl (nI p)] S = sdrive kS224 (g + 1 - (d + 1) - 1) 85 [.inl (nI s), .inl (nI 0)] S' ∧ TB sw nd rm M' S' ia w pe wo t zb sb fm kR ka tog ∧ i20 M M' := fun U kU b1 b2 => by
      obtain ⟨M', S', fm, j1, j2, j3, j4⟩ := P_tkb hss d (p + 1) M U fl f g (h.ks32 kU) (by omega) (by omega) (by omega)
      refine ⟨M', S', fm, by rw [dr_go b1]; exact j1, ?_, j3, j4⟩
      rw [sd_go b2, show g + 1 - (d + 1) - 1 = g - d - 1 by omega]
      exact j2
    -- the address is taken back
    have back : ∀ U, ks [32] S U → (k95 2 [.inr (.inr (some (10 + s))), .inl (nI p)] M = b95_43 (10 + s) (nI p) (some (200 + (8 * s + p))) M) → (kS224 2 [.inl (nI s), .inl (nI p)] S = c224_53 (nI s) (nI p) (nI (8 * s + p)) U) → ∃ M' S' fm, drive k95 (f + 1) 2 [.inr (.inr (some (10 + s))), .inl (nI p)] M = some (none, M') ∧ sdrive kS224 (g + 1) 2 [.inl (nI s), .inl (nI p)] S = sdrive kS224 (g + 1 - (d + 1) - 1) 85 [.inl (nI s), .inl (nI 0)] S' ∧ TB sw nd rm M' S' ia w pe wo t zb sb fm kR ka tog ∧ i20 M M' := fun U kU b1 b2 => by
      have hU := h.ks32 kU
      have hB := hU.1.setp (f := 812) (g := 25) (u := 0) (v := 0) hx (hU.1.px.gv (Or.inl rfl)) (by decide) (by decide)
      obtain ⟨a, ff, M1, M2, S1, S2, fmc, fmr, m1, m2, s1, s2, hI1, hB', q1, q2⟩ := P_wel (to := 0) hB hx (by simp) (by simp)
      have kU5 : ks [25] U (s_u U 25 (8 * s + p) 0) := k_su
      have k12 : kp [812] [] M (h_pi M 812 (200 + (8 * s + p)) 0) := k_hpi h.1.pb.bk (by rw [tp]; decide)
      have kM1 := kf34 m1 k12.1
      have kM2 := kf39 m2 kM1.1
      have kM : kp [200, 201, 202, 203, 300, 301, 302, 812, 907] [0, 20, 21] M M2 := (((kp.rf h.1.pb.bk : kp [200, 201, 202, 203, 300, 301, 302, 812, 907] [0, 20, 21] M M).tr k12 rfl rfl).tr kM1 rfl rfl).tr kM2 rfl rfl
      have kS : ks [4, 6, 7, 8, 9, 18, 19, 25] U S2 := ((ks.rf.tr kU5 rfl : ks [4, 6, 7, 8, 9, 18, 19, 25] U _).tr (ke168 s1) rfl).tr (ke183 s2) rfl
      have eu : ∀ z, upS U z = upS (s_u U 25 (8 * s + p) 0) z := fun z => (upS_ks kU5 (by decide) (by decide)).symm
      have hN := hU.grow hB' (q1.up eu) (q2.up eu) kM (by decide) kS (by decide) h.2.2
      obtain ⟨M', S', fm, j1, j2, j3, j4⟩ := P_tkb hss d (p + 1) M2 S2 fmc f g hN (by omega) (by omega) (by omega)
      refine ⟨M', S', fm, ?_, ?_, j3, i20_tr (PB_i20 h.1.pb hB'.pb kM) j4⟩
      · have b3 : b95_43 (10 + s) (nI p) (some (200 + (8 * s + p))) M = some (.inr (2, [.inr (.inr (some (10 + s))), .inl (nI (p + 1))], M2)) := by
          have tp1 := hI1.po0 hx
          have h2 := hI.si1 hss
          have hsh := hI.sh0
          simp [b95_43, b95_64, tp, ts, h2, hsh, m1, tp1, m2, nI_1, g_i, g_r, g_l, g_o, p_i, p_r, p_l, p_z, c_V, c_I, c_L, c_R, x_out, z_fl_pi, z_fr_pi, z_ai_pi, z_al_pi, z_ar_pi, z_ln_pi, z_tg_pi, z_sz_pi, z_sl_pi, z_fi_pl, z_fr_pl, z_ai_pl, z_al_pl, z_ar_pl, z_ln_pl, z_tg_pl, z_sz_pl, z_sl_pl, z_fi_pr, z_fl_pr, z_ai_pr, z_al_pr, z_ar_pr, z_ln_pr, z_tg_pr, z_sz_pr, z_sl_pr, z_fi_qi, z_fl_qi, z_fr_qi, z_al_qi, z_ar_qi, z_ln_qi, z_tg_qi, z_sz_qi, z_sl_qi, z_fi_ql, z_fl_ql, z_fr_ql, z_ai_ql, z_ar_ql, z_ln_ql, z_tg_ql, z_sz_ql, z_sl_ql, z_fi_qr, z_fl_qr, z_fr_qr, z_ai_qr, z_al_qr, z_ln_qr, z_tg_qr, z_sz_qr, z_sl_qr, z_fi_ca, z_fl_ca, z_fr_ca, z_al_ca, z_ar_ca, z_ln_ca, z_tg_ca, z_sz_ca, z_sl_ca, y_pi, y_pl, y_pr, y_qi, y_ql, y_qr, y_ca]
        rw [dr_go (b1.trans b3)]; exact j1
      · have b3 : c224_53 (nI s) (nI p) (nI (8 * s + p)) U = some (.inr (2, [.inl (nI s), .inl (nI (p + 1))], S2)) := by
          unfold c224_53
          rw [bd_s (gs25 hx8), bd_s s1, bd_s s2]
          unfold c224_77
          rw [nI_1]
        rw [sd_go (b2.trans b3), show g + 1 - (d + 1) - 1 = g - d - 1 by omega]
        exact j2
    have kc : k95 2 [.inr (.inr (some (10 + s))), .inl (nI p)] M = b95_2 (10 + s) (nI p) M := rfl
    have kr : kS224 2 [.inl (nI s), .inl (nI p)] S = c224_2 (nI s) (nI p) S := rfl
    by_cases c0 : S.1 25 (8 * s + p) = 0
    · refine skip S ks.rf ?_ ?_
      · rw [kc]; unfold b95_2
        rw [if_neg e, bd_s gp, bd_s (port_a hI hss hp8), bd_s gg, if_pos c0]
        unfold b95_64
        rw [nI_1]
      · rw [kr]; unfold c224_2
        rw [if_neg e, bd_s (e175_v S), bd_s (ga25 hx8), if_pos c0]
        unfold c224_77
        rw [nI_1]
    · by_cases cd : S.1 25 (8 * s + p) >>> ((16 : Int32) &&& 31) = S.1 26 s
      · by_cases co : b2 (ofK sw (kR s) s) = 0
        · refine skip T t2 ?_ ?_
          · rw [kc]; unfold b95_2
            rw [if_neg e, bd_s gp, bd_s (port_a hI hss hp8), bd_s gg, if_neg c0, bd_s go, if_pos co, bd_s gg, bd_s gd, if_pos cd]
            unfold b95_64
            rw [nI_1]
          · rw [kr]; unfold c224_2
            rw [if_neg e, bd_s (e175_v S), bd_s (ga25 hx8), if_neg c0, bd_s (ga25 hx8), bd_s (ga26 hs5), if_pos cd, bd_s t1]
            show (if b2 (ofK sw (kR s) s) = 0 then c224_77 (nI s) (nI p) T else _) = _
            rw [if_pos co]
            unfold c224_77
            rw [nI_1]
        · refine back T t2 ?_ ?_
          · rw [kc]; unfold b95_2
            rw [if_neg e, bd_s gp, bd_s (port_a hI hss hp8), bd_s gg, if_neg c0, bd_s go, if_neg co]
          · rw [kr]; unfold c224_2
            rw [if_neg e, bd_s (e175_v S), bd_s (ga25 hx8), if_neg c0, bd_s (ga25 hx8), bd_s (ga26 hs5), if_pos cd, bd_s t1]
            show (if b2 (ofK sw (kR s) s) = 0 then _ else c224_53 (nI s) (nI p) (nI (8 * s + p)) T) = _
            rw [if_neg co]
      · refine back S ks.rf ?_ ?_
        · rw [kc]; unfold b95_2
          rw [if_neg e, bd_s gp, bd_s (port_a hI hss hp8), bd_s gg, if_neg c0, bd_s go]
          by_cases co : b2 (ofK sw (kR s) s) = 0
          · rw [if_pos co, bd_s gg, bd_s gd, if_neg cd]
          · rw [if_neg co]
        · rw [kr]; unfold c224_2
          rw [if_neg e, bd_s (e175_v S), bd_s (ga25 hx8), if_neg c0, bd_s (ga25 hx8), bd_s (ga26 hs5), if_neg cd]
end BK
