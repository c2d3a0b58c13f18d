section HL
variable {sw nd rm : Nat} {M M1 M' : hM} {S S0 S1 T : sT} {ia ib : Nat → Nat → Int32} {w t x y z zb sb s p a f : Nat} {pe : Nat → Option Nat} {wo : Nat → Nat} {fl fm flc flr fmc fmr : Nat → List (List Int32)} {hc : List (Nat × Int32 × List Int32)} {hs : List (Nat × List Int32)} {L X : List Int32} {r : List (List Int32)} {F A G : List Nat} {kR kR' : Nat → rK} {ka ka' : Nat → Nat → Nat} {tog tog' : Nat → Bool}
/-- a frame is drafted, gets its load, and goes to a queue -/
theorem P_snd {v1 v2 v3 v4 : Int32} {n : Nat} {u : Int64} (h : SB sw nd rm M S ia w pe wo t zb sb flc flr hc hs kR ka tog) (hx : sd sw nd x) (hn : n ≤ 8) (hT : tru sw nd (clL (hdL v1 v2 v3 v4 0 0 ++ byL u n)) = true) (hh : hc.length ≤ 3) (hh2 : hs.length ≤ 3) : ∃ a f M1 M2 M3 S1 S2 S3 fmc fmr, (f34 [.inr (.inr (some 2)), .inl v1, .inl v2, .inl v3, .inl v4] M = some (some (.inr (.inr (some a))), M1) ∧ f36 [.inr (.inr (some a)), .inl (nI n), .inr (.inl u)] M1 = some (none, M2) ∧ f39 [.inr (.inr (some (200 + x))), .inr (.inr (some a))] M2 = some (none, M3)) ∧ (e168 v1 v2 v3 v4 0 0 S = some (nI f, S1) ∧ e167 (nI f) u (nI n) S1 = some S2 ∧ e183 (nI x) (nI f) S2 = some S3) ∧ (kp [200, 201, 202, 203, 907] [0, 21] M M1 ∧ kp [201] [21] M1 M2 ∧ kp [203, 300, 301, 302, 907] [20] M2 M3 ∧ h_tg M1 a = 3) ∧ SB sw nd rm M3 S3 ia w pe wo t zb sb fmc fmr hc hs kR ka tog ∧ qx S flc fmc ∧ qx S flr fmr ∧ kp [200, 201, 202, 203, 300, 301, 302, 907] [0, 20, 21] M M3 ∧ ks [4, 6, 7, 8, 9, 18, 19] S S3 := by
  have hI := h.st.I
  have hW := h.st.W
  obtain ⟨a, f, M1, S1, m1, s1, hf, p1⟩ := P_draft (v1 := v1) (v2 := v2) (v3 := v3) (v4 := v4) (v5 := 0) (v6 := 0) hI h.pb hh hh2
  have kM1 := kf34 m1 h.pb.bk
  have kS1 := ke168 s1
  have l13 : (hdL v1 v2 v3 v4 0 0).length = 13 := hd_len
  obtain ⟨M2, S2, m2, s2, p2⟩ := P_load (n := n) (w := u) p1 (by rw [l13]; omega) hn (by rw [l13]; omega)
  have kM2 := kf36 m2 p1.bk
  have kS2 := ke167 s2
  have hI2 := (hI.keep kM1 (by decide) (by decide)).keep kM2 (by decide) (by decide)
  have eu : upS S2 x = upS S x := by rw [upS_ks kS2 (by decide) (by decide), upS_ks kS1 (by decide) (by decide)]
  have ll : (hdL v1 v2 v3 v4 0 0 ++ byL u n).length = 13 + n := by rw [List.length_append, l13, byL_len]
  obtain ⟨M3, S3, m3, s3, p3⟩ := P_post hI2 p2 ((hW.wO.ks kS1 (by decide)).ks kS2 (by decide)) (by rw [kM2.fi (by decide), kM1.fi (by decide), eu]; exact hW.up hx) hx hT (by rw [ll]; omega)
  rw [eu] at p3
  have kM3 := kf39 m3 p2.bk
  have kS3 := ke183 s3
  have kM : kp [200, 201, 202, 203, 300, 301, 302, 907] [0, 20, 21] M M3 := (((kp.rf h.pb.bk : kp [200, 201, 202, 203, 300, 301, 302, 907] [0, 20, 21] M M).tr kM1 rfl rfl).tr kM2 rfl rfl).tr kM3 rfl rfl
  have kS : ks [4, 6, 7, 8, 9, 18, 19] S S3 := ((ks.rf.tr kS1 rfl : ks [4, 6, 7, 8, 9, 18, 19] S S1).tr kS2 rfl).tr kS3 rfl
  have ta := (p1.rd List.mem_cons_self).1.1.1
  exact ⟨a, f, M1, M2, M3, S1, S2, S3, _, _, ⟨m1, m2, m3⟩, ⟨s1, s2, s3⟩, ⟨kM1, kM2, kM3, ta⟩, h.keep kM (by decide) (by decide) kS (by decide) p3, qx_pq (by rw [ll]; omega) (by rw [ll]; omega), qx_pq (by rw [ll]; omega) (by rw [ll]; omega), kM, kS⟩
/-- the frame of kind k with a load of one byte is TRUE where its form is -/
theorem tru_b1 {k v : Nat} {v2 v3 v4 : Int32} (hk : k < 128) (hv : v < 256) (hF : (k = 1 ∧ v < sw) ∨ ((k = 3 ∨ k = 5 ∨ k = 7) ∧ v < nd) ∨ k = 10 ∨ (k = 12 ∧ v < 2)) : tru sw nd (clL (hdL (nI k) v2 v3 v4 0 0 ++ byL (nI v).toInt64 1)) = true := by
  have l13 : (hdL (nI k) v2 v3 v4 0 0).length = 13 := hd_len
  have ll : (hdL (nI k) v2 v3 v4 0 0 ++ byL (nI v).toInt64 1).length = 14 := by rw [List.length_append, l13, byL_len]
  rw [tru_cl (by rw [ll]; omega) (by rw [ll]; omega)]
  have e0 : bn (clL (hdL (nI k) v2 v3 v4 0 0 ++ byL (nI v).toInt64 1)) 0 = k := by
    rw [clL_get (by rw [ll]; omega) (by omega)]
    exact hd_0 hk
  have e13 : bn (clL (hdL (nI k) v2 v3 v4 0 0 ++ byL (nI v).toInt64 1)) 13 = v := by
    rw [clL_get (by rw [ll]; omega) (by omega)]
    have := hd_T (k := nI k) (t := v2) (f := v3) (o := v4) (r := 0) (p := 0) (T := byL (nI v).toInt64 1) (j := 0)
    rw [show 13 + 0 = 13 from rfl] at this
    rw [this]
    have := bn_small (v := v) (n := 1) (j := 0) (C := []) (by omega) (by omega) (by omega)
    rw [List.append_nil] at this
    rw [this]
    simp
    omega
  have el : (clL (hdL (nI k) v2 v3 v4 0 0 ++ byL (nI v).toInt64 1)).length = 18 := by rw [clL_len, ll]
  unfold hfF
  rw [e0, e13, el]
  rcases hF with ⟨rfl, q⟩ | ⟨rfl | rfl | rfl, q⟩ | rfl | ⟨rfl, q⟩ <;> simp_all
theorem lt11 (v : Int32) : v < 11 ↔ ¬ 10 < v := by
  rw [Int32.lt_iff_toInt_lt, Int32.lt_iff_toInt_lt, show (11 : Int32).toInt = 11 from rfl, show (10 : Int32).toInt = 10 from rfl]
  omega
theorem PX.ca {v : Int32} (h : PX sw nd M S pe) (hu : upS S x ≠ 0) (hx4 : x < 40) : PX sw nd (h_pi M 814 (200 + x) v) (s_u S 24 x v) pe := fun z hz => by
  have k : ks [24] S (s_u S 24 x v) := k_su
  obtain ⟨⟨a1, a2⟩, a3, a4, ⟨a5, a6⟩, a7, a8⟩ := h z hz
  rw [fi_eq, fi_ne (show 811 ≠ 814 by decide), fi_ne (show 812 ≠ 814 by decide), su_eq, su_ne (show 23 ≠ 24 by decide), su_ne (show 25 ≠ 24 by decide), su_ne (show 36 ≠ 24 by decide), upS_ks k (by decide) (by decide)]
  by_cases q : z = x
  · subst q
    rw [u1_eq, u1_eq]
    exact ⟨⟨a1, a2⟩, a3, a4, ⟨fun _ _ => rfl, fun _ _ => by omega⟩, fun z => absurd z hu, fun z => absurd z hu⟩
  · rw [u1_ne (by omega), u1_ne q]
    exact ⟨⟨a1, a2⟩, a3, a4, ⟨a5, a6⟩, a7, a8⟩
theorem P_say (hss : s < sw) : ∀ d p M S fl fuel fus, TB sw nd rm M S ia w pe wo t zb sb fl kR ka tog → p + d = 8 → d < fuel → d < fus → ∃ M' S' fm, drive k113 fuel 2 [.inr (.inr (some (10 + s))), .inl (nI p)] M = some (none, M') ∧ (∀ U, e223 (nI s) S' = some U → sdrive kS224 fus 151 [.inl (nI s), .inl (nI p)] S = some U) ∧ TB sw nd rm M' S' ia w pe wo t zb sb fm kR ka tog ∧ i20 M M'
  | 0, p, M, S, fl, fuel, fus, h, hp, hf, hg => by
    obtain ⟨f, rfl⟩ : ∃ f, fuel = f + 1 := ⟨fuel - 1, by omega⟩
    obtain ⟨g, rfl⟩ : ∃ g, fus = g + 1 := ⟨fus - 1, by omega⟩
    have e : (8 : Int32) ≤ nI p := nI_le (a := 8) (by omega) (by omega)
    refine ⟨M, S, fl, dr_end (by simp [k113, b113_2, e]), fun U hU => sd_end ?_, h, i20_rf⟩
    simp [kS224, c224_151, e, hU]
  | d + 1, p, M, S, fl, fuel, fus, h, hp, hf, hg => by
    obtain ⟨f, rfl⟩ : ∃ f, fuel = f + 1 := ⟨fuel - 1, by omega⟩
    obtain ⟨g, rfl⟩ : ∃ g, fus = g + 1 := ⟨fus - 1, by omega⟩
    have hI := h.I
    have hW := h.W
    have hsw := hI.bs.1.2
    have hp8 : p < 8 := by omega
    have hs5 : s < 5 := by omega
    have hx : sd sw nd (8 * s + p) := sd_sp hss hp8
    have hx8 := hI.x8 hx
    have hx4 : 8 * s + p < 40 := by omega
    have tp := hI.po0 hx
    have ts := hI.si0 hss
    have e : ¬ (8 : Int32) ≤ nI p := nI_ge (b := 8) hp8 (by omega)
    obtain ⟨⟨p1, p2⟩, -, -, ⟨p5, -⟩, -⟩ := h.1.px (8 * s + p) hx
    have gp : g_r M 10 2 (some (10 + s)) = some (some (20 + s)) := (g_r_t (ci := 10) ts).trans (congrArg some (hI.si3 hss))
    have gu : g_i M 8 5 (some (200 + (8 * s + p))) = some (upS S (8 * s + p)) := (g_i_t (ci := 8) tp).trans (congrArg some (hW.up hx))
    have gn : g_i M 8 11 (some (200 + (8 * s + p))) = some (S.1 23 (8 * s + p)) := (g_i_t (ci := 8) tp).trans (congrArg some p1)
    have g112 := f112_eq hI hW hx
    have g177 := e177_eq hW.wO hx8
    have g179 : e179 (nI (8 * s + p)) S = some (ndA pe (8 * s + p), S) := e179_eq hW hx8 (fun y hy => hI.x8 (hW.sds hy).2.1)
    have gsh : g_r M 10 0 (some (10 + s)) = some (some 2) := (g_r_t (ci := 10) ts).trans (congrArg some (hI.si1 hss))
    have gt : g_i M 9 3 (some 2) = some (nI t) := (g_i_t (ci := 9) hI.sh0).trans (congrArg some h.1.st.2.2.2.1.1)
    have st : s_g S 3 = nI t := h.1.st.2.2.2.1.2.1
    have kc : k113 2 [.inr (.inr (some (10 + s))), .inl (nI p)] M = b113_2 (10 + s) (nI p) M := rfl
    have kr : kS224 151 [.inl (nI s), .inl (nI p)] S = c224_151 (nI s) (nI p) S := rfl
    have n94 : b113_94 (10 + s) (nI p) M = some (.inr (2, [.inr (.inr (some (10 + s))), .inl (nI (p + 1))], M)) := by unfold b113_94; rw [nI_1]
    have n252 : c224_252 (nI s) (nI p) S = some (.inr (151, [.inl (nI s), .inl (nI (p + 1))], S)) := by unfold c224_252; rw [nI_1]
    have skip : b113_2 (10 + s) (nI p) M = b113_94 (10 + s) (nI p) M → c224_151 (nI s) (nI p) S = c224_252 (nI s) (nI p) S → ∃ M' S' fm, drive k113 (f + 1) 2 [.inr (.inr (some (10 + s))), .inl (nI p)] M = some (none, M') ∧ (∀ U, e223 (nI s) S' = some U → sdrive kS224 (g + 1) 151 [.inl (nI s), .inl (nI p)] S = some U) ∧ TB sw nd rm M' S' ia w pe wo t zb sb fm kR ka tog ∧ i20 M M' := fun b1 b2 => by
      obtain ⟨M', S', fm, j1, j2, j3, j4⟩ := P_say hss d (p + 1) M S fl f g h (by omega) (by omega) (by omega)
      refine ⟨M', S', fm, by rw [dr_go (kc.trans (b1.trans n94))]; exact j1, fun U hU => ?_, j3, j4⟩
      rw [sd_go (kr.trans (b2.trans n252))]
      exact j2 U hU
    by_cases cu : upS S (8 * s + p) = 0
    · refine skip ?_ ?_
      · unfold b113_2
        rw [if_neg e, bd_s gp, bd_s (port_a hI hss hp8), bd_s gu, if_pos cu]
      · unfold c224_151
        rw [if_neg e, bd_s (e175_v S), bd_s g177]
        show (if upS S (8 * s + p) = 0 then c224_252 (nI s) (nI p) S else _) = _
        rw [if_pos cu]
    · cases hpe : pe (8 * s + p) with
      | none => exact absurd (upS_no hW hx8 hpe) cu
      | some y =>
        rw [hpe] at g112
        by_cases cy : y < 40
        · have c12 : ¬ b2 (match some y with | some y => decide (y < 40) | none => false) = 0 := by simp [b2, cy]
          have n1 : ndA pe (8 * s + p) = -1 := by unfold ndA; rw [hpe]; exact if_neg (by omega)
          have gc : g_i M 8 14 (some (200 + (8 * s + p))) = some (S.1 24 (8 * s + p)) := (g_i_t (ci := 8) tp).trans (congrArg some (p5 cu hx4))
          by_cases cn : S.1 23 (8 * s + p) = -1
          · by_cases ct : nI t - S.1 24 (8 * s + p) < 11
            · have ct' : ¬ 10 < nI t - S.1 24 (8 * s + p) := (lt11 _).mp ct
              refine skip ?_ ?_
              · unfold b113_2
                rw [if_neg e, bd_s gp, bd_s (port_a hI hss hp8), bd_s gu, if_neg cu, bd_s (g_o_t (ci := 8) tp), bd_s (c_I_of g112), if_neg c12, bd_s gn, if_pos cn, bd_s gsh, bd_s gt, bd_s gc, if_pos ct]
              · unfold c224_151
                rw [if_neg e, bd_s (e175_v S), bd_s g177]
                show (if upS S (8 * s + p) = 0 then _ else Option.bind (e179 (nI (8 * s + p)) S) _) = _
                rw [if_neg cu, bd_s g179]
                show (if ndA pe (8 * s + p) = -1 then Option.bind (s_a S 23 (nI (8 * s + p))) _ else _) = _
                rw [if_pos n1, bd_s (ga23 hx8), if_pos cn, bd_s (ga24 hx8), st, if_neg ct']
            · have ct' : 10 < nI t - S.1 24 (8 * s + p) := by
                by_cases q : 10 < nI t - S.1 24 (8 * s + p)
                · exact q
                · exact absurd ((lt11 _).mpr q) ct
              have hB := h.1.setp (f := 814) (g := 24) (u := nI t) (v := nI t) hx (h.1.px.ca cu hx4) (by decide) (by decide)
              have hT : tru sw nd (clL (hdL 1 16777213 16777213 0 0 0 ++ byL (nI s).toInt64 1)) = true := tru_b1 (k := 1) (v := s) (by omega) (by omega) (Or.inl ⟨rfl, hss⟩)
              obtain ⟨a, ff, M1, M2, M3, S1, S2, S3, fmc, fmr, ⟨m1, m2, m3⟩, ⟨s1, s2, s3⟩, ⟨l1, l2, l3, l4⟩, hB', q1, q2, kM, kS⟩ := P_snd (n := 1) hB hx (by omega) hT (by simp) (by simp)
              have k24 : ks [24] S (s_u S 24 (8 * s + p) (nI t)) := k_su
              have k14 : kp [814] [] M (h_pi M 814 (200 + (8 * s + p)) (nI t)) := k_hpi h.1.pb.bk (by rw [tp]; decide)
              have kM' : kp [200, 201, 202, 203, 300, 301, 302, 814, 907] [0, 20, 21] M M3 := ((kp.rf h.1.pb.bk : kp [200, 201, 202, 203, 300, 301, 302, 814, 907] [0, 20, 21] M M).tr k14 rfl rfl).tr kM rfl rfl
              have kS' : ks [4, 6, 7, 8, 9, 18, 19, 24] S S3 := (ks.rf.tr k24 rfl : ks [4, 6, 7, 8, 9, 18, 19, 24] S _).tr kS rfl
              have eu : ∀ z, upS S z = upS (s_u S 24 (8 * s + p) (nI t)) z := fun z => (upS_ks k24 (by decide) (by decide)).symm
              have hN := h.grow hB' (q1.up eu) (q2.up eu) kM' (by decide) kS' (by decide) h.2.2
              obtain ⟨M', S', fm, j1, j2, j3, j4⟩ := P_say hss d (p + 1) M3 S3 fmc f g hN (by omega) (by omega) (by omega)
              have hI0 := hB.st.I
              have hI1 := hI0.keep l1 (by decide) (by decide)
              have hI2 := hI1.keep l2 (by decide) (by decide)
              refine ⟨M', S', fm, ?_, fun U hU => ?_, j3, i20_tr (PB_i20 h.1.pb hB'.pb kM') j4⟩
              · have pp : p_i M 8 14 (some (200 + (8 * s + p))) (nI t) = some (h_pi M 814 (200 + (8 * s + p)) (nI t)) := p_i_t (ci := 8) tp
                have g34 : c_R (f34 [.inr (.inr (some 2)), .inl 1, .inl 16777213, .inl 16777213, .inl 0] (h_pi M 814 (200 + (8 * s + p)) (nI t))) = some (some a, M1) := by rw [m1]; rfl
                have b3 : b113_2 (10 + s) (nI p) M = some (.inr (2, [.inr (.inr (some (10 + s))), .inl (nI (p + 1))], M3)) := by
                  unfold b113_2
                  rw [if_neg e, bd_s gp, bd_s (port_a hI hss hp8), bd_s gu, if_neg cu, bd_s (g_o_t (ci := 8) tp), bd_s (c_I_of g112), if_neg c12, bd_s gn, if_pos cn, bd_s gsh, bd_s gt, bd_s gc, if_neg ct, bd_s gsh, bd_s gt, bd_s pp, bd_s ((g_r_t (ci := 10) (hI0.si0 hss)).trans (congrArg some (hI0.si1 hss))), bd_s (g_o_t (ci := 9) hI0.sh0), bd_s g34, bd_s ((g_i_t (ci := 10) (hI1.si0 hss)).trans (congrArg some (hI1.si2 hss))), bd_s (g_o_t (ci := 2) l4)]
                  show Option.bind (c_V (f36 [.inr (.inr (some a)), .inl (nI 1), .inr (.inl (nI s).toInt64)] M1)) _ = _
                  rw [bd_s (c_V_of m2), bd_s (g_o_t (ci := 8) (hI2.po0 hx)), bd_s (c_V_of m3)]
                  unfold b113_94
                  rw [nI_1]
                rw [dr_go (kc.trans b3)]; exact j1
              · have s1' : e168 1 16777213 16777213 0 0 0 (s_u S 24 (8 * s + p) (nI t)) = some (nI ff, S1) := s1
                have s2' : e167 (nI ff) (Int32.toInt64 (nI s)) 1 S1 = some S2 := s2
                have b3 : c224_151 (nI s) (nI p) S = some (.inr (151, [.inl (nI s), .inl (nI (p + 1))], S3)) := by
                  unfold c224_151
                  rw [if_neg e, bd_s (e175_v S), bd_s g177]
                  show (if upS S (8 * s + p) = 0 then _ else Option.bind (e179 (nI (8 * s + p)) S) _) = _
                  rw [if_neg cu, bd_s g179]
                  show (if ndA pe (8 * s + p) = -1 then Option.bind (s_a S 23 (nI (8 * s + p))) _ else _) = _
                  rw [if_pos n1, bd_s (ga23 hx8), if_pos cn, bd_s (ga24 hx8), st, if_pos ct', bd_s (gs24 hx8), bd_s s1', bd_s s2', bd_s s3]
                  unfold c224_252
                  rw [nI_1]
                rw [sd_go (kr.trans b3)]
                exact j2 U hU
          · refine skip ?_ ?_
            · unfold b113_2
              rw [if_neg e, bd_s gp, bd_s (port_a hI hss hp8), bd_s gu, if_neg cu, bd_s (g_o_t (ci := 8) tp), bd_s (c_I_of g112), if_neg c12, bd_s gn, if_neg cn]
            · unfold c224_151
              rw [if_neg e, bd_s (e175_v S), bd_s g177]
              show (if upS S (8 * s + p) = 0 then _ else Option.bind (e179 (nI (8 * s + p)) S) _) = _
              rw [if_neg cu, bd_s g179]
              show (if ndA pe (8 * s + p) = -1 then Option.bind (s_a S 23 (nI (8 * s + p))) _ else _) = _
              rw [if_pos n1, bd_s (ga23 hx8), if_neg cn]
        · have c12 : b2 (match some y with | some y => decide (y < 40) | none => false) = 0 := by simp [b2, cy]
          have hy8 := hI.x8 (hW.sds hpe).2.1
          have n1 : ¬ ndA pe (8 * s + p) = -1 := by
            unfold ndA; rw [hpe]
            show ¬ (if 40 ≤ y then nI (y - 40) else -1) = -1
            rw [if_pos (by omega)]
            exact nI_m1 (by omega)
          refine skip ?_ ?_
          · unfold b113_2
            rw [if_neg e, bd_s gp, bd_s (port_a hI hss hp8), bd_s gu, if_neg cu, bd_s (g_o_t (ci := 8) tp), bd_s (c_I_of g112), if_pos c12]
          · unfold c224_151
            rw [if_neg e, bd_s (e175_v S), bd_s g177]
            show (if upS S (8 * s + p) = 0 then _ else Option.bind (e179 (nI (8 * s + p)) S) _) = _
            rw [if_neg cu, bd_s g179]
            show (if ndA pe (8 * s + p) = -1 then _ else c224_252 (nI s) (nI p) S) = _
            rw [if_neg n1]
end HL
