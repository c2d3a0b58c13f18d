/-! ===== tellOwnRecord, both sides ===== -/
section OT
variable {sw nd rm : Nat} {M N : hM} {S T : sT} {ia : Nat → Nat → Int32} {w t zb sb : Nat} {pe : Nat → Option Nat} {wo : Nat → Nat} {fl flc flr : Nat → List (List Int32)} {hc : List (Nat × Int32 × List Int32)} {hs : List (Nat × List Int32)} {kR : Nat → rK} {ka : Nat → Nat → Nat} {tog : Nat → Bool} {s na : Nat} {P : List Nat} {tg : Bool}
theorem SB0_up (h : SB0 sw nd rm M S ia w pe wo t zb sb flc flr hc hs kR ka tog s) (h1 : wyA M sw s (kR s)) (h2 : hoA M sw s (kR s)) (h3 : h_fi M 1010 (10 + s) = b2 (ofK sw (kR s) s)) : SB sw nd rm M S ia w pe wo t zb sb flc flr hc hs kR ka tog := by
  obtain ⟨a, b, c, d, e1, e2, e3, e4⟩ := h
  refine ⟨a, b, c, fun s' hs' => ?_⟩
  by_cases q : s' = s
  · subst q; exact ⟨e1, e2, e3, e4, h1, h2, h3⟩
  · exact d s' hs' q
theorem nJ_ne {r : Nat} (h : r ≠ s) : nJ tg s r = r := if_neg (fun q => h q.1)
theorem nJ_f : nJ (!tg) s s = dJ tg s := by cases tg <;> simp [nJ, dJ]
theorem dJ_f : dJ (!tg) s = nJ tg s s := by cases tg <;> simp [nJ, dJ]
theorem dJ_j (hs : s < sw) : nj sw (dJ tg s) := by
  unfold dJ nj
  split
  · exact Or.inl hs
  · exact Or.inr rfl
theorem nJ_j (hs : s < sw) {r : Nat} (hr : r < sw) : nj sw (nJ tg s r) := by
  unfold nJ nj
  split <;> omega
theorem dJ_nJ (hs : s < sw) (h5 : sw ≤ 5) {r : Nat} (hr : r < sw) : nJ tg s r ≠ dJ tg s := by
  unfold nJ dJ
  cases tg
  · simp; omega
  · by_cases q : r = s
    · simp [q]; omega
    · simp [q]
theorem ntp_nt1 (hst : h_tg N na = 7 ∧ h_fr N 600 na = some (na + 40) ∧ h_tg N (na + 40) = 21 ∧ h_ln N (na + 40) = 31) (h : ntp N na P) (h7 : 7 ≤ P.length) (hb : ∀ i, P.getD i 0 < 256) : nt1 N na (some P) := ⟨hst, h.1, by omega, h.2.1, fun i hi => ⟨by rw [h.2.2 i hi]; exact i8b _ (hb i), hb i, h.2.2 i hi⟩⟩
theorem oRec_own {i1 i2 i3 dm : Nat} {nb : Nat → Option (Nat × Nat)} {gv : Nat → Option Nat} {k : Nat} (hk : k < (oRec s i1 i2 i3 dm nb gv).getD 5 0) : nb ((oRec s i1 i2 i3 dm nb gv).getD (6 + 3 * k) 0) ≠ none := by
  have hk : k < nbc nb 0 8 := hk
  rw [oRec_nb (by omega)]
  exact (nbl_port 8 0 k hk).1
theorem P_own (h : TB sw nd rm M S ia w pe wo t zb sb fl kR ka tog) (hss : s < sw) (hage : kR s s ≠ none → ka s s ≤ t) : ∃ M' S' ib fm kR' ka' tog', f124 [.inr (.inr (some (10 + s)))] M = some (none, M') ∧ e223 (nI s) S = some S' ∧ TB sw nd rm M' S' ib w pe wo t zb sb fm kR' ka' tog' ∧ i20 M M' ∧ (∀ s', s' ≠ s → kR' s' = kR s' ∧ ka' s' = ka s') ∧ kR' s s ≠ none ∧ ka' s s ≤ t ∧ t < ka' s s + 40 := by
  have hB := h.1
  have hI := h.I
  have hW := h.W
  have hsw := hI.bs.1.2
  have hnd := hI.bs.2.1.2
  have hbk := hB.pb.bk
  obtain ⟨hnb1, hnb2, hnb3, hnb4⟩ := nb_facts hB hss
  obtain ⟨hgv1, hgv2, hgv3, hgv4, hD⟩ := gv_facts hB hss
  obtain ⟨dm, d1, d2, d3, d4⟩ := hB.st.2.2.2.2.2 s hss
  obtain ⟨ht1, ht2, ht3⟩ := hB.st.2.2.2.1
  have rc := hB.rc hss
  generalize hnb : nbF S wo s = nb at *
  generalize hgv : gvF S pe s = gv at *
  have hdj : nj sw (dJ (tog s) s) := dJ_j hss
  generalize hda : 400 + (6 * s + dJ (tog s) s) = da at *
  generalize hoa : 400 + (6 * s + nJ (tog s) s s) = oa at *
  have hstM : h_tg M da = 7 ∧ h_fr M 600 da = some (da + 40) ∧ h_tg M (da + 40) = 21 ∧ h_ln M (da + 40) = 31 := by
    have e : 440 + (6 * s + dJ (tog s) s) = da + 40 := by omega
    have a1 := hI.nt0 hss hdj
    have a2 := hI.nt1 hss hdj
    have a3 := hI.nt2 hss hdj
    have a4 := hI.nt3 hss hdj
    rw [hda] at a1 a2
    rw [e] at a2 a3 a4
    exact ⟨a1, a2, a3, a4⟩
  have hd5 : h_fr M 1005 (10 + s) = some da := by rw [rc.2.1, hda]
  obtain ⟨N, n1, n2, n3⟩ := f117_eq hI hW hbk hss hnb1 hgv1 hstM hd5 d3 hD
  have hlt := fun i1 i2 i3 (hi : i1 < 256 ∧ i2 < 256 ∧ i3 < 256) => oRec_lt (s := s) (i1 := i1) (i2 := i2) (i3 := i3) (dm := dm) (nb := nb) (gv := gv) hsw hnd hss hi d2 hnb3 hgv3 hD
  have hok := fun i1 i2 i3 (hi : i1 < 256 ∧ i2 < 256 ∧ i3 < 256) => oRec_ok (s := s) (i1 := i1) (i2 := i2) (i3 := i3) (dm := dm) (nb := nb) (gv := gv) hsw hnd hss hi ⟨d1, d2⟩ hnb3 hgv3 hgv4 hD
  obtain ⟨r1, r2, r3⟩ := rc.1 s hss
  rw [hoa] at r1 r2 r3
  have hdo : oa ≠ da := by
    have := dJ_nJ (tg := tog s) hss hsw hss
    omega
  have r2N : nt1 N oa (kR s s) := n2.nt r2 hdo
  have hKl : ∀ r L, kR s r = some L → 7 ≤ L.length ∧ L.length ≤ 31 := fun r L hL => by
    have := (rc.2.2.2.1 r L hL).2
    exact ⟨(this.f (by omega)).1, this.2.1⟩
  have hKl' : ∀ L, kR s s = some L → L.length ≤ 31 ∧ ∀ i, L.getD i 0 < 256 := fun L hL => (rc.2.2.2.1 s L hL).2.2
  obtain ⟨T, kT, oT, hcmp⟩ := e223_b (t := t) (ks' := ka s s) (by omega) hnb2 hgv2 d4 hD rc.2.2.1 (hlt 0 0 0 ⟨by omega, by omega, by omega⟩) hKl' ht2 ht3 (fun q => ⟨(r3 q).2, hage q⟩)
  have hstN : h_tg N da = 7 ∧ h_fr N 600 da = some (da + 40) ∧ h_tg N (da + 40) = 21 ∧ h_ln N (da + 40) = 31 := by
    rw [n2.2.1.2.1, n2.1.2.1, n2.2.1.1]; exact hstM
  have hIN : cI sw nd rm N := n2.I hI
  have tgM := hI.si0 hss
  have tgN := hIN.si0 hss
  have e4 : g_r M 10 4 (some (10 + s)) = some (some (30 + s)) := (g_r_t (ci := 10) tgM).trans (congrArg some (hI.si4 hss))
  have e1 : g_i M 10 1 (some (10 + s)) = some (nI s) := (g_i_t (ci := 10) tgM).trans (congrArg some (hI.si2 hss))
  have eo : al_r M 36 (some (30 + s)) (nI s) = some (some oa) := (al_r_t (hI.sa2 hss) (by rw [hI.sa3 hss]; exact hss) (by omega)).trans (congrArg some r1)
  have x0 : g_o M 10 (some (10 + s)) = some (10 + s) := g_o_t (ci := 10) tgM
  have oN : g_o N 6 (some oa) = some oa := g_o_t (ci := 6) r2N.1.1
  have e105 := f105_eq r2N
  have e5N : g_r N 10 5 (some (10 + s)) = some (some da) := (g_r_t (ci := 10) tgN).trans (congrArg some (by rw [n2.1.2.1]; exact hd5))
  have e0N : g_r N 10 0 (some (10 + s)) = some (some 2) := (g_r_t (ci := 10) tgN).trans (congrArg some (hIN.si1 hss))
  have t903 : h_fi N 903 2 = nI t := by rw [n2.2.2.1 903 (by decide) (by decide)]; exact ht1
  have e3N : g_i N 9 3 (some 2) = some (nI t) := (g_i_t (ci := 9) hIN.sh0).trans (congrArg some t903)
  obtain ⟨bb, q123, hbb⟩ : ∃ bb : Bool, (∀ L, kR s s = some L → f123 [.inr (.inr (some oa)), .inr (.inr (some da))] N = some (some (.inl (b2 bb)), N)) ∧ ∀ L, kR s s = some L → (bb = true ↔ sme L (oRec s 0 0 0 dm nb gv)) := by
    cases hL : kR s s with
    | none => exact ⟨true, fun _ q => (nomatch q), fun _ q => (nomatch q)⟩
    | some L =>
      rw [hL] at r2N
      obtain ⟨bb, q1, q2⟩ := f123_eq r2N hstN n3 (hlt 0 0 0 ⟨by omega, by omega, by omega⟩)
      exact ⟨bb, fun _ _ => q1, fun L' q => by cases q; exact q2⟩
  have fdef : f124 [.inr (.inr (some (10 + s)))] M = x_out (b124_0 (10 + s) M) := rfl
  have g602 : ∀ L, kR s s = some L → g_i N 6 2 (some oa) = some (nI (ka s s)) := fun L hL => by
    refine (g_i_t (ci := 6) r2N.1.1).trans (congrArg some ?_)
    show h_fi N 602 oa = _
    rw [(n2.2.2.2.1 oa hdo).2]
    exact (r3 (by rw [hL]; exact Option.some_ne_none _)).1
  rcases hcmp with ⟨⟨L, hL, hsm, h40⟩, eR⟩ | ⟨hno, g, v7, hg, eR⟩
  · -- nothing new
    have hf : f124 [.inr (.inr (some (10 + s)))] M = some (none, N) := by
      rw [fdef]
      have : b124_0 (10 + s) M = some (.inl (none, N)) := by
        have b1 : bb = true := (hbb L hL).mpr hsm
        have q := q123 L hL
        rw [b1] at q
        have a0 := hage (by rw [hL]; exact Option.some_ne_none _)
        have n40 : ¬ (40 : Int32) ≤ nI t - nI (ka s s) := by
          rw [pk_sub a0]; exact nI_ge (b := 40) (by omega) (by omega)
        rw [hL] at e105
        unfold b124_0
        rw [bd_s e4, bd_s e1, bd_s eo, bd_s x0, bd_s (c_V_of n1), bd_s oN, bd_s (c_I_of e105), if_neg (show ¬ b2 (Option.isSome (some L)) = 0 from show ¬ b2 true = 0 by decide), bd_s e5N, bd_s oN, bd_s (c_I_of q), if_neg (show ¬ b2 true = 0 by decide), bd_s e0N, bd_s e3N, bd_s (g602 L hL), if_neg n40]
      rw [this]; rfl
    have hS := noO_S (sw := sw) (s := s) (j := dJ (tog s) s) (by rw [hda]; exact n2) hdj hsw
    have hrc0 : RC0 sw nd N T s (kR s) (ka s) (tog s) := by
      refine ⟨fun r hr => ?_, ?_, rc.2.2.1.ks kT (by decide) (by decide) (by decide), rc.2.2.2.1⟩
      · obtain ⟨c1, c2, c3⟩ := rc.1 r hr
        have hne : 400 + (6 * s + nJ (tog s) s r) ≠ da := by
          have := dJ_nJ (tg := tog s) hss hsw hr
          omega
        refine ⟨by rw [n2.1.2.2.2]; exact c1, n2.nt c2 hne, fun q => ?_⟩
        rw [(n2.2.2.2.1 _ hne).2, kT.i (by decide)]
        exact c3 q
      · rw [n2.1.2.1, hda]; exact hd5
    obtain ⟨b1, b2, b3⟩ := SB_no (K := kR s) (kas := ka s) (tg := tog s) hB hss hS (ks.rf.tr kT rfl) hrc0 (fun s' hs' q => ⟨(hB.rc hs').2.2.1.ks kT (by decide) (by decide) (by decide), fun r hr => by rw [kT.i (by decide)]⟩)
    rw [u1_id, u1_id, u1_id] at b1
    have hai : ∀ a, a < 400 → h_ai N a = h_ai M a := fun a q => n2.2.2.2.2 a (by omega)
    have hSB := SB0_up b1 (fun r hr => by rw [hai _ (by omega)]; exact rc.2.2.2.2.1 r hr) (fun r hr => by rw [hai _ (by omega)]; exact rc.2.2.2.2.2.1 r hr) (by rw [n2.2.2.1 1010 (by decide) (by decide)]; exact rc.2.2.2.2.2.2)
    exact ⟨N, T, h_ai N, fl, kR, ka, tog, hf, eR, h.grow hSB qx.rf qx.rf b3 (by decide) kT (by decide) h.2.2, b2, fun _ _ => ⟨rfl, rfl⟩, by rw [hL]; exact Option.some_ne_none _, hage (by rw [hL]; exact Option.some_ne_none _), h40⟩
  · -- a new one
    obtain ⟨i1, p1, q1⟩ := an255 ((isK (kR s s) + 1) >>> ((16 : Int32) &&& 31))
    obtain ⟨i2, p2, q2⟩ := an255 ((isK (kR s s) + 1) >>> ((8 : Int32) &&& 31))
    obtain ⟨i3, p3, q3⟩ := an255 (isK (kR s s) + 1)
    have hln : (oRec s 0 0 0 dm nb gv).length ≤ 31 := n3.2.1
    obtain ⟨T', kT', c2, c3, c4, c5, c6⟩ := e223_c (v7 := v7) (by omega) rc.2.2.1 kT oT hln hKl ht2 q1 q2 q3 (show 100 < g by omega)
    obtain ⟨N2, m1, m2, m3⟩ := f119_eq hstM n2 n3 q1 q2 q3
    have hlt' := hlt i1 i2 i3 ⟨p1, p2, p3⟩
    have hok' := hok i1 i2 i3 ⟨p1, p2, p3⟩
    have hown' : ∀ k, k < (oRec s i1 i2 i3 dm nb gv).getD 5 0 → ∃ y, pe (8 * s + (oRec s i1 i2 i3 dm nb gv).getD (6 + 3 * k) 0) = some y ∧ y < 40 := fun k hk => hnb4 _ (oRec_own hk)
    generalize hPP : oRec s i1 i2 i3 dm nb gv = P at *
    have h7 := (hok'.f (by omega)).1
    have hIN2 : cI sw nd rm N2 := m2.I hI
    have hst2 : h_tg N2 da = 7 ∧ h_fr N2 600 da = some (da + 40) ∧ h_tg N2 (da + 40) = 21 ∧ h_ln N2 (da + 40) = 31 := by
      rw [m2.2.1.2.1, m2.1.2.1, m2.2.1.1]; exact hstM
    have tg2 := hIN2.si0 hss
    have e5' : g_r N2 10 5 (some (10 + s)) = some (some da) := (g_r_t (ci := 10) tg2).trans (congrArg some (by rw [m2.1.2.1]; exact hd5))
    have e0' : g_r N2 10 0 (some (10 + s)) = some (some 2) := (g_r_t (ci := 10) tg2).trans (congrArg some (hIN2.si1 hss))
    have t903' : h_fi N2 903 2 = nI t := by rw [m2.2.2.1 903 (by decide) (by decide)]; exact ht1
    have e3' : g_i N2 9 3 (some 2) = some (nI t) := (g_i_t (ci := 9) hIN2.sh0).trans (congrArg some t903')
    have w602 : p_i N2 6 2 (some da) (nI t) = some (h_pi N2 602 da (nI t)) := p_i_t (ci := 6) hst2.1
    let M46 := h_pi N2 602 da (nI t)
    have e4' : g_r M46 10 4 (some (10 + s)) = some (some (30 + s)) := (g_r_t (ci := 10) (M := M46) tg2).trans (congrArg some (hIN2.si4 hss))
    have e1' : g_i M46 10 1 (some (10 + s)) = some (nI s) := (g_i_t (ci := 10) (M := M46) tg2).trans (congrArg some (show h_fi (h_pi N2 602 da (nI t)) 1001 (10 + s) = nI s by rw [fi_ne (by decide)]; exact hIN2.si2 hss))
    have e5'' : g_r M46 10 5 (some (10 + s)) = some (some da) := (g_r_t (ci := 10) (M := M46) tg2).trans (congrArg some (by show h_fr N2 1005 (10 + s) = _; rw [m2.1.2.1]; exact hd5))
    let M54 := h_qr M46 (30 + s) s (some da)
    have was : as_r M46 6 (some (30 + s)) (nI s) (some da) = some M54 := as_r_t (ci := 6) (M := M46) (hIN2.sa2 hss) (by show s < h_ln N2 (30 + s); rw [hIN2.sa3 hss]; exact hss) (by omega) hst2.1
    let M56 := h_pr M54 1005 (10 + s) (some oa)
    have wpr : p_r M54 10 5 (some (10 + s)) (some oa) = some M56 := p_r_t (ci := 10) (M := M54) tg2
    have hnS : noS sw s M M56 := by
      have a1 : noS sw s M N2 := noO_S (j := dJ (tog s) s) (by rw [hda]; exact m2) hdj hsw
      have a2 : noS sw s N2 M46 := noO_S (j := dJ (tog s) s) (by rw [hda]; exact noO_2) hdj hsw
      exact noS_tr (noS_tr (noS_tr a1 a2) noS_qr) noS_pr
    have hai56 : ∀ a, h_ai M56 a = h_ai N2 a := fun _ => rfl
    have hrc0 : RC0 sw nd M56 T' s (u1 (kR s) s (some P)) (u1 (ka s) s t) (!(tog s)) := by
      have har : ∀ r, h_ar M56 (30 + s) r = u1 (h_ar M (30 + s)) s (some da) r := fun r => by
        show h_ar (h_qr M46 (30 + s) s (some da)) (30 + s) r = _
        have : h_ar M46 = h_ar M := by show h_ar N2 = _; rw [m2.1.2.2.2]
        by_cases q : r = s
        · subst q; rw [u1_eq]; exact u2_eq
        · rw [u1_ne q]
          refine Eq.trans (u2_ne q) ?_
          rw [this]
      have h602 : h_fi M56 602 = u1 (h_fi N2 602) da (nI t) := by
        show h_fi (h_pi N2 602 da (nI t)) 602 = _
        rw [fi_eq]
      have h601 : h_fi M56 601 = h_fi N2 601 := by
        show h_fi (h_pi N2 602 da (nI t)) 601 = _
        rw [fi_ne (by decide)]
      have ntk : ∀ na o, nt1 N2 na o → nt1 M56 na o := fun na o q => by
        obtain ⟨⟨z1, z2, z3, z4⟩, z5⟩ := q
        refine ⟨⟨z1, ?_, z3, z4⟩, ?_⟩
        · show h_fr (h_pr M54 1005 (10 + s) (some oa)) 600 na = _
          rw [fr_ne (by decide)]; exact z2
        · rw [h601]; exact z5
      refine ⟨fun r hr => ?_, ?_, c2, fun r L hL => ?_⟩
      · by_cases q : r = s
        · subst q
          rw [nJ_f, hda, har, u1_eq, u1_eq, u1_eq, h602, u1_eq, c3]
          exact ⟨rfl, ntk _ _ (ntp_nt1 hst2 m3 h7 hlt'), fun _ => ⟨rfl, rfl⟩⟩
        · obtain ⟨z1, z2, z3⟩ := rc.1 r hr
          have hne : 400 + (6 * s + nJ (tog s) s r) ≠ da := by
            have := dJ_nJ (tg := tog s) hss hsw hr
            omega
          rw [nJ_ne q] at z1 z2 z3 hne
          rw [nJ_ne q, har, u1_ne q, u1_ne q, u1_ne q, h602, u1_ne hne, c4 _ (by omega)]
          refine ⟨z1, ntk _ _ (m2.nt z2 hne), fun y => ?_⟩
          rw [(m2.2.2.2.1 _ hne).2]
          exact z3 y
      · rw [dJ_f, hoa]
        show h_fr (h_pr M54 1005 (10 + s) (some oa)) 1005 (10 + s) = _
        rw [fr_eq, u1_eq]
      · by_cases q : r = s
        · subst q
          rw [u1_eq] at hL
          cases hL
          exact ⟨hss, hok'⟩
        · rw [u1_ne q] at hL
          exact rc.2.2.2.1 r L hL
    obtain ⟨b1, bi, b3⟩ := SB_no hB hss hnS kT' hrc0 (fun s' hs' q => ⟨c5 s' (kR s') (by omega) q (hB.rc hs').2.2.1 (fun r L hL => ((hB.rc hs').2.2.2.1 r L hL).2.2.1), fun r hr => c4 _ (by omega)⟩)
    have hI56 : cI sw nd rm M56 := b1.1.I
    obtain ⟨M60, t1, t2⟩ := P_tly (k := 8) hI56 b1.2.1 (by omega) (by omega)
    have kt := kf37 t1 b1.2.1.bk
    have b4 := SB0_keep b1 hss kt (by decide) (by decide) (k_su : ks [4] T' (s_u T' 4 8 (T'.1 4 8 + 1))) (by decide) t2
    have ti := PB_i20 b1.2.1 t2 kt
    obtain ⟨M64, u1', u2', u3', u4'⟩ := SB0_fw b4 hss
    have hKs' : u1 kR s (u1 (kR s) s (some P)) s s = some P := by rw [u1_eq, u1_eq]
    obtain ⟨M74, S', fmc, fmr, v1, v2, v3, v4, v5⟩ := P_spread (c := -1) (b := -1) u2' hss hss hKs' (Or.inl ⟨rfl, rfl⟩) (by show 0 ≤ 3; omega) (by show 0 ≤ 3; omega)
    have eT : u1 tog s (!(tog s)) s = !(tog s) := u1_eq
    rw [eT, nJ_f, hda] at v1
    have kv := kf122 v1 u2'.pb.bk
    have vi := PB_i20 u2'.pb v3.pb kv
    have I64 := u2'.st.I
    have tg64 := I64.si0 hss
    have eR' : e223 (nI s) S = some S' := by rw [eR, c6]; exact v2
    have har64 : h_ar M64 (30 + s) s = some da := by
      have := ((u2'.rc hss).1 s hss).1
      rw [eT, nJ_f, hda] at this
      exact this
    have hf50 : b124_50 (10 + s) (some oa) N = some (.inl (none, M74)) := by
      have I60 := b4.1.I
      have f118' := f118_eq r2N
      have oD : g_o N 6 (some da) = some da := g_o_t (ci := 6) hstN.1
      have o9 : g_o M56 9 (some 2) = some 2 := g_o_t (ci := 9) hI56.sh0
      have e058 : g_r M56 10 0 (some (10 + s)) = some (some 2) := (g_r_t (ci := 10) (hI56.si0 hss)).trans (congrArg some (hI56.si1 hss))
      have o66 : g_o M60 10 (some (10 + s)) = some (10 + s) := g_o_t (ci := 10) (I60.si0 hss)
      have e68 : g_r M64 10 4 (some (10 + s)) = some (some (30 + s)) := (g_r_t (ci := 10) tg64).trans (congrArg some (I64.si4 hss))
      have e70 : g_i M64 10 1 (some (10 + s)) = some (nI s) := (g_i_t (ci := 10) tg64).trans (congrArg some (I64.si2 hss))
      have e72 : al_r M64 36 (some (30 + s)) (nI s) = some (some da) := (al_r_t (I64.sa2 hss) (by rw [I64.sa3 hss]; exact hss) (by omega)).trans (congrArg some har64)
      have o76 : g_o M64 10 (some (10 + s)) = some (10 + s) := g_o_t (ci := 10) tg64
      have t1' : f37 [.inr (.inr (some 2)), .inl 8] M56 = some (none, M60) := t1
      unfold b124_50
      rw [bd_s e5N, bd_s oN, bd_s (c_I_of f118'), bd_s oD, bd_s (c_V_of m1), bd_s e5', bd_s e0', bd_s e3', bd_s w602, bd_s e4', bd_s e1', bd_s e5'', bd_s was, bd_s wpr, bd_s e058, bd_s o9, bd_s (c_V_of t1'), bd_s o66, bd_s (c_V_of u1'), bd_s e68, bd_s e70, bd_s e72, bd_s o76, bd_s (c_V_of v1)]
    have hf : f124 [.inr (.inr (some (10 + s)))] M = some (none, M74) := by
      rw [fdef]
      have : b124_0 (10 + s) M = b124_50 (10 + s) (some oa) N := by
        unfold b124_0
        rw [bd_s e4, bd_s e1, bd_s eo, bd_s x0, bd_s (c_V_of n1), bd_s oN, bd_s (c_I_of e105)]
        cases hL : kR s s with
        | none => rw [if_pos (show b2 (Option.isSome (none : Option (List Nat))) = 0 by decide)]
        | some L =>
          rw [if_neg (show ¬ b2 (Option.isSome (some L)) = 0 from show ¬ b2 true = 0 by decide), bd_s e5N, bd_s oN, bd_s (c_I_of (q123 L hL))]
          cases hv : bb with
          | false => rw [if_pos (show b2 false = 0 by decide)]
          | true =>
            have a0 := hage (by rw [hL]; exact Option.some_ne_none _)
            have n40 : ¬ t < ka s s + 40 := fun q => hno ⟨L, hL, (hbb L hL).mp hv, q⟩
            have p40 : (40 : Int32) ≤ nI t - nI (ka s s) := by
              rw [pk_sub a0]; exact nI_le (a := 40) (by omega) (by omega)
            rw [if_neg (show ¬ b2 true = 0 by decide), bd_s e0N, bd_s e3N, bd_s (g602 L hL), if_pos p40]
      rw [this, hf50]; rfl
    have kM : kp [200, 201, 202, 203, 300, 301, 302, 601, 602, 907, 1005, 1010] [0, 20, 21, 36] M M74 := kf124 hf hbk
    have kS := ke223 eR'
    have up : ∀ x, upS S x = upS (s_u T' 4 8 (T'.1 4 8 + 1)) x := fun x => by
      rw [upS_ks (k_su : ks [4] T' (s_u T' 4 8 (T'.1 4 8 + 1))) (by decide) (by decide), upS_ks kT' (by decide) (by decide)]
    refine ⟨M74, S', h_ai M64, fmc, _, _, _, hf, eR', h.grow v3 (v4.up up) (v5.up up) kM (by decide) kS (by decide) ?_, i20_tr (i20_tr (i20_tr bi ti) u3') vi, fun s' q => ⟨u1_ne q, u1_ne q⟩, by rw [hKs']; exact Option.some_ne_none _, by rw [u1_eq, u1_eq]; exact Nat.le_refl _, by rw [u1_eq, u1_eq]; omega⟩
    intro s' L hs' hL
    by_cases q : s' = s
    · subst q
      rw [hKs'] at hL
      cases hL
      exact hown'
    · rw [u1_ne q] at hL
      exact h.2.2 s' L hs' hL
end OT
