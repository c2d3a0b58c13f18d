/-! ===== forgetOldRecords ===== -/
section FG
variable {sw nd rm : Nat} {M M' : hM} {S T : sT} {ia ib : Nat → Nat → Int32} {w t zb sb : Nat} {pe : Nat → Option Nat} {wo : Nat → Nat} {fl : Nat → List (List Int32)} {kR : Nat → rK} {ka : Nat → Nat → Nat} {tog : Nat → Bool} {s p x y n o : Nat} {kas : Nat → Nat} {tg : Bool}
/-- what holds while old records are forgotten -/
def fgI (sw nd s t : Nat) (M : hM) (S : sT) (K0 : rK) (kas : Nat → Nat) (tg : Bool) (N : hM) (T : sT) (K : rK) (v : Int32) : Prop :=
  noS sw s M N ∧ ks [27] S T ∧ RC0 sw nd N T s K kas tg ∧ (∀ s' r, s' ≠ s → r < 5 → T.1 27 (5 * s' + r) = S.1 27 (5 * s' + r)) ∧ K s = K0 s ∧ ((v = 0 ∧ N = M ∧ T = S ∧ K = K0) ∨ v = 1)
theorem P_fgl {K0 : rK} (hI : cI sw nd rm M) (hss : s < sw) (ht : h_fi M 903 2 = nI t) (hSt : S.1 3 0 = nI t) (hS0 : S.1 0 0 = nI sw) (hage : K0 s ≠ none → kas s ≤ t ∧ t < kas s + 150) (ht2 : t ≤ 200000) : ∀ d r N T K v fuel fus, r + d = sw → fgI sw nd s t M S K0 kas tg N T K v → d < fuel → d < fus → ∃ N' T' K' v', drive k111 fuel 4 [.inr (.inr (some (10 + s))), .inl v, .inl (nI r)] N = drive k111 (fuel - d) 4 [.inr (.inr (some (10 + s))), .inl v', .inl (nI sw)] N' ∧ sdrive kS224 fus 85 [.inl (nI s), .inl (nI r)] T = sdrive kS224 (fus - d) 85 [.inl (nI s), .inl (nI sw)] T' ∧ fgI sw nd s t M S K0 kas tg N' T' K' v'
  | 0, r, N, T, K, v, fuel, fus, hr, h, hf, hg => by
    have : r = sw := by omega
    subst this
    exact ⟨N, T, K, v, rfl, rfl, h⟩
  | d + 1, r, N, T, K, v, fuel, fus, hr, h, hf, hg => by
    obtain ⟨f, rfl⟩ : ∃ f, fuel = f + 1 := ⟨fuel - 1, by omega⟩
    obtain ⟨g, rfl⟩ : ∃ g, fus = g + 1 := ⟨fus - 1, by omega⟩
    have hi := h
    obtain ⟨h1, h2, h3, h4, h5, h6⟩ := h
    have hsw := hI.bs.1.2
    have hrs : r < sw := by omega
    have r5 : r < 5 := by omega
    have e : ¬ nI sw ≤ nI r := nI_ge (by omega) (by omega)
    obtain ⟨a1, a2, a3⟩ := h3.1 r hrs
    have hj := nJ_lt (tg := tg) (s := s) hrs hsw
    have tg10 : h_tg N (10 + s) = 11 := by rw [h1.2.1.2.1]; exact hI.si0 hss
    have g4 : g_r N 10 4 (some (10 + s)) = some (some (30 + s)) := (g_r_t (ci := 10) tg10).trans (congrArg some (by rw [h1.2.2.2.1 1004 (by decide)]; exact hI.si4 hss))
    have t36 : h_tg N (30 + s) = 36 := by rw [h1.2.1.2.1]; exact hI.sa2 hss
    have l36 : h_ln N (30 + s) = sw := by rw [h1.2.1.1]; exact hI.sa3 hss
    have gl : a_ln N 36 (some (30 + s)) = some (nI sw) := by rw [a_ln_t t36, l36]
    have ga : al_r N 36 (some (30 + s)) (nI r) = some (some (400 + (6 * s + nJ tg s r))) := (al_r_t t36 (by rw [l36]; exact hrs) (by omega)).trans (congrArg some a1)
    have t7 := a2.1.1
    have e105 := f105_eq a2
    have gsh : g_r N 10 0 (some (10 + s)) = some (some 2) := (g_r_t (ci := 10) tg10).trans (congrArg some (by rw [h1.2.2.2.1 1000 (by decide)]; exact hI.si1 hss))
    have gt : g_i N 9 3 (some 2) = some (nI t) := (g_i_t (ci := 9) (by rw [h1.2.1.2.1]; exact hI.sh0)).trans (congrArg some (by rw [h1.2.2.1 903 (by decide) (by decide)]; exact ht))
    have x1 : nI (5 * s) + nI r = nI (5 * s + r) := nI_add _ _
    have i25 : 5 * s + r < 25 := by omega
    have ix : ((5 : Int32) * nI s) + nI r = nI (5 * s + r) := by rw [ixl5, x1]
    have s0 : s_g T 0 = nI sw := by show T.1 0 0 = _; rw [h2.i (by decide)]; exact hS0
    have s3 : s_g T 3 = nI t := by show T.1 3 0 = _; rw [h2.i (by decide)]; exact hSt
    have hK := h3.2.2.1 r r5
    have kc : k111 4 [.inr (.inr (some (10 + s))), .inl v, .inl (nI r)] N = b111_4 (10 + s) v (nI r) N := rfl
    have kr : kS224 85 [.inl (nI s), .inl (nI r)] T = c224_85 (nI s) (nI r) T := rfl
    have step : ∀ N1 T1 K1 v1, fgI sw nd s t M S K0 kas tg N1 T1 K1 v1 → b111_4 (10 + s) v (nI r) N = b111_51 (10 + s) v1 (nI r) N1 → c224_85 (nI s) (nI r) T = c224_143 (nI s) (nI r) T1 → ∃ N' T' K' v', drive k111 (f + 1) 4 [.inr (.inr (some (10 + s))), .inl v, .inl (nI r)] N = drive k111 (f + 1 - (d + 1)) 4 [.inr (.inr (some (10 + s))), .inl v', .inl (nI sw)] N' ∧ sdrive kS224 (g + 1) 85 [.inl (nI s), .inl (nI r)] T = sdrive kS224 (g + 1 - (d + 1)) 85 [.inl (nI s), .inl (nI sw)] T' ∧ fgI sw nd s t M S K0 kas tg N' T' K' v' := fun N1 T1 K1 v1 hi1 b1 b2 => by
      obtain ⟨N', T', K', v', j1, j2, j3⟩ := P_fgl hI hss ht hSt hS0 hage ht2 d (r + 1) N1 T1 K1 v1 f g (by omega) hi1 (by omega) (by omega)
      have b1' : b111_4 (10 + s) v (nI r) N = some (.inr (4, [.inr (.inr (some (10 + s))), .inl v1, .inl (nI (r + 1))], N1)) := by rw [b1]; unfold b111_51; rw [nI_1]
      have b2' : c224_85 (nI s) (nI r) T = some (.inr (85, [.inl (nI s), .inl (nI (r + 1))], T1)) := by rw [b2]; unfold c224_143; rw [nI_1]
      refine ⟨N', T', K', v', ?_, ?_, j3⟩
      · rw [dr_go (kc.trans b1'), show f + 1 - (d + 1) = f - d by omega]; exact j1
      · rw [sd_go (kr.trans b2'), show g + 1 - (d + 1) = g - d by omega]; exact j2
    cases hL : K r with
    | none =>
      rw [hL] at e105 hK
      have e105 : f105 [.inr (.inr (some (400 + (6 * s + nJ tg s r))))] N = some (some (.inl 0), N) := e105
      have hK : T.1 27 (5 * s + r) = 0 := hK
      refine step N T K v hi ?_ ?_
      · unfold b111_4
        rw [bd_s g4, bd_s gl, if_neg e, bd_s g4, bd_s ga, bd_s (g_o_t (ci := 6) t7), bd_s (c_I_of e105), if_pos rfl]
      · unfold c224_85
        rw [s0, if_neg e]
        by_cases z : nI r = nI s
        · rw [if_pos z]
        · rw [if_neg z, ix, bd_s (ga27 i25), if_pos hK]
    | some L =>
      rw [hL] at e105 hK
      have e105 : f105 [.inr (.inr (some (400 + (6 * s + nJ tg s r))))] N = some (some (.inl 1), N) := e105
      have hK1 : T.1 27 (5 * s + r) = 1 := hK.1
      have hK0 : ¬ T.1 27 (5 * s + r) = 0 := by rw [hK1]; decide
      obtain ⟨b1, b2⟩ := a3 (by rw [hL]; exact fun q => nomatch q)
      have g602 : g_i N 6 2 (some (400 + (6 * s + nJ tg s r))) = some (nI (kas r)) := (g_i_t (ci := 6) t7).trans (congrArg some b1)
      by_cases c : nI t - nI (kas r) < 150
      · refine step N T K v hi ?_ ?_
        · unfold b111_4
          rw [bd_s g4, bd_s gl, if_neg e, bd_s g4, bd_s ga, bd_s (g_o_t (ci := 6) t7), bd_s (c_I_of e105), if_neg (show ¬ (1 : Int32) = 0 by decide)]
          show Option.bind (g_r N 10 0 (some (10 + s))) _ = _
          rw [bd_s gsh, bd_s gt, bd_s g602, if_pos c]
        · unfold c224_85
          rw [s0, if_neg e]
          by_cases z : nI r = nI s
          · rw [if_pos z]
          · rw [if_neg z, ix, bd_s (ga27 i25), if_neg hK0, bd_s (ga28 i25), s3, b2, if_pos c]
      · have z : r ≠ s := fun q => by
          subst q
          rw [h5] at hL
          obtain ⟨g1, g2⟩ := hage (by rw [hL]; exact fun q => nomatch q)
          refine c ?_
          rw [pk_sub g1]
          exact nI_lt (b := 150) (by omega) (by omega)
        have z' : ¬ nI r = nI s := fun q => z ((nI_eq (by omega) (by omega)).mp q)
        have hnj : nj sw (nJ tg s r) := by unfold nj nJ; split <;> omega
        have k27 : ks [27] T (s_u T 27 (5 * s + r) 0) := k_su
        have hno := noO_1 (M := N) (na := 400 + (6 * s + nJ tg s r)) (v := 0)
        have hi1 : fgI sw nd s t M S K0 kas tg (h_pi N 601 (400 + (6 * s + nJ tg s r)) 0) (s_u T 27 (5 * s + r) 0) (u1 K r none) 1 := by
          refine ⟨noS_tr h1 (noO_S hno hnj hsw), h2.tr k27 rfl, ⟨fun r' hr' => ?_, h3.2.1, fun r' hr' => ?_, fun r' L' hL' => ?_⟩, fun s' r' q1 q2 => ?_, ?_, Or.inr rfl⟩
          · obtain ⟨u1', u2', u3'⟩ := h3.1 r' hr'
            refine ⟨u1', ?_, fun hne => ?_⟩
            · by_cases q : r' = r
              · subst q
                rw [u1_eq]
                refine ⟨u2'.1, ?_⟩
                show h_fi (h_pi N 601 _ 0) 601 _ = 0
                rw [fi_eq, u1_eq]
              · rw [u1_ne q]
                exact hno.nt u2' (by unfold nJ; split <;> split <;> omega)
            · by_cases q : r' = r
              · subst q; rw [u1_eq] at hne; exact absurd rfl hne
              · rw [u1_ne q] at hne
                rw [fi_ne (by decide), su_ne (by decide)]
                exact u3' hne
          · by_cases q : r' = r
            · subst q
              rw [u1_eq]
              show (s_u T 27 (5 * s + r') 0).1 27 (5 * s + r') = 0
              rw [su_eq, u1_eq]
            · rw [u1_ne q]
              have := h3.2.2.1 r' hr'
              cases hk : K r' with
              | none =>
                rw [hk] at this
                show (s_u T 27 (5 * s + r) 0).1 27 (5 * s + r') = 0
                rw [su_eq, u1_ne (by omega)]; exact this
              | some L' =>
                rw [hk] at this
                refine ⟨?_, ?_⟩
                · rw [su_eq, u1_ne (by omega)]; exact this.1
                · rw [su_ne (by decide), su_ne (by decide)]; exact this.2
          · by_cases q : r' = r
            · subst q; rw [u1_eq] at hL'; cases hL'
            · rw [u1_ne q] at hL'; exact h3.2.2.2 r' L' hL'
          · rw [su_eq, u1_ne (by omega)]; exact h4 s' r' q1 q2
          · rw [u1_ne (Ne.symm z)]; exact h5
        refine step _ _ _ 1 hi1 ?_ ?_
        · have e110 : f110 [.inr (.inr (some (400 + (6 * s + nJ tg s r))))] N = some (none, h_pi N 601 (400 + (6 * s + nJ tg s r)) 0) := by
            simp [f110, b110_0, t7, g_i, g_r, g_l, g_o, p_i, p_r, p_l, p_z, c_V, c_I, c_L, c_R, x_out, z_fl_pi, z_fr_pi, z_ai_pi, z_al_pi, z_ar_pi, z_ln_pi, z_tg_pi, z_sz_pi, z_sl_pi, z_fi_pl, z_fr_pl, z_ai_pl, z_al_pl, z_ar_pl, z_ln_pl, z_tg_pl, z_sz_pl, z_sl_pl, z_fi_pr, z_fl_pr, z_ai_pr, z_al_pr, z_ar_pr, z_ln_pr, z_tg_pr, z_sz_pr, z_sl_pr, z_fi_qi, z_fl_qi, z_fr_qi, z_al_qi, z_ar_qi, z_ln_qi, z_tg_qi, z_sz_qi, z_sl_qi, z_fi_ql, z_fl_ql, z_fr_ql, z_ai_ql, z_ar_ql, z_ln_ql, z_tg_ql, z_sz_ql, z_sl_ql, z_fi_qr, z_fl_qr, z_fr_qr, z_ai_qr, z_al_qr, z_ln_qr, z_tg_qr, z_sz_qr, z_sl_qr, z_fi_ca, z_fl_ca, z_fr_ca, z_al_ca, z_ar_ca, z_ln_ca, z_tg_ca, z_sz_ca, z_sl_ca, y_pi, y_pl, y_pr, y_qi, y_ql, y_qr, y_ca]
          unfold b111_4
          rw [bd_s g4, bd_s gl, if_neg e, bd_s g4, bd_s ga, bd_s (g_o_t (ci := 6) t7), bd_s (c_I_of e105), if_neg (show ¬ (1 : Int32) = 0 by decide)]
          show Option.bind (g_r N 10 0 (some (10 + s))) _ = _
          rw [bd_s gsh, bd_s gt, bd_s g602, if_neg c, bd_s (g_o_t (ci := 6) t7), bd_s (c_V_of e110)]
        · unfold c224_85
          rw [s0, if_neg e, if_neg z', ix, bd_s (ga27 i25), if_neg hK0, bd_s (ga28 i25), s3, b2, if_neg c, bd_s (gs27_0 i25)]
theorem u1_id {α : Type} {f : Nat → α} {a : Nat} : u1 f a (f a) = f := funext fun x => by
  by_cases q : x = a
  · subst q; rw [u1_eq]
  · rw [u1_ne q]
theorem P_forget {fus : Nat} (h : TB sw nd rm M S ia w pe wo t zb sb fl kR ka tog) (hss : s < sw) (hage : kR s s ≠ none → ka s s ≤ t ∧ t < ka s s + 150) (hfus : sw < fus) : ∃ M' S' ib kR', f111 [.inr (.inr (some (10 + s)))] M = some (none, M') ∧ sdrive kS224 fus 85 [.inl (nI s), .inl (nI 0)] S = sdrive kS224 (fus - sw - 1) 151 [.inl (nI s), .inl (nI 0)] S' ∧ TB sw nd rm M' S' ib w pe wo t zb sb fl kR' ka tog ∧ i20 M M' ∧ ∀ s', kR' s' s' = kR s' s' := by
  have hI := h.I
  have hsw := hI.bs.1.2
  have hB := h.1
  have rc := hB.rc hss
  have hi0 : fgI sw nd s t M S (kR s) (ka s) (tog s) M S (kR s) 0 := ⟨noS_rf, ks.rf, ⟨rc.1, rc.2.1, rc.2.2.1, rc.2.2.2.1⟩, fun _ _ _ _ => rfl, rfl, Or.inl ⟨rfl, rfl, rfl, rfl⟩⟩
  have ht2 : t ≤ 200000 := hB.st.2.2.2.1.2.2
  obtain ⟨N, T, K, v, j1, j2, j3⟩ := P_fgl (K0 := kR s) (kas := ka s) (tg := tog s) hI hss hB.st.2.2.2.1.1 hB.st.2.2.2.1.2.1 hB.st.2.2.1.1 hage ht2 sw 0 M S (kR s) 0 xF fus (by omega) hi0 (by unfold xF; omega) hfus
  obtain ⟨h1, h2, h3, h4, h5, h6⟩ := j3
  have s0 : s_g T 0 = nI sw := by show T.1 0 0 = _; rw [h2.i (by decide)]; exact hB.st.2.2.1.1
  have e : nI sw ≤ nI sw := nI_le (by omega) (by omega)
  have e0 : nI 0 = 0 := rfl
  have ref : sdrive kS224 fus 85 [.inl (nI s), .inl (nI 0)] S = sdrive kS224 (fus - sw - 1) 151 [.inl (nI s), .inl (nI 0)] T := by
    have : kS224 85 [.inl (nI s), .inl (nI sw)] T = some (.inr (151, [.inl (nI s), .inl (nI 0)], T)) := by simp [kS224, c224_85, s0, e, e0]
    rw [j2]
    obtain ⟨g, hg⟩ : ∃ g, fus - sw = g + 1 := ⟨fus - sw - 1, by omega⟩
    rw [hg, sd_go this]
    rfl
  have tg10 : h_tg N (10 + s) = 11 := by rw [h1.2.1.2.1]; exact hI.si0 hss
  have g4 : g_r N 10 4 (some (10 + s)) = some (some (30 + s)) := (g_r_t (ci := 10) tg10).trans (congrArg some (by rw [h1.2.2.2.1 1004 (by decide)]; exact hI.si4 hss))
  have t36 : h_tg N (30 + s) = 36 := by rw [h1.2.1.2.1]; exact hI.sa2 hss
  have l36 : h_ln N (30 + s) = sw := by rw [h1.2.1.1]; exact hI.sa3 hss
  have gl : a_ln N 36 (some (30 + s)) = some (nI sw) := by rw [a_ln_t t36, l36]
  have cls : ∀ M', b111_4 (10 + s) v (nI sw) N = some (.inl (none, M')) → f111 [.inr (.inr (some (10 + s)))] M = some (none, M') := fun M' hM' => by
    show drive k111 xF 4 [.inr (.inr (some (10 + s))), .inl 0, .inl (nI 0)] M = _
    rw [j1]
    obtain ⟨g, hg⟩ : ∃ g, xF - sw = g + 1 := ⟨xF - sw - 1, by unfold xF; omega⟩
    rw [hg]
    exact dr_end hM'
  rcases h6 with ⟨v0, rfl, rfl, rfl⟩ | v1
  · refine ⟨N, T, ia, kR, cls N ?_, ref, h, i20_rf, fun _ => rfl⟩
    unfold b111_4
    rw [bd_s g4, bd_s gl, if_pos e, if_pos v0]
    rfl
  · have hT : ∀ s', s' < sw → s' ≠ s → rkS T s' (kR s') ∧ ∀ r, r < sw → T.1 28 (5 * s' + r) = S.1 28 (5 * s' + r) := fun s' hs' q => by
      refine ⟨fun r hr => ?_, fun r hr => by rw [h2.i (by decide)]⟩
      have := (hB.rc hs').2.2.1 r hr
      cases hk : kR s' r with
      | none =>
        rw [hk] at this
        show T.1 27 (5 * s' + r) = 0
        rw [h4 s' r q hr]; exact this
      | some L =>
        rw [hk] at this
        refine ⟨by rw [h4 s' r q hr]; exact this.1, ?_⟩
        rw [h2.i (by decide), h2.i (by decide)]; exact this.2
    obtain ⟨b1, b2, b3⟩ := SB_no hB hss h1 (ks.rf.tr h2 rfl) h3 hT
    obtain ⟨M3, c1, c2, c3, c4⟩ := SB0_fw b1 hss
    have kM : kp [601, 602, 1005, 1010] [20, 21, 36] M M3 := ((kp.rf hB.pb.bk : kp [601, 602, 1005, 1010] [20, 21, 36] M M).tr b3 rfl rfl).tr c4 rfl rfl
    have e1 : u1 ka s (ka s) = ka := u1_id
    have e2 : u1 tog s (tog s) = tog := u1_id
    rw [e1, e2] at c2
    have hd : ∀ s', u1 kR s K s' s' = kR s' s' := fun s' => by
      by_cases q : s' = s
      · subst q; rw [u1_eq]; exact h5
      · rw [u1_ne q]
    refine ⟨M3, T, h_ai M3, u1 kR s K, cls M3 ?_, ref, h.grow c2 qx.rf qx.rf kM (by decide) h2 (by decide) (fun s' L hs' hL => h.2.2 s' L hs' (by rw [← hd s']; exact hL)), i20_tr b2 c3, hd⟩
    unfold b111_4
    rw [bd_s g4, bd_s gl, if_pos e, if_neg (by rw [v1]; decide), bd_s (g_o_t (ci := 10) tg10), bd_s (c_V_of c1)]
    rfl
end FG
