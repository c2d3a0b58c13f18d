/-! ===== the records of a switch, both sides ===== -/
abbrev hdN : List Int32 := hdL (nI 2) (nI 16777213) (nI 16777213) (nI 0) (nI 0) (nI 0)
/-- a record that may be told -/
def rOK (sw nd : Nat) (L : List Nat) : Prop := rcF sw nd (clL (hdN ++ sbL L)) = true ∧ L.length ≤ 31 ∧ ∀ i, L.getD i 0 < 256
section OK
variable {sw nd : Nat} {L : List Nat}
theorem rec_len : (hdN ++ sbL L).length = 13 + L.length := by rw [List.length_append, sbL_len]; rfl
theorem rec_bn (h : rOK sw nd L) {i : Nat} (hi : i < L.length) : bn (clL (hdN ++ sbL L)) (13 + i) = L.getD i 0 := by
  rw [clL_get (by rw [rec_len]; omega) (by omega), hd_T, bn_sb h.2.2 hi]
theorem rnb_all {X : List Int32} : ∀ p i last, rnb sw X i last p = true → ∀ k, k < p → bn X (i + 3 * k) < 8 ∧ nI (bn X (i + 3 * k + 1)) < nI sw ∧ 1 ≤ bn X (i + 3 * k + 2) ∧ bn X (i + 3 * k + 2) ≤ 9
  | 0, _, _, _, k, hk => by omega
  | p + 1, i, last, h, k, hk => by
    unfold rnb at h
    by_cases c1 : nI (bn X i) ≤ last
    · rw [if_pos c1] at h; cases h
    rw [if_neg c1] at h
    by_cases c2 : 8 ≤ nI (bn X i)
    · rw [if_pos c2] at h; cases h
    rw [if_neg c2] at h
    by_cases c3 : nI sw ≤ nI (bn X (i + 1))
    · rw [if_pos c3] at h; cases h
    rw [if_neg c3] at h
    by_cases c4 : nI (bn X (i + 2)) < 1
    · rw [if_pos c4] at h; cases h
    rw [if_neg c4] at h
    by_cases c5 : nI (bn X (i + 2)) ≤ 9
    · rw [if_pos c5] at h
      by_cases z : k = 0
      · subst z
        have b0 := bn_lt X i
        have b2 := bn_lt X (i + 2)
        refine ⟨?_, Int32.not_le.mp c3, ?_, ?_⟩
        · have h8 : ¬ 8 ≤ bn X i := fun q => c2 (nI_le (a := 8) q (by omega))
          show bn X i < 8
          omega
        · have h1 : ¬ bn X (i + 2) < 1 := fun q => c4 (nI_lt (b := 1) q (by omega))
          show 1 ≤ bn X (i + 2)
          omega
        · show bn X (i + 2) ≤ 9
          exact (nI_leI (b := 9) (by omega) (by omega)).mp c5
      · have := rnb_all p (i + 3) _ h (k - 1) (by omega)
        rw [show i + 3 + 3 * (k - 1) = i + 3 * k by omega] at this
        exact this
    · rw [if_neg c5] at h; cases h
/-- what the form says of the record -/
theorem rOK.f (h : rOK sw nd L) (hs : sw < 256) : 7 ≤ L.length ∧ 7 + 3 * L.getD 5 0 + 2 * L.getD (6 + 3 * L.getD 5 0) 0 = L.length ∧ L.getD 0 0 < sw ∧ (1 ≤ L.getD 4 0 ∧ L.getD 4 0 ≤ 15) ∧ ∀ k, k < L.getD 5 0 → L.getD (7 + 3 * k) 0 < sw ∧ 1 ≤ L.getD (8 + 3 * k) 0 ∧ L.getD (8 + 3 * k) 0 ≤ 9 ∧ L.getD (6 + 3 * k) 0 < 8 := by
  have hr := h.1
  have hl := clL_len (L := hdN ++ sbL L)
  rw [rec_len] at hl
  unfold rcF at hr
  by_cases c1 : (clL (hdN ++ sbL L)).length < 24
  · rw [if_pos c1] at hr; cases hr
  rw [if_neg c1] at hr
  have h7 : 7 ≤ L.length := by omega
  have e5 : bn (clL (hdN ++ sbL L)) 18 = L.getD 5 0 := rec_bn h (i := 5) (by omega)
  rw [e5] at hr
  by_cases c2 : (clL (hdN ++ sbL L)).length < 24 + 3 * L.getD 5 0
  · rw [if_pos c2] at hr; cases hr
  rw [if_neg c2] at hr
  have e6 : bn (clL (hdN ++ sbL L)) (19 + 3 * L.getD 5 0) = L.getD (6 + 3 * L.getD 5 0) 0 := by
    have := rec_bn h (i := 6 + 3 * L.getD 5 0) (by omega)
    rw [show 13 + (6 + 3 * L.getD 5 0) = 19 + 3 * L.getD 5 0 by omega] at this
    exact this
  rw [e6] at hr
  by_cases c3 : 24 + 3 * L.getD 5 0 + 2 * L.getD (6 + 3 * L.getD 5 0) 0 ≠ (clL (hdN ++ sbL L)).length
  · rw [if_pos c3] at hr; cases hr
  rw [if_neg c3] at hr
  have c3 : 24 + 3 * L.getD 5 0 + 2 * L.getD (6 + 3 * L.getD 5 0) 0 = (clL (hdN ++ sbL L)).length := by
    by_cases q : 24 + 3 * L.getD 5 0 + 2 * L.getD (6 + 3 * L.getD 5 0) 0 = (clL (hdN ++ sbL L)).length
    · exact q
    · exact absurd q c3
  have e0 : bn (clL (hdN ++ sbL L)) 13 = L.getD 0 0 := rec_bn h (i := 0) (by omega)
  have e4 : bn (clL (hdN ++ sbL L)) 17 = L.getD 4 0 := rec_bn h (i := 4) (by omega)
  rw [e0, e4] at hr
  by_cases c4 : sw ≤ L.getD 0 0
  · rw [if_pos c4] at hr; cases hr
  rw [if_neg c4] at hr
  by_cases c5 : L.getD 4 0 < 1
  · rw [if_pos c5] at hr; cases hr
  rw [if_neg c5] at hr
  by_cases c6 : 15 < L.getD 4 0
  · rw [if_pos c6] at hr; cases hr
  rw [if_neg c6, Bool.and_eq_true] at hr
  refine ⟨h7, by omega, by omega, by omega, fun k hk => ?_⟩
  obtain ⟨a1, a2, a3, a4⟩ := rnb_all _ _ _ hr.1 k hk
  have r6 := rec_bn h (i := 6 + 3 * k) (by omega)
  have r7 := rec_bn h (i := 7 + 3 * k) (by omega)
  have r8 := rec_bn h (i := 8 + 3 * k) (by omega)
  rw [show 13 + (6 + 3 * k) = 19 + 3 * k by omega] at r6
  rw [show 13 + (7 + 3 * k) = 19 + 3 * k + 1 by omega] at r7
  rw [show 13 + (8 + 3 * k) = 19 + 3 * k + 2 by omega] at r8
  rw [r6] at a1
  rw [r7] at a2
  rw [r8] at a3 a4
  exact ⟨(nI_ltI (by have := h.2.2 (7 + 3 * k); omega) (by omega)).mp a2, a3, a4, a1⟩
theorem rec_tru (h : rOK sw nd L) : tru sw nd (clL (hdN ++ sbL L)) = true := by
  rw [tru_cl (by rw [rec_len]; omega) (by rw [rec_len]; have := h.2.1; omega)]
  have e0 : bn (clL (hdN ++ sbL L)) 0 = 2 := by
    rw [clL_get (by rw [rec_len]; omega) (by omega), hd_0 (by omega)]
  unfold hfF
  rw [e0, if_neg (by omega), if_pos rfl]
  exact h.1
end OK
def nJ (tg : Bool) (s r : Nat) : Nat := if r = s ∧ tg = true then 5 else r
def dJ (tg : Bool) (s : Nat) : Nat := if tg = true then s else 5
/-- the records of switch s -/
def RC1 (sw nd : Nat) (M : hM) (S : sT) (s : Nat) (K : rK) (ka : Nat → Nat) (tg : Bool) : Prop :=
  (∀ r, r < sw → h_ar M (30 + s) r = some (400 + (6 * s + nJ tg s r)) ∧ nt1 M (400 + (6 * s + nJ tg s r)) (K r) ∧ (K r ≠ none → h_fi M 602 (400 + (6 * s + nJ tg s r)) = nI (ka r) ∧ S.1 28 (5 * s + r) = nI (ka r))) ∧
  h_fr M 1005 (10 + s) = some (400 + (6 * s + dJ tg s)) ∧ rkS S s K ∧ (∀ r L, K r = some L → r < sw ∧ rOK sw nd L) ∧ wyA M sw s K ∧ hoA M sw s K ∧ h_fi M 1010 (10 + s) = b2 (ofK sw K s)
section RG
variable {sw nd rm : Nat} {M M' : hM} {S T : sT} {s : Nat} {K : rK} {ka : Nat → Nat} {tg : Bool} {F A G : List Nat}
theorem nJ_lt {r : Nat} (hr : r < sw) (h5 : sw ≤ 5) : nJ tg s r < 6 := by unfold nJ; split <;> omega
theorem nt1.keep {na : Nat} {o : Option (List Nat)} (h : nt1 M na o) (k : kp F A M M') (h0 : F.contains 600 = false) (h1 : F.contains 601 = false) (ha : h_ai M' (na + 40) = h_ai M (na + 40)) : nt1 M' na o := by
  obtain ⟨⟨a1, a2, a3, a4⟩, a5⟩ := h
  refine ⟨⟨k.t0 a1, by rw [k.fr h0]; exact a2, k.t0 a3, k.l0 a4 a3⟩, ?_⟩
  rw [k.fi h1, ha]
  exact a5
theorem RC1.keep (hI : cI sw nd rm M) (hs : s < sw) (h : RC1 sw nd M S s K ka tg) (k : kp F A M M') (hF : [600, 601, 602, 1005, 1010].all (fun x => ! F.contains x) = true) (hA : A.contains 36 = false) (ha : ∀ a, a < 1000 → a ≠ 3 → h_ai M' a = h_ai M a) (l : ks G S T) (hG : [27, 28, 29, 30].all (fun x => ! G.contains x) = true) : RC1 sw nd M' T s K ka tg := by
  have qF : ∀ x, x ∈ [600, 601, 602, 1005, 1010] → F.contains x = false := fun x hx => by have := List.all_eq_true.mp hF x hx; simpa using this
  have qG : ∀ x, x ∈ [27, 28, 29, 30] → G.contains x = false := fun x hx => by have := List.all_eq_true.mp hG x hx; simpa using this
  have h5 := hI.bs.1.2
  obtain ⟨h1, h2, h3, h4, h6, h7, h8⟩ := h
  refine ⟨fun r hr => ?_, by rw [k.fr (qF 1005 (by decide))]; exact h2, h3.ks l (qG 27 (by decide)) (qG 30 (by decide)) (qG 29 (by decide)), h4, fun t ht => ?_, fun d hd => ?_, by rw [k.fi (qF 1010 (by decide))]; exact h8⟩
  · obtain ⟨a1, a2, a3⟩ := h1 r hr
    have hj := nJ_lt (tg := tg) (s := s) hr h5
    refine ⟨by rw [k.ar (hI.sa2 hs) hA]; exact a1, a2.keep k (qF 600 (by decide)) (qF 601 (by decide)) (ha _ (by omega) (by omega)), fun q => ?_⟩
    rw [k.fi (qF 602 (by decide)), l.i (qG 28 (by decide))]
    exact a3 q
  · rw [ha _ (by omega) (by omega)]; exact h6 t ht
  · rw [ha _ (by omega) (by omega)]; exact h7 d hd
theorem RC1.kl (h : RC1 sw nd M S s K ka tg) (h5 : sw ≤ 5) : rKl K ∧ rKo sw K := by
  obtain ⟨-, -, -, h4, -⟩ := h
  refine ⟨fun a L hL => ?_, fun a => ⟨fun q => ?_, fun k hk => ?_⟩⟩
  · obtain ⟨-, ok⟩ := h4 a L hL
    obtain ⟨f1, f2, f3, f4, f5⟩ := ok.f (by omega)
    exact ⟨f2, ok.2.1, ok.2.2, f4.1, f4.2⟩
  · cases z : K a with
    | none => exact absurd z q
    | some L => exact (h4 a L z).1
  · cases z : K a with
    | none =>
      rw [z] at hk
      have hk : k < 0 := hk
      omega
    | some L =>
      obtain ⟨-, ok⟩ := h4 a L z
      rw [z] at hk
      exact (ok.f (by omega)).2.2.2.2 k hk
theorem RC1.nS (h : RC1 sw nd M S s K ka tg) (hs : s < sw) (h5 : sw ≤ 5) : ntS M sw s K := fun a ha => by
  obtain ⟨a1, a2, -⟩ := h.1 a ha
  have := nJ_lt (tg := tg) (s := s) ha h5
  exact ⟨_, a1, by omega, by omega, a2⟩
end RG
/-- ints arrays of the class's own that no frame touches -/
theorem PB.ia {sw nd zb sb zb' sb' : Nat} {M M' : hM} {S S' : sT} {ia : Nat → Nat → Int32} {f1 f2 f3 f4 : Nat → List (List Int32)} {hc hc' : List (Nat × Int32 × List Int32)} {hs hs' : List (Nat × List Int32)} (h : PB sw nd M S ia zb sb f1 f2 hc hs) (g : PB sw nd M' S' ia zb' sb' f3 f4 hc' hs') : ∀ a, a < 1000 → a ≠ 3 → h_ai M' a = h_ai M a := fun a h1 h2 => by
  obtain ⟨ct, k1, -⟩ := h
  obtain ⟨ct', k2, -⟩ := g
  rw [k1.1.1 a (Or.inl h1) h2, k2.1.1 a (Or.inl h1) h2]
section PR
variable {sw nd rm : Nat} {M : hM} {S : sT} {ia : Nat → Nat → Int32} {zb sb : Nat} {flc flr : Nat → List (List Int32)} {hc : List (Nat × Int32 × List Int32)} {hs : List (Nat × List Int32)} {s r x na : Nat} {K : rK} {L : List Nat}
/-- postRecord; recordFrame and queues -/
theorem P_rec (hI : cI sw nd rm M) (h : PB sw nd M S ia zb sb flc flr hc hs) (hss : s < sw) (hr : r < 5) (hx : sd sw nd x) (hO : wO S) (hu : h_fi M 805 (200 + x) = upS S x) (hn : nt1 M na (some L)) (hna : na + 40 < 1000) (hK : rkS S s K) (hL : K r = some L) (ok : rOK sw nd L) (hh : hc.length ≤ 3) (hh2 : hs.length ≤ 3) : ∃ M' S1 S' f, f121 [.inr (.inr (some (10 + s))), .inr (.inr (some (200 + x))), .inr (.inr (some na))] M = some (none, M') ∧ e202 (nI s) (nI r) S = some (nI f, S1) ∧ e183 (nI x) (nI f) S1 = some S' ∧ PB sw nd M' S' ia zb sb (pqF (upS S x) flc x (hdN ++ sbL L)) (pqF (upS S x) flr x (hdN ++ sbL L)) hc hs := by
  have h31 := ok.2.1
  have hs5 := hI.bs.1.2
  obtain ⟨a, f, M1, S1, m1, s1, hf, p1⟩ := P_draft (v1 := nI 2) (v2 := nI 16777213) (v3 := nI 16777213) (v4 := nI 0) (v5 := nI 0) (v6 := nI 0) hI h hh hh2
  have kM1 := kf34 m1 h.bk
  have hI1 := hI.keep kM1 (by decide) (by decide)
  have kS1 := ke168 s1
  have hn1 : nt1 M1 na (some L) := hn.keep kM1 (by decide) (by decide) (h.ia p1 _ hna (by intro q; have := hn.1.2.2.2; have t3 := hI.ar1; rw [q, t3] at this; omega))
  obtain ⟨ct, c1, c2, c3⟩ := p1
  obtain ⟨M2, m2, d1⟩ := FC_lof c1 hn1 hna (by show 13 + L.length ≤ 44; omega)
  have kM2 := kf120 m2 c1.1.2.2
  have hI2 := hI1.keep kM2 (by decide) (by decide)
  have hs' : s < 5 := by omega
  obtain ⟨S2, s2, d2, d3⟩ := k202_loop hs' hr hL h31 L.length 0 S1 _ xF c2 (hK.ks kS1 (by decide) (by decide) (by decide)) (by omega) (by show 13 + L.length ≤ 80; omega) (by unfold xF; omega)
  have p2 : PB sw nd M2 S2 ia zb sb flc flr ((a, 0, hdN ++ sbL L) :: hc) ((f, hdN ++ sbL L) :: hs) := by
    refine ⟨ct, d1, d2, c3.1, c3.2.1, c3.2.2.1, ?_, c3.2.2.2.2⟩
    rw [d3.i (by decide)]
    exact c3.2.2.2.1
  have hO2 : wO S2 := (hO.ks kS1 (by decide)).ks d3 (by decide)
  have eu : upS S2 x = upS S x := by rw [upS_ks d3 (by decide) (by decide), upS_ks kS1 (by decide) (by decide)]
  have hu2 : h_fi M2 805 (200 + x) = upS S2 x := by rw [kM2.fi (by decide), kM1.fi (by decide), eu]; exact hu
  obtain ⟨M3, S3, m3, s3, p3⟩ := P_post hI2 p2 hO2 hu2 hx (rec_tru ok) (by rw [rec_len]; omega)
  rw [eu] at p3
  have e202' : e202 (nI s) (nI r) S = some (nI f, S2) := by
    have hb : c202_0 (nI s) (nI r) S = some (.inr (18, [.inl (nI s), .inl (nI r), .inl (nI f), .inl (nI 0)], S1)) := by
      have s1' : e168 2 16777213 16777213 0 0 0 S = some (nI f, S1) := s1
      have e0 : nI 0 = 0 := rfl
      simp [c202_0, s1', e0]
    show s_go kS202 (c202_0 (nI s) (nI r) S) = _
    rw [hb]
    exact s2
  refine ⟨M3, S2, S3, f, ?_, e202', s3, p3⟩
  have m1' : f34 [.inr (.inr (some 2)), .inl 2, .inl 16777213, .inl 16777213, .inl 0] M = some (some (.inr (.inr (some a))), M1) := m1
  have t1 := hI.si0 hss
  have t2 := hI.si1 hss
  have t3 := hI.sh0
  have t4 := (c1.hok List.mem_cons_self).1.1.1
  have t5 := hI2.po0 hx
  have t4 : h_tg M1 a = 3 := t4
  simp [f121, b121_0, t1, t2, t3, m1', t4, m2, t5, m3, g_i, g_r, g_l, g_o, p_i, p_r, p_l, p_z, c_V, c_I, c_L, c_R, x_out, z_fl_pi, z_fr_pi, z_ai_pi, z_al_pi, z_ar_pi, z_ln_pi, z_tg_pi, z_sz_pi, z_sl_pi, z_fi_pl, z_fr_pl, z_ai_pl, z_al_pl, z_ar_pl, z_ln_pl, z_tg_pl, z_sz_pl, z_sl_pl, z_fi_pr, z_fl_pr, z_ai_pr, z_al_pr, z_ar_pr, z_ln_pr, z_tg_pr, z_sz_pr, z_sl_pr, z_fi_qi, z_fl_qi, z_fr_qi, z_al_qi, z_ar_qi, z_ln_qi, z_tg_qi, z_sz_qi, z_sl_qi, z_fi_ql, z_fl_ql, z_fr_ql, z_ai_ql, z_ar_ql, z_ln_ql, z_tg_ql, z_sz_ql, z_sl_ql, z_fi_qr, z_fl_qr, z_fr_qr, z_ai_qr, z_al_qr, z_ln_qr, z_tg_qr, z_sz_qr, z_sl_qr, z_fi_ca, z_fl_ca, z_fr_ca, z_al_ca, z_ar_ca, z_ln_ca, z_tg_ca, z_sz_ca, z_sl_ca, y_pi, y_pl, y_pr, y_qi, y_ql, y_qr, y_ca]
end PR
