/-! ===== switches, both sides ===== -/
/-- what a port knows of the other end -/
def PX (sw nd : Nat) (M : hM) (S : sT) (pe : Nat → Option Nat) : Prop := ∀ x, sd sw nd x →
  (h_fi M 811 (200 + x) = S.1 23 x ∧ h_fi M 812 (200 + x) = S.1 25 x) ∧ (S.1 23 x = -1 ∨ ((∃ v, v < sw ∧ S.1 23 x = nI v) ∧ x < 40 ∧ ∃ y, pe x = some y ∧ y < 40)) ∧ (S.1 25 x = 0 ∨ (x < 40 ∧ ∃ n d, pe x = some (40 + n) ∧ 1 ≤ d ∧ d ≤ 15 ∧ S.1 25 x = nI (d * 65536 + x % 8 * 256 + (n + 1)))) ∧ ((upS S x ≠ 0 → x < 40 → h_fi M 814 (200 + x) = S.1 24 x) ∧ (upS S x ≠ 0 → 40 ≤ x → h_fi M 814 (200 + x) = S.1 36 (x - 40))) ∧ (upS S x = 0 → pe x ≠ none → x < 40 → S.1 24 x = -1000) ∧ (upS S x = 0 → pe x ≠ none → 40 ≤ x → S.1 36 (x - 40) = -1000)
def SB (sw nd rm : Nat) (M : hM) (S : sT) (ia : Nat → Nat → Int32) (w : Nat) (pe : Nat → Option Nat) (wo : Nat → Nat) (t zb sb : Nat) (flc flr : Nat → List (List Int32)) (hc : List (Nat × Int32 × List Int32)) (hs : List (Nat × List Int32)) (kR : Nat → rK) (ka : Nat → Nat → Nat) (tog : Nat → Bool) : Prop :=
  ST sw nd rm M S ia w pe wo t ∧ PB sw nd M S ia zb sb flc flr hc hs ∧ PX sw nd M S pe ∧ ∀ s, s < sw → RC1 sw nd M S s (kR s) (ka s) (tog s)
def sbF : List Nat := stF ++ [811, 812, 814, 600, 601, 602, 1005, 1010]
def sbS : List Nat := stS ++ [23, 24, 25, 36, 27, 28, 29, 30]
section SBs
variable {sw nd rm : Nat} {M M' : hM} {S T : sT} {ia : Nat → Nat → Int32} {w t zb sb : Nat} {pe : Nat → Option Nat} {wo : Nat → Nat} {flc flr fmc fmr : Nat → List (List Int32)} {hc hc' : List (Nat × Int32 × List Int32)} {hs hs' : List (Nat × List Int32)} {kR : Nat → rK} {ka : Nat → Nat → Nat} {tog : Nat → Bool} {F A G : List Nat}
theorem PX.keep (h : PX sw nd M S pe) (k : kp F A M M') (hF : [811, 812, 814].all (fun x => ! F.contains x) = true) (l : ks G S T) (hG : [12, 14, 23, 24, 25, 36].all (fun x => ! G.contains x) = true) : PX sw nd M' T pe := by
  have qF : ∀ x, x ∈ [811, 812, 814] → F.contains x = false := fun x hx => by have := List.all_eq_true.mp hF x hx; simpa using this
  have qG : ∀ x, x ∈ [12, 14, 23, 24, 25, 36] → G.contains x = false := fun x hx => by have := List.all_eq_true.mp hG x hx; simpa using this
  intro x hx
  rw [k.fi (qF 811 (by decide)), k.fi (qF 812 (by decide)), k.fi (qF 814 (by decide)), l.i (qG 23 (by decide)), l.i (qG 24 (by decide)), l.i (qG 25 (by decide)), l.i (qG 36 (by decide)), upS_ks l (qG 14 (by decide)) (qG 12 (by decide))]
  exact h x hx
theorem all_sub {P Q F : List Nat} (h : P.all (fun x => ! F.contains x) = true) (hs : Q.all (fun x => P.contains x) = true) : Q.all (fun x => ! F.contains x) = true := List.all_eq_true.mpr (fun x hx => List.all_eq_true.mp h x (all_in hs x hx))
/-- frames have moved, no more -/
theorem SB.keep (h : SB sw nd rm M S ia w pe wo t zb sb flc flr hc hs kR ka tog) (k : kp F A M M') (hF : sbF.all (fun x => ! F.contains x) = true) (hA : (36 :: cCA).all (fun x => ! A.contains x) = true) (l : ks G S T) (hG : sbS.all (fun x => ! G.contains x) = true) (p : PB sw nd M' T ia zb sb fmc fmr hc' hs') : SB sw nd rm M' T ia w pe wo t zb sb fmc fmr hc' hs' kR ka tog := by
  obtain ⟨h1, h2, h3, h4⟩ := h
  have h36 : A.contains 36 = false := by
    have := List.all_eq_true.mp hA 36 List.mem_cons_self
    simpa using this
  refine ⟨h1.keep k (all_sub hF (by decide)) (all_sub hA (by decide)) l (all_sub hG (by decide)) rfl, p, h3.keep k (all_sub hF (by decide)) l (all_sub hG (by decide)), fun s hs => ?_⟩
  exact (h4 s hs).keep h1.I hs k (all_sub hF (by decide)) h36 (h2.ia p) l (all_sub hG (by decide))
theorem SB.st (h : SB sw nd rm M S ia w pe wo t zb sb flc flr hc hs kR ka tog) : ST sw nd rm M S ia w pe wo t := h.1
theorem SB.pb (h : SB sw nd rm M S ia w pe wo t zb sb flc flr hc hs kR ka tog) : PB sw nd M S ia zb sb flc flr hc hs := h.2.1
theorem SB.px (h : SB sw nd rm M S ia w pe wo t zb sb flc flr hc hs kR ka tog) : PX sw nd M S pe := h.2.2.1
theorem SB.rc (h : SB sw nd rm M S ia w pe wo t zb sb flc flr hc hs kR ka tog) {s : Nat} (hs : s < sw) : RC1 sw nd M S s (kR s) (ka s) (tog s) := h.2.2.2 s hs
theorem port_a (hI : cI sw nd rm M) {s p : Nat} (hs : s < sw) (hp : p < 8) : al_r M 38 (some (20 + s)) (nI p) = some (some (200 + (8 * s + p))) := by
  rw [al_r_t (hI.sa0 hs) (by rw [hI.sa1 hs]; exact hp) (by omega), hI.sp0 hs hp]
theorem sd_sp {s p : Nat} (hs : s < sw) (hp : p < 8) : sd sw nd (8 * s + p) := Or.inl (by omega)
/-- spread and floods -/
theorem P_spr {s r : Nat} {L : List Nat} {c b : Int32} (hss : s < sw) (hr : r < sw) (hL : kR s r = some L) (hcb : (c = -1 ∧ b = -1) ∨ ∃ p0, p0 < 8 ∧ c = nI p0 ∧ b = nI (8 * s + p0)) (hh : hc.length ≤ 3) (hh2 : hs.length ≤ 3) : ∀ d p M S flc flr fuel fus, SB sw nd rm M S ia w pe wo t zb sb flc flr hc hs kR ka tog → p + d = 8 → d < fuel → d < fus → ∃ M' S' fmc fmr, drive k122 fuel 2 [.inr (.inr (some (10 + s))), .inr (.inr (some (400 + (6 * s + nJ (tog s) s r)))), .inl c, .inl (nI p)] M = some (none, M') ∧ sdrive kS222 fus 3 [.inl (nI s), .inl (nI r), .inl b, .inl (nI p)] S = some S' ∧ SB sw nd rm M' S' ia w pe wo t zb sb fmc fmr hc hs kR ka tog ∧ qx S flc fmc ∧ qx S flr fmr
  | 0, p, M, S, flc, flr, fuel, fus, h, hp, hf, hg => by
    obtain ⟨f, rfl⟩ : ∃ f, fuel = f + 1 := ⟨fuel - 1, by omega⟩
    obtain ⟨g, rfl⟩ : ∃ g, fus = g + 1 := ⟨fus - 1, by omega⟩
    have e : (8 : Int32) ≤ nI p := nI_le (a := 8) (by omega) (by omega)
    refine ⟨M, S, flc, flr, dr_end ?_, sd_end ?_, h, qx.rf, qx.rf⟩
    · simp [k122, b122_2, e]
    · simp [kS222, c222_3, e]
  | d + 1, p, M, S, flc, flr, fuel, fus, h, hp, hf, hg => by
    obtain ⟨f, rfl⟩ : ∃ f, fuel = f + 1 := ⟨fuel - 1, by omega⟩
    obtain ⟨g, rfl⟩ : ∃ g, fus = g + 1 := ⟨fus - 1, by omega⟩
    have hI := h.st.I
    have hsw := hI.bs.1.2
    have hp8 : p < 8 := by omega
    have e : ¬ (8 : Int32) ≤ nI p := nI_ge (b := 8) (by omega) (by omega)
    have hx : sd sw nd (8 * s + p) := sd_sp hss hp8
    have hx8 := hI.x8 hx
    have h1 := hI.si0 hss
    have h2 := hI.si3 hss
    have hpa := port_a hI hss hp8
    have tp := hI.po0 hx
    obtain ⟨⟨px1, -⟩, -⟩ := h.px (8 * s + p) hx
    have xs : nI (8 * s) + nI p = nI (8 * s + p) := nI_add _ _
    have same : (nI p = c) ↔ (nI (8 * s + p) = b) := by
      rcases hcb with ⟨rfl, rfl⟩ | ⟨p0, q0, rfl, rfl⟩
      · exact ⟨fun q => absurd q (nI_m1 (by omega)), fun q => absurd q (nI_m1 (by omega))⟩
      · rw [nI_eq (by omega) (by omega), nI_eq (by omega) (by omega)]
        omega
    have stay : k122 2 [.inr (.inr (some (10 + s))), .inr (.inr (some (400 + (6 * s + nJ (tog s) s r)))), .inl c, .inl (nI p)] M = some (.inr (2, [.inr (.inr (some (10 + s))), .inr (.inr (some (400 + (6 * s + nJ (tog s) s r)))), .inl c, .inl (nI (p + 1))], M)) → kS222 3 [.inl (nI s), .inl (nI r), .inl b, .inl (nI p)] S = some (.inr (3, [.inl (nI s), .inl (nI r), .inl b, .inl (nI (p + 1))], S)) → ∃ M' S' fmc fmr, drive k122 (f + 1) 2 [.inr (.inr (some (10 + s))), .inr (.inr (some (400 + (6 * s + nJ (tog s) s r)))), .inl c, .inl (nI p)] M = some (none, M') ∧ sdrive kS222 (g + 1) 3 [.inl (nI s), .inl (nI r), .inl b, .inl (nI p)] S = some S' ∧ SB sw nd rm M' S' ia w pe wo t zb sb fmc fmr hc hs kR ka tog ∧ qx S flc fmc ∧ qx S flr fmr := fun a1 a2 => by
      obtain ⟨M', S', fmc, fmr, j1, j2, j3⟩ := P_spr hss hr hL hcb hh hh2 d (p + 1) M S flc flr f g h (by omega) (by omega) (by omega)
      exact ⟨M', S', fmc, fmr, by rw [dr_go a1]; exact j1, by rw [sd_go a2]; exact j2, j3⟩
    by_cases cn : S.1 23 (8 * s + p) = -1
    · have cn' : h_fi M 811 (200 + (8 * s + p)) = -1 := by rw [px1]; exact cn
      refine stay ?_ ?_
      · by_cases cc : nI p = c
        · rw [← cc]
          simp [k122, b122_2, b122_37, e, nI_1]
        · simp [k122, b122_2, b122_37, e, cc, h1, h2, hpa, tp, cn', nI_1, g_i, g_r, g_l, g_o, p_i, p_r, p_l, p_z, c_V, c_I, c_L, c_R, x_out, z_fl_pi, z_fr_pi, z_ai_pi, z_al_pi, z_ar_pi, z_ln_pi, z_tg_pi, z_sz_pi, z_sl_pi, z_fi_pl, z_fr_pl, z_ai_pl, z_al_pl, z_ar_pl, z_ln_pl, z_tg_pl, z_sz_pl, z_sl_pl, z_fi_pr, z_fl_pr, z_ai_pr, z_al_pr, z_ar_pr, z_ln_pr, z_tg_pr, z_sz_pr, z_sl_pr, z_fi_qi, z_fl_qi, z_fr_qi, z_al_qi, z_ar_qi, z_ln_qi, z_tg_qi, z_sz_qi, z_sl_qi, z_fi_ql, z_fl_ql, z_fr_ql, z_ai_ql, z_ar_ql, z_ln_ql, z_tg_ql, z_sz_ql, z_sl_ql, z_fi_qr, z_fl_qr, z_fr_qr, z_ai_qr, z_al_qr, z_ln_qr, z_tg_qr, z_sz_qr, z_sl_qr, z_fi_ca, z_fl_ca, z_fr_ca, z_al_ca, z_ar_ca, z_ln_ca, z_tg_ca, z_sz_ca, z_sl_ca, y_pi, y_pl, y_pr, y_qi, y_ql, y_qr, y_ca]
      · simp [kS222, c222_3, c222_48, e, e175, c175_0, s_out, ixl8, xs, ga23 hx8, cn, nI_1]
    · have cn' : ¬ h_fi M 811 (200 + (8 * s + p)) = -1 := by rw [px1]; exact cn
      by_cases cc : nI p = c
      · have cb := same.mp cc
        refine stay ?_ ?_
        · rw [← cc]
          simp [k122, b122_2, b122_37, e, nI_1]
        · rw [← cb]
          simp [kS222, c222_3, c222_48, e, e175, c175_0, s_out, ixl8, xs, ga23 hx8, cn, nI_1]
      · have cb : ¬ nI (8 * s + p) = b := fun q => cc (same.mpr q)
        have rc := h.rc hss
        obtain ⟨a1, a2, a3⟩ := rc.1 r hr
        have hj := nJ_lt (tg := tog s) (s := s) hr hsw
        rw [hL] at a2
        have hW := h.st.W
        obtain ⟨M1, S1, S2, ff, m1, s1, s2, p1⟩ := P_rec (K := kR s) hI h.pb hss (show r < 5 by omega) hx hW.wO (hW.up hx) a2 (by omega) rc.2.2.1 hL (rc.2.2.2.1 r L hL).2 hh hh2
        have kM := kf121 m1 h.pb.bk
        have kS : ks [4, 6, 7, 8, 9, 18, 19] S S2 := ((ks.rf.tr (ke202 s1) rfl : ks [4, 6, 7, 8, 9, 18, 19] S S1)).tr (ke183 s2) rfl
        have hB := h.keep kM (by decide) (by decide) kS (by decide) p1
        have ok := (rc.2.2.2.1 r L hL).2
        have q1 : qx S flc (pqF (upS S (8 * s + p)) flc (8 * s + p) (hdN ++ sbL L)) := qx_pq (by rw [rec_len]; omega) (by rw [rec_len]; have := ok.2.1; omega)
        have q2 : qx S flr (pqF (upS S (8 * s + p)) flr (8 * s + p) (hdN ++ sbL L)) := qx_pq (by rw [rec_len]; omega) (by rw [rec_len]; have := ok.2.1; omega)
        have eu : ∀ z, upS S z = upS S2 z := fun z => (upS_ks kS (by decide) (by decide)).symm
        obtain ⟨M', S', fmc, fmr, j1, j2, j3, j4, j5⟩ := P_spr hss hr hL hcb hh hh2 d (p + 1) M1 S2 _ _ f g hB (by omega) (by omega) (by omega)
        refine ⟨M', S', fmc, fmr, ?_, ?_, j3, q1.tr (j4.up eu), q2.tr (j5.up eu)⟩
        · have a : k122 2 [.inr (.inr (some (10 + s))), .inr (.inr (some (400 + (6 * s + nJ (tog s) s r)))), .inl c, .inl (nI p)] M = some (.inr (2, [.inr (.inr (some (10 + s))), .inr (.inr (some (400 + (6 * s + nJ (tog s) s r)))), .inl c, .inl (nI (p + 1))], M1)) := by
            simp [k122, b122_2, b122_37, e, cc, h1, h2, hpa, tp, cn', m1, nI_1, g_i, g_r, g_l, g_o, p_i, p_r, p_l, p_z, c_V, c_I, c_L, c_R, x_out, z_fl_pi, z_fr_pi, z_ai_pi, z_al_pi, z_ar_pi, z_ln_pi, z_tg_pi, z_sz_pi, z_sl_pi, z_fi_pl, z_fr_pl, z_ai_pl, z_al_pl, z_ar_pl, z_ln_pl, z_tg_pl, z_sz_pl, z_sl_pl, z_fi_pr, z_fl_pr, z_ai_pr, z_al_pr, z_ar_pr, z_ln_pr, z_tg_pr, z_sz_pr, z_sl_pr, z_fi_qi, z_fl_qi, z_fr_qi, z_al_qi, z_ar_qi, z_ln_qi, z_tg_qi, z_sz_qi, z_sl_qi, z_fi_ql, z_fl_ql, z_fr_ql, z_ai_ql, z_ar_ql, z_ln_ql, z_tg_ql, z_sz_ql, z_sl_ql, z_fi_qr, z_fl_qr, z_fr_qr, z_ai_qr, z_al_qr, z_ln_qr, z_tg_qr, z_sz_qr, z_sl_qr, z_fi_ca, z_fl_ca, z_fr_ca, z_al_ca, z_ar_ca, z_ln_ca, z_tg_ca, z_sz_ca, z_sl_ca, y_pi, y_pl, y_pr, y_qi, y_ql, y_qr, y_ca]
          rw [dr_go a]; exact j1
        · have a : kS222 3 [.inl (nI s), .inl (nI r), .inl b, .inl (nI p)] S = some (.inr (3, [.inl (nI s), .inl (nI r), .inl b, .inl (nI (p + 1))], S2)) := by
            simp [kS222, c222_3, c222_48, e, e175, c175_0, s_out, ixl8, xs, ga23 hx8, cn, cb, s1, s2, nI_1]
          rw [sd_go a]; exact j2
theorem P_spread {s r : Nat} {L : List Nat} {c b : Int32} (h : SB sw nd rm M S ia w pe wo t zb sb flc flr hc hs kR ka tog) (hss : s < sw) (hr : r < sw) (hL : kR s r = some L) (hcb : (c = -1 ∧ b = -1) ∨ ∃ p0, p0 < 8 ∧ c = nI p0 ∧ b = nI (8 * s + p0)) (hh : hc.length ≤ 3) (hh2 : hs.length ≤ 3) : ∃ M' S' fmc fmr, f122 [.inr (.inr (some (10 + s))), .inr (.inr (some (400 + (6 * s + nJ (tog s) s r)))), .inl c] M = some (none, M') ∧ e222 (nI s) (nI r) b S = some S' ∧ SB sw nd rm M' S' ia w pe wo t zb sb fmc fmr hc hs kR ka tog ∧ qx S flc fmc ∧ qx S flr fmr :=
  P_spr hss hr hL hcb hh hh2 8 0 M S flc flr xF xF h (by omega) (by unfold xF; omega) (by unfold xF; omega)
end SBs
