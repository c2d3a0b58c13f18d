/-! ===== drafts ===== -/
section MO
variable {tr : List Int32 → Bool} {sw nd rm : Nat} {M : hM} {ia : Nat → Nat → Int32} {ct : Nat → Int32} {zb sb : Nat} {fl : Nat → List (List Int32)} {hl : List (Nat × Int32 × List Int32)} {a p q x : Nat} {g : Int32} {L : List Int32}
/-- a held frame with other contents -/
theorem FC_con {M' : hM} {z : Nat} {g2 : Int32} {L2 : List Int32} (hF : FC tr sw nd M ia ct zb sb fl ((a, g, L) :: hl)) (e : h_tg M' = h_tg M ∧ h_ln M' = h_ln M ∧ h_sz M' = h_sz M ∧ h_sl M' = h_sl M ∧ h_fr M' = h_fr M ∧ h_fi M' 302 = h_fi M 302) (ei : ∀ b, b ≠ a → h_fi M' 201 b = h_fi M 201 b ∧ h_fi M' 202 b = h_fi M 202 b) (ea : ∀ b, b ≠ a + 1 → h_ai M' b = h_ai M b) (hz : h_fi M' 201 a = nI z) (hz8 : z ≤ 48) (hL : fbl M' (a + 1) z = L2) (hg : h_fi M' 202 a = g2) (hb : bk M') : FC tr sw nd M' ia ct zb sb fl ((a, g2, L2) :: hl) := by
  obtain ⟨⟨d1, d2, d3⟩, cl, c1, c2, c3, c4, c5, c6⟩ := hF
  obtain ⟨e1, e2, e3, e4, e5, e6⟩ := e
  have hc : cl 145 = a :: hl.map (fun t : Nat × Int32 × List Int32 => t.1) := c4.1.1
  have ha := c2 145 a (by rw [hc]; exact List.mem_cons_self)
  obtain ⟨⟨k1, k2, k3, k4⟩, k5, k6⟩ := ha
  refine ⟨⟨fun b hb h3 => ?_, by rw [ea 3 (by omega)]; exact d2, hb⟩, cl, c1, fun p b hbm => ?_, by rw [e5, e6]; exact c3, ?_, by rw [e3]; exact c5, by rw [e4]; exact c6⟩
  · rw [e1] at hb
    rw [ea b (by
      rcases hb with hb | hb
      · omega
      · intro y
        rw [y, k3] at hb
        exact absurd hb (by decide))]
    exact d1 b hb h3
  · obtain ⟨⟨j1, j2, j3, j4⟩, j5, j6⟩ := c2 p b hbm
    refine ⟨⟨by rw [e1]; exact j1, by rw [e5]; exact j2, by rw [e1]; exact j3, by rw [e2]; exact j4⟩, j5, ?_⟩
    by_cases y : b = a
    · subst y; exact ⟨z, hz, hz8⟩
    · rw [(ei b y).1]; exact j6
  · refine fT_con c1 c4 (fun b y => ⟨?_, (ei b y).2⟩) ?_ hg
    · unfold fcC fbl
      rw [(ei b y).1, ea (b + 1) (by omega)]
    · rw [fcC_z hz hz8]; exact hL
theorem bo_con {N : hM} {z : Nat} {g2 : Int32} {L2 : List Int32} {y : Int32} (hF : FC tr sw nd M ia ct zb sb fl ((a, g, L) :: hl)) (h : bo (a + 1) M N) (hz : y = nI z) (hz8 : z ≤ 48) (hL : fbl N (a + 1) z = L2) (hg : h_fi N 202 a = g2) (hb : bk (h_pi N 201 a y)) : FC tr sw nd (h_pi N 201 a y) ia ct zb sb fl ((a, g2, L2) :: hl) := by
  obtain ⟨⟨b1, b2, b3, b4, b5⟩, ⟨b6, b7, b8, b9⟩, b0⟩ := h
  refine FC_con hF ⟨b7, b6, b8, b9, b3, ?_⟩ (fun b q => ⟨?_, ?_⟩) (fun b q => funext fun i => b0 b i q) ?_ hz8 hL ?_ hb
  · rw [fi_ne (by decide), b1]
  · rw [fi_eq, u1_ne q, b1]
  · rw [fi_ne (by decide), b1]
  · rw [fi_eq, u1_eq, hz]
  · rw [fi_ne (by decide)]; exact hg
theorem n_a48 : n_a M 21 48 = some (h_na M 21 48) := rfl
theorem f33_eq (ha : h_tg M a = 3) (hn : a ≠ h_sz M) : f33 [.inr (.inr (some a))] M = some (none, h_pr (h_na M 21 48) 200 a (some (h_sz M))) := by
  show x_out (b33_0 a M) = _
  unfold b33_0
  have ht : h_tg (h_na M 21 48) a = 2 + 1 := (if_neg hn).trans ha
  rw [bd_s n_a48, bd_s (p_r_t ht)]
  rfl
/-- how many frames there may be -/
def FLb (fl : Nat → List (List Int32)) : Prop := ∀ x, x < 48 → (fl x).length ≤ 1 ∧ (fl (48 + x)).length ≤ 4 ∧ (fl (96 + x)).length ≤ 32
/-- a new frame, held -/
theorem FC_new (hI : cI sw nd rm M) (hF : FC tr sw nd M ia ct zb sb fl hl) (hz : 1000 ≤ zb) (hB : FLb fl) (hh : hl.length ≤ 3) (hsp : h_fr M 907 2 = none) : FC tr sw nd (h_pr (h_pr (h_na (h_no M 2 4) 21 48) 200 (h_sz M) (some (h_sz M + 1))) 203 (h_sz M) none) ia ct zb sb fl ((h_sz M, 0, []) :: hl) := by
  obtain ⟨⟨d1, d2, d3⟩, cl, c1, c2, c3, c4, c5, c6⟩ := hF
  have hb := hI.bs
  have hz0 : 1000 ≤ h_sz M := by omega
  have hle : sumL cl 146 ≤ 1780 := by
    have e1 : sumL cl 146 = sumL cl 144 + (cl 144).length + (cl 145).length := rfl
    have e2 : cl 144 = [] := by
      have := ch_hd c3.2.2
      rw [hsp] at this
      exact List.head?_eq_none_iff.mp this.symm
    have e3 : (cl 145).length = hl.length := by rw [c4.1.1, List.length_map]
    have e4 := sumL_ap (f := cl) 48 96
    have e5 := sumL_ap (f := fun p => cl (48 + p)) 48 48
    have hlen : ∀ p, p < 144 → (cl p).length = (fl p).length := fun p hp => by rw [← c4.2.1 p hp, List.length_map]
    have b1 := sumL_le (f := cl) (k := 1) 48 (fun p hp => by rw [hlen p (by omega)]; exact (hB p hp).1)
    have b2 := sumL_le (f := fun p => cl (48 + p)) (k := 4) 48 (fun p hp => by rw [hlen (48 + p) (by omega)]; exact (hB p hp).2.1)
    have b3 := sumL_le (f := fun p => cl (48 + (48 + p))) (k := 32) 48 (fun p hp => by rw [hlen (48 + (48 + p)) (by omega), show 48 + (48 + p) = 96 + p by omega]; exact (hB p hp).2.2)
    rw [e2, List.length_nil] at e1
    have e4 : sumL cl 144 = sumL cl 48 + sumL (fun p => cl (48 + p)) 96 := e4
    have e5 : sumL (fun p => cl (48 + p)) 96 = sumL (fun p => cl (48 + p)) 48 + sumL (fun p => cl (48 + (48 + p))) 48 := e5
    omega
  obtain ⟨y1, y2, y3, y4⟩ := d3 _ (Nat.le_refl _)
  obtain ⟨w1, w2, w3, w4⟩ := d3 (h_sz M + 1) (by omega)
  have hn : ∀ p, h_sz M ∉ cl p := fun p q => by
    have := (c2 p _ q).1.1
    rw [y1] at this
    cases this
  have kA : kp [] [0] M (h_no M 2 4) := k_n_o rfl d3
  have kB : kp [] [0] (h_no M 2 4) (h_na (h_no M 2 4) 21 48) := k_n_a n_a48 kA.1
  have kC := kA.tt kB (fun _ q => q) (fun _ q => q)
  have efi : ∀ k, h_fi (h_na (h_no M 2 4) 21 48) k = h_fi M k := fun k => (kC.2.2.1 k (fun q => nomatch q)).1
  have efr : ∀ k, h_fr (h_na (h_no M 2 4) 21 48) k = h_fr M k := fun k => (kC.2.2.1 k (fun q => nomatch q)).2.2
  have t0 : h_tg (h_na (h_no M 2 4) 21 48) (h_sz M) = 3 := by
    show (if h_sz M = h_sz M + 1 then 21 else if h_sz M = h_sz M then 3 else h_tg M (h_sz M)) = 3
    rw [if_neg (by omega), if_pos rfl]
  have t1 : h_tg (h_na (h_no M 2 4) 21 48) (h_sz M + 1) = 21 := if_pos rfl
  have tn : ∀ b, b ≠ h_sz M → b ≠ h_sz M + 1 → h_tg (h_na (h_no M 2 4) 21 48) b = h_tg M b := fun b q1 q2 => by
    show (if b = h_sz M + 1 then 21 else if b = h_sz M then 3 else h_tg M b) = h_tg M b
    rw [if_neg q2, if_neg q1]
  have aai : ∀ b, b ≠ h_sz M + 1 → h_ai (h_na (h_no M 2 4) 21 48) b = h_ai M b := fun b q => funext fun i => if_neg q
  have lln : ∀ b, b ≠ h_sz M + 1 → h_ln (h_na (h_no M 2 4) 21 48) b = h_ln M b := fun b q => if_neg q
  generalize hN : h_na (h_no M 2 4) 21 48 = N at *
  have hbN : bk (h_pr (h_pr N 200 (h_sz M) (some (h_sz M + 1))) 203 (h_sz M) none) := (k_hpr (k_hpr kC.1 (by rw [t0]; decide)).1 (by show h_tg N (h_sz M) ≠ 0; rw [t0]; decide)).1
  have l1 : h_ln N (h_sz M + 1) = 48 := by rw [← hN]; exact if_pos rfl
  have s1 : h_sz N = h_sz M + 2 := by rw [← hN]; rfl
  have s2 : h_sl N = h_sl M + 52 := by rw [← hN]; show h_sl M + 4 + 48 = _; omega
  have hsum : sumL (u1 cl 145 (h_sz M :: cl 145)) 146 = sumL cl 146 + 1 := by
    have := sumL_u1 (f := cl) (p := 145) (l := h_sz M :: cl 145) 146
    rw [if_pos (by omega), if_pos (by omega), List.length_cons] at this
    omega
  have eC : ∀ b, b ≠ h_sz M → fcC (h_pr (h_pr N 200 (h_sz M) (some (h_sz M + 1))) 203 (h_sz M) none) b = fcC M b := fun b q => by
    unfold fcC fbl
    show (List.range (h_fi N 201 b).toNatClampNeg).map (fun i => h_ai N (b + 1) i) = _
    rw [efi, aai (b + 1) (by omega)]
  have f201 : h_fi M 201 (h_sz M) = 0 := (y3 201).1
  have f202 : h_fi M 202 (h_sz M) = 0 := (y3 202).1
  have eC0 : fcC (h_pr (h_pr N 200 (h_sz M) (some (h_sz M + 1))) 203 (h_sz M) none) (h_sz M) = [] := by
    unfold fcC fbl
    show (List.range (h_fi N 201 (h_sz M)).toNatClampNeg).map _ = _
    rw [efi, f201]
    rfl
  refine ⟨⟨fun b hbb h3 => ?_, ?_, hbN⟩, u1 cl 145 (h_sz M :: cl 145), fD_new c1 hn, fun p b hbm => ?_, ?_, ?_, ?_, ?_⟩
  · show h_ai N b = ia b
    have hbb : b < 1000 ∨ h_tg N b = 20 := hbb
    have q1 : b ≠ h_sz M := by
      intro q; subst q
      rcases hbb with hbb | hbb
      · omega
      · rw [t0] at hbb; cases hbb
    have q2 : b ≠ h_sz M + 1 := by
      intro q; subst q
      rcases hbb with hbb | hbb
      · omega
      · rw [t1] at hbb; cases hbb
    rw [aai b q2]
    rw [tn b q1 q2] at hbb
    exact d1 b hbb h3
  · show h_ai N 3 = ct
    rw [aai 3 (by omega)]; exact d2
  · have hcase : b = h_sz M ∨ (b ≠ h_sz M ∧ ∃ r, b ∈ cl r) := by
      by_cases y : b = h_sz M
      · exact Or.inl y
      · refine Or.inr ⟨y, ?_⟩
        by_cases q : p = 145
        · subst q
          rw [u1_eq] at hbm
          rcases List.mem_cons.mp hbm with h | h
          · exact absurd h y
          · exact ⟨145, h⟩
        · rw [u1_ne q] at hbm; exact ⟨p, hbm⟩
    rcases hcase with rfl | ⟨y, r, hr⟩
    · refine ⟨⟨t0, ?_, t1, l1⟩, hz0, 0, ?_, by omega⟩
      · rw [fr_ne (by decide), fr_eq, u1_eq]
      · show h_fi N 201 (h_sz M) = _
        rw [efi, f201]; rfl
    · obtain ⟨⟨j1, j2, j3, j4⟩, j5, j6⟩ := c2 r b hr
      have y2 : b ≠ h_sz M + 1 := by intro q; rw [q, w1] at j1; cases j1
      have y3 : b + 1 ≠ h_sz M := by intro q; rw [q, y1] at j3; cases j3
      refine ⟨⟨(tn b y y2).trans j1, ?_, (tn (b + 1) y3 (by omega)).trans j3, (lln (b + 1) (by omega)).trans j4⟩, j5, ?_⟩
      · rw [fr_ne (by decide), fr_eq, u1_ne y, efr]; exact j2
      · show ∃ z, h_fi N 201 b = nI z ∧ z ≤ 48
        rw [efi]; exact j6
  · have := fS_new (a := h_sz M) c3 hb.1.2 hb.2.1.2 hn
    show fS sw nd _ _ _ (h_fi N 302) _ (h_fr (h_pr (h_pr N 200 (h_sz M) (some (h_sz M + 1))) 203 (h_sz M) none) 907 2) _
    rw [fr_eq, fr_ne (show 203 ≠ 200 by decide), fr_ne (show 300 ≠ 203 by decide), fr_ne (show 300 ≠ 200 by decide), fr_ne (show 301 ≠ 203 by decide), fr_ne (show 301 ≠ 200 by decide), fr_ne (show 808 ≠ 203 by decide), fr_ne (show 808 ≠ 200 by decide), fr_ne (show 907 ≠ 203 by decide), fr_ne (show 907 ≠ 200 by decide), efi, efr, efr, efr, efr, efr]
    exact this
  · have := fT_new (a := h_sz M) c4
    rw [f202, show fcC M (h_sz M) = [] by unfold fcC fbl; rw [f201]; rfl] at this
    obtain ⟨⟨t1', t2⟩, t3, t4, t5⟩ := this
    have hmm : ∀ p b, p < 144 → b ∈ u1 cl 145 (h_sz M :: cl 145) p → b ≠ h_sz M := fun p b hp hbm q => by
      rw [u1_ne (by omega)] at hbm
      exact hn p (q ▸ hbm)
    have g202 : ∀ b, h_fi (h_pr (h_pr N 200 (h_sz M) (some (h_sz M + 1))) 203 (h_sz M) none) 202 b = h_fi M 202 b := fun b => by
      show h_fi N 202 b = _
      rw [efi]
    refine ⟨⟨t1', fun t ht => ?_⟩, fun p hp => ?_, fun p b hp hbm => ?_, fun p b hp hq hbm => ?_⟩
    · rw [g202]
      rcases List.mem_cons.mp ht with rfl | h
      · exact ⟨f202, eC0⟩
      · have : t.1 ≠ h_sz M := fun q => hn 145 (by rw [c4.1.1, ← q]; exact List.mem_map_of_mem h)
        rw [eC _ this]
        exact t2 t ht
    · rw [← t3 p hp]
      exact List.map_congr_left (fun b hbm => eC b (hmm p b hp hbm))
    · rw [g202, eC b (hmm p b (by omega) hbm)]
      exact t4 p b hp hbm
    · rw [g202, eC b (hmm p b hq hbm)]
      exact t5 p b hp hq hbm
  · show h_sz N = _
    rw [hsum, s1, c5]; omega
  · refine ⟨?_, by omega⟩
    show h_sl N = _
    rw [hsum, s2, c6.1]; omega
theorem f34_sp {N : hM} {v1 v2 v3 v4 : Int32} (h2 : h_tg M 2 = 10) (h7 : h_fr M 907 2 = some a) (ha : h_tg M a = 3) (hf : f32 [.inr (.inr (some a)), .inl v1, .inl v2, .inl v3, .inl v4] (h_pr (h_pr M 907 2 (h_fr M 203 a)) 203 a none) = some (none, N)) : f34 [.inr (.inr (some 2)), .inl v1, .inl v2, .inl v3, .inl v4] M = some (some (.inr (.inr (some a))), N) := by
  simp [f34, b34_0, b34_32, h2, h7, ha, hf, g_i, g_r, g_l, g_o, p_i, p_r, p_l, p_z, c_V, c_I, c_L, c_R, x_out, z_fl_pi, z_fr_pi, z_ai_pi, z_al_pi, z_ar_pi, z_ln_pi, z_tg_pi, z_sz_pi, z_sl_pi, z_fi_pl, z_fr_pl, z_ai_pl, z_al_pl, z_ar_pl, z_ln_pl, z_tg_pl, z_sz_pl, z_sl_pl, z_fi_pr, z_fl_pr, z_ai_pr, z_al_pr, z_ar_pr, z_ln_pr, z_tg_pr, z_sz_pr, z_sl_pr, z_fi_qi, z_fl_qi, z_fr_qi, z_al_qi, z_ar_qi, z_ln_qi, z_tg_qi, z_sz_qi, z_sl_qi, z_fi_ql, z_fl_ql, z_fr_ql, z_ai_ql, z_ar_ql, z_ln_ql, z_tg_ql, z_sz_ql, z_sl_ql, z_fi_qr, z_fl_qr, z_fr_qr, z_ai_qr, z_al_qr, z_ln_qr, z_tg_qr, z_sz_qr, z_sl_qr, z_fi_ca, z_fl_ca, z_fr_ca, z_al_ca, z_ar_ca, z_ln_ca, z_tg_ca, z_sz_ca, z_sl_ca, y_pi, y_pl, y_pr, y_qi, y_ql, y_qr, y_ca]
theorem f34_nw {N : hM} {v1 v2 v3 v4 : Int32} (h2 : h_tg M 2 = 10) (h7 : h_fr M 907 2 = none) (hf : f32 [.inr (.inr (some (h_sz M))), .inl v1, .inl v2, .inl v3, .inl v4] (h_pr (h_pr (h_na (h_no M 2 4) 21 48) 200 (h_sz M) (some (h_sz M + 1))) 203 (h_sz M) none) = some (none, N)) : f34 [.inr (.inr (some 2)), .inl v1, .inl v2, .inl v3, .inl v4] M = some (some (.inr (.inr (some (h_sz M)))), N) := by
  have t0 : h_tg (h_no M 2 4) (h_sz M) = 3 := if_pos rfl
  have t1 : h_tg (h_pr (h_na (h_no M 2 4) 21 48) 200 (h_sz M) (some (h_sz M + 1))) (h_sz M) = 3 := by
    show (if h_sz M = h_sz M + 1 then 21 else if h_sz M = h_sz M then 3 else h_tg M (h_sz M)) = 3
    rw [if_neg (by omega), if_pos rfl]
  have e33 : f33 [.inr (.inr (some (h_sz M)))] (h_no M 2 4) = some (none, h_pr (h_na (h_no M 2 4) 21 48) 200 (h_sz M) (some (h_sz M + 1))) := f33_eq t0 (by show h_sz M ≠ h_sz M + 1; omega)
  show x_out (b34_0 2 v1 v2 v3 v4 M) = _
  unfold b34_0
  rw [bd_s (g_r_t (ci := 9) h2)]
  show x_out (if h_fr M 907 2 = none then _ else _) = _
  rw [if_pos h7]
  rw [bd_s (show n_o M 2 4 = some (h_no M 2 4) from rfl), bd_s (c_V_of e33)]
  unfold b34_32
  rw [bd_s (p_r_t t1), bd_s (g_o_t (ci := 2) (show h_tg (h_pr (h_pr (h_na (h_no M 2 4) 21 48) 200 (h_sz M) (some (h_sz M + 1))) 203 (h_sz M) none) (h_sz M) = 3 from t1))]
  rw [bd_s (c_V_of hf)]
  rfl
/-- draft -/
theorem FC_dra {v1 v2 v3 v4 : Int32} (hI : cI sw nd rm M) (hF : FC tr sw nd M ia ct zb sb fl hl) (hz : 1000 ≤ zb) (hB : FLb fl) (hh : hl.length ≤ 3) : ∃ a M', f34 [.inr (.inr (some 2)), .inl v1, .inl v2, .inl v3, .inl v4] M = some (some (.inr (.inr (some a))), M') ∧ FC tr sw nd M' ia ct zb sb fl ((a, 0, hdL v1 v2 v3 v4 0 0) :: hl) := by
  cases h7 : h_fr M 907 2 with
  | none =>
    have hN := FC_new hI hF hz hB hh h7
    have hbM := hF.1.2.2
    have hok : isFb (h_pr (h_pr (h_na (h_no M 2 4) 21 48) 200 (h_sz M) (some (h_sz M + 1))) 203 (h_sz M) none) (h_sz M) (h_sz M + 1) := by
      obtain ⟨-, cl, -, c2, -, c4, -⟩ := hN
      exact (c2 145 (h_sz M) (by rw [c4.1.1]; exact List.mem_cons_self)).1
    obtain ⟨N, n1, n2, n3⟩ := f32_eq (v1 := v1) (v2 := v2) (v3 := v3) (v4 := v4) hok
    have ev := f34_nw hI.sh0 h7 n1
    refine ⟨_, N, ev, ?_⟩
    obtain ⟨⟨b1, b2, b3, b4, b5⟩, ⟨b6, b7, b8, b9⟩, b0⟩ := n2
    refine FC_con (z := 13) hN ⟨b7, b6, b8, b9, b3, ?_⟩ (fun b q => ⟨?_, ?_⟩) (fun b q => funext fun i => b0 b i q) ?_ (by omega) n3 ?_ (kf34 ev hbM).1
    · rw [b1, fi_ne (by decide), fi_ne (by decide)]
    · rw [b1, fi_ne (by decide), fi_eq, u1_ne q]
    · rw [b1, fi_eq, u1_ne q, fi_ne (by decide)]
    · rw [b1, fi_ne (by decide), fi_eq, u1_eq]
    · rw [b1, fi_eq, u1_eq]
  | some a =>
    have hbM := hF.1.2.2
    obtain ⟨h0, cl, c1, c2, c3, c4, c5, c6⟩ := hF
    have hb := hI.bs
    have hcl : ∃ l, cl 144 = a :: l := by
      have := ch_hd c3.2.2
      rw [h7] at this
      cases hc : cl 144 with
      | nil => rw [hc] at this; cases this
      | cons b l => rw [hc] at this; cases this; exact ⟨l, rfl⟩
    obtain ⟨l, hc⟩ := hcl
    have ha := c2 144 a (by rw [hc]; exact List.mem_cons_self)
    obtain ⟨s1, s2⟩ := fS_dra c1 c3 hb.1.2 hb.2.1.2 hc
    have hH : FC tr sw nd (h_pr (h_pr M 907 2 (h_fr M 203 a)) 203 a none) ia ct zb sb fl ((a, h_fi M 202 a, fcC M a) :: hl) := by
      refine FC_ms h0 c2 c5 c6 ⟨⟨rfl, rfl, rfl, rfl, rfl⟩, ?_, rfl, rfl⟩ (k_hpr (k_hpr h0.2.2 (by rw [hI.sh0]; decide)).1 (by show h_tg M a ≠ 0; rw [ha.1.1]; decide)).1 (mv_ex c1 hc (by omega) (mv_cons c1 hc (q := 145) (by omega)).1) (fD_mv c1 hc (by omega) (mv_cons c1 hc (q := 145) (by omega)).1 (mv_cons c1 hc (q := 145) (by omega)).2) (sumL_mv (by omega) (by omega) (by omega) (by rw [hc]; rfl) rfl) ?_ (fT_dra c4)
      · rw [fr_ne (by decide), fr_ne (by decide)]
      · rw [fr_eq, fr_ne (show 203 ≠ 907 by decide), fr_ne (show 300 ≠ 203 by decide), fr_ne (show 300 ≠ 907 by decide), fr_ne (show 301 ≠ 203 by decide), fr_ne (show 301 ≠ 907 by decide), fr_ne (show 808 ≠ 203 by decide), fr_ne (show 808 ≠ 907 by decide), fr_ne (show 907 ≠ 203 by decide), fr_eq, u1_eq]
        exact s2
    have hok : isFb (h_pr (h_pr M 907 2 (h_fr M 203 a)) 203 a none) a (a + 1) := by
      obtain ⟨-, cl', -, c2', -, c4', -⟩ := hH
      exact (c2' 145 a (by rw [c4'.1.1]; exact List.mem_cons_self)).1
    obtain ⟨N, n1, n2, n3⟩ := f32_eq (v1 := v1) (v2 := v2) (v3 := v3) (v4 := v4) hok
    have ev := f34_sp hI.sh0 h7 ha.1.1 n1
    refine ⟨_, N, ev, ?_⟩
    obtain ⟨⟨b1, b2, b3, b4, b5⟩, ⟨b6, b7, b8, b9⟩, b0⟩ := n2
    refine FC_con (z := 13) hH ⟨b7, b6, b8, b9, b3, ?_⟩ (fun b q => ⟨?_, ?_⟩) (fun b q => funext fun i => b0 b i q) ?_ (by omega) n3 ?_ (kf34 ev hbM).1
    · rw [b1, fi_ne (by decide), fi_ne (by decide)]
    · rw [b1, fi_ne (by decide), fi_eq, u1_ne q]
    · rw [b1, fi_eq, u1_ne q, fi_ne (by decide)]
    · rw [b1, fi_ne (by decide), fi_eq, u1_eq]
    · rw [b1, fi_eq, u1_eq]
/-- a held frame: what it is -/
theorem FC.hok {t : Nat × Int32 × List Int32} (hF : FC tr sw nd M ia ct zb sb fl hl) (ht : t ∈ hl) : fOK M t.1 ∧ h_fi M 202 t.1 = t.2.1 ∧ fcC M t.1 = t.2.2 ∧ h_fi M 201 t.1 = nI t.2.2.length ∧ t.2.2.length ≤ 48 := by
  obtain ⟨-, cl, -, c2, -, c4, -⟩ := hF
  have h1 := c2 145 t.1 (by rw [c4.1.1]; exact List.mem_map_of_mem ht)
  obtain ⟨h2, h3⟩ := c4.1.2 t ht
  obtain ⟨z, hz, hz8⟩ := h1.2.2
  have : t.2.2.length = z := by rw [← h3, fcC_z hz hz8, fbl_len]
  exact ⟨h1, h2, h3, by rw [this]; exact hz, by omega⟩
/-- addLoad -/
theorem FC_load {n : Nat} {w : Int64} (hF : FC tr sw nd M ia ct zb sb fl ((a, g, L) :: hl)) (hn : L.length + n ≤ 44) (h8 : n ≤ 8) : ∃ M', f36 [.inr (.inr (some a)), .inl (nI n), .inr (.inl w)] M = some (none, M') ∧ FC tr sw nd M' ia ct zb sb fl ((a, g, L ++ byL w n) :: hl) := by
  obtain ⟨h1, h2, h3, h4, h5⟩ := hF.hok List.mem_cons_self
  have h4 : h_fi M 201 a = nI L.length := h4
  have h3 : fcC M a = L := h3
  obtain ⟨N, n1, n2, n3⟩ := f36_eq (w := w) h1.1 h4 hn h8
  refine ⟨_, n1, bo_con hF n2 rfl (by omega) ?_ ?_ (kf36 n1 hF.1.2.2).1⟩
  · rw [n3, ← fcC_z h4 (by omega), h3]
  · rw [n2.1.1]; exact h2
end MO
