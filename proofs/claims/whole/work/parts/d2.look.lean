/-! ===== calls that only look ===== -/
theorem px2 (x : Int32) {n : Nat} (hn : n < 2 ^ 31) : (x < 0 ∨ nI n ≤ x) ∨ ∃ j : Nat, j < n ∧ x = nI j := by
  rcases pk_ix x hn with z | z | z
  · exact Or.inl (Or.inl z)
  · exact Or.inl (Or.inr z)
  · exact Or.inr z
theorem n0_16 {v : Int32} (h : v < 0) : v < 16 := Int32.lt_iff_toInt_lt.mpr (by
  have h := Int32.lt_iff_toInt_lt.mp h
  have e0 : (0 : Int32).toInt = 0 := rfl
  have e1 : (16 : Int32).toInt = 16 := rfl
  omega)
theorem c_R_of {x : xO} {o : Option Nat} {M : hM} (h : x = some (some (.inr (.inr o)), M)) : c_R x = some (o, M) := by subst h; rfl
section LK
variable {sw nd rm : Nat} {M N : hM} {S T : sT} {ia : Nat → Nat → Int32} {w t x y zb sb nc c s p n i : Nat} {pe : Nat → Option Nat} {wo : Nat → Nat} {fl : Nat → List (List Int32)} {kR : Nat → rK} {ka : Nat → Nat → Nat} {tog : Nat → Bool} {ca hh : Nat → Nat} {lv : Nat → Bool} {jj : Nat → Nat} {G : Nat → nG} {v v1 v2 : Int32}
theorem o11 (hI : cI sw nd rm M) : g_o M 11 (some 1) = some 1 := g_o_t (ci := 11) hI.fab0
theorem f8_no (hI : cI sw nd rm M) (h : v < 0 ∨ nI nd ≤ v) : f8 [.inr (.inr (some 2)), .inl v] M = some (some (.inl 0), M) := by
  show x_out (b8_0 2 v M) = _
  unfold b8_0
  by_cases a : v < 0
  · rw [if_pos a]; rfl
  · rw [if_neg a, bd_s ((g_i_t (ci := 9) hI.sh0).trans (congrArg some hI.sh2)), if_pos (h.resolve_left a)]; rfl
theorem f8_yes (hI : cI sw nd rm M) (hn : n < nd) : f8 [.inr (.inr (some 2)), .inl (nI n)] M = some (some (.inl 1), M) := by
  have := hI.bs.2.1.2
  show x_out (b8_0 2 (nI n) M) = _
  unfold b8_0
  rw [if_neg (nI_pos (by omega)), bd_s ((g_i_t (ci := 9) hI.sh0).trans (congrArg some hI.sh2)), if_neg (nI_ge hn (by omega))]; rfl
theorem f12_no (hI : cI sw nd rm M) (h : v < 0 ∨ nI sw ≤ v) : f12 [.inr (.inr (some 1)), .inl v] M = some (some (.inl 0), M) := by
  show x_out (b12_0 1 v M) = _
  unfold b12_0
  by_cases a : v < 0
  · rw [if_pos a]; rfl
  · rw [if_neg a, bd_s ((g_r_t (ci := 11) hI.fab0).trans (congrArg some hI.fab2)), bd_s (by rw [a_ln_t hI.ar10, hI.ar11] : a_ln M 40 (some 8) = some (nI sw)), if_pos (h.resolve_left a)]; rfl
theorem f12_yes (hI : cI sw nd rm M) (hs : s < sw) : f12 [.inr (.inr (some 1)), .inl (nI s)] M = some (some (.inl 1), M) := by
  have := hI.bs.1.2
  show x_out (b12_0 1 (nI s) M) = _
  unfold b12_0
  rw [if_neg (nI_pos (by omega)), bd_s ((g_r_t (ci := 11) hI.fab0).trans (congrArg some hI.fab2)), bd_s (by rw [a_ln_t hI.ar10, hI.ar11] : a_ln M 40 (some 8) = some (nI sw)), if_neg (nI_ge hs (by omega))]; rfl
theorem f16_no (hI : cI sw nd rm M) (e : h_fi M 1105 1 = nI w) (h : v < 0 ∨ nI w ≤ v) : f16 [.inr (.inr (some 1)), .inl v] M = some (some (.inl 0), M) := by
  show x_out (b16_0 1 v M) = _
  unfold b16_0
  by_cases a : v < 0
  · rw [if_pos a]; rfl
  · rw [if_neg a, bd_s ((g_i_t (ci := 11) hI.fab0).trans (congrArg some e)), if_pos (h.resolve_left a)]; rfl
theorem f16_yes (hI : cI sw nd rm M) (e : h_fi M 1105 1 = nI w) (hi : i < w) (h16 : w ≤ 16) : f16 [.inr (.inr (some 1)), .inl (nI i)] M = some (some (.inl 1), M) := by
  show x_out (b16_0 1 (nI i) M) = _
  unfold b16_0
  rw [if_neg (nI_pos (by omega)), bd_s ((g_i_t (ci := 11) hI.fab0).trans (congrArg some e)), if_neg (nI_ge hi (by omega))]; rfl
theorem f150_no (hI : cI sw nd rm M) (e : h_fi M 1107 1 = nI nc) (h : v < 0 ∨ nI nc ≤ v) : f150 [.inr (.inr (some 1)), .inl v] M = some (some (.inl 0), M) := by
  show x_out (b150_0 1 v M) = _
  unfold b150_0
  by_cases a : v < 0
  · rw [if_pos a]; rfl
  · rw [if_neg a, bd_s ((g_i_t (ci := 11) hI.fab0).trans (congrArg some e)), if_pos (h.resolve_left a)]; rfl
theorem f150_yes (hI : cI sw nd rm M) (e : h_fi M 1107 1 = nI nc) (hi : c < nc) (h16 : nc ≤ 300) : f150 [.inr (.inr (some 1)), .inl (nI c)] M = some (some (.inl 1), M) := by
  show x_out (b150_0 1 (nI c) M) = _
  unfold b150_0
  rw [if_neg (nI_pos (by omega)), bd_s ((g_i_t (ci := 11) hI.fab0).trans (congrArg some e)), if_neg (nI_ge hi (by omega))]; rfl
theorem e234_no (e : S.1 13 0 = nI w) (h : v < 0 ∨ nI w ≤ v) : e234 v S = some (0, S) := by
  show s_out (c234_0 v S) = _
  unfold c234_0
  by_cases a : v < 0
  · rw [if_pos a]; rfl
  · rw [if_neg a, if_pos (show s_g S 13 ≤ v by show S.1 13 0 ≤ v; rw [e]; exact h.resolve_left a)]; rfl
theorem e234_yes (e : S.1 13 0 = nI w) (hi : i < w) (h16 : w ≤ 16) : e234 (nI i) S = some (1, S) := by
  show s_out (c234_0 (nI i) S) = _
  unfold c234_0
  rw [if_neg (nI_pos (by omega)), if_neg (show ¬ s_g S 13 ≤ nI i by show ¬ S.1 13 0 ≤ nI i; rw [e]; exact nI_ge hi (by omega))]; rfl
theorem e246_no (e : S.1 47 0 = nI nc) (h : v < 0 ∨ nI nc ≤ v) : e246 v S = some (0, S) := by
  show s_out (c246_0 v S) = _
  unfold c246_0
  by_cases a : v < 0
  · rw [if_pos a]; rfl
  · rw [if_neg a, if_pos (show s_g S 47 ≤ v by show S.1 47 0 ≤ v; rw [e]; exact h.resolve_left a)]; rfl
theorem e246_yes (e : S.1 47 0 = nI nc) (hi : c < nc) (h16 : nc ≤ 300) : e246 (nI c) S = some (1, S) := by
  show s_out (c246_0 (nI c) S) = _
  unfold c246_0
  rw [if_neg (nI_pos (by omega)), if_neg (show ¬ s_g S 47 ≤ nI c by show ¬ S.1 47 0 ≤ nI c; rw [e]; exact nI_ge hi (by omega))]; rfl
/-- the side that a call names -/
def sdV (sw nd : Nat) (v1 v2 : Int32) : Option Nat :=
  if v1 < 16 then (if v1 < 0 then none else if nI sw ≤ v1 then none else if v2 < 0 then none else if v2 ≤ 7 then some (8 * v1.toNatClampNeg + v2.toNatClampNeg) else none)
  else if nI nd ≤ v1 - 16 then none else if v2 = 0 then some (40 + (v1 - 16).toNatClampNeg) else none
theorem sdV_s (hs : s < sw) (hp : p < 8) (h5 : sw ≤ 5) : sdV sw nd (nI s) (nI p) = some (8 * s + p) := by
  unfold sdV
  rw [if_pos (show nI s < 16 from nI_lt (b := 16) (by omega) (by omega)), if_neg (nI_pos (by omega)), if_neg (nI_ge hs (by omega)), if_neg (nI_pos (by omega)), if_pos (show nI p ≤ 7 from nI_le (b := 7) (by omega) (by omega)), nI_clamp (by omega), nI_clamp (by omega)]
theorem sub16 : nI (16 + n) - 16 = nI n := by
  have := pk_sub (a := 16 + n) (b := 16) (by omega)
  rw [show 16 + n - 16 = n by omega] at this
  exact this
theorem sdV_n (hn : n < nd) (h8 : nd ≤ 8) : sdV sw nd (nI (16 + n)) 0 = some (40 + n) := by
  unfold sdV
  rw [if_neg (show ¬ nI (16 + n) < 16 from nI_nlt (b := 16) (by omega) (by omega)), sub16, if_neg (nI_ge hn (by omega)), if_pos rfl, nI_clamp (by omega)]
/-- a side, and how it is named -/
theorem sdV_c (h5 : sw ≤ 5) (h8 : nd ≤ 8) (v1 v2 : Int32) : sdV sw nd v1 v2 = none ∨ (∃ s p, s < sw ∧ p < 8 ∧ v1 = nI s ∧ v2 = nI p) ∨ ∃ n, n < nd ∧ v1 = nI (16 + n) ∧ v2 = 0 := by
  by_cases a : v1 < 16
  · rcases px2 v1 (n := sw) (by omega) with z | ⟨s, hs, rfl⟩
    · left
      unfold sdV
      rw [if_pos a]
      by_cases q : v1 < 0
      · rw [if_pos q]
      · rw [if_neg q, if_pos (z.resolve_left q)]
    · rcases pk_ix v2 (n := 8) (by omega) with z | z | ⟨p, hp, rfl⟩
      · left
        unfold sdV
        rw [if_pos a, if_neg (nI_pos (by omega)), if_neg (nI_ge hs (by omega)), if_pos z]
      · left
        unfold sdV
        by_cases q : v2 < 0
        · rw [if_pos a, if_neg (nI_pos (by omega)), if_neg (nI_ge hs (by omega)), if_pos q]
        · obtain ⟨j, j1, rfl⟩ := nI_of q
          rw [nI_leI (by omega) j1] at z
          rw [if_pos a, if_neg (nI_pos (by omega)), if_neg (nI_ge hs (by omega)), if_neg q, if_neg (show ¬ nI j ≤ 7 from nI_ge (a := 7) (by omega) j1)]
      · exact Or.inr (Or.inl ⟨s, p, hs, hp, rfl, rfl⟩)
  · obtain ⟨j, j1, rfl⟩ := nI_of (x := v1) (fun q => a (n0_16 q))
    have h16 : 16 ≤ j := by
      by_cases q : j < 16
      · exact absurd (nI_lt (b := 16) q (by omega)) a
      · omega
    obtain ⟨n, rfl⟩ : ∃ n, j = 16 + n := ⟨j - 16, by omega⟩
    by_cases hn : n < nd
    · by_cases q : v2 = 0
      · exact Or.inr (Or.inr ⟨n, hn, rfl, q⟩)
      · left
        unfold sdV
        rw [if_neg a, sub16, if_neg (nI_ge hn (by omega)), if_neg q]
    · left
      unfold sdV
      rw [if_neg a, sub16, if_pos (nI_le (by omega) (by omega))]
theorem f13_s (hI : cI sw nd rm M) (hs : s < sw) (hp : p < 8) : f13 [.inr (.inr (some 1)), .inl (nI s), .inl (nI p)] M = some (some (.inr (.inr (some (200 + (8 * s + p))))), M) := by
  have h5 := hI.bs.1.2
  show x_out (b13_0 1 (nI s) (nI p) M) = _
  unfold b13_0
  rw [bd_s (o11 hI), bd_s (c_I_of (f12_yes hI hs)), if_neg (show ¬ (1 : Int32) = 0 by decide), if_neg (nI_pos (by omega)), if_neg (show ¬ (8 : Int32) ≤ nI p from nI_ge (b := 8) hp (by omega)), bd_s ((g_r_t (ci := 11) hI.fab0).trans (congrArg some hI.fab2)), bd_s ((al_r_t hI.ar10 (by rw [hI.ar11]; exact hs) (by omega)).trans (congrArg some (hI.si9 hs))), bd_s ((g_r_t (ci := 10) (hI.si0 hs)).trans (congrArg some (hI.si3 hs))), bd_s (port_a hI hs hp)]
  rfl
theorem f13_n (hI : cI sw nd rm M) (hn : n < nd) : f13 [.inr (.inr (some 1)), .inl (nI (16 + n)), .inl 0] M = some (some (.inr (.inr (some (200 + (40 + n))))), M) := by
  have h5 := hI.bs.1.2
  have h8 := hI.bs.2.1.2
  show x_out (b13_0 1 (nI (16 + n)) 0 M) = _
  unfold b13_0
  rw [bd_s (o11 hI), bd_s (c_I_of (f12_no hI (Or.inr (nI_le (by omega) (by omega))))), if_pos rfl, if_neg (show ¬ nI (16 + n) < 16 from nI_nlt (b := 16) (by omega) (by omega)), if_pos rfl, bd_s ((g_r_t (ci := 11) hI.fab0).trans (congrArg some hI.fab1)), bd_s (g_o_t (ci := 9) hI.sh0), sub16, bd_s (c_I_of (f8_yes hI hn)), if_neg (show ¬ (1 : Int32) = 0 by decide), bd_s ((g_r_t (ci := 11) hI.fab0).trans (congrArg some hI.fab3)), bd_s ((al_r_t hI.ar12 (by rw [hI.ar13]; exact hn) (by omega)).trans (congrArg some (hI.no4 hn))), bd_s ((g_r_t (ci := 5) (hI.no0 hn)).trans (congrArg some (hI.no3 hn)))]
  rfl
theorem f13_no (hI : cI sw nd rm M) (h : sdV sw nd v1 v2 = none) : f13 [.inr (.inr (some 1)), .inl v1, .inl v2] M = some (some (.inr (.inr none)), M) := by
  have h5 := hI.bs.1.2
  have h8 := hI.bs.2.1.2
  show x_out (b13_0 1 v1 v2 M) = _
  unfold b13_0
  rw [bd_s (o11 hI)]
  rcases px2 v1 (n := sw) (by omega) with z | ⟨s, hs, rfl⟩
  · rw [bd_s (c_I_of (f12_no hI z)), if_pos rfl]
    by_cases a : v1 < 16
    · rw [if_pos a]; rfl
    · rw [if_neg a]
      by_cases q : v2 = 0
      · subst q
        obtain ⟨j, j1, rfl⟩ := nI_of (x := v1) (fun q => a (n0_16 q))
        have h16 : 16 ≤ j := by
          by_cases q : j < 16
          · exact absurd (nI_lt (b := 16) q (by omega)) a
          · omega
        obtain ⟨n, rfl⟩ : ∃ n, j = 16 + n := ⟨j - 16, by omega⟩
        have hn : ¬ n < nd := fun hn => by rw [sdV_n hn h8] at h; cases h
        rw [if_pos rfl, bd_s ((g_r_t (ci := 11) hI.fab0).trans (congrArg some hI.fab1)), bd_s (g_o_t (ci := 9) hI.sh0), sub16, bd_s (c_I_of (f8_no hI (Or.inr (nI_le (by omega) (by omega))))), if_pos rfl]
        rfl
      · rw [if_neg q]; rfl
  · rw [bd_s (c_I_of (f12_yes hI hs)), if_neg (show ¬ (1 : Int32) = 0 by decide)]
    rcases pk_ix v2 (n := 8) (by omega) with z | z | ⟨p, hp, rfl⟩
    · rw [if_pos z]; rfl
    · by_cases q : v2 < 0
      · rw [if_pos q]; rfl
      · rw [if_neg q, if_pos (show (8 : Int32) ≤ v2 from z)]; rfl
    · rw [sdV_s hs hp h5] at h; cases h
theorem AX.ks32 (h : AX sw nd rm t zb sb M S) (l : ks [32] S T) : AX sw nd rm t zb sb M T := by
  obtain ⟨ia, w, pe, wo, fl, kR, ka, tog, nc, ca, hh, lv, jj, G, ⟨hT, ha, hN, hin⟩, qz⟩ := h
  exact ⟨ia, w, pe, wo, fl, kR, ka, tog, nc, ca, hh, lv, jj, G, ⟨⟨hT.1.ks32 l, hT.2.1.keep (kp.rf hT.1.pb.bk : kp [] [] M M) (by decide) l (by decide) qx.rf hT.x48, hT.2.2⟩, ha, hN.kp hT.I (kp.rf hT.1.pb.bk : kp [] [] M M) (by decide) (by decide) i20_rf l (by decide), hin⟩, qz.ks l (by decide)⟩
theorem C_status {v : Int32} (h : AX sw nd rm t zb sb M S) : ∃ r, f151 [.inr (.inr (some 1)), .inl v] M = some (some (.inl r), M) ∧ e247 v S = some (r, S) := by
  obtain ⟨ia, w, pe, wo, fl, kR, ka, tog, nc, ca, hh, lv, jj, G, ⟨hT, ha, hN, hin⟩, qz⟩ := h
  have hI := hT.I
  obtain ⟨⟨b1, b2', b3⟩, b4, -⟩ := hN.1
  have fd : f151 [.inr (.inr (some 1)), .inl v] M = x_out (b151_0 1 v M) := rfl
  have ed : e247 v S = s_out (c247_0 v S) := rfl
  rw [fd, ed]
  unfold b151_0 c247_0
  rw [bd_s (o11 hI)]
  rcases px2 v (n := nc) (by omega) with z | ⟨c, hc, rfl⟩
  · rw [bd_s (c_I_of (f150_no hI b1 z)), bd_s (e246_no b2' z), if_pos rfl, if_pos rfl]
    exact ⟨-1, rfl, rfl⟩
  · obtain ⟨⟨c1, c2, c3⟩, wr, un, bl, m, d, ph, bg, pa, cb, p1, p2, p3, p4, p5, p6⟩ := b4 c hc
    have n1 : ¬ (1 : Int32) = 0 := by decide
    rw [bd_s (c_I_of (f150_yes hI b1 hc b3)), bd_s (e246_yes b2' hc b3), if_neg n1, if_neg n1, bd_s ((g_r_t (ci := 11) hI.fab0).trans (congrArg some hI.fab6)), bd_s ((al_r_t hI.ar8 (by rw [hI.ar9]; omega) (by omega)).trans (congrArg some c1)), bd_s ((g_i_t (ci := 0) p1.1).trans (congrArg some p5.1)), bd_s ((ga56 (by omega)).trans (congrArg some p5.2.1))]
    exact ⟨nI ph, rfl, rfl⟩
theorem C_when {v v2 : Int32} (h : AX sw nd rm t zb sb M S) : ∃ r, f153 [.inr (.inr (some 1)), .inl v, .inl v2] M = some (some (.inl r), M) ∧ e249 v v2 S = some (r, S) := by
  obtain ⟨ia, w, pe, wo, fl, kR, ka, tog, nc, ca, hh, lv, jj, G, ⟨hT, ha, hN, hin⟩, qz⟩ := h
  have hI := hT.I
  obtain ⟨⟨b1, b2', b3⟩, b4, -⟩ := hN.1
  have fd : f153 [.inr (.inr (some 1)), .inl v, .inl v2] M = x_out (b153_0 1 v v2 M) := rfl
  have ed : e249 v v2 S = s_out (c249_0 v v2 S) := rfl
  rw [fd, ed]
  unfold b153_0 c249_0
  rw [bd_s (o11 hI)]
  rcases px2 v (n := nc) (by omega) with z | ⟨c, hc, rfl⟩
  · rw [bd_s (c_I_of (f150_no hI b1 z)), bd_s (e246_no b2' z), if_pos rfl, if_pos rfl]
    exact ⟨-1, rfl, rfl⟩
  · obtain ⟨⟨c1, c2, c3⟩, wr, un, bl, m, d, ph, bg, pa, cb, p1, p2, p3, p4, p5, ⟨g1, g2, g3, g4⟩, -⟩ := b4 c hc
    have n1 : ¬ (1 : Int32) = 0 := by decide
    have q1 := (g_r_t (ci := 11) (k := 6) hI.fab0).trans (congrArg some hI.fab6)
    have q2 := (al_r_t hI.ar8 (by rw [hI.ar9]; omega) (by omega)).trans (congrArg some c1)
    rw [bd_s (c_I_of (f150_yes hI b1 hc b3)), bd_s (e246_yes b2' hc b3), if_neg n1, if_neg n1]
    by_cases z0 : v2 = 0
    · rw [if_pos z0, if_pos z0, bd_s q1, bd_s q2, bd_s ((g_i_t (ci := 0) p1.1).trans (congrArg some g1.1)), bd_s ((ga58 (by omega)).trans (congrArg some g1.2.1))]
      exact ⟨nI bg, rfl, rfl⟩
    rw [if_neg z0, if_neg z0]
    by_cases z1 : v2 = 1
    · rw [if_pos z1, if_pos z1, bd_s q1, bd_s q2, bd_s ((g_i_t (ci := 0) p1.1).trans (congrArg some g3)), bd_s (ga59 (by omega))]
      exact ⟨S.1 59 c, rfl, rfl⟩
    rw [if_neg z1, if_neg z1]
    by_cases z2 : v2 = 2
    · rw [if_pos z2, if_pos z2, bd_s q1, bd_s q2, bd_s ((g_i_t (ci := 0) p1.1).trans (congrArg some g2.1)), bd_s ((ga57 (by omega)).trans (congrArg some g2.2.1))]
      exact ⟨nI pa, rfl, rfl⟩
    rw [if_neg z2, if_neg z2]
    exact ⟨-1, rfl, rfl⟩
theorem C_got {v v2 : Int32} (h : AX sw nd rm t zb sb M S) : ∃ r, f152 [.inr (.inr (some 1)), .inl v, .inl v2] M = some (some (.inr (.inl r)), M) ∧ e248 v v2 S = some (r, S) := by
  obtain ⟨ia, w, pe, wo, fl, kR, ka, tog, nc, ca, hh, lv, jj, G, ⟨hT, ha, hN, hin⟩, qz⟩ := h
  have hI := hT.I
  obtain ⟨⟨b1, b2', b3⟩, b4, -⟩ := hN.1
  have fd : f152 [.inr (.inr (some 1)), .inl v, .inl v2] M = x_out (b152_0 1 v v2 M) := rfl
  have ed : e248 v v2 S = s_out (c248_0 v v2 S) := rfl
  rw [fd, ed]
  unfold b152_0 c248_0
  rw [bd_s (o11 hI)]
  rcases px2 v (n := nc) (by omega) with z | ⟨c, hc, rfl⟩
  · rw [bd_s (c_I_of (f150_no hI b1 z)), bd_s (e246_no b2' z), if_pos rfl, if_pos rfl]
    exact ⟨0, rfl, rfl⟩
  · obtain ⟨⟨c1, c2, c3⟩, wr, un, bl, m, d, ph, bg, pa, cb, p1, p2, p3, p4, p5, p6, p7, p8, p9, -⟩ := b4 c hc
    have n1 : ¬ (1 : Int32) = 0 := by decide
    have q1 := (g_r_t (ci := 11) (k := 6) hI.fab0).trans (congrArg some hI.fab6)
    have q2 := (al_r_t hI.ar8 (by rw [hI.ar9]; omega) (by omega)).trans (congrArg some c1)
    rw [bd_s (c_I_of (f150_yes hI b1 hc b3)), bd_s (e246_yes b2' hc b3), if_neg n1, if_neg n1, bd_s q1, bd_s q2, bd_s ((g_i_t (ci := 0) p1.1).trans (congrArg some p2.1)), bd_s ((ga50 (by omega)).trans (congrArg some p2.2.1))]
    by_cases z0 : nI wr = 0
    · have w0 : wr = 0 := by
        have := p2.2.2
        exact (nI_eq (b := 0) (by omega) (by omega)).mp z0
      rw [if_pos z0, if_pos z0]
      rcases pk_ix v2 (n := 4) (by omega) with z | z | ⟨k, hk, rfl⟩
      · rw [if_pos z, if_pos z]; exact ⟨0, rfl, rfl⟩
      · by_cases q : v2 < 0
        · rw [if_pos q, if_pos q]; exact ⟨0, rfl, rfl⟩
        · rw [if_neg q, if_neg q, if_neg (show ¬ v2 < 4 from Int32.not_lt.mpr z), if_pos (show (4 : Int32) ≤ v2 from z)]; exact ⟨0, rfl, rfl⟩
      · have ix : (4 : Int32) * nI c + nI k = nI (4 * c + k) := by rw [show (4 : Int32) * nI c = nI (4 * c) from pk_mul 4 c, nI_add]
        have e5 := (g_r_t (ci := 0) (k := 5) p1.1).trans (congrArg some p1.2.1)
        have e6 := (al_l_t p1.2.2.1 (by rw [p1.2.2.2]; exact hk) (by omega)).trans (congrArg some (p9.1 w0 k hk))
        rw [if_neg (nI_pos (by omega)), if_neg (nI_pos (by omega)), if_pos (show nI k < 4 from nI_lt (b := 4) hk (by omega)), if_neg (show ¬ (4 : Int32) ≤ nI k from nI_ge (b := 4) hk (by omega)), bd_s q1, bd_s q2, bd_s e5, bd_s e6, ix, bd_s (ga54 (by omega))]
        exact ⟨_, rfl, rfl⟩
    · rw [if_neg z0, if_neg z0]; exact ⟨0, rfl, rfl⟩
theorem C_address {v : Int32} (h : AX sw nd rm t zb sb M S) : ∃ r, f160 [.inr (.inr (some 1)), .inl v] M = some (some (.inl r), M) ∧ e254 v S = some (r, S) := by
  obtain ⟨ia, w, pe, wo, fl, kR, ka, tog, nc, ca, hh, lv, jj, G, ⟨hT, ha, hN, hin⟩, qz⟩ := h
  have hI := hT.I
  have h8 := hI.bs.2.1.2
  have s1 : s_g S 1 = nI nd := hT.1.st.2.2.1.2.1
  have fd : f160 [.inr (.inr (some 1)), .inl v] M = x_out (b160_0 1 v M) := rfl
  have ed : e254 v S = s_out (c254_0 v S) := rfl
  rw [fd, ed]
  unfold b160_0 c254_0
  rw [bd_s ((g_r_t (ci := 11) hI.fab0).trans (congrArg some hI.fab1)), bd_s (g_o_t (ci := 9) hI.sh0), s1]
  rcases px2 v (n := nd) (by omega) with z | ⟨n, hn, rfl⟩
  · rw [bd_s (c_I_of (f8_no hI z)), if_pos rfl]
    by_cases q : v < 0
    · rw [if_pos q]; exact ⟨-1, rfl, rfl⟩
    · rw [if_neg q, if_neg (Int32.not_lt.mpr (z.resolve_left q))]; exact ⟨-1, rfl, rfl⟩
  · have n1 : ¬ (1 : Int32) = 0 := by decide
    rw [bd_s (c_I_of (f8_yes hI hn)), if_neg n1, if_neg (nI_pos (by omega)), if_pos (nI_lt hn (by omega)), bd_s ((g_r_t (ci := 11) hI.fab0).trans (congrArg some hI.fab3)), bd_s ((al_r_t hI.ar12 (by rw [hI.ar13]; exact hn) (by omega)).trans (congrArg some (hI.no4 hn))), bd_s ((g_i_t (ci := 5) (hI.no0 hn)).trans (congrArg some (hN.2.1 n hn))), bd_s (ga35 (by omega))]
    exact ⟨_, rfl, rfl⟩
theorem C_count {v : Int32} (h : AX sw nd rm t zb sb M S) : ∃ r, f162 [.inr (.inr (some 1)), .inl v] M = some (some (.inl r), M) ∧ e256 v S = some (r, S) := by
  obtain ⟨ia, w, pe, wo, fl, kR, ka, tog, nc, ca, hh, lv, jj, G, ⟨hT, ha, hN, hin⟩, qz⟩ := h
  have hI := hT.I
  have fd : f162 [.inr (.inr (some 1)), .inl v] M = x_out (b162_0 1 v M) := rfl
  have ed : e256 v S = s_out (c256_0 v S) := rfl
  rw [fd, ed]
  unfold b162_0 c256_0
  have q1 := (g_r_t (ci := 11) (k := 0) hI.fab0).trans (congrArg some hI.fab1)
  by_cases z0 : v = 0
  · rw [if_pos z0, if_pos z0, bd_s q1, bd_s ((g_i_t (ci := 9) hI.sh0).trans (congrArg some hT.1.st.2.2.2.1.1)), show s_g S 3 = nI t from hT.1.st.2.2.2.1.2.1]
    exact ⟨_, rfl, rfl⟩
  rw [if_neg z0, if_neg z0]
  by_cases z1 : v = 9
  · rw [if_pos z1, if_pos z1, bd_s ((g_i_t (ci := 11) hI.fab0).trans (congrArg some hT.W.1.1)), show s_g S 13 = nI w from hT.W.1.2.1]
    exact ⟨_, rfl, rfl⟩
  rw [if_neg z1, if_neg z1]
  by_cases z2 : v = 10
  · rw [if_pos z2, if_pos z2, bd_s ((g_i_t (ci := 11) hI.fab0).trans (congrArg some hN.1.1.1)), show s_g S 47 = nI nc from hN.1.1.2.1]
    exact ⟨_, rfl, rfl⟩
  rw [if_neg z2, if_neg z2]
  by_cases z3 : v ≤ 0
  · rw [if_pos z3, if_pos z3]; exact ⟨-1, rfl, rfl⟩
  rw [if_neg z3, if_neg z3]
  by_cases z4 : (9 : Int32) ≤ v
  · rw [if_pos z4, if_pos z4]; exact ⟨-1, rfl, rfl⟩
  rw [if_neg z4, if_neg z4]
  rcases pk_ix v (n := 9) (by omega) with z | z | ⟨k, hk, rfl⟩
  · exact absurd (Int32.le_of_lt z) z3
  · exact absurd z z4
  · have k0 : 0 < k := by
      by_cases q : k = 0
      · subst q; exact absurd (Int32.le_refl _) z3
      · omega
    obtain ⟨ct, d1, d2, d3, d4, d5, d6, d7⟩ := hT.1.pb
    rw [bd_s q1, bd_s ((g_r_t (ci := 9) hI.sh0).trans (congrArg some hI.sh4)), bd_s (al_i_t hI.ar0 (by rw [hI.ar1]; exact hk) (by omega)), d1.1.2.1, d6 k k0 hk, bd_s (ga4 (by omega))]
    exact ⟨_, rfl, rfl⟩
end LK
