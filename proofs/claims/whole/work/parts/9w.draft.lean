/-! ===== draftOwnRecord ===== -/
def nbP (M : hM) (s : Nat) (nb : Nat → Option (Nat × Nat)) : Prop := ∀ p, p < 8 → (nb p = none ∧ h_fi M 811 (200 + (8 * s + p)) = -1) ∨ ∃ v c, nb p = some (v, c) ∧ v < 256 ∧ h_fi M 811 (200 + (8 * s + p)) = nI v ∧ h_fi M 804 (200 + (8 * s + p)) = nI c
def gvP (M : hM) (s : Nat) (gv : Nat → Option Nat) (pe : Nat → Option Nat) : Prop := ∀ p, p < 8 → (gv p = none ∧ h_fi M 812 (200 + (8 * s + p)) = 0) ∨ ∃ n, gv p = some n ∧ ¬ h_fi M 812 (200 + (8 * s + p)) = 0 ∧ ndA pe (8 * s + p) = nI n
def ntp (N : hM) (na : Nat) (P : List Nat) : Prop := h_fi N 601 na = nI P.length ∧ P.length ≤ 31 ∧ ∀ i, i < P.length → h_ai N (na + 40) i = (Int32.toInt8 (nI (P.getD i 0))).toInt32
section DR
variable {sw nd rm : Nat} {M N : hM} {S : sT} {w na s : Nat} {pe : Nat → Option Nat} {wo : Nat → Nat} {nb : Nat → Option (Nat × Nat)} {gv : Nat → Option Nat}
theorem ntp_add {P : List Nat} {v : Nat} (hst : h_tg M na = 7 ∧ h_fr M 600 na = some (na + 40) ∧ h_tg M (na + 40) = 21 ∧ h_ln M (na + 40) = 31) (hn : noO na M N) (h : ntp N na P) (hl : P.length < 31) : ∃ N', f114 [.inr (.inr (some na)), .inl (nI v)] N = some (none, N') ∧ noO na M N' ∧ ntp N' na (P ++ [v]) := by
  obtain ⟨h1, h2, h3⟩ := h
  have hstN : h_tg N na = 7 ∧ h_fr N 600 na = some (na + 40) ∧ h_tg N (na + 40) = 21 ∧ h_ln N (na + 40) = 31 := by
    rw [hn.2.1.2.1, hn.1.2.1, hn.2.1.1]; exact hst
  refine ⟨_, f114_eq hstN h1 hl, hn.tr (noO_q.tr noO_1), ?_, ?_, fun i hi => ?_⟩
  · rw [fi_eq, u1_eq, List.length_append]; rfl
  · rw [List.length_append]; show P.length + 1 ≤ 31; omega
  · rw [List.length_append] at hi
    have hi : i < P.length + 1 := hi
    show h_ai (h_qi N (na + 40) P.length (Int32.toInt8 (nI v)).toInt32) (na + 40) i = _
    by_cases q : i = P.length
    · subst q; rw [qi_eq, gA0]
    · rw [qi_ne q, h3 i (by omega)]
      congr 3
      rw [List.getD_eq_getElem?_getD, List.getD_eq_getElem?_getD, List.getElem?_append_left (by omega)]
theorem k117_6 (hI : cI sw nd rm M) (hs : s < sw) (hnb : nbP M s nb) (hgv : gvP M s gv pe) : ∀ d p a b fuel, p + d = 8 → d < fuel → drive k117 fuel 6 [.inr (.inr (some (10 + s))), .inl (nI a), .inl (nI b), .inl (nI p)] M = drive k117 (fuel - d) 6 [.inr (.inr (some (10 + s))), .inl (nI (a + nbc nb p d)), .inl (nI (b + gvc gv p d)), .inl (nI 8)] M
  | 0, p, a, b, fuel, hp, hf => by
    have : p = 8 := by omega
    subst this
    rfl
  | d + 1, p, a, b, fuel, hp, hf => by
    obtain ⟨f, rfl⟩ : ∃ f, fuel = f + 1 := ⟨fuel - 1, by omega⟩
    have hp8 : p < 8 := by omega
    have hx : sd sw nd (8 * s + p) := sd_sp hs hp8
    have tp := hI.po0 hx
    have ts := hI.si0 hs
    have e : ¬ (8 : Int32) ≤ nI p := nI_ge (b := 8) hp8 (by omega)
    have gp : g_r M 10 2 (some (10 + s)) = some (some (20 + s)) := (g_r_t (ci := 10) ts).trans (congrArg some (hI.si3 hs))
    have gn : g_i M 8 11 (some (200 + (8 * s + p))) = some (h_fi M 811 (200 + (8 * s + p))) := g_i_t (ci := 8) tp
    have gg : g_i M 8 12 (some (200 + (8 * s + p))) = some (h_fi M 812 (200 + (8 * s + p))) := g_i_t (ci := 8) tp
    -- the second half
    have snd : ∀ (u a' : Nat), nI a + nI u = nI a' → b117_31 (10 + s) (nI b) (nI p) (nI u) (nI a) M = some (.inr (6, [.inr (.inr (some (10 + s))), .inl (nI a'), .inl (nI (b + (match gv p with | none => 0 | some _ => 1))), .inl (nI (p + 1))], M)) := fun u a' ha => by
      unfold b117_31
      rw [bd_s gp, bd_s (port_a hI hs hp8), bd_s gg]
      rcases hgv p hp8 with ⟨g1, g2⟩ | ⟨n, g1, g2, g3⟩
      · rw [if_pos g2, g1]
        unfold b117_51
        rw [ha, nI_1, show (0 : Int32) = nI 0 from rfl, nI_add]
      · rw [if_neg g2, g1]
        unfold b117_51
        rw [ha, nI_1, show (1 : Int32) = nI 1 from rfl, nI_add]
    have kc : k117 6 [.inr (.inr (some (10 + s))), .inl (nI a), .inl (nI b), .inl (nI p)] M = b117_6 (10 + s) (nI a) (nI b) (nI p) M := rfl
    have one : b117_6 (10 + s) (nI a) (nI b) (nI p) M = some (.inr (6, [.inr (.inr (some (10 + s))), .inl (nI (a + (match nb p with | none => 0 | some _ => 1))), .inl (nI (b + (match gv p with | none => 0 | some _ => 1))), .inl (nI (p + 1))], M)) := by
      unfold b117_6
      rw [if_neg e, bd_s gp, bd_s (port_a hI hs hp8), bd_s gn]
      rcases hnb p hp8 with ⟨g1, g2⟩ | ⟨v, c, g1, g2, g3, g4⟩
      · rw [if_pos g2, g1]
        exact snd 0 _ (nI_add _ _)
      · rw [if_neg (by rw [g3]; exact nI_m1 (by omega)), g1]
        exact snd 1 _ (nI_add _ _)
    rw [dr_go (kc.trans one)]
    have := k117_6 hI hs hnb hgv d (p + 1) (a + (match nb p with | none => 0 | some _ => 1)) (b + (match gv p with | none => 0 | some _ => 1)) f (by omega) (by omega)
    refine this.trans ?_
    rw [show f + 1 - (d + 1) = f - d by omega, show a + (match nb p with | none => 0 | some _ => 1) + nbc nb (p + 1) d = a + nbc nb p (d + 1) from Nat.add_assoc _ _ _, show b + (match gv p with | none => 0 | some _ => 1) + gvc gv (p + 1) d = b + gvc gv p (d + 1) from Nat.add_assoc _ _ _]
theorem k117_79 (hI : cI sw nd rm M) (hs : s < sw) (hst : h_tg M na = 7 ∧ h_fr M 600 na = some (na + 40) ∧ h_tg M (na + 40) = 21 ∧ h_ln M (na + 40) = 31) (hd5 : h_fr M 1005 (10 + s) = some na) {v1 v2 : Int32} : ∀ d k N P fuel, k + d = 3 → noO na M N → ntp N na P → P.length + d < 31 → d < fuel → ∃ N', drive k117 fuel 79 [.inr (.inr (some (10 + s))), .inl v1, .inl v2, .inl (nI k)] N = drive k117 (fuel - d) 79 [.inr (.inr (some (10 + s))), .inl v1, .inl v2, .inl (nI 3)] N' ∧ noO na M N' ∧ ntp N' na (P ++ List.replicate d 0)
  | 0, k, N, P, fuel, hk, hn, h, hl, hf => by
    have : k = 3 := by omega
    subst this
    exact ⟨N, rfl, hn, by simpa using h⟩
  | d + 1, k, N, P, fuel, hk, hn, h, hl, hf => by
    obtain ⟨f, rfl⟩ : ∃ f, fuel = f + 1 := ⟨fuel - 1, by omega⟩
    have e : ¬ (3 : Int32) ≤ nI k := nI_ge (b := 3) (by omega) (by omega)
    have ts := (hn.I hI).si0 hs
    have g5 : g_r N 10 5 (some (10 + s)) = some (some na) := (g_r_t (ci := 10) ts).trans (congrArg some (by rw [hn.1.2.1]; exact hd5))
    have t7 : h_tg N na = 7 := by rw [hn.2.1.2.1]; exact hst.1
    obtain ⟨N1, a1, a2, a3⟩ := ntp_add (v := 0) hst hn h (by omega)
    have a1 : f114 [.inr (.inr (some na)), .inl 0] N = some (none, N1) := a1
    have hb : k117 79 [.inr (.inr (some (10 + s))), .inl v1, .inl v2, .inl (nI k)] N = some (.inr (79, [.inr (.inr (some (10 + s))), .inl v1, .inl v2, .inl (nI (k + 1))], N1)) := by
      show b117_79 (10 + s) v1 v2 (nI k) N = _
      unfold b117_79
      rw [if_neg e, bd_s g5, bd_s (g_o_t (ci := 6) t7), bd_s (c_V_of a1), nI_1]
    obtain ⟨N', j1, j2, j3⟩ := k117_79 hI hs hst hd5 d (k + 1) N1 (P ++ [0]) f (by omega) a2 a3 (by rw [List.length_append]; show P.length + 1 + d < 31; omega) (by omega)
    refine ⟨N', ?_, j2, ?_⟩
    · rw [dr_go hb, show f + 1 - (d + 1) = f - d by omega]; exact j1
    · rw [List.append_assoc] at j3
      rw [List.replicate_succ]
      exact j3
theorem k117_119 (hI : cI sw nd rm M) (hs : s < sw) (hnb : nbP M s nb) (hst : h_tg M na = 7 ∧ h_fr M 600 na = some (na + 40) ∧ h_tg M (na + 40) = 21 ∧ h_ln M (na + 40) = 31) (hd5 : h_fr M 1005 (10 + s) = some na) {v2 : Int32} : ∀ d p N P fuel, p + d = 8 → noO na M N → ntp N na P → P.length + 3 * nbc nb p d < 31 → d < fuel → ∃ N', drive k117 fuel 119 [.inr (.inr (some (10 + s))), .inl v2, .inl (nI p)] N = drive k117 (fuel - d) 119 [.inr (.inr (some (10 + s))), .inl v2, .inl (nI 8)] N' ∧ noO na M N' ∧ ntp N' na (P ++ nbl nb p d)
  | 0, p, N, P, fuel, hp, hn, h, hl, hf => by
    have : p = 8 := by omega
    subst this
    exact ⟨N, rfl, hn, by rw [show nbl nb 8 0 = [] from rfl, List.append_nil]; exact h⟩
  | d + 1, p, N, P, fuel, hp, hn, h, hl, hf => by
    obtain ⟨f, rfl⟩ : ∃ f, fuel = f + 1 := ⟨fuel - 1, by omega⟩
    have hp8 : p < 8 := by omega
    have hx : sd sw nd (8 * s + p) := sd_sp hs hp8
    have e : ¬ (8 : Int32) ≤ nI p := nI_ge (b := 8) hp8 (by omega)
    have rd5 : ∀ N, noO na M N → g_r N 10 5 (some (10 + s)) = some (some na) ∧ h_tg N na = 7 ∧ g_r N 10 2 (some (10 + s)) = some (some (20 + s)) ∧ al_r N 38 (some (20 + s)) (nI p) = some (some (200 + (8 * s + p))) ∧ g_i N 8 11 (some (200 + (8 * s + p))) = some (h_fi M 811 (200 + (8 * s + p))) ∧ g_i N 8 4 (some (200 + (8 * s + p))) = some (h_fi M 804 (200 + (8 * s + p))) := fun N hn => by
      have hIN := hn.I hI
      exact ⟨(g_r_t (ci := 10) (hIN.si0 hs)).trans (congrArg some (by rw [hn.1.2.1]; exact hd5)), by rw [hn.2.1.2.1]; exact hst.1, (g_r_t (ci := 10) (hIN.si0 hs)).trans (congrArg some (hIN.si3 hs)), port_a hIN hs hp8, (g_i_t (ci := 8) (hIN.po0 hx)).trans (congrArg some (by rw [hn.2.2.1 811 (by decide) (by decide)])), (g_i_t (ci := 8) (hIN.po0 hx)).trans (congrArg some (by rw [hn.2.2.1 804 (by decide) (by decide)]))⟩
    obtain ⟨r1, r2, r3, r4, r5, r6⟩ := rd5 N hn
    have kc : k117 119 [.inr (.inr (some (10 + s))), .inl v2, .inl (nI p)] N = b117_119 (10 + s) v2 (nI p) N := rfl
    rcases hnb p hp8 with ⟨g1, g2⟩ | ⟨v, c, g1, g2, g3, g4⟩
    · rw [(nbl_n g1).1]
      rw [(nbl_n g1).2] at hl
      have hb : b117_119 (10 + s) v2 (nI p) N = some (.inr (119, [.inr (.inr (some (10 + s))), .inl v2, .inl (nI (p + 1))], N)) := by
        unfold b117_119
        rw [if_neg e, bd_s r3, bd_s r4, bd_s r5, if_pos g2]
        unfold b117_178
        rw [nI_1]
      obtain ⟨N', j1, j2, j3⟩ := k117_119 hI hs hnb hst hd5 d (p + 1) N P f (by omega) hn h hl (by omega)
      exact ⟨N', by rw [dr_go (kc.trans hb), show f + 1 - (d + 1) = f - d by omega]; exact j1, j2, j3⟩
    · rw [(nbl_s g1).1]
      rw [(nbl_s g1).2] at hl
      obtain ⟨N1, a1, a2, a3⟩ := ntp_add (v := p) hst hn h (by omega)
      obtain ⟨q1, q2, q3, q4, q5, q6⟩ := rd5 N1 a2
      obtain ⟨N2, b1, b2, b3⟩ := ntp_add (v := v) hst a2 a3 (by rw [List.length_append]; show P.length + 1 < 31; omega)
      obtain ⟨u1, u2, u3, u4, u5, u6⟩ := rd5 N2 b2
      obtain ⟨N3, c1, c2, c3⟩ := ntp_add (v := c) hst b2 b3 (by rw [List.length_append, List.length_append]; show P.length + 1 + 1 < 31; omega)
      rw [← g3] at b1
      rw [← g4] at c1
      have hb : b117_119 (10 + s) v2 (nI p) N = some (.inr (119, [.inr (.inr (some (10 + s))), .inl v2, .inl (nI (p + 1))], N3)) := by
        unfold b117_119
        rw [if_neg e, bd_s r3, bd_s r4, bd_s r5, if_neg (by rw [g3]; exact nI_m1 (by omega)), bd_s r1, bd_s (g_o_t (ci := 6) r2), bd_s (c_V_of a1), bd_s q1, bd_s q3, bd_s q4, bd_s q5, bd_s (g_o_t (ci := 6) q2), bd_s (c_V_of b1), bd_s u1, bd_s u3, bd_s u4, bd_s u6, bd_s (g_o_t (ci := 6) u2), bd_s (c_V_of c1)]
        unfold b117_178
        rw [nI_1]
      obtain ⟨N', j1, j2, j3⟩ := k117_119 hI hs hnb hst hd5 d (p + 1) N3 (P ++ [p] ++ [v] ++ [c]) f (by omega) c2 c3 (by simp only [List.length_append, List.length_cons, List.length_nil]; omega) (by omega)
      refine ⟨N', by rw [dr_go (kc.trans hb), show f + 1 - (d + 1) = f - d by omega]; exact j1, j2, ?_⟩
      have : P ++ p :: v :: c :: nbl nb (p + 1) d = P ++ [p] ++ [v] ++ [c] ++ nbl nb (p + 1) d := by simp
      show ntp N' na (P ++ p :: v :: c :: nbl nb (p + 1) d)
      rw [this]
      exact j3
theorem k117_194 (hI : cI sw nd rm M) (hW : WI sw nd M S w pe wo) (hbk : bk M) (hs : s < sw) (hgv : gvP M s gv pe) (hst : h_tg M na = 7 ∧ h_fr M 600 na = some (na + 40) ∧ h_tg M (na + 40) = 21 ∧ h_ln M (na + 40) = 31) (hd5 : h_fr M 1005 (10 + s) = some na) : ∀ d p N P fuel, p + d = 8 → noO na M N → ntp N na P → P.length + 2 * gvc gv p d ≤ 31 → d < fuel → ∃ N', drive k117 fuel 194 [.inr (.inr (some (10 + s))), .inl (nI p)] N = some (none, N') ∧ noO na M N' ∧ ntp N' na (P ++ gvl gv p d)
  | 0, p, N, P, fuel, hp, hn, h, hl, hf => by
    obtain ⟨f, rfl⟩ : ∃ f, fuel = f + 1 := ⟨fuel - 1, by omega⟩
    have e : (8 : Int32) ≤ nI p := nI_le (a := 8) (by omega) (by omega)
    exact ⟨N, dr_end (by show b117_194 (10 + s) (nI p) N = _; unfold b117_194; rw [if_pos e]), hn, by rw [show gvl gv p 0 = [] from rfl, List.append_nil]; exact h⟩
  | d + 1, p, N, P, fuel, hp, hn, h, hl, hf => by
    obtain ⟨f, rfl⟩ : ∃ f, fuel = f + 1 := ⟨fuel - 1, by omega⟩
    have hp8 : p < 8 := by omega
    have hx : sd sw nd (8 * s + p) := sd_sp hs hp8
    have e : ¬ (8 : Int32) ≤ nI p := nI_ge (b := 8) hp8 (by omega)
    have rd5 : ∀ N, noO na M N → g_r N 10 5 (some (10 + s)) = some (some na) ∧ h_tg N na = 7 ∧ g_r N 10 2 (some (10 + s)) = some (some (20 + s)) ∧ al_r N 38 (some (20 + s)) (nI p) = some (some (200 + (8 * s + p))) ∧ g_i N 8 12 (some (200 + (8 * s + p))) = some (h_fi M 812 (200 + (8 * s + p))) ∧ g_o N 8 (some (200 + (8 * s + p))) = some (200 + (8 * s + p)) ∧ f116 [.inr (.inr (some (200 + (8 * s + p))))] N = some (some (.inl (ndA pe (8 * s + p))), N) := fun N hn => by
      have hIN := hn.I hI
      have kN := noO_kp hn hbk hst.1 hst.2.2.1
      have hWN : WI sw nd N S w pe wo := by
        obtain ⟨a1, a2, a3, a4, a5, a6⟩ := hW
        refine ⟨by rw [kN.fi (by decide)]; exact a1, a2, by rw [kN.fr (by decide)]; exact a3, by rw [kN.fr (by decide), kN.fi (by decide)]; exact a4, by rw [kN.ar hI.ar4 (by decide), kN.ar hI.ar6 (by decide)]; exact a5, fun x hx => by rw [kN.fi (by decide)]; exact a6 x hx⟩
      exact ⟨(g_r_t (ci := 10) (hIN.si0 hs)).trans (congrArg some (by rw [hn.1.2.1]; exact hd5)), by rw [hn.2.1.2.1]; exact hst.1, (g_r_t (ci := 10) (hIN.si0 hs)).trans (congrArg some (hIN.si3 hs)), port_a hIN hs hp8, (g_i_t (ci := 8) (hIN.po0 hx)).trans (congrArg some (by rw [hn.2.2.1 812 (by decide) (by decide)])), g_o_t (ci := 8) (hIN.po0 hx), f116_eq hIN hWN hx⟩
    obtain ⟨r1, r2, r3, r4, r5, r6, r7⟩ := rd5 N hn
    have kc : k117 194 [.inr (.inr (some (10 + s))), .inl (nI p)] N = b117_194 (10 + s) (nI p) N := rfl
    rcases hgv p hp8 with ⟨g1, g2⟩ | ⟨n, g1, g2, g3⟩
    · rw [(gvl_n g1).1]
      rw [(gvl_n g1).2] at hl
      have hb : b117_194 (10 + s) (nI p) N = some (.inr (194, [.inr (.inr (some (10 + s))), .inl (nI (p + 1))], N)) := by
        unfold b117_194
        rw [if_neg e, bd_s r3, bd_s r4, bd_s r5, if_pos g2]
        unfold b117_236
        rw [nI_1]
      obtain ⟨N', j1, j2, j3⟩ := k117_194 hI hW hbk hs hgv hst hd5 d (p + 1) N P f (by omega) hn h hl (by omega)
      exact ⟨N', by rw [dr_go (kc.trans hb)]; exact j1, j2, j3⟩
    · rw [(gvl_s g1).1]
      rw [(gvl_s g1).2] at hl
      obtain ⟨N1, a1, a2, a3⟩ := ntp_add (v := n) hst hn h (by omega)
      obtain ⟨q1, q2, q3, q4, q5, q6, q7⟩ := rd5 N1 a2
      obtain ⟨N2, b1, b2, b3⟩ := ntp_add (v := p) hst a2 a3 (by rw [List.length_append]; show P.length + 1 < 31; omega)
      rw [← g3] at a1
      have hb : b117_194 (10 + s) (nI p) N = some (.inr (194, [.inr (.inr (some (10 + s))), .inl (nI (p + 1))], N2)) := by
        unfold b117_194
        rw [if_neg e, bd_s r3, bd_s r4, bd_s r5, if_neg g2, bd_s r1, bd_s r3, bd_s r4, bd_s r6, bd_s (c_I_of r7), bd_s (g_o_t (ci := 6) r2), bd_s (c_V_of a1), bd_s q1, bd_s (g_o_t (ci := 6) q2), bd_s (c_V_of b1)]
        unfold b117_236
        rw [nI_1]
      obtain ⟨N', j1, j2, j3⟩ := k117_194 hI hW hbk hs hgv hst hd5 d (p + 1) N2 (P ++ [n] ++ [p]) f (by omega) b2 b3 (by simp only [List.length_append, List.length_cons, List.length_nil]; omega) (by omega)
      refine ⟨N', by rw [dr_go (kc.trans hb)]; exact j1, j2, ?_⟩
      have : P ++ n :: p :: gvl gv (p + 1) d = P ++ [n] ++ [p] ++ gvl gv (p + 1) d := by simp
      rw [this]
      exact j3
theorem f117_eq {dm : Nat} (hI : cI sw nd rm M) (hW : WI sw nd M S w pe wo) (hbk : bk M) (hs : s < sw) (hnb : nbP M s nb) (hgv : gvP M s gv pe) (hst : h_tg M na = 7 ∧ h_fr M 600 na = some (na + 40) ∧ h_tg M (na + 40) = 21 ∧ h_ln M (na + 40) = 31) (hd5 : h_fr M 1005 (10 + s) = some na) (hdm : h_fi M 1003 (10 + s) = nI dm) (HD : ∀ p, nb p = none ∨ gv p = none) : ∃ N, f117 [.inr (.inr (some (10 + s)))] M = some (none, N) ∧ noO na M N ∧ ntp N na (oRec s 0 0 0 dm nb gv) := by
  have hc := both_le HD 8 0
  have ts := hI.si0 hs
  have rd : ∀ N, noO na M N → g_r N 10 5 (some (10 + s)) = some (some na) ∧ h_tg N na = 7 ∧ g_i N 10 1 (some (10 + s)) = some (nI s) ∧ g_i N 10 3 (some (10 + s)) = some (nI dm) := fun N hn => by
    have hIN := hn.I hI
    exact ⟨(g_r_t (ci := 10) (hIN.si0 hs)).trans (congrArg some (by rw [hn.1.2.1]; exact hd5)), by rw [hn.2.1.2.1]; exact hst.1, (g_i_t (ci := 10) (hIN.si0 hs)).trans (congrArg some (hIN.si2 hs)), (g_i_t (ci := 10) (hIN.si0 hs)).trans (congrArg some (by rw [hn.2.2.1 1003 (by decide) (by decide)]; exact hdm))⟩
  obtain ⟨r1, r2, r3, r4⟩ := rd M noO.rf
  have e110 : f110 [.inr (.inr (some na))] M = some (none, h_pi M 601 na 0) := by simp [f110, b110_0, r2, g_i, g_r, g_l, g_o, p_i, p_r, p_l, p_z, c_V, c_I, c_L, c_R, x_out, z_fl_pi, z_fr_pi, z_ai_pi, z_al_pi, z_ar_pi, z_ln_pi, z_tg_pi, z_sz_pi, z_sl_pi, z_fi_pl, z_fr_pl, z_ai_pl, z_al_pl, z_ar_pl, z_ln_pl, z_tg_pl, z_sz_pl, z_sl_pl, z_fi_pr, z_fl_pr, z_ai_pr, z_al_pr, z_ar_pr, z_ln_pr, z_tg_pr, z_sz_pr, z_sl_pr, z_fi_qi, z_fl_qi, z_fr_qi, z_al_qi, z_ar_qi, z_ln_qi, z_tg_qi, z_sz_qi, z_sl_qi, z_fi_ql, z_fl_ql, z_fr_ql, z_ai_ql, z_ar_ql, z_ln_ql, z_tg_ql, z_sz_ql, z_sl_ql, z_fi_qr, z_fl_qr, z_fr_qr, z_ai_qr, z_al_qr, z_ln_qr, z_tg_qr, z_sz_qr, z_sl_qr, z_fi_ca, z_fl_ca, z_fr_ca, z_al_ca, z_ar_ca, z_ln_ca, z_tg_ca, z_sz_ca, z_sl_ca, y_pi, y_pl, y_pr, y_qi, y_ql, y_qr, y_ca]
  have n1 : noO na M (h_pi M 601 na 0) := noO_1
  obtain ⟨q1, q2, q3, q4⟩ := rd _ n1
  have p0 : ntp (h_pi M 601 na 0) na [] := ⟨by rw [fi_eq, u1_eq]; rfl, by simp, fun i hi => nomatch hi⟩
  obtain ⟨N1, a1, a2, a3⟩ := ntp_add (v := s) hst n1 p0 (by simp)
  have l1 := k117_6 hI hs hnb hgv 8 0 0 0 xF (by omega) (by unfold xF; omega)
  rw [Nat.zero_add, Nat.zero_add] at l1
  have h1 : f117 [.inr (.inr (some (10 + s)))] M = drive k117 (xF - 8) 6 [.inr (.inr (some (10 + s))), .inl (nI (nbc nb 0 8)), .inl (nI (gvc gv 0 8)), .inl (nI 8)] M := l1
  obtain ⟨f, hf⟩ : ∃ f, xF - 8 = f + 1 := ⟨xF - 9, by unfold xF; omega⟩
  have hfb : f = 999991 := by unfold xF at hf; omega
  have e8 : (8 : Int32) ≤ nI 8 := by decide
  have b1 : k117 6 [.inr (.inr (some (10 + s))), .inl (nI (nbc nb 0 8)), .inl (nI (gvc gv 0 8)), .inl (nI 8)] M = some (.inr (79, [.inr (.inr (some (10 + s))), .inl (nI (nbc nb 0 8)), .inl (nI (gvc gv 0 8)), .inl (nI 0)], N1)) := by
    show b117_6 (10 + s) (nI (nbc nb 0 8)) (nI (gvc gv 0 8)) (nI 8) M = _
    unfold b117_6
    rw [if_pos e8, bd_s r1, bd_s (g_o_t (ci := 6) r2), bd_s (c_V_of e110), bd_s q1, bd_s q3, bd_s (g_o_t (ci := 6) q2), bd_s (c_V_of a1)]
    rfl
  obtain ⟨N2, c1, c2, c3⟩ := k117_79 hI hs hst hd5 (v1 := nI (nbc nb 0 8)) (v2 := nI (gvc gv 0 8)) 3 0 N1 [s] f (by omega) a2 a3 (by simp) (by omega)
  obtain ⟨u1, u2, u3, u4⟩ := rd _ c2
  obtain ⟨N3, d1, d2, d3⟩ := ntp_add (v := dm) hst c2 c3 (by simp)
  obtain ⟨w1, w2, w3, w4⟩ := rd _ d2
  obtain ⟨N4, x1, x2, x3⟩ := ntp_add (v := nbc nb 0 8) hst d2 d3 (by simp)
  have e3 : (3 : Int32) ≤ nI 3 := by decide
  have b2 : k117 79 [.inr (.inr (some (10 + s))), .inl (nI (nbc nb 0 8)), .inl (nI (gvc gv 0 8)), .inl (nI 3)] N2 = some (.inr (119, [.inr (.inr (some (10 + s))), .inl (nI (gvc gv 0 8)), .inl (nI 0)], N4)) := by
    show b117_79 (10 + s) (nI (nbc nb 0 8)) (nI (gvc gv 0 8)) (nI 3) N2 = _
    unfold b117_79
    rw [if_pos e3, bd_s u1, bd_s u4, bd_s (g_o_t (ci := 6) u2), bd_s (c_V_of d1), bd_s w1, bd_s (g_o_t (ci := 6) w2), bd_s (c_V_of x1)]
    rfl
  obtain ⟨g, hg⟩ : ∃ g, f - 3 = g + 1 := ⟨f - 4, by omega⟩
  obtain ⟨N5, y1, y2, y3⟩ := k117_119 hI hs hnb hst hd5 (v2 := nI (gvc gv 0 8)) 8 0 N4 _ g (by omega) x2 x3 (by simp; omega) (by omega)
  obtain ⟨z1, z2, z3, z4⟩ := rd _ y2
  obtain ⟨N6, o1, o2, o3⟩ := ntp_add (v := gvc gv 0 8) hst y2 y3 (by simp [nbl_len]; omega)
  have b3 : k117 119 [.inr (.inr (some (10 + s))), .inl (nI (gvc gv 0 8)), .inl (nI 8)] N5 = some (.inr (194, [.inr (.inr (some (10 + s))), .inl (nI 0)], N6)) := by
    show b117_119 (10 + s) (nI (gvc gv 0 8)) (nI 8) N5 = _
    unfold b117_119
    rw [if_pos e8, bd_s z1, bd_s (g_o_t (ci := 6) z2), bd_s (c_V_of o1)]
    rfl
  obtain ⟨k, hk⟩ : ∃ k, g - 8 = k + 1 := ⟨g - 9, by omega⟩
  obtain ⟨N7, i1, i2, i3⟩ := k117_194 hI hW hbk hs hgv hst hd5 8 0 N6 _ k (by omega) o2 o3 (by simp [nbl_len]; omega) (by omega)
  refine ⟨N7, ?_, i2, ?_⟩
  · rw [h1, hf, dr_go b1]
    show drive k117 f 79 _ N1 = _
    rw [c1, hg, dr_go b2]
    show drive k117 g 119 _ N4 = _
    rw [y1, hk, dr_go b3]
    exact i1
  · have : oRec s 0 0 0 dm nb gv = [s] ++ List.replicate 3 0 ++ [dm] ++ [nbc nb 0 8] ++ nbl nb 0 8 ++ [gvc gv 0 8] ++ gvl gv 0 8 := by unfold oRec; simp [List.replicate]
    rw [this]
    exact i3
end DR
