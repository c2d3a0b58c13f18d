/-! ===== a switch's turn ===== -/
theorem dm8 {x k : Nat} (h : x ≤ 200000) (hk : k < 8) : d_m (nI x + nI k) 8 = some (nI ((x + k) % 8)) := by
  unfold d_m
  rw [if_neg (by decide), nI_add]
  exact congrArg some (pk_rem (d := 8) (by omega) (by omega) (by omega))
theorem dm8m {x k : Nat} (hk : k < 8) : d_m (nI (x % 8) + nI k) 8 = some (nI ((x + k) % 8)) := by
  have q : x % 8 < 8 := Nat.mod_lt _ (by omega)
  rw [dm8 (x := x % 8) (by omega) hk, Nat.mod_add_mod]
theorem an7 {x : Nat} (h : x ≤ 200000) : nI x &&& 7 = nI (x % 8) := by
  have e : ∀ n, n < 4294967296 → (nI n).toBitVec.toNat = n := fun n hn => by
    show (BitVec.ofNat 32 n).toNat = n
    rw [BitVec.toNat_ofNat, Nat.mod_eq_of_lt (show n < 2 ^ 32 from hn)]
  apply Int32.toBitVec_inj.mp
  rw [Int32.toBitVec_and]
  apply BitVec.eq_of_toNat_eq
  have q : x % 8 < 8 := Nat.mod_lt _ (by omega)
  rw [BitVec.toNat_and, e x (by omega), e (x % 8) (by omega)]
  exact Nat.and_two_pow_sub_one_eq_mod x 3
def agE (sw t : Nat) (kR : Nat → rK) (ka : Nat → Nat → Nat) : Prop := ∀ s, s < sw → kR s s ≠ none → ka s s ≤ t ∧ t ≤ ka s s + 40
section TU
variable {sw nd rm : Nat} {M : hM} {S : sT} {ia : Nat → Nat → Int32} {w t zb sb : Nat} {pe : Nat → Option Nat} {wo : Nat → Nat} {fl : Nat → List (List Int32)} {kR : Nat → rK} {ka : Nat → Nat → Nat} {tog : Nat → Bool} {s : Nat}
theorem P_snds (hss : s < sw) : ∀ d k M S fl fuel fus, TB sw nd rm M S ia w pe wo t zb sb fl kR ka tog → k + d = 8 → d < fuel → d < fus → ∃ M' S' fm, drive k138 fuel 29 [.inr (.inr (some (10 + s))), .inl (nI (t % 8)), .inl (nI k)] M = drive k138 (fuel - d - 1) 57 [.inr (.inr (some (10 + s))), .inl (nI (t % 8)), .inl (nI 0)] M' ∧ sdrive kS230 fus 7 [.inl (nI s), .inl (nI k)] S = sdrive kS230 (fus - d - 1) 39 [.inl (nI s), .inl (nI 0)] S' ∧ TB sw nd rm M' S' ia w pe wo t zb sb fm kR ka tog ∧ i20 M M'
  | 0, k, M, S, fl, fuel, fus, h, hk, hf, hg => by
    obtain ⟨f, rfl⟩ : ∃ f, fuel = f + 1 := ⟨fuel - 1, by omega⟩
    obtain ⟨g, rfl⟩ : ∃ g, fus = g + 1 := ⟨fus - 1, by omega⟩
    have e : (8 : Int32) ≤ nI k := nI_le (a := 8) (by omega) (by omega)
    have h1 : k138 29 [.inr (.inr (some (10 + s))), .inl (nI (t % 8)), .inl (nI k)] M = some (.inr (57, [.inr (.inr (some (10 + s))), .inl (nI (t % 8)), .inl (nI 0)], M)) := by
      show b138_29 (10 + s) (nI (t % 8)) (nI k) M = _
      unfold b138_29; rw [if_pos e]; rfl
    have h2 : kS230 7 [.inl (nI s), .inl (nI k)] S = some (.inr (39, [.inl (nI s), .inl (nI 0)], S)) := by
      show c230_7 (nI s) (nI k) S = _
      unfold c230_7; rw [if_pos e]; rfl
    exact ⟨M, S, fl, dr_go h1, sd_go h2, h, i20_rf⟩
  | d + 1, k, M, S, fl, fuel, fus, h, hk, hf, hg => by
    obtain ⟨f, rfl⟩ : ∃ f, fuel = f + 1 := ⟨fuel - 1, by omega⟩
    obtain ⟨g, rfl⟩ : ∃ g, fus = g + 1 := ⟨fus - 1, by omega⟩
    have e : ¬ (8 : Int32) ≤ nI k := nI_ge (b := 8) (by omega) (by omega)
    have hI := h.I
    have hsw := hI.bs.1.2
    obtain ⟨ht1, ht2, ht3⟩ := h.1.st.2.2.2.1
    have hp : (t + k) % 8 < 8 := Nat.mod_lt _ (by omega)
    have hx : sd sw nd (8 * s + (t + k) % 8) := sd_sp hss hp
    obtain ⟨M1, S1, fm, j1, j2, j3, j4⟩ := P_sfT h hx
    have g2 : g_r M 10 2 (some (10 + s)) = some (some (20 + s)) := (g_r_t (ci := 10) (hI.si0 hss)).trans (congrArg some (hI.si3 hss))
    have gp := port_a (s := s) hI hss hp
    have go : g_o M 8 (some (200 + (8 * s + (t + k) % 8))) = some (200 + (8 * s + (t + k) % 8)) := g_o_t (ci := 8) (hI.po0 hx)
    have h1 : k138 29 [.inr (.inr (some (10 + s))), .inl (nI (t % 8)), .inl (nI k)] M = some (.inr (29, [.inr (.inr (some (10 + s))), .inl (nI (t % 8)), .inl (nI (k + 1))], M1)) := by
      show b138_29 (10 + s) (nI (t % 8)) (nI k) M = _
      unfold b138_29
      rw [if_neg e, bd_s g2, bd_s (dm8m (by omega)), bd_s gp, bd_s go, bd_s (c_V_of j1), nI_1]
    have h2 : kS230 7 [.inl (nI s), .inl (nI k)] S = some (.inr (7, [.inl (nI s), .inl (nI (k + 1))], S1)) := by
      have g3' : s_g S 3 = nI t := ht2
      show c230_7 (nI s) (nI k) S = _
      unfold c230_7
      rw [if_neg e, g3', bd_s (dm8 ht3 (by omega)), bd_s (e175_v S), bd_s j2, nI_1]
    obtain ⟨M2, S2, fm2, r1, r2, r3, r4⟩ := P_snds hss d (k + 1) M1 S1 fm f g j3 (by omega) (by omega) (by omega)
    refine ⟨M2, S2, fm2, ?_, ?_, r3, i20_tr j4 r4⟩
    · rw [dr_go h1, show f + 1 - (d + 1) - 1 = f - d - 1 by omega]; exact r1
    · rw [sd_go h2, show g + 1 - (d + 1) - 1 = g - d - 1 by omega]; exact r2
theorem P_srvs (hss : s < sw) : ∀ d k M S ia fl kR ka fuel fus, TB sw nd rm M S ia w pe wo t zb sb fl kR ka tog → k + d = 8 → d < fuel → d < fus → ∃ M' S' ib fm kR' ka', drive k138 fuel 57 [.inr (.inr (some (10 + s))), .inl (nI (t % 8)), .inl (nI k)] M = some (none, M') ∧ sdrive kS230 fus 39 [.inl (nI s), .inl (nI k)] S = some S' ∧ TB sw nd rm M' S' ib w pe wo t zb sb fm kR' ka' tog ∧ i20 M M' ∧ ∀ s', kR' s' s' = kR s' s' ∧ ka' s' s' = ka s' s'
  | 0, k, M, S, ia, fl, kR, ka, fuel, fus, h, hk, hf, hg => by
    obtain ⟨f, rfl⟩ : ∃ f, fuel = f + 1 := ⟨fuel - 1, by omega⟩
    obtain ⟨g, rfl⟩ : ∃ g, fus = g + 1 := ⟨fus - 1, by omega⟩
    have e : (8 : Int32) ≤ nI k := nI_le (a := 8) (by omega) (by omega)
    have h1 : k138 57 [.inr (.inr (some (10 + s))), .inl (nI (t % 8)), .inl (nI k)] M = some (.inl (none, M)) := by
      show b138_57 (10 + s) (nI (t % 8)) (nI k) M = _
      unfold b138_57; rw [if_pos e]
    have h2 : kS230 39 [.inl (nI s), .inl (nI k)] S = some (.inl S) := by
      show c230_39 (nI s) (nI k) S = _
      unfold c230_39; rw [if_pos e]
    exact ⟨M, S, ia, fl, kR, ka, dr_end h1, sd_end h2, h, i20_rf, fun _ => ⟨rfl, rfl⟩⟩
  | d + 1, k, M, S, ia, fl, kR, ka, fuel, fus, h, hk, hf, hg => by
    obtain ⟨f, rfl⟩ : ∃ f, fuel = f + 1 := ⟨fuel - 1, by omega⟩
    obtain ⟨g, rfl⟩ : ∃ g, fus = g + 1 := ⟨fus - 1, by omega⟩
    have e : ¬ (8 : Int32) ≤ nI k := nI_ge (b := 8) (by omega) (by omega)
    have hI := h.I
    have hsw := hI.bs.1.2
    obtain ⟨ht1, ht2, ht3⟩ := h.1.st.2.2.2.1
    have hp : (t + k) % 8 < 8 := Nat.mod_lt _ (by omega)
    have hx : sd sw nd (8 * s + (t + k) % 8) := sd_sp hss hp
    obtain ⟨M1, S1, ib, fm, kR1, ka1, j1, j2, j3, j4, j5⟩ := P_serve h hss hp
    have g2 : g_r M 10 2 (some (10 + s)) = some (some (20 + s)) := (g_r_t (ci := 10) (hI.si0 hss)).trans (congrArg some (hI.si3 hss))
    have gp := port_a (s := s) hI hss hp
    have go : g_o M 10 (some (10 + s)) = some (10 + s) := g_o_t (ci := 10) (hI.si0 hss)
    have h1 : k138 57 [.inr (.inr (some (10 + s))), .inl (nI (t % 8)), .inl (nI k)] M = some (.inr (57, [.inr (.inr (some (10 + s))), .inl (nI (t % 8)), .inl (nI (k + 1))], M1)) := by
      show b138_57 (10 + s) (nI (t % 8)) (nI k) M = _
      unfold b138_57
      rw [if_neg e, bd_s g2, bd_s (dm8m (by omega)), bd_s gp, bd_s go, bd_s (c_V_of j1), nI_1]
    have h2 : kS230 39 [.inl (nI s), .inl (nI k)] S = some (.inr (39, [.inl (nI s), .inl (nI (k + 1))], S1)) := by
      have g3' : s_g S 3 = nI t := ht2
      show c230_39 (nI s) (nI k) S = _
      unfold c230_39
      rw [if_neg e, g3', bd_s (dm8 ht3 (by omega)), bd_s (e175_v S), bd_s j2, nI_1]
    obtain ⟨M2, S2, ib2, fm2, kR2, ka2, r1, r2, r3, r4, r5⟩ := P_srvs hss d (k + 1) M1 S1 ib fm kR1 ka1 f g j3 (by omega) (by omega) (by omega)
    refine ⟨M2, S2, ib2, fm2, kR2, ka2, ?_, ?_, r3, i20_tr j4 r4, fun s' => ⟨(r5 s').1.trans (j5 s').1, (r5 s').2.trans (j5 s').2⟩⟩
    · rw [dr_go h1]; exact r1
    · rw [sd_go h2]; exact r2
theorem P_turn (h : TB sw nd rm M S ia w pe wo t zb sb fl kR ka tog) (hss : s < sw) (hage : kR s s ≠ none → ka s s ≤ t ∧ t ≤ ka s s + 40) : ∃ M' S' ib fm kR' ka' tog', f138 [.inr (.inr (some (10 + s)))] M = some (none, M') ∧ e230 (nI s) S = some S' ∧ TB sw nd rm M' S' ib w pe wo t zb sb fm kR' ka' tog' ∧ i20 M M' ∧ (∀ s', s' ≠ s → kR' s' s' = kR s' s' ∧ ka' s' s' = ka s' s') ∧ ka' s s ≤ t ∧ t < ka' s s + 40 := by
  have hI := h.I
  have hsw := hI.bs.1.2
  have x0 : ∀ N, cI sw nd rm N → g_o N 10 (some (10 + s)) = some (10 + s) := fun N q => g_o_t (ci := 10) (q.si0 hss)
  obtain ⟨M1, S1, f1, a1, a2, a3, a4⟩ := P_tkb hss 8 0 M S fl xF xF h (by omega) (by unfold xF; omega) (by unfold xF; omega)
  obtain ⟨M2, S2, i2, k2, b1, b2, b3, b4, b5⟩ := P_forget (fus := xF - 8 - 1) a3 hss (fun q => ⟨(hage q).1, by have := (hage q).2; omega⟩) (by unfold xF; omega)
  obtain ⟨M3, S3, f3, c1, c2, c3, c4⟩ := P_say hss 8 0 M2 S2 f1 xF (xF - 8 - 1 - sw - 1) b3 (by omega) (by unfold xF; omega) (by unfold xF; omega)
  obtain ⟨M4, S4, i4, f4, k4, ka4, t4, d1, d2, d3, d4, d5, d6, d7, d8⟩ := P_own c3 hss (fun q => (hage (by rw [← b5 s]; exact q)).1)
  obtain ⟨M5, S5, f5, e1, e2, e3, e4⟩ := P_snds hss 8 0 M4 S4 f4 xF xF d3 (by omega) (by unfold xF; omega) (by unfold xF; omega)
  obtain ⟨M6, S6, i6, f6, k6, ka6, g1, g2, g3, g4, g5⟩ := P_srvs hss 8 0 M5 S5 i4 f5 k4 ka4 (xF - 8 - 1) (xF - 8 - 1) e3 (by omega) (by unfold xF; omega) (by unfold xF; omega)
  have r1 : e224 (nI s) S = some S4 := by
    show s_go kS224 (c224_0 (nI s) S) = _
    show sdrive kS224 xF 2 [.inl (nI s), .inl (nI 0)] S = _
    rw [a2, b2]
    exact c2 S4 d2
  have r2 : e230 (nI s) S = some S6 := by
    show s_go kS230 (c230_0 (nI s) S) = _
    unfold c230_0
    rw [bd_s r1]
    show sdrive kS230 xF 7 [.inl (nI s), .inl (nI 0)] S4 = _
    rw [e2]; exact g2
  have q95 : f95 [.inr (.inr (some (10 + s)))] M = some (none, M1) := a1
  have q113 : f113 [.inr (.inr (some (10 + s)))] M2 = some (none, M3) := c1
  have r3 : f138 [.inr (.inr (some (10 + s)))] M = some (none, M6) := by
    obtain ⟨ht1, ht2, ht3⟩ := d3.1.st.2.2.2.1
    have y0 : g_r M4 10 0 (some (10 + s)) = some (some 2) := (g_r_t (ci := 10) (d3.I.si0 hss)).trans (congrArg some (d3.I.si1 hss))
    have y3 : g_i M4 9 3 (some 2) = some (nI t) := (g_i_t (ci := 9) d3.I.sh0).trans (congrArg some ht1)
    show x_go k138 (b138_0 (10 + s) M) = _
    unfold b138_0
    rw [bd_s (x0 M hI), bd_s (c_V_of q95), bd_s (x0 M1 a3.I), bd_s (c_V_of b1), bd_s (x0 M2 b3.I), bd_s (c_V_of q113), bd_s (x0 M3 c3.I), bd_s (c_V_of d1), bd_s y0, bd_s y3, an7 ht3]
    show drive k138 xF 29 [.inr (.inr (some (10 + s))), .inl (nI (t % 8)), .inl (nI 0)] M4 = _
    rw [e1]; exact g1
  refine ⟨M6, S6, i6, f6, k6, ka6, t4, r3, r2, g3, i20_tr a4 (i20_tr b4 (i20_tr c4 (i20_tr d4 (i20_tr e4 g4)))), fun s' q => ?_, by rw [(g5 s).2]; exact d7, by rw [(g5 s).2]; exact d8⟩
  obtain ⟨y1, y2⟩ := d5 s' q
  rw [(g5 s').1, (g5 s').2, y1, y2, b5 s']
  exact ⟨rfl, rfl⟩
/-- all switches -/
def agT (sw t : Nat) (kR : Nat → rK) (ka : Nat → Nat → Nat) (u : Nat) : Prop := ∀ s, s < sw → kR s s ≠ none → ka s s ≤ t ∧ t ≤ ka s s + 40 ∧ (s < u → t < ka s s + 40)
theorem P_turns {v1 v2 v3 v4 : Int32} : ∀ d u M S ia fl kR ka tog fuel fus, TB sw nd rm M S ia w pe wo t zb sb fl kR ka tog → agT sw t kR ka u → u + d = sw → d < fuel → d < fus → ∃ M' S' ib fm kR' ka' tog', drive k140 fuel 80 [.inr (.inr (some 1)), .inl v1, .inl v2, .inl v3, .inl (nI u)] M = drive k140 (fuel - d - 1) 109 [.inr (.inr (some 1)), .inl v1, .inl v2, .inl v3, .inl (nI 0)] M' ∧ sdrive kS231 fus 152 [.inl v4, .inl (nI u)] S = sdrive kS231 (fus - d - 1) 173 [.inl v4, .inl (nI 0)] S' ∧ TB sw nd rm M' S' ib w pe wo t zb sb fm kR' ka' tog' ∧ agT sw t kR' ka' sw ∧ i20 M M'
  | 0, u, M, S, ia, fl, kR, ka, tog, fuel, fus, h, ha, hk, hf, hg => by
    obtain ⟨f, rfl⟩ : ∃ f, fuel = f + 1 := ⟨fuel - 1, by omega⟩
    obtain ⟨g, rfl⟩ : ∃ g, fus = g + 1 := ⟨fus - 1, by omega⟩
    have hu : u = sw := by omega
    subst hu
    have hI := h.I
    have hsw := hI.bs.1.2
    have e : nI u ≤ nI u := nI_le (by omega) (by omega)
    have g1 : g_r M 11 1 (some 1) = some (some 8) := (g_r_t (ci := 11) hI.fab0).trans (congrArg some hI.fab2)
    have gl : a_ln M 40 (some 8) = some (nI u) := by rw [a_ln_t hI.ar10, hI.ar11]
    have h1 : k140 80 [.inr (.inr (some 1)), .inl v1, .inl v2, .inl v3, .inl (nI u)] M = some (.inr (109, [.inr (.inr (some 1)), .inl v1, .inl v2, .inl v3, .inl (nI 0)], M)) := by
      show b140_80 1 v1 v2 v3 (nI u) M = _
      unfold b140_80; rw [bd_s g1, bd_s gl, if_pos e]; rfl
    have h2 : kS231 152 [.inl v4, .inl (nI u)] S = some (.inr (173, [.inl v4, .inl (nI 0)], S)) := by
      have s0 : s_g S 0 = nI u := h.1.st.2.2.1.1
      show c231_152 v4 (nI u) S = _
      unfold c231_152; rw [s0, if_pos e]; rfl
    exact ⟨M, S, ia, fl, kR, ka, tog, dr_go h1, sd_go h2, h, ha, i20_rf⟩
  | d + 1, u, M, S, ia, fl, kR, ka, tog, fuel, fus, h, ha, hk, hf, hg => by
    obtain ⟨f, rfl⟩ : ∃ f, fuel = f + 1 := ⟨fuel - 1, by omega⟩
    obtain ⟨g, rfl⟩ : ∃ g, fus = g + 1 := ⟨fus - 1, by omega⟩
    have hI := h.I
    have hsw := hI.bs.1.2
    have hus : u < sw := by omega
    have e : ¬ nI sw ≤ nI u := nI_ge (by omega) (by omega)
    have g1 : g_r M 11 1 (some 1) = some (some 8) := (g_r_t (ci := 11) hI.fab0).trans (congrArg some hI.fab2)
    have gl : a_ln M 40 (some 8) = some (nI sw) := by rw [a_ln_t hI.ar10, hI.ar11]
    have gs : al_r M 40 (some 8) (nI u) = some (some (10 + u)) := (al_r_t hI.ar10 (by rw [hI.ar11]; exact hus) (by omega)).trans (congrArg some (hI.si9 hus))
    have go : g_o M 10 (some (10 + u)) = some (10 + u) := g_o_t (ci := 10) (hI.si0 hus)
    obtain ⟨M1, S1, ib, fm, kR1, ka1, tog1, j1, j2, j3, j4, j5, j6, j7⟩ := P_turn h hus (fun q => ⟨(ha u hus q).1, (ha u hus q).2.1⟩)
    have h1 : k140 80 [.inr (.inr (some 1)), .inl v1, .inl v2, .inl v3, .inl (nI u)] M = some (.inr (80, [.inr (.inr (some 1)), .inl v1, .inl v2, .inl v3, .inl (nI (u + 1))], M1)) := by
      show b140_80 1 v1 v2 v3 (nI u) M = _
      unfold b140_80; rw [bd_s g1, bd_s gl, if_neg e, bd_s g1, bd_s gs, bd_s go, bd_s (c_V_of j1), nI_1]
    have h2 : kS231 152 [.inl v4, .inl (nI u)] S = some (.inr (152, [.inl v4, .inl (nI (u + 1))], S1)) := by
      have s0 : s_g S 0 = nI sw := h.1.st.2.2.1.1
      show c231_152 v4 (nI u) S = _
      unfold c231_152; rw [s0, if_neg e, bd_s j2, nI_1]
    have ha1 : agT sw t kR1 ka1 (u + 1) := fun s hs q => by
      by_cases z : s = u
      · subst z; exact ⟨j6, by omega, fun _ => j7⟩
      · obtain ⟨z1, z2⟩ := j5 s z
        rw [z1] at q
        rw [z2]
        obtain ⟨y1, y2, y3⟩ := ha s hs q
        exact ⟨y1, y2, fun y => y3 (by omega)⟩
    obtain ⟨M2, S2, ib2, fm2, kR2, ka2, tog2, r1, r2, r3, r4, r5⟩ := P_turns d (u + 1) M1 S1 ib fm kR1 ka1 tog1 f g j3 ha1 (by omega) (by omega) (by omega)
    refine ⟨M2, S2, ib2, fm2, kR2, ka2, tog2, ?_, ?_, r3, r4, i20_tr j4 r5⟩
    · rw [dr_go h1, show f + 1 - (d + 1) - 1 = f - d - 1 by omega]; exact r1
    · rw [sd_go h2, show g + 1 - (d + 1) - 1 = g - d - 1 by omega]; exact r2
end TU
