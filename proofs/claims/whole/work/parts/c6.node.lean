/-! ===== a node's turn ===== -/
section NT
variable {sw nd rm : Nat} {M M' N : hM} {S S' T : sT} {ia ib : Nat → Nat → Int32} {w t x y zb sb a f n nc fus dk j : Nat} {pe : Nat → Option Nat} {wo : Nat → Nat} {fl fm : Nat → List (List Int32)} {hc hc' : List (Nat × Int32 × List Int32)} {hs hs' : List (Nat × List Int32)} {L Lr : List Int32} {r : List (List Int32)} {kR : Nat → rK} {ka : Nat → Nat → Nat} {tog : Nat → Bool} {ca hh : Nat → Nat} {lv : Nat → Bool} {jj : Nat → Nat} {G : Nat → nG} {R : List Nat} {g : Int32} {OL : List oE}
/-- a frame leaves the buffers, both sides -/
theorem H_leave (h : HB sw nd rm M S ia w pe wo t zb sb fl [] [] kR ka tog) (hx : sd sw nd x) (hf : fl (48 + x) = L :: r) : ∃ a g f M' S', f54 [.inr (.inr (some (200 + x)))] M = some (some (.inr (.inr (some a))), M') ∧ e185 (nI x) S = some (nI f, S') ∧ HB sw nd rm M' S' ia w pe wo t zb sb (u1 fl (48 + x) r) [(a, g, L)] [(f, L)] kR ka tog ∧ (g = 0 → tru sw nd L = true) ∧ 17 ≤ L.length ∧ kp [203, 300, 301, 302, 807, 813] [] M M' ∧ ks [16, 17, 20, 21] S S' ∧ i20 M M' := by
  have hI := h.I
  have hW := h.W
  have hx8 := hI.x8 hx
  obtain ⟨-, y, e⟩ := TB.wr (fl := fl) h hx (by rw [hf]; exact fun q => nomatch q)
  have hy := (hW.sds e).2.1
  have hLl := (h.2.1.1 (48 + x) (by omega) L (by rw [hf]; exact List.mem_cons_self)).1 (by omega)
  obtain ⟨h1, h2, h3⟩ := h
  obtain ⟨ct, c1, c2, c3, c4, c5, c6, c7⟩ := h1.pb
  have hr : r.length ≤ 4 := by have := (c3 x hx8).2.1; rw [hf, List.length_cons] at this; omega
  obtain ⟨a, g, M', m1, m2, m3, m4, m5, -⟩ := FC_leave hI c1 hx hy (hW.pr e) hf hr
  have kM := kf54 m1 h1.pb.bk
  obtain ⟨f, S1, s1, s2, s3, s4, s5, -⟩ := FR_lea c2 hx8 c4 hf
  have kS := ke185 s1
  have hb := FLb_u c3 hx8 hf
  have hP : PB sw nd M' S1 ia zb sb (u1 fl (48 + x) r) (u1 fl (48 + x) r) [(a, g, L)] [(f, L)] := ⟨ct, m2, s3, hb, hb, fun _ _ _ => rfl, by rw [kS.i (by decide)]; exact c6, c7⟩
  refine ⟨a, g, f, M', S1, m1, s1, ⟨h1.keep kM (by decide) (by decide) kS (by decide) hP, ?_, h3⟩, ?_, hLl.1, kM, kS, PB_i20 h1.pb hP kM⟩
  · exact h2.lv hI hW e hf (kM.fi (by decide)) m5 m4 (fun z => upS_ks kS (by decide) (by decide)) (kS.i (by decide)) s4 s5 (kS.i (by decide)) u1_eq (fun p _ q => u1_ne q) (fun z hz _ => u1_ne (by omega)) (FLl_u h2.1 hf)
  · unfold fW at m3
    rw [if_pos (by omega)] at m3
    exact m3
theorem H_rel (h : HB sw nd rm M S ia w pe wo t zb sb fl ((a, g, L) :: hc) ((f, Lr) :: hs) kR ka tog) : ∃ M' S', f17 [.inr (.inr (some 2)), .inr (.inr (some a))] M = some (none, M') ∧ e171 (nI f) S = some S' ∧ HB sw nd rm M' S' ia w pe wo t zb sb fl hc hs kR ka tog ∧ fst M M' S S' := by
  obtain ⟨M1, S1, m1, s1, p1⟩ := P_rel h.I h.1.pb
  obtain ⟨b1, b2⟩ := h.mv' (kf17 m1 h.bk) (by decide) (by decide) (ke171 s1) (by decide) p1 qx.rf
  exact ⟨M1, S1, m1, s1, b1, b2⟩
theorem H_tly {k : Nat} (h : HB sw nd rm M S ia w pe wo t zb sb fl hc hs kR ka tog) (h0 : 0 < k) (h9 : k < 9) : ∃ M', f37 [.inr (.inr (some 2)), .inl (nI k)] M = some (none, M') ∧ HB sw nd rm M' (s_u S 4 k (S.1 4 k + 1)) ia w pe wo t zb sb fl hc hs kR ka tog ∧ fst M M' S (s_u S 4 k (S.1 4 k + 1)) := by
  obtain ⟨M1, m1, p1⟩ := P_tly (k := k) h.I h.1.pb h0 h9
  obtain ⟨b1, b2⟩ := h.mv' (kf37 m1 h.bk) (by decide) (by decide) (k_su : ks [4] S (s_u S 4 k (S.1 4 k + 1))) (by decide) p1 qx.rf
  exact ⟨M1, m1, b1, b2⟩
theorem HB.n17 (h : HB sw nd rm M S ia w pe wo t zb sb fl hc hs kR ka tog) (hx : x < 48) : S.1 17 x = nI (fl (48 + x)).length ∧ (fl (48 + x)).length ≤ 4 := by
  obtain ⟨ct, c1, c2, c3, -⟩ := h.1.pb
  exact ⟨(c2.bl hx).1, (c3 x hx).2.1⟩
/-- a node calls its switch: when it did -/
theorem HB.call {v : Int32} (h : HB sw nd rm M S ia w pe wo t zb sb fl hc hs kR ka tog) (hn : n < nd) (hu : upS S (40 + n) ≠ 0) : HB sw nd rm (h_pi M 814 (200 + (40 + n)) v) (s_u S 36 n v) ia w pe wo t zb sb fl hc hs kR ka tog := by
  obtain ⟨⟨h1, h2, h3, h4⟩, h5, h6⟩ := h
  have hx : sd sw nd (40 + n) := sd_n hn
  have k : kp [814] [] M (h_pi M 814 (200 + (40 + n)) v) := k_hpi h2.bk (by rw [h1.I.po0 hx]; decide)
  have l : ks [36] S (s_u S 36 n v) := k_su
  refine ⟨⟨h1.keep k (by decide) (by decide) l (by decide) rfl, (h2.kp k (by decide)).ks l (by decide), fun z hz => ?_, fun s hs => (h4 s hs).keep h1.I hs k (by decide) (by decide) (fun _ _ _ => rfl) l (by decide)⟩, h5.keep k (by decide) l (by decide) qx.rf (fun x y e => ⟨h1.I.x8 (h1.W.sds e).1, h1.I.x8 (h1.W.sds e).2.1⟩), h6⟩
  obtain ⟨⟨a1, a2⟩, a3, a4, ⟨a5, a6⟩, a7, a8⟩ := h3 z hz
  rw [fi_eq, fi_ne (show 811 ≠ 814 by decide), fi_ne (show 812 ≠ 814 by decide), su_eq, su_ne (show 23 ≠ 36 by decide), su_ne (show 25 ≠ 36 by decide), su_ne (show 24 ≠ 36 by decide), upS_ks l (by decide) (by decide)]
  by_cases q : z = 40 + n
  · subst q
    rw [u1_eq, show 40 + n - 40 = n by omega, u1_eq]
    exact ⟨⟨a1, a2⟩, a3, a4, ⟨fun _ _ => by omega, fun _ _ => rfl⟩, fun _ _ _ => by omega, fun z => absurd z hu⟩
  · rw [u1_ne (by omega)]
    refine ⟨⟨a1, a2⟩, a3, a4, ⟨a5, fun y1 y2 => ?_⟩, a7, fun y1 y2 y3 => ?_⟩
    · rw [u1_ne (by omega)]; exact a6 y1 y2
    · rw [u1_ne (by omega)]; exact a8 y1 y2 y3
/-- callSwitch -/
theorem P_call (h : HB sw nd rm M S ia w pe wo t zb sb fl [] [] kR ka tog) (hN : NR nd M S t nc ca hh lv jj G) (hn : n < nd) : ∃ M' S' fm, f40 [.inr (.inr (some (140 + n)))] M = some (none, M') ∧ e208 (nI n) S = sdrive kS208 xF 88 [.inl (nI n), .inl (nI 0)] S' ∧ HB sw nd rm M' S' ia w pe wo t zb sb fm [] [] kR ka tog ∧ NR nd M' S' t nc ca hh lv jj G := by
  have hI := h.I
  have hnd := hI.bs.2.1.2
  have hx : sd sw nd (40 + n) := sd_n hn
  have hx8 := hI.x8 hx
  have ad := hN.2.1 n hn
  have tno := hI.no0 hn
  have g503 : g_i M 5 3 (some (140 + n)) = some (S.1 35 n) := (g_i_t (ci := 5) tno).trans (congrArg some ad)
  have g502 : g_r M 5 2 (some (140 + n)) = some (some (200 + (40 + n))) := (g_r_t (ci := 5) tno).trans (congrArg some (hI.no3 hn))
  have g500 : g_r M 5 0 (some (140 + n)) = some (some 2) := (g_r_t (ci := 5) tno).trans (congrArg some (hI.no1 hn))
  have g805 : g_i M 8 5 (some (200 + (40 + n))) = some (upS S (40 + n)) := (g_i_t (ci := 8) (hI.po0 hx)).trans (congrArg some (h.W.up hx))
  have g903 : g_i M 9 3 (some 2) = some (nI t) := (g_i_t (ci := 9) hI.sh0).trans (congrArg some h.t1)
  have s35 : s_a S 35 (nI n) = some (S.1 35 n) := ga35 (by omega)
  have s36 : s_a S 36 (nI n) = some (S.1 36 n) := ga36 (by omega)
  have sg : s_g S 3 = nI t := h.t2
  have e7 := e177_eq h.W.wO hx8
  have edef : e208 (nI n) S = s_go kS208 (c208_0 (nI n) S) := rfl
  have fdef : f40 [.inr (.inr (some (140 + n)))] M = x_out (b40_0 (140 + n) M) := rfl
  have e86 : ∀ T, s_go kS208 (c208_86 (nI n) T) = sdrive kS208 xF 88 [.inl (nI n), .inl (nI 0)] T := fun T => rfl
  -- for each pause
  have go : ∀ p : Int32, ∃ M' S' fm, x_out (b40_14 (140 + n) p M) = some (none, M') ∧ s_go kS208 (if upS S (40 + n) = 0 then c208_86 (nI n) S else c208_41 (nI n) (nI (40 + n)) p (nI t - S.1 36 n) S) = sdrive kS208 xF 88 [.inl (nI n), .inl (nI 0)] S' ∧ HB sw nd rm M' S' ia w pe wo t zb sb fm [] [] kR ka tog ∧ NR nd M' S' t nc ca hh lv jj G := fun p => by
    unfold b40_14
    rw [bd_s g502, bd_s g805]
    by_cases zu : upS S (40 + n) = 0
    · rw [if_pos zu, if_pos zu]
      exact ⟨M, S, fl, rfl, e86 S, h, hN⟩
    have a6 : h_fi M 814 (200 + (40 + n)) = S.1 36 n := by
      have := (h.1.px (40 + n) hx).2.2.2.1.2 zu (by omega)
      rw [show 40 + n - 40 = n by omega] at this
      exact this
    rw [if_neg zu, if_neg zu, bd_s g500, bd_s g903, bd_s g502, bd_s ((g_i_t (ci := 8) (hI.po0 hx)).trans (congrArg some a6))]
    unfold c208_41
    by_cases zt : nI t - S.1 36 n < p
    · rw [if_pos zt, if_pos zt]
      exact ⟨M, S, fl, rfl, e86 S, h, hN⟩
    rw [if_neg zt, if_neg zt, bd_s g502, bd_s g500, bd_s g903, bd_s (p_i_t (ci := 8) (hI.po0 hx)), sg, bd_s (gs36 (by omega))]
    have hb1 := h.call (v := nI t) hn zu
    have hN1 : NR nd (h_pi M 814 (200 + (40 + n)) (nI t)) (s_u S 36 n (nI t)) t nc ca hh lv jj G := hN.kp hI (k_hpi h.bk (by rw [hI.po0 hx]; decide)) (by decide) (by decide) i20_rf (k_su : ks [36] S _) (by decide)
    show ∃ M' S' fm, x_out (Option.bind (g_r (h_pi M 814 (200 + (40 + n)) (nI t)) 5 0 (some (140 + n))) _) = _ ∧ _
    generalize h_pi M 814 (200 + (40 + n)) (nI t) = M1 at *
    generalize s_u S 36 n (nI t) = S1 at *
    have hI1 := hb1.I
    obtain ⟨a, f, M2, S2, x1, x2, x3, x4, x5⟩ := H_draft (v1 := nI 3) (v2 := 16777214) (v3 := S1.1 35 n) (v4 := 0) 0 0 hb1 (by show 0 ≤ 3; omega) (by show 0 ≤ 3; omega)
    have l13 : (hdL (nI 3) 16777214 (S1.1 35 n) 0 0 0).length = 13 := hd_len
    obtain ⟨M3, S3, y1, y2, y3, y4, y5⟩ := H_load (n := 1) (u := Int32.toInt64 (nI n)) x4 (by rw [l13]; omega) (by omega) (by rw [l13]; omega)
    obtain ⟨M4, S4, fm, z1, z2, z3, z4⟩ := H_post y4 hx (tru_g (by omega) (by rw [byL_len]; omega) (Or.inl ⟨by omega, byL_len _ _, by rw [bn_1 (by omega)]; exact hn⟩)) (by rw [List.length_append, l13]; omega) (by rw [List.length_append, l13, byL_len]; omega)
    have hI2 := x4.I
    have hI3 := y4.I
    refine ⟨M4, S4, fm, ?_, ?_, z3, ((hN1.fst hI1 x5).fst hI2 y5).fst hI3 z4⟩
    · have q503 : g_i M1 5 3 (some (140 + n)) = some (S1.1 35 n) := (g_i_t (ci := 5) (hI1.no0 hn)).trans (congrArg some (hN1.2.1 n hn))
      have x1' : c_R (f34 [.inr (.inr (some 2)), .inl 3, .inl 16777214, .inl (S1.1 35 n), .inl 0] M1) = some (some a, M2) := by
        have : f34 [.inr (.inr (some 2)), .inl 3, .inl 16777214, .inl (S1.1 35 n), .inl 0] M1 = some (some (.inr (.inr (some a))), M2) := x1
        rw [this]; rfl
      have y1' : f36 [.inr (.inr (some a)), .inl 1, .inr (.inl (Int32.toInt64 (nI n)))] M2 = some (none, M3) := y1
      rw [bd_s ((g_r_t (ci := 5) (hI1.no0 hn)).trans (congrArg some (hI1.no1 hn))), bd_s q503, bd_s (g_o_t (ci := 9) hI1.sh0), bd_s x1', bd_s ((g_i_t (ci := 5) (hI2.no0 hn)).trans (congrArg some (hI2.no2 hn))), bd_s (g_o_t (ci := 2) x3), bd_s (c_V_of y1'), bd_s ((g_r_t (ci := 5) (hI3.no0 hn)).trans (congrArg some (hI3.no3 hn))), bd_s (g_o_t (ci := 8) (hI3.po0 hx)), bd_s (c_V_of z1)]
      rfl
    · have t35 : s_a S1 35 (nI n) = some (S1.1 35 n) := ga35 (by omega)
      have x2' : e168 3 16777214 (S1.1 35 n) 0 0 0 S1 = some (nI f, S2) := x2
      have y2' : e167 (nI f) (Int32.toInt64 (nI n)) 1 S2 = some S3 := y2
      rw [bd_s t35, bd_s x2', bd_s y2', bd_s z2]
      exact e86 S4
  rw [fdef, edef]
  unfold b40_0 c208_0
  rw [bd_s g503, bd_s e176_v, bd_s e7, bd_s s36, bd_s s35, sg]
  by_cases z0 : S.1 35 n = 0
  · rw [if_pos z0, if_pos z0]
    exact go 30
  · rw [if_neg z0, if_neg z0]
    exact go 90
/-- the frames that came -/
theorem P_nl (hn : n < nd) (hlv : lv n = false) : ∀ c M S ia fl jj G fuel fus, HB sw nd rm M S ia w pe wo t zb sb fl [] [] kR ka tog → NR nd M S t nc ca hh lv jj G → (fl (48 + (40 + n))).length = c → jj n + c ≤ 4 → c < fuel → c < fus → ∃ M' S' ib fm jj' G', drive k94 fuel 11 [.inr (.inr (some (140 + n))), .inl (nI c)] M = drive k94 (fuel - c) 11 [.inr (.inr (some (140 + n))), .inl (nI 0)] M' ∧ sdrive kS221 fus 6 [.inl (nI n), .inl (nI (40 + n))] S = sdrive kS221 (fus - c) 6 [.inl (nI n), .inl (nI (40 + n))] S' ∧ HB sw nd rm M' S' ib w pe wo t zb sb fm [] [] kR ka tog ∧ NR nd M' S' t nc ca hh lv jj' G' ∧ fm (48 + (40 + n)) = [] ∧ jj' n ≤ 4 ∧ (∀ m, m ≠ n → G' m = G m ∧ jj' m = jj m)
  | 0, M, S, ia, fl, jj, G, fuel, fus, h, hN, hc, hj, hf, hg => ⟨M, S, ia, fl, jj, G, rfl, rfl, h, hN, List.eq_nil_of_length_eq_zero hc, by omega, fun _ _ => ⟨rfl, rfl⟩⟩
  | c + 1, M, S, ia, fl, jj, G, fuel, fus, h, hN, hc, hj, hf, hg => by
    obtain ⟨fu, rfl⟩ : ∃ f, fuel = f + 1 := ⟨fuel - 1, by omega⟩
    obtain ⟨gu, rfl⟩ : ∃ g, fus = g + 1 := ⟨fus - 1, by omega⟩
    have hI := h.I
    have hsw := hI.bs.1.2
    have hnd := hI.bs.2.1.2
    have hx : sd sw nd (40 + n) := sd_n hn
    have hx8 := hI.x8 hx
    obtain ⟨L, r, hfl⟩ : ∃ L r, fl (48 + (40 + n)) = L :: r := by
      cases q : fl (48 + (40 + n)) with
      | nil => rw [q] at hc; cases hc
      | cons L r => exact ⟨L, r, rfl⟩
    have hrc : r.length = c := by rw [hfl, List.length_cons] at hc; omega
    obtain ⟨a, g, f, M1, S1, m1, s1, b1, htr, h17, kM, kS, i1⟩ := H_leave h hx hfl
    have hN1 : NR nd M1 S1 t nc ca hh lv jj G := hN.kp hI kM (by decide) (by decide) i1 kS (by decide)
    have hI1 := b1.I
    have hX : rd M1 a L := b1.rd (u := (a, g, L)) List.mem_cons_self
    have h202 : h_fi M1 202 a = g := (b1.1.pb.rd (t := (a, g, L)) List.mem_cons_self).2
    have hXs : rdS S1 f L := b1.rdS (u := (f, L)) List.mem_cons_self
    have e63 := f63_eq hX hI1.sh0 hI1.sh1 hI1.sh2 (by omega) (by omega) h17 (fun q => htr (by rw [← h202]; exact q))
    have g166 : e166 (nI f) 1 3 S1 = some (num L 1 3, S1) := r166 (i := 1) (n := 3) hXs (by omega)
    have g174 := e174_eq hXs b1.1.st.2.2.1.1 b1.1.st.2.2.1.2.1 (by omega) (by omega) h17
    have g0 : e165 (nI f) 0 S1 = some (nI (bn L 0), S1) := r165 (i := 0) hXs (by omega)
    have g4 : e166 (nI f) 4 3 S1 = some (num L 4 3, S1) := r166 (i := 4) (n := 3) hXs (by omega)
    have e57 := f57_eq hX (by omega)
    have e64 := f64_eq hX (by omega)
    have e65 := f65_eq hX (by omega)
    have o2 : g_o M1 2 (some a) = some a := g_o_t (ci := 2) hX.1.1
    have tno1 := hI1.no0 hn
    have g500 : g_r M1 5 0 (some (140 + n)) = some (some 2) := (g_r_t (ci := 5) tno1).trans (congrArg some (hI1.no1 hn))
    have m1' : c_R (f54 [.inr (.inr (some (200 + (40 + n))))] M) = some (some a, M1) := by rw [m1]; rfl
    have g502 : g_r M 5 2 (some (140 + n)) = some (some (200 + (40 + n))) := (g_r_t (ci := 5) (hI.no0 hn)).trans (congrArg some (hI.no3 hn))
    have s17 : s_a S 17 (nI (40 + n)) = some (nI (c + 1)) := by rw [ga17 hx8, (h.n17 hx8).1, hc]
    have c1n : S1.1 17 (40 + n) = nI c := by
      rw [(b1.n17 hx8).1, u1_eq, hrc]
    have bd4 := bn_lt L 0
    have k4 : (nI (bn L 0) = 4) ↔ (bn L 0 = 4) := by
      have := bn_k (L := L) (k := 4) (by omega)
      exact Iff.of_eq this
    -- how both come to the end of this frame
    have fin : ∀ N T ib fm jj1 G1, HB sw nd rm N T ib w pe wo t zb sb fm [(a, g, L)] [(f, L)] kR ka tog → NR nd N T t nc ca hh lv jj1 G1 → T.1 17 (40 + n) = nI c → jj1 n ≤ jj n + 1 → (∀ m, m ≠ n → G1 m = G m ∧ jj1 m = jj m) → k94 11 [.inr (.inr (some (140 + n))), .inl (nI (c + 1))] M = b94_131 (140 + n) (nI (c + 1)) (some a) N → kS221 6 [.inl (nI n), .inl (nI (40 + n))] S = c221_110 (nI n) (nI (40 + n)) (nI f) T → ∃ M' S' ib fm jj' G', drive k94 (fu + 1) 11 [.inr (.inr (some (140 + n))), .inl (nI (c + 1))] M = drive k94 (fu + 1 - (c + 1)) 11 [.inr (.inr (some (140 + n))), .inl (nI 0)] M' ∧ sdrive kS221 (gu + 1) 6 [.inl (nI n), .inl (nI (40 + n))] S = sdrive kS221 (gu + 1 - (c + 1)) 6 [.inl (nI n), .inl (nI (40 + n))] S' ∧ HB sw nd rm M' S' ib w pe wo t zb sb fm [] [] kR ka tog ∧ NR nd M' S' t nc ca hh lv jj' G' ∧ fm (48 + (40 + n)) = [] ∧ jj' n ≤ 4 ∧ (∀ m, m ≠ n → G' m = G m ∧ jj' m = jj m) := fun N T ib fm jj1 G1 q1 q2 q3 q4 q5 q6 q7 => by
      obtain ⟨M2, S2, y1, y2, y3, y4⟩ := H_rel q1
      have hIN := q1.I
      have st1 : k94 11 [.inr (.inr (some (140 + n))), .inl (nI (c + 1))] M = some (.inr (11, [.inr (.inr (some (140 + n))), .inl (nI c)], M2)) := by
        rw [q6]
        unfold b94_131
        rw [bd_s ((g_r_t (ci := 5) (hIN.no0 hn)).trans (congrArg some (hIN.no1 hn))), bd_s (g_o_t (ci := 9) hIN.sh0), bd_s (c_V_of y1), pk_m1]
      have st2 : kS221 6 [.inl (nI n), .inl (nI (40 + n))] S = some (.inr (6, [.inl (nI n), .inl (nI (40 + n))], S2)) := by
        rw [q7]
        unfold c221_110
        rw [bd_s y2]
      have hl : (fm (48 + (40 + n))).length = c := by
        have e := (y3.n17 hx8).1
        rw [y4.2.2.i (by decide), q3] at e
        exact ((nI_eq (by omega) (by have := (y3.n17 hx8).2; omega)).mp e).symm
      obtain ⟨M3, S3, ib3, fm3, jj3, G3, w1, w2, w3, w4, w5, w6, w7⟩ := P_nl hn hlv c M2 S2 ib fm jj1 G1 fu gu y3 (q2.fst hIN y4) hl (by omega) (by omega) (by omega)
      refine ⟨M3, S3, ib3, fm3, jj3, G3, ?_, ?_, w3, w4, w5, w6, fun m hm => ⟨(w7 m hm).1.trans (q5 m hm).1, (w7 m hm).2.trans (q5 m hm).2⟩⟩
      · rw [dr_go st1, show fu + 1 - (c + 1) = fu - c by omega]; exact w1
      · rw [sd_go st2, show gu + 1 - (c + 1) = gu - c by omega]; exact w2
    have base1 : True → k94 11 [.inr (.inr (some (140 + n))), .inl (nI (c + 1))] M = (if b2 (tru sw nd L) = 0 then _ else if nI (bn L 0) = 4 then _ else b94_80 (140 + n) (nI (c + 1)) (some a) M1) := fun _ => by
      show b94_11 (140 + n) (nI (c + 1)) M = _
      unfold b94_11
      rw [if_neg (show ¬ nI (c + 1) ≤ 0 from nI_ge (a := 0) (by omega) (by omega)), bd_s g502, bd_s (g_o_t (ci := 8) (hI.po0 hx)), bd_s m1', if_neg (by simp), bd_s g500, bd_s o2, bd_s (c_I_of e63), bd_s o2, bd_s (c_I_of e57)]
    have base2 : True → kS221 6 [.inl (nI n), .inl (nI (40 + n))] S = (if b2 (tru sw nd L) = 0 then _ else if nI (bn L 0) = 4 then _ else c221_84 (nI n) (nI (40 + n)) (nI f) (num L 1 3) S1) := fun _ => by
      show c221_6 (nI n) (nI (40 + n)) S = _
      unfold c221_6
      rw [bd_s s17, if_neg (show ¬ nI (c + 1) ≤ 0 from nI_ge (a := 0) (by omega) (by omega)), bd_s s1, bd_s g166, bd_s g174, bd_s g0]
    have base1 := base1 trivial
    have base2 := base2 trivial
    cases htl : tru sw nd L with
    | false =>
      rw [htl, if_pos (show b2 false = 0 from rfl)] at base1 base2
      obtain ⟨M2, y1, y2, y3⟩ := H_tly (k := 1) b1 (by omega) (by omega)
      refine fin M2 (s_u S1 4 1 (S1.1 4 1 + 1)) ia _ jj G y2 (hN1.fst hI1 y3) (by rw [su_ne (by decide)]; exact c1n) (by omega) (fun _ _ => ⟨rfl, rfl⟩) ?_ ?_
      · have y1' : f37 [.inr (.inr (some 2)), .inl 1] M1 = some (none, M2) := y1
        rw [base1, bd_s g500, bd_s (g_o_t (ci := 9) hI1.sh0), bd_s (c_V_of y1')]
      · have t1 : s_a S1 4 1 = some (S1.1 4 1) := ga4 (i := 1) (by omega)
        have t2 : s_s S1 4 1 (S1.1 4 1 + 1) = some (s_u S1 4 1 (S1.1 4 1 + 1)) := gs4 (i := 1) (by omega)
        rw [base2, bd_s t1, bd_s t2]
    | true =>
      rw [htl, if_neg (show ¬ b2 true = 0 by decide)] at base1 base2
      -- to the node itself
      have toN : k94 11 [.inr (.inr (some (140 + n))), .inl (nI (c + 1))] M = b94_80 (140 + n) (nI (c + 1)) (some a) M1 → kS221 6 [.inl (nI n), .inl (nI (40 + n))] S = c221_84 (nI n) (nI (40 + n)) (nI f) (num L 1 3) S1 → ∃ M' S' ib fm jj' G', drive k94 (fu + 1) 11 [.inr (.inr (some (140 + n))), .inl (nI (c + 1))] M = drive k94 (fu + 1 - (c + 1)) 11 [.inr (.inr (some (140 + n))), .inl (nI 0)] M' ∧ sdrive kS221 (gu + 1) 6 [.inl (nI n), .inl (nI (40 + n))] S = sdrive kS221 (gu + 1 - (c + 1)) 6 [.inl (nI n), .inl (nI (40 + n))] S' ∧ HB sw nd rm M' S' ib w pe wo t zb sb fm [] [] kR ka tog ∧ NR nd M' S' t nc ca hh lv jj' G' ∧ fm (48 + (40 + n)) = [] ∧ jj' n ≤ 4 ∧ (∀ m, m ≠ n → G' m = G m ∧ jj' m = jj m) := fun q1 q2 => by
        have ad := hN1.2.1 n hn
        have g503 : g_i M1 5 3 (some (140 + n)) = some (S1.1 35 n) := (g_i_t (ci := 5) tno1).trans (congrArg some ad)
        have s35 : s_a S1 35 (nI n) = some (S1.1 35 n) := ga35 (by omega)
        by_cases z0 : S1.1 35 n = 0
        · refine fin M1 S1 ia _ jj G b1 hN1 c1n (by omega) (fun _ _ => ⟨rfl, rfl⟩) ?_ ?_
          · rw [q1]; unfold b94_80; rw [bd_s g503, if_pos z0]
          · rw [q2]; unfold c221_84; rw [bd_s s35, if_pos z0]
        by_cases z1 : num L 1 3 = S1.1 35 n
        · cases hG : G n with
          | inl R =>
            have ho := hN1.ho hn hG
            obtain ⟨M2, S2, ib, fm, y1, y2, y3, y4⟩ := P_hget b1 hN1 hn hG hlv htl h17
            have g4' : g_r M1 5 4 (some (140 + n)) = some (some (150 + n)) := (g_r_t (ci := 5) tno1).trans (congrArg some ho.1.1)
            refine fin M2 S2 ib fm jj G y3 y4 (by rw [(ke211 y2).i (by decide)]; exact c1n) (by omega) (fun _ _ => ⟨rfl, rfl⟩) ?_ ?_
            · rw [q1]; unfold b94_80; rw [bd_s g503, if_neg z0, bd_s o2, bd_s (c_I_of e64), bd_s g503, if_pos z1, bd_s g4', if_neg (by simp), bd_s g4', bd_s (g_o_t (ci := 4) (hI1.ho0 hn)), bd_s (c_V_of y1)]
            · have t33 : s_a S1 33 (nI n) = some 0 := by rw [ga33 (by omega), ho.1.2.2]
              have e219' : e219 (nI n) (nI f) S1 = some S2 := by
                show s_out (c219_0 (nI n) (nI f) S1) = _
                unfold c219_0
                rw [bd_s t33, if_pos rfl, bd_s y2]; rfl
              rw [q2]; unfold c221_84; rw [bd_s s35, if_neg z0, bd_s s35, if_pos z1, bd_s e219']
          | inr q =>
            obtain ⟨dk, OL⟩ := q
            obtain ⟨h1, h2, -⟩ := hN1.dd hn hG
            obtain ⟨M2, S2, ib, fm, OL', j', y1, y2, y3, y4, y5⟩ := P_dget b1 hN1 hn hG htl h17 (by omega)
            have g4' : g_r M1 5 4 (some (140 + n)) = some none := (g_r_t (ci := 5) tno1).trans (congrArg some h1.1)
            have g5' : g_r M1 5 5 (some (140 + n)) = some (some dk) := (g_r_t (ci := 5) tno1).trans (congrArg some h1.2.1)
            refine fin M2 S2 ib fm (u1 jj n j') (u1 G n (.inr (dk, OL'))) y3 y4 (by rw [(ke218 y2).i (by decide)]; exact c1n) (by rw [u1_eq]; exact y5) (fun m hm => ⟨u1_ne hm, u1_ne hm⟩) ?_ ?_
            · rw [q1]; unfold b94_80; rw [bd_s g503, if_neg z0, bd_s o2, bd_s (c_I_of e64), bd_s g503, if_pos z1, bd_s g4', if_pos rfl, bd_s g5', if_neg (by simp), bd_s g5', bd_s (g_o_t (ci := 1) h2.2.1.1), bd_s (c_V_of y1)]
            · have t33 : s_a S1 33 (nI n) = some 1 := by rw [ga33 (by omega), h1.2.2]
              have e219' : e219 (nI n) (nI f) S1 = some S2 := by
                show s_out (c219_0 (nI n) (nI f) S1) = _
                unfold c219_0
                rw [bd_s t33, if_neg (by decide), bd_s y2]; rfl
              rw [q2]; unfold c221_84; rw [bd_s s35, if_neg z0, bd_s s35, if_pos z1, bd_s e219']
        · refine fin M1 S1 ia _ jj G b1 hN1 c1n (by omega) (fun _ _ => ⟨rfl, rfl⟩) ?_ ?_
          · rw [q1]; unfold b94_80; rw [bd_s g503, if_neg z0, bd_s o2, bd_s (c_I_of e64), bd_s g503, if_neg z1]
          · rw [q2]; unfold c221_84; rw [bd_s s35, if_neg z0, bd_s s35, if_neg z1]
      by_cases z4 : bn L 0 = 4
      · rw [if_pos (k4.mpr z4)] at base1 base2
        rw [bd_s o2, bd_s (c_I_of e65)] at base1
        rw [bd_s g4] at base2
        by_cases z5 : num L 4 3 = 16777214
        · rw [if_pos z5] at base1 base2
          obtain ⟨M2, S2, ib, G', y1, y2, y3, y4, y5, y6, y7⟩ := P_addr (v := num L 1 3) b1 hN1 hn
          refine fin M2 S2 ib _ jj G' y3 y4 (by rw [(ke220 y2).i (by decide)]; exact c1n) (by omega) (fun m hm => ⟨y5 m hm, rfl⟩) ?_ ?_
          · rw [base1, bd_s o2, bd_s (c_I_of e64), bd_s (g_o_t (ci := 5) tno1), bd_s (c_V_of y1)]
          · rw [base2, bd_s y2]
        · rw [if_neg z5] at base1 base2
          exact toN base1 base2
      · rw [if_neg (fun q => z4 (k4.mp q))] at base1 base2
        exact toN base1 base2
/-- a node's turn -/
theorem P_node (h : HB sw nd rm M S ia w pe wo t zb sb fl [] [] kR ka tog) (hN : NR nd M S t nc ca hh lv jj G) (hn : n < nd) (hlv : lv n = false) (hj : jj n = 0) : ∃ M' S' ib fm jj' G', f94 [.inr (.inr (some (140 + n)))] M = some (none, M') ∧ e221 (nI n) S = some S' ∧ HB sw nd rm M' S' ib w pe wo t zb sb fm [] [] kR ka tog ∧ NR nd M' S' t nc ca hh (u1 lv n true) jj' G' ∧ (∀ m, m ≠ n → G' m = G m ∧ jj' m = jj m) ∧ jj' n ≤ 4 ∧ (∀ q, G' n = .inr q → ∀ e, e ∈ q.2 → ∀ o, o ≤ 200000 → e.2.1 7 = nI o → t < o + 120) := by
  have hI := h.I
  have hnd := hI.bs.2.1.2
  have hx : sd sw nd (40 + n) := sd_n hn
  have hx8 := hI.x8 hx
  obtain ⟨hc17, hc4⟩ := h.n17 hx8
  have nc3 := hN.1.1.2.2
  obtain ⟨M1, S1, ib1, fm1, jj1, G1, a1, a2, a3, a4, a5, a6, a7⟩ := P_nl hn hlv (fl (48 + (40 + n))).length M S ia fl jj G xF xF h hN rfl (by omega) (by unfold xF; omega) (by unfold xF; omega)
  obtain ⟨M2, S2, fm2, b1, b2, b3, b4⟩ := P_call a3 a4 hn
  have s17 : s_a S1 17 (nI (40 + n)) = some 0 := by
    rw [ga17 hx8, (a3.n17 hx8).1, a5]; rfl
  obtain ⟨fu, hfu⟩ : ∃ g, xF - (fl (48 + (40 + n))).length = g + 1 := ⟨xF - (fl (48 + (40 + n))).length - 1, by unfold xF; omega⟩
  -- the two endings
  have fin : ∀ N T ib fm jj' G', HB sw nd rm N T ib w pe wo t zb sb fm [] [] kR ka tog → NR nd N T t nc ca hh (u1 lv n true) jj' G' → (∀ m, m ≠ n → G' m = G m ∧ jj' m = jj m) → jj' n ≤ 4 → (∀ q, G' n = .inr q → ∀ e, e ∈ q.2 → ∀ o, o ≤ 200000 → e.2.1 7 = nI o → t < o + 120) → b94_145 (140 + n) M1 = b94_177 (140 + n) N → e208 (nI n) S1 = some T → ∃ M' S' ib fm jj' G', f94 [.inr (.inr (some (140 + n)))] M = some (none, M') ∧ e221 (nI n) S = some S' ∧ HB sw nd rm M' S' ib w pe wo t zb sb fm [] [] kR ka tog ∧ NR nd M' S' t nc ca hh (u1 lv n true) jj' G' ∧ (∀ m, m ≠ n → G' m = G m ∧ jj' m = jj m) ∧ jj' n ≤ 4 ∧ (∀ q, G' n = .inr q → ∀ e, e ∈ q.2 → ∀ o, o ≤ 200000 → e.2.1 7 = nI o → t < o + 120) := fun N T ib fm jj' G' q1 q2 q3 q4 q5 q6 q7 => by
    obtain ⟨M4, S4, fm4, z1, z2, z3, z4⟩ := P_sfT (fl := fm) q1 hx
    have hIN := q1.I
    have kM := kf45 z1 q1.bk
    have kS := ke184 z2
    refine ⟨M4, S4, ib, fm4, jj', G', ?_, ?_, z3, q2.kp hIN kM (by decide) (by decide) z4 kS (by decide), q3, q4, q5⟩
    · show x_go k94 (b94_0 (140 + n) M) = _
      have g502 : g_r M 5 2 (some (140 + n)) = some (some (200 + (40 + n))) := (g_r_t (ci := 5) (hI.no0 hn)).trans (congrArg some (hI.no3 hn))
      have g810 : g_r M 8 10 (some (200 + (40 + n))) = some (some (300 + (40 + n))) := (g_r_t (ci := 8) (hI.po0 hx)).trans (congrArg some (hI.po5 hx))
      have g302 : g_i M 3 2 (some (300 + (40 + n))) = some (nI (fl (48 + (40 + n))).length) := (g_i_t (ci := 3) (hI.po7 hx)).trans (congrArg some (by
        obtain ⟨ct, c1, -⟩ := h.1.pb
        have := FC_sz (p := 48 + (40 + n)) c1 (by omega) (by omega) (by rw [md_b hx8]; exact hx)
        rw [lq_b hx8] at this
        exact this))
      unfold b94_0
      rw [bd_s g502, bd_s g810, bd_s g302]
      show drive k94 xF 11 [.inr (.inr (some (140 + n))), .inl (nI (fl (48 + (40 + n))).length)] M = _
      rw [a1, hfu]
      refine dr_end ?_
      show b94_11 (140 + n) (nI 0) M1 = _
      unfold b94_11
      rw [if_pos (by decide), q6]
      unfold b94_177
      rw [bd_s ((g_r_t (ci := 5) (hIN.no0 hn)).trans (congrArg some (hIN.no3 hn))), bd_s (g_o_t (ci := 8) (hIN.po0 hx)), bd_s (c_V_of z1)]
    · show s_go kS221 (c221_0 (nI n) S) = _
      unfold c221_0
      rw [bd_s e176_v]
      show sdrive kS221 xF 6 [.inl (nI n), .inl (nI (40 + n))] S = _
      rw [a2, hfu]
      refine sd_end ?_
      show c221_6 (nI n) (nI (40 + n)) S1 = _
      unfold c221_6
      rw [bd_s s17, if_pos (by decide), bd_s q7, bd_s z2]
  have hI1 := a3.I
  have hI2 := b3.I
  have o5 : g_o M1 5 (some (140 + n)) = some (140 + n) := g_o_t (ci := 5) (hI1.no0 hn)
  cases hG1 : G1 n with
  | inl R =>
    have ho := b4.ho hn hG1
    obtain ⟨M3, S3, ib3, fm3, c1, c2, c3, c4, c5⟩ := P_htim (fus := xF) b3 b4 hn hG1 hlv (by show 0 ≤ 3; omega) (by show 0 ≤ 3; omega) (by unfold xF; omega)
    have ho3 := c4.ho hn hG1
    refine fin M3 S3 ib3 fm3 jj1 G1 c3 c4 a7 a6 (fun q hq => by rw [hG1] at hq; cases hq) ?_ ?_
    · have g4' : g_r M2 5 4 (some (140 + n)) = some (some (150 + n)) := (g_r_t (ci := 5) (hI2.no0 hn)).trans (congrArg some ho.1.1)
      have g5' : g_r M3 5 5 (some (140 + n)) = some none := (g_r_t (ci := 5) (c3.I.no0 hn)).trans (congrArg some ho3.1.2.1)
      unfold b94_145
      rw [bd_s o5, bd_s (c_V_of b1), bd_s g4', if_neg (by simp), bd_s g4', bd_s (g_o_t (ci := 4) (hI2.ho0 hn)), bd_s (c_V_of c1)]
      unfold b94_163
      rw [bd_s g5', if_pos rfl]
    · rw [b2, c2]
      obtain ⟨g', hg'⟩ : ∃ g, xF - nc - 1 = g + 1 := ⟨xF - nc - 2, by unfold xF; omega⟩
      rw [hg']
      refine sd_end ?_
      have s46 : s_a S3 46 (nI n) = some 0 := by rw [ga46 (by omega), ho3.2.2.2.2.2.1]
      show c208_129 (nI n) (nI 0) S3 = _
      unfold c208_129
      rw [bd_s s46, if_pos (by decide)]
  | inr q =>
    obtain ⟨dk, OL⟩ := q
    obtain ⟨h1, h2, -⟩ := b4.dd hn hG1
    have hno : ∀ c, c < nc → hh c ≠ n := by
      have := b4.2.2.1 n hn
      rw [hG1] at this
      exact this.2.1
    have e1 := P_dtim b4 hno hnd hn nc 0 xF (by omega) (by unfold xF; omega)
    obtain ⟨M3, S3, ib3, OL', c1, c2, c3, c4, c5⟩ := P_dtm (fus := xF - nc - 1) b3 b4 hn hG1 (by unfold xF; omega)
    have c4' : NR nd M3 S3 t nc ca hh (u1 lv n true) jj1 (u1 G1 n (.inr (dk, OL'))) := c4.lvl h.t3 (fun c hc hcn => absurd hcn (hno c hc))
    refine fin M3 S3 ib3 fm2 jj1 (u1 G1 n (.inr (dk, OL'))) c3 c4' (fun m hm => ⟨by rw [u1_ne hm]; exact (a7 m hm).1, (a7 m hm).2⟩) a6 (fun q hq e he o o1 o2 => ?_) ?_ ?_
    · rw [u1_eq] at hq
      cases hq
      exact c5 e he o o1 o2
    · have g4' : g_r M2 5 4 (some (140 + n)) = some none := (g_r_t (ci := 5) (hI2.no0 hn)).trans (congrArg some h1.1)
      have g5' : g_r M2 5 5 (some (140 + n)) = some (some dk) := (g_r_t (ci := 5) (hI2.no0 hn)).trans (congrArg some h1.2.1)
      unfold b94_145
      rw [bd_s o5, bd_s (c_V_of b1), bd_s g4', if_pos rfl]
      unfold b94_163
      rw [bd_s g5', if_neg (by simp), bd_s g5', bd_s (g_o_t (ci := 1) h2.2.1.1), bd_s (c_V_of c1)]
    · rw [b2, e1]; exact c2
/-- all nodes -/
theorem P_nodes {v1 v2 v3 v4 : Int32} : ∀ d u M S ia fl lv jj G fuel fus, HB sw nd rm M S ia w pe wo t zb sb fl [] [] kR ka tog → NR nd M S t nc ca hh lv jj G → u + d = nd → d < fuel → d < fus → (∀ m, m < nd → u ≤ m → lv m = false ∧ jj m = 0) → (∀ m, m < nd → m < u → lv m = true ∧ jj m ≤ 4 ∧ ∀ q, G m = .inr q → ∀ e, e ∈ q.2 → ∀ o, o ≤ 200000 → e.2.1 7 = nI o → t < o + 120) → ∃ M' S' ib fm lv' jj' G', drive k140 fuel 109 [.inr (.inr (some 1)), .inl v1, .inl v2, .inl v3, .inl (nI u)] M = drive k140 (fuel - d - 1) 17 [.inr (.inr (some 1)), .inl v1, .inl v2, .inl (v3 + 1)] M' ∧ sdrive kS231 fus 173 [.inl v4, .inl (nI u)] S = some (v4, S') ∧ HB sw nd rm M' S' ib w pe wo t zb sb fm [] [] kR ka tog ∧ NR nd M' S' t nc ca hh lv' jj' G' ∧ ∀ m, m < nd → lv' m = true ∧ jj' m ≤ 4 ∧ ∀ q, G' m = .inr q → ∀ e, e ∈ q.2 → ∀ o, o ≤ 200000 → e.2.1 7 = nI o → t < o + 120
  | 0, u, M, S, ia, fl, lv, jj, G, fuel, fus, h, hN, hu, hf, hg, h1, h2 => by
    obtain ⟨f, rfl⟩ : ∃ f, fuel = f + 1 := ⟨fuel - 1, by omega⟩
    obtain ⟨g, rfl⟩ : ∃ g, fus = g + 1 := ⟨fus - 1, by omega⟩
    have hu : u = nd := by omega
    subst hu
    have hI := h.I
    have hnd := hI.bs.2.1.2
    have e : nI u ≤ nI u := nI_le (by omega) (by omega)
    have g1 : g_r M 11 2 (some 1) = some (some 9) := (g_r_t (ci := 11) hI.fab0).trans (congrArg some hI.fab3)
    have gl : a_ln M 35 (some 9) = some (nI u) := by rw [a_ln_t hI.ar12, hI.ar13]
    have st1 : k140 109 [.inr (.inr (some 1)), .inl v1, .inl v2, .inl v3, .inl (nI u)] M = some (.inr (17, [.inr (.inr (some 1)), .inl v1, .inl v2, .inl (v3 + 1)], M)) := by
      show b140_109 1 v1 v2 v3 (nI u) M = _
      unfold b140_109; rw [bd_s g1, bd_s gl, if_pos e]
    refine ⟨M, S, ia, fl, lv, jj, G, dr_go st1, sd_end ?_, h, hN, fun m hm => h2 m hm hm⟩
    · have s1 : s_g S 1 = nI u := h.1.st.2.2.1.2.1
      show c231_173 v4 (nI u) S = _
      unfold c231_173; rw [s1, if_pos e]
  | d + 1, u, M, S, ia, fl, lv, jj, G, fuel, fus, h, hN, hu, hf, hg, h1, h2 => by
    obtain ⟨f, rfl⟩ : ∃ f, fuel = f + 1 := ⟨fuel - 1, by omega⟩
    obtain ⟨g, rfl⟩ : ∃ g, fus = g + 1 := ⟨fus - 1, by omega⟩
    have hI := h.I
    have hnd := hI.bs.2.1.2
    have hun : u < nd := by omega
    have e : ¬ nI nd ≤ nI u := nI_ge (by omega) (by omega)
    have g1 : g_r M 11 2 (some 1) = some (some 9) := (g_r_t (ci := 11) hI.fab0).trans (congrArg some hI.fab3)
    have gl : a_ln M 35 (some 9) = some (nI nd) := by rw [a_ln_t hI.ar12, hI.ar13]
    have gs : al_r M 35 (some 9) (nI u) = some (some (140 + u)) := (al_r_t hI.ar12 (by rw [hI.ar13]; exact hun) (by omega)).trans (congrArg some (hI.no4 hun))
    obtain ⟨M1, S1, ib, fm, jj1, G1, j1, j2, j3, j4, j5, j6, j7⟩ := P_node h hN hun (h1 u hun (Nat.le_refl _)).1 (h1 u hun (Nat.le_refl _)).2
    have st1 : k140 109 [.inr (.inr (some 1)), .inl v1, .inl v2, .inl v3, .inl (nI u)] M = some (.inr (109, [.inr (.inr (some 1)), .inl v1, .inl v2, .inl v3, .inl (nI (u + 1))], M1)) := by
      show b140_109 1 v1 v2 v3 (nI u) M = _
      unfold b140_109; rw [bd_s g1, bd_s gl, if_neg e, bd_s g1, bd_s gs, bd_s (g_o_t (ci := 5) (hI.no0 hun)), bd_s (c_V_of j1), nI_1]
    have st2 : kS231 173 [.inl v4, .inl (nI u)] S = some (.inr (173, [.inl v4, .inl (nI (u + 1))], S1)) := by
      have s1 : s_g S 1 = nI nd := h.1.st.2.2.1.2.1
      show c231_173 v4 (nI u) S = _
      unfold c231_173; rw [s1, if_neg e, bd_s j2, nI_1]
    obtain ⟨M2, S2, ib2, fm2, lv2, jj2, G2, r1, r2, r3, r4, r5⟩ := P_nodes d (u + 1) M1 S1 ib fm (u1 lv u true) jj1 G1 f g j3 j4 (by omega) (by omega) (by omega) (fun m hm hum => by
      rw [u1_ne (by omega), (j5 m (by omega)).2]; exact h1 m hm (by omega)) (fun m hm hum => by
      by_cases z : m = u
      · subst z; exact ⟨u1_eq, j6, j7⟩
      · rw [u1_ne z, (j5 m z).1, (j5 m z).2]; exact h2 m hm (by omega))
    refine ⟨M2, S2, ib2, fm2, lv2, jj2, G2, ?_, ?_, r3, r4, r5⟩
    · rw [dr_go st1, show f + 1 - (d + 1) - 1 = f - d - 1 by omega]; exact r1
    · rw [sd_go st2]; exact r2
end NT
