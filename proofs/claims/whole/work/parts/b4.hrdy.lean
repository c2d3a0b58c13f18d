/-! ===== READY of a host; all it gets ===== -/
section HY
variable {sw nd rm : Nat} {M M' N : hM} {S S' T : sT} {ia ib : Nat → Nat → Int32} {w t x y zb sb a f n c nc fus : Nat} {pe : Nat → Option Nat} {wo : Nat → Nat} {fl fm : Nat → List (List Int32)} {hc hc' : List (Nat × Int32 × List Int32)} {hs hs' : List (Nat × List Int32)} {L : List Int32} {kR : Nat → rK} {ka : Nat → Nat → Nat} {tog : Nat → Bool} {ca hh : Nat → Nat} {lv : Nat → Bool} {jj : Nat → Nat} {G : Nat → nG} {R : List Nat} {g : Int32}
/-- takeReady -/
theorem P_rd (h : HB sw nd rm M S ia w pe wo t zb sb fl [(a, g, L)] [(f, L)] kR ka tog) (hN : NR nd M S t nc ca hh lv jj G) (hn : n < nd) (hG : G n = .inl R) (h13 : 13 ≤ L.length) : ∃ M' S' ib fm, f89 [.inr (.inr (some (150 + n))), .inr (.inr (some a))] M = some (none, M') ∧ s_out (c211_273 (nI n) (nI f) (nI 10) (num L 4 3) S) = some S' ∧ HB sw nd rm M' S' ib w pe wo t zb sb fm [(a, g, L)] [(f, L)] kR ka tog ∧ NR nd M' S' t nc ca hh lv jj G := by
  have hI := h.I
  have hnd := hI.bs.2.1.2
  have nc3 := hN.1.1.2.2
  have hX : rd M a L := h.rd (u := (a, g, L)) List.mem_cons_self
  have hXs : rdS S f L := h.rdS (u := (f, L)) List.mem_cons_self
  obtain ⟨R1, R2⟩ := ref273 (k := 10) (p := 2) h hN hn hXs h13 (by omega)
  obtain ⟨o, o1, o2⟩ := P_cof (p := 2) h hN hn hG hX h13 (by omega)
  have o1' : c_R (f83 [.inr (.inr (some (150 + n))), .inr (.inr (some a)), .inl 2] M) = some (o, M) := by
    have : f83 [.inr (.inr (some (150 + n))), .inr (.inr (some a)), .inl 2] M = some (some (.inr (.inr o)), M) := o1
    rw [this]; rfl
  show ∃ M' S' ib fm, x_go k89 (b89_0 (150 + n) (some a) M) = _ ∧ _
  unfold b89_0
  rw [bd_s (g_o_t (ci := 4) (hI.ho0 hn)), bd_s o1']
  rcases o2 with ⟨rfl, q⟩ | ⟨rfl, q⟩
  · rw [R2 q, if_pos rfl]
    exact ⟨M, S, ia, fl, rfl, rfl, h, hN⟩
  rw [R1 q, if_neg (by simp)]
  obtain ⟨q1, q2, q3, q4⟩ := q
  generalize numN L 7 2 = c at *
  obtain ⟨-, wr, un, bl, m, d, ph, bg, pa, cb, ⟨p2, -⟩, ⟨w1, w2, w3⟩, ⟨-, -, ⟨m1, m2, m3, m4, -⟩⟩, ⟨d1, p6, -⟩, ⟨e1, e2, e3⟩, -, f1, -, ⟨-, f4⟩, -⟩ := hN.1.2.1 c q1
  have hph : ph = 2 := (nI_eq (by omega) (by omega)).mp (by rw [← e2]; exact q3)
  subst hph
  have g9 := f1 (by omega) (by omega)
  have e165'' : e165 (nI f) 11 S = some (nI (bn L 11), S) := r165 (i := 11) hXs (by omega)
  have s48 : s_a S 48 (nI c) = some (nI n) := by rw [ga48 (by omega), p6, q2]
  have s50 : s_a S 50 (nI c) = some (nI wr) := by rw [ga50 (by omega), w2]
  rw [bd_s ((g_i_t (ci := 0) p2).trans (congrArg some w1))]
  have wrc : wr = 0 ∨ wr = 1 := by omega
  rcases wrc with rfl | rfl
  · have e210' : e210 (nI c) (nI f) (nI 10) S = some S := by
      show s_go kS210 (c210_0 (nI c) (nI f) (nI 10) S) = _
      unfold c210_0
      rw [bd_s e165'', bd_s s48, bd_s e176_v, if_neg (show ¬ nI 10 = 14 by decide), if_pos (show nI 10 = 10 from rfl), bd_s s50, if_pos (show nI 0 = 0 from rfl)]
      unfold c210_138
      rw [if_neg (show ¬ nI 10 = 11 by decide)]
      unfold c210_196
      rw [if_neg (show ¬ nI 10 = 12 by decide)]
      rfl
    rw [if_pos (show nI 0 = 0 from rfl), bd_s e210']
    exact ⟨M, S, ia, fl, rfl, rfl, h, hN⟩
  have ad := hN.2.1 n hn
  have loop : ∀ d i N T fm fuel fus, i + d = m → d < fuel → d < fus → HB sw nd rm N T ia w pe wo t zb sb fm [(a, g, L)] [(f, L)] kR ka tog → fst M N S T → ∃ M' S' fm', drive k89 fuel 21 [.inr (.inr (some (150 + n))), .inr (.inr (some a)), .inr (.inr (some (ca c))), .inl (nI i)] N = some (none, M') ∧ sdrive kS210 fus 55 [.inl (nI c), .inl (nI f), .inl (nI (40 + n)), .inl (nI i)] T = some S' ∧ HB sw nd rm M' S' ia w pe wo t zb sb fm' [(a, g, L)] [(f, L)] kR ka tog ∧ fst M M' S S' := by
    intro d
    induction d with
    | zero =>
      intro i N T fm fuel fus hi hf hg hb hk
      obtain ⟨f', rfl⟩ : ∃ f, fuel = f + 1 := ⟨fuel - 1, by omega⟩
      obtain ⟨g', rfl⟩ : ∃ g, fus = g + 1 := ⟨fus - 1, by omega⟩
      have hi : i = m := by omega
      subst hi
      have q3' : g_i N 0 3 (some (ca c)) = some (nI i) := (g_i_t (ci := 0) (hk.1.t0 p2)).trans (congrArg some (by show h_fi N 3 (ca c) = _; rw [hk.1.fi (by decide)]; exact m1))
      have s53 : s_a T 53 (nI c) = some (nI i) := by rw [ga53 (by omega), hk.2.2.i (by decide), m2]
      have le : nI i ≤ nI i := nI_le (by omega) (by omega)
      refine ⟨N, T, fm, dr_end ?_, sd_end ?_, hb, hk⟩
      · show b89_21 (150 + n) (some a) (some (ca c)) (nI i) N = _
        unfold b89_21
        rw [bd_s q3', if_pos le]
      · show c210_55 (nI c) (nI f) (nI (40 + n)) (nI i) T = _
        unfold c210_55
        rw [bd_s s53, if_pos le]
        rfl
    | succ d ih =>
      intro i N T fm fuel fus hi hf hg hb hk
      obtain ⟨f', rfl⟩ : ∃ f, fuel = f + 1 := ⟨fuel - 1, by omega⟩
      obtain ⟨g', rfl⟩ : ∃ g, fus = g + 1 := ⟨fus - 1, by omega⟩
      have hIN := hb.I
      have tc : h_tg N (ca c) = 1 := hk.1.t0 p2
      have le : ¬ nI m ≤ nI i := nI_ge (by omega) (by omega)
      have q3' : g_i N 0 3 (some (ca c)) = some (nI m) := (g_i_t (ci := 0) tc).trans (congrArg some (by show h_fi N 3 (ca c) = _; rw [hk.1.fi (by decide)]; exact m1))
      have q9 : g_i N 0 9 (some (ca c)) = some (S.1 60 c) := (g_i_t (ci := 0) tc).trans (congrArg some (by show h_fi N 9 (ca c) = _; rw [hk.1.fi (by decide)]; exact g9))
      have q7 : g_i N 0 7 (some (ca c)) = some (nI c) := (g_i_t (ci := 0) tc).trans (congrArg some (by show h_fi N 7 (ca c) = _; rw [hk.1.fi (by decide)]; exact d1))
      have q503 : g_i N 5 3 (some (140 + n)) = some (S.1 35 n) := (g_i_t (ci := 5) (hIN.no0 hn)).trans (congrArg some (by show h_fi N 503 (140 + n) = _; rw [hk.1.fi (by decide)]; exact ad))
      have s53 : s_a T 53 (nI c) = some (nI m) := by rw [ga53 (by omega), hk.2.2.i (by decide), m2]
      have s60 : s_a T 60 (nI c) = some (S.1 60 c) := by rw [ga60 (by omega), hk.2.2.i (by decide)]
      have s48' : s_a T 48 (nI c) = some (nI n) := by rw [ga48 (by omega), hk.2.2.i (by decide), p6, q2]
      have s35 : s_a T 35 (nI n) = some (S.1 35 n) := by rw [ga35 (by omega), hk.2.2.i (by decide)]
      have hXT : rdS T f L := hb.rdS (u := (f, L)) List.mem_cons_self
      have e166' : e166 (nI f) 9 2 T = some (num L 9 2, T) := r166 (i := 9) (n := 2) hXT (by omega)
      obtain ⟨a1, f1', M1, S1, x1, x2, x3, x4, x5⟩ := H_draft (v1 := nI 11) (v2 := S.1 60 c) (v3 := S.1 35 n) (v4 := nI c) (num L 9 2) (nI i) hb (by show 1 ≤ 3; omega) (by show 1 ≤ 3; omega)
      have hX1 : rd M1 a L := x4.rd (u := (a, g, L)) (List.mem_cons_of_mem _ List.mem_cons_self)
      have e70 := f70_eq hX1 h13
      obtain ⟨M2, y1, y2, y3, y4⟩ := H_rx (rx := num L 9 2) x4
      obtain ⟨M3, z1, z2, z3, z4⟩ := H_pt (p := nI i) y3
      have l13 : (hdL (nI 11) (S.1 60 c) (S.1 35 n) (nI c) (num L 9 2) (nI i)).length = 13 := hd_len
      obtain ⟨M4, S4, u1, u2, u3, u4, u5⟩ := H_load (n := 8) (u := h_fl M 4 (ca c) + Int32.toInt64 (nI i)) z3 (by rw [l13]; omega) (by omega) (by rw [l13]; omega)
      have l8 := byL_len (h_fl M 4 (ca c) + Int32.toInt64 (nI i)) 8
      obtain ⟨M5, S5, fm5, v1, v2, v3, v4⟩ := H_post u4 (sd_n hn) (tru_g (k := 11) (by omega) (by rw [l8]; omega) (by omega)) (by rw [List.length_append, l13]; omega) (by rw [List.length_append, l13, l8]; omega)
      have hk3 : fst M M3 S S1 := ((hk.tr x5).tr y4).tr z4
      have hk4 : fst M M4 S S4 := hk3.tr u5
      have q4' : g_l M3 0 4 (some (ca c)) = some (h_fl M 4 (ca c)) := (g_l_t (ci := 0) (hk3.1.t0 p2)).trans (congrArg some (by
        show h_fl M3 4 (ca c) = _
        rw [(hk3.1.2.2.1 4 (by decide)).2.1]))
      have hI4 := u4.I
      have s54 : s_al S1 54 (((4 : Int32) * nI c) + nI i) = some (h_fl M 4 (ca c) + Int32.toInt64 (nI i)) := by
        rw [ixl4, nI_add, ga54 (by omega), ((x5.2.2) 54 (by decide)).2, (hk.2.2 54 (by decide)).2]
        exact congrArg some (f4 rfl i (by omega))
      have u1' : f36 [.inr (.inr (some a1)), .inl 8, .inr (.inl (h_fl M 4 (ca c) + Int32.toInt64 (nI i)))] M3 = some (none, M4) := u1
      have u2' : e167 (nI f1') (h_fl M 4 (ca c) + Int32.toInt64 (nI i)) 8 S1 = some S4 := u2
      have x1' : c_R (f34 [.inr (.inr (some 2)), .inl 11, .inl (S.1 60 c), .inl (S.1 35 n), .inl (nI c)] N) = some (some a1, M1) := by
        have : f34 [.inr (.inr (some 2)), .inl 11, .inl (S.1 60 c), .inl (S.1 35 n), .inl (nI c)] N = some (some (.inr (.inr (some a1))), M1) := x1
        rw [this]; rfl
      have x2' : e168 11 (S.1 60 c) (S.1 35 n) (nI c) (num L 9 2) (nI i) T = some (nI f1', S1) := x2
      have st1 : k89 21 [.inr (.inr (some (150 + n))), .inr (.inr (some a)), .inr (.inr (some (ca c))), .inl (nI i)] N = some (.inr (21, [.inr (.inr (some (150 + n))), .inr (.inr (some a)), .inr (.inr (some (ca c))), .inl (nI (i + 1))], M5)) := by
        show b89_21 (150 + n) (some a) (some (ca c)) (nI i) N = _
        unfold b89_21
        rw [bd_s q3', if_neg le, bd_s ((g_r_t (ci := 4) (hIN.ho0 hn)).trans (congrArg some (hIN.ho1 hn))), bd_s q9, bd_s ((g_r_t (ci := 4) (hIN.ho0 hn)).trans (congrArg some (hIN.ho2 hn))), bd_s q503, bd_s q7, bd_s (g_o_t (ci := 9) hIN.sh0), bd_s x1', bd_s (g_o_t (ci := 2) hX1.1.1), bd_s (c_I_of e70), bd_s (g_o_t (ci := 2) x3), bd_s (c_V_of y1), bd_s (g_o_t (ci := 2) y2), bd_s (c_V_of z1), bd_s q4', bd_s (g_o_t (ci := 2) z2), bd_s (c_V_of u1'), bd_s ((g_r_t (ci := 4) (hI4.ho0 hn)).trans (congrArg some (hI4.ho2 hn))), bd_s ((g_r_t (ci := 5) (hI4.no0 hn)).trans (congrArg some (hI4.no3 hn))), bd_s (g_o_t (ci := 8) (hI4.po0 (sd_n hn))), bd_s (c_V_of v1), nI_1]
      have st2 : kS210 55 [.inl (nI c), .inl (nI f), .inl (nI (40 + n)), .inl (nI i)] T = some (.inr (55, [.inl (nI c), .inl (nI f), .inl (nI (40 + n)), .inl (nI (i + 1))], S5)) := by
        show c210_55 (nI c) (nI f) (nI (40 + n)) (nI i) T = _
        unfold c210_55
        rw [bd_s s53, if_neg le, bd_s s60, bd_s s48', bd_s s35, bd_s e166', bd_s x2', bd_s s54, bd_s u2', bd_s v2, nI_1]
      obtain ⟨M6, S6, fm6, t1, t2, t3, t4⟩ := ih (i + 1) M5 S5 fm5 f' g' (by omega) (by omega) (by omega) v3 (hk4.tr v4)
      exact ⟨M6, S6, fm6, by rw [dr_go st1]; exact t1, by rw [sd_go st2]; exact t2, t3, t4⟩
  obtain ⟨M6, S6, fm6, t1, t2, t3, t4⟩ := loop m 0 M S fl xF xF (by omega) (by unfold xF; omega) (by unfold xF; omega) h (fst.rf h.bk)
  have e210' : e210 (nI c) (nI f) (nI 10) S = some S6 := by
    show s_go kS210 (c210_0 (nI c) (nI f) (nI 10) S) = _
    unfold c210_0
    rw [bd_s e165'', bd_s s48, bd_s e176_v, if_neg (show ¬ nI 10 = 14 by decide), if_pos (show nI 10 = 10 from rfl), bd_s s50, if_neg (show ¬ nI 1 = 0 by decide)]
    exact t2
  rw [if_neg (show ¬ nI 1 = 0 by decide), bd_s e210']
  exact ⟨M6, S6, ia, fm6, t1, rfl, t3, hN.fst hI t4⟩
/-- all that a host gets -/
theorem P_hget (h : HB sw nd rm M S ia w pe wo t zb sb fl [(a, g, L)] [(f, L)] kR ka tog) (hN : NR nd M S t nc ca hh lv jj G) (hn : n < nd) (hG : G n = .inl R) (hlv : lv n = false) (ht : tru sw nd L = true) (h17 : 17 ≤ L.length) : ∃ M' S' ib fm, f92 [.inr (.inr (some (150 + n))), .inr (.inr (some a))] M = some (none, M') ∧ e211 (nI n) (nI f) S = some S' ∧ HB sw nd rm M' S' ib w pe wo t zb sb fm [(a, g, L)] [(f, L)] kR ka tog ∧ NR nd M' S' t nc ca hh lv jj G := by
  have hI := h.I
  have hX : rd M a L := h.rd (u := (a, g, L)) List.mem_cons_self
  have hXs : rdS S f L := h.rdS (u := (f, L)) List.mem_cons_self
  have e57 := f57_eq hX (by omega)
  have e65 := f65_eq hX (by omega)
  have e0 : e165 (nI f) 0 S = some (nI (bn L 0), S) := r165 (i := 0) hXs (by omega)
  have e4 : e166 (nI f) 4 3 S = some (num L 4 3, S) := r166 (i := 4) (n := 3) hXs (by omega)
  have o2 : g_o M 2 (some a) = some a := g_o_t (ci := 2) hX.1.1
  have o4 : g_o M 4 (some (150 + n)) = some (150 + n) := g_o_t (ci := 4) (hI.ho0 hn)
  have hb := bn_lt L 0
  have fdef : f92 [.inr (.inr (some (150 + n))), .inr (.inr (some a))] M = x_out (b92_0 (150 + n) (some a) M) := rfl
  have edef : e211 (nI n) (nI f) S = s_go kS211 (c211_0 (nI n) (nI f) S) := rfl
  rw [fdef, edef]
  unfold b92_0 c211_0
  rw [bd_s o2, bd_s (c_I_of e57), bd_s e0, bd_s e4]
  have kk : ∀ k, k < 256 → ((nI (bn L 0) = nI k) ↔ (bn L 0 = k)) := fun k hk => by rw [bn_k hk]
  have k6 : (nI (bn L 0) = 6) ↔ (bn L 0 = 6) := kk 6 (by omega)
  have k7 : (nI (bn L 0) = 7) ↔ (bn L 0 = 7) := kk 7 (by omega)
  have k8 : (nI (bn L 0) = 8) ↔ (bn L 0 = 8) := kk 8 (by omega)
  have k9 : (nI (bn L 0) = 9) ↔ (bn L 0 = 9) := kk 9 (by omega)
  have k10 : (nI (bn L 0) = 10) ↔ (bn L 0 = 10) := kk 10 (by omega)
  have k11 : (nI (bn L 0) = 11) ↔ (bn L 0 = 11) := kk 11 (by omega)
  have k12 : (nI (bn L 0) = 12) ↔ (bn L 0 = 12) := kk 12 (by omega)
  have k13 : (nI (bn L 0) = 13) ↔ (bn L 0 = 13) := kk 13 (by omega)
  have k14 : (nI (bn L 0) = 14) ↔ (bn L 0 = 14) := kk 14 (by omega)
  have l10 : (nI (bn L 0) < 10) ↔ bn L 0 < 10 := nI_ltI (b := 10) (by omega) (by omega)
  have l12 : (nI (bn L 0) ≤ 12) ↔ bn L 0 ≤ 12 := nI_leI (b := 12) (by omega) (by omega)
  by_cases c6 : bn L 0 = 6
  · obtain ⟨t1, t2⟩ := tru_6' ht c6
    obtain ⟨M', S', ib, fm, r1, r2, r3, r4⟩ := P_told h hN hn hG hlv t1 t2
    have e14 : e166 (nI f) 14 3 S = some (num L 14 3, S) := r166 (i := 14) (n := 3) hXs (by omega)
    refine ⟨M', S', ib, fm, ?_, ?_, r3, r4⟩
    · rw [if_pos (k6.mpr c6), bd_s o4, bd_s (c_V_of r1)]
      rfl
    · rw [if_pos (k6.mpr c6), bd_s e14, ← r2]
      show s_go kS211 (if num L 4 3 = 16777212 then (if num L 14 3 = 0 then _ else _) else _) = _
      split
      · split
        · rfl
        · rfl
      · rfl
  rw [if_neg (fun q => c6 (k6.mp q)), if_neg (fun q => c6 (k6.mp q))]
  by_cases c7 : bn L 0 = 7
  · refine ⟨M, S, ia, fl, ?_, ?_, h, hN⟩
    · rw [if_pos (k7.mpr c7)]; rfl
    · rw [if_neg (fun q => absurd (k8.mp q) (by omega)), if_pos (l10.mpr (by omega))]
      unfold c211_267
      rw [if_neg (fun q => absurd (k14.mp q) (by omega))]; rfl
  rw [if_neg (fun q => c7 (k7.mp q))]
  by_cases c8 : bn L 0 = 8
  · obtain ⟨M', S', ib, fm, r1, r2, r3, r4⟩ := P_logged (fr := num L 4 3) h hN hn hG hlv (by show 1 ≤ 3; omega) (by show 1 ≤ 3; omega)
    refine ⟨M', S', ib, fm, ?_, ?_, r3, r4⟩
    · rw [if_pos (k8.mpr c8), bd_s o2, bd_s (c_I_of e65), bd_s o4, bd_s (c_V_of r1)]
      rfl
    · have e189' : e189 (num L 4 3) S = some ((num L 4 3 &&& 255) - 1, S) := rfl
      rw [if_pos (k8.mpr c8), bd_s e189']
      exact r2
  rw [if_neg (fun q => c8 (k8.mp q)), if_neg (fun q => c8 (k8.mp q))]
  by_cases c9 : bn L 0 = 9
  · refine ⟨M, S, ia, fl, ?_, ?_, h, hN⟩
    · rw [if_pos (k9.mpr c9)]; rfl
    · rw [if_pos (l10.mpr (by omega))]
      unfold c211_267
      rw [if_neg (fun q => absurd (k14.mp q) (by omega))]; rfl
  rw [if_neg (fun q => c9 (k9.mp q))]
  have sgo : ∀ X : Option (sRes sT), ∀ S', s_out X = some S' → s_go kS211 X = some S' := fun X S' q => by
    cases X with
    | none => cases q
    | some r =>
      cases r with
      | inl s => exact q
      | inr s => cases q
  by_cases c10 : bn L 0 = 10
  · obtain ⟨M', S', ib, fm, r1, r2, r3, r4⟩ := P_rd h hN hn hG (by omega)
    refine ⟨M', S', ib, fm, ?_, ?_, r3, r4⟩
    · rw [if_pos (k10.mpr c10), bd_s o4, bd_s (c_V_of r1)]
      rfl
    · rw [if_neg (fun q => absurd (l10.mp q) (by omega)), if_pos (l12.mpr (by omega)), c10]
      exact sgo _ _ r2
  rw [if_neg (fun q => c10 (k10.mp q))]
  by_cases c11 : bn L 0 = 11
  · obtain ⟨M', S', ib, fm, r1, r2, r3, r4⟩ := P_da h hN hn hG (tru_11 ht c11)
    refine ⟨M', S', ib, fm, ?_, ?_, r3, r4⟩
    · rw [if_pos (k11.mpr c11), bd_s o4, bd_s (c_V_of r1)]
      rfl
    · rw [if_neg (fun q => absurd (l10.mp q) (by omega)), if_pos (l12.mpr (by omega)), c11]
      exact sgo _ _ r2
  rw [if_neg (fun q => c11 (k11.mp q))]
  by_cases c12 : bn L 0 = 12
  · obtain ⟨t1, t2⟩ := tru_12 ht c12
    obtain ⟨M', S', ib, fm, r1, r2, r3, r4⟩ := P_dn h hN hn hG hlv t1 t2
    refine ⟨M', S', ib, fm, ?_, ?_, r3, r4⟩
    · rw [if_pos (k12.mpr c12), bd_s o4, bd_s (c_V_of r1)]
      rfl
    · rw [if_neg (fun q => absurd (l10.mp q) (by omega)), if_pos (l12.mpr (by omega)), c12]
      exact sgo _ _ r2
  rw [if_neg (fun q => c12 (k12.mp q))]
  by_cases c14 : bn L 0 = 14
  · obtain ⟨M', S', ib, fm, r1, r2, r3, r4⟩ := P_ab h hN hn hG (by omega)
    refine ⟨M', S', ib, fm, ?_, ?_, r3, r4⟩
    · rw [if_neg (fun q => absurd (k13.mp q) (by omega)), if_pos (k14.mpr c14), bd_s o4, bd_s (c_V_of r1)]
      rfl
    · rw [if_neg (fun q => absurd (l10.mp q) (by omega)), if_neg (fun q => absurd (l12.mp q) (by omega))]
      unfold c211_267
      rw [if_pos (k14.mpr c14), c14]
      exact sgo _ _ r2
  · refine ⟨M, S, ia, fl, ?_, ?_, h, hN⟩
    · rw [if_neg (fun q => c14 (k14.mp q))]
      split <;> rfl
    · have : c211_267 (nI n) (nI f) (nI (bn L 0)) (num L 4 3) S = some (.inl S) := by
        unfold c211_267
        rw [if_neg (fun q => c14 (k14.mp q))]; rfl
      by_cases c9' : bn L 0 < 10
      · rw [if_pos (l10.mpr c9')]
        show s_go kS211 (c211_267 (nI n) (nI f) (nI (bn L 0)) (num L 4 3) S) = _
        rw [this]; rfl
      · rw [if_neg (fun q => c9' (l10.mp q)), if_neg (fun q => absurd (l12.mp q) (by omega))]
        show s_go kS211 (c211_267 (nI n) (nI f) (nI (bn L 0)) (num L 4 3) S) = _
        rw [this]; rfl
end HY
