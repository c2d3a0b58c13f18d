/-! ===== takeCommand ===== -/
theorem m16 : (65535 : Int32).toBitVec.toNat = 2 ^ 16 - 1 := by decide
theorem rxw {lr lr' : Nat} (h : lr < 65536) (e : (lr + 1) % 65536 = lr') : (nI lr + 1) &&& 65535 = nI lr' := by
  rw [nI_1, pk_andN (by omega) 16 m16, ← e]
section TC
variable {sw nd rm : Nat} {M M' N : hM} {S S' T : sT} {ia ib : Nat → Nat → Int32} {w t x y zb sb a f n nc fus dk j lm s : Nat} {pe : Nat → Option Nat} {wo : Nat → Nat} {fl fm : Nat → List (List Int32)} {hc hc' : List (Nat × Int32 × List Int32)} {hs hs' : List (Nat × List Int32)} {L Lr : List Int32} {kR : Nat → rK} {ka : Nat → Nat → Nat} {tog : Nat → Bool} {ca hh : Nat → Nat} {lv : Nat → Bool} {jj : Nat → Nat} {G : Nat → nG} {R : List Nat} {g : Int32} {OL : List oE}
/-- done -/
theorem P_done {rx : Int32} {v : Nat} (h : HB sw nd rm M S ia w pe wo t zb sb fl [(a, g, L)] [(f, L)] kR ka tog) (hn : n < nd) (hd : dkR M n dk) (had : h_fi M 503 (140 + n) = S.1 35 n) (h13 : 13 ≤ L.length) (hv : v < 2) : ∃ M' S' fm, f67 [.inr (.inr (some dk)), .inl 12, .inr (.inr (some a)), .inl rx, .inl 1, .inr (.inl (nI v).toInt64)] M = some (none, M') ∧ e213 (nI n) (nI f) rx (nI v) S = some S' ∧ HB sw nd rm M' S' ia w pe wo t zb sb fm [(a, g, L)] [(f, L)] kR ka tog ∧ fst M M' S S' := by
  obtain ⟨M1, S1, S2, S3, f1, fm, x1, x2, x3, x4, x5, x6, x7⟩ := P_ans (k := 12) (wd := 1) (rx := rx) (v := v) h hn hd had h13 (Or.inr ⟨rfl, Or.inr ⟨rfl, hv⟩⟩) (by omega)
  refine ⟨M1, S3, fm, x1, ?_, x6, x7⟩
  show s_out (c213_0 (nI n) (nI f) rx (nI v) S) = _
  have x2' : e212 (nI n) (nI f) 12 rx 0 S = some (nI f1, S1) := x2
  unfold c213_0
  rw [bd_s x2', bd_s (x3 rfl), bd_s e176_v, bd_s x5]
  rfl
/-- sendBlocks -/
theorem P_blk {u b m : Nat} (h : HB sw nd rm M S ia w pe wo t zb sb fl [(a, g, L)] [(f, L)] kR ka tog) (hn : n < nd) (hd : dkR M n dk) (had : h_fi M 503 (140 + n) = S.1 35 n) (hbl : ∀ i, i < 32 → h_al M (dk + 1) i = S.2 42 (32 * n + i)) (h13 : 13 ≤ L.length) (hu : u ≤ 1) (hm : m ≤ 4 ∧ b + m ≤ 16) : ∃ M' S' fm, f78 [.inr (.inr (some dk)), .inr (.inr (some a)), .inl (nI (16 * u + b)), .inl (nI m)] M = some (none, M') ∧ sdrive kS216 xF 117 [.inl (nI n), .inl (nI f), .inl (nI u), .inl (nI b), .inl (nI m), .inl (nI 0)] S = sdrive kS216 (xF - m) 117 [.inl (nI n), .inl (nI f), .inl (nI u), .inl (nI b), .inl (nI m), .inl (nI m)] S' ∧ HB sw nd rm M' S' ia w pe wo t zb sb fm [(a, g, L)] [(f, L)] kR ka tog ∧ fst M M' S S' := by
  have hnd := h.I.bs.2.1.2
  have loop : ∀ d i N T fm fuel fus, i + d = m → d < fuel → d ≤ fus → HB sw nd rm N T ia w pe wo t zb sb fm [(a, g, L)] [(f, L)] kR ka tog → fst M N S T → ∃ M' S' fm', drive k78 fuel 3 [.inr (.inr (some dk)), .inr (.inr (some a)), .inl (nI (16 * u + b)), .inl (nI m), .inl (nI i)] N = some (none, M') ∧ sdrive kS216 fus 117 [.inl (nI n), .inl (nI f), .inl (nI u), .inl (nI b), .inl (nI m), .inl (nI i)] T = sdrive kS216 (fus - d) 117 [.inl (nI n), .inl (nI f), .inl (nI u), .inl (nI b), .inl (nI m), .inl (nI m)] S' ∧ HB sw nd rm M' S' ia w pe wo t zb sb fm' [(a, g, L)] [(f, L)] kR ka tog ∧ fst M M' S S' := by
    intro d
    induction d with
    | zero =>
      intro i N T fm fuel fus hi hf hg hb hk
      obtain ⟨f', rfl⟩ : ∃ f, fuel = f + 1 := ⟨fuel - 1, by omega⟩
      have hi : i = m := by omega
      subst hi
      refine ⟨N, T, fm, dr_end ?_, rfl, hb, hk⟩
      show b78_3 dk (some a) (nI (16 * u + b)) (nI i) (nI i) N = _
      unfold b78_3
      rw [if_pos (show nI i ≤ nI i from nI_le (by omega) (by omega))]
      rfl
    | succ d ih =>
      intro i N T fm fuel fus hi hf hg hb hk
      obtain ⟨f', rfl⟩ : ∃ f, fuel = f + 1 := ⟨fuel - 1, by omega⟩
      obtain ⟨g', rfl⟩ : ∃ g, fus = g + 1 := ⟨fus - 1, by omega⟩
      have hIN := hb.I
      have hdN := hd.kp hk.1 (by decide) (by decide)
      obtain ⟨d1, ⟨d2, d3, d4, d5, d6, d7⟩, ⟨e1, e2, e3, e4, e5, e6⟩, e7⟩ := hdN
      have hXN : rd N a L := hb.rd (u := (a, g, L)) List.mem_cons_self
      have hXT : rdS T f L := hb.rdS (u := (f, L)) List.mem_cons_self
      have e65 := f65_eq hXN h13
      have e66 := f66_eq hXN h13
      have g503 : g_i N 5 3 (some (140 + n)) = some (S.1 35 n) := (g_i_t (ci := 5) (hIN.no0 hn)).trans (congrArg some (by show h_fi N 503 (140 + n) = _; rw [hk.1.fi (by decide)]; exact had))
      have s35 : s_a T 35 (nI n) = some (S.1 35 n) := by rw [ga35 (by omega), hk.2.2.i (by decide)]
      have r4 : e166 (nI f) 4 3 T = some (num L 4 3, T) := r166 (i := 4) (n := 3) hXT (by omega)
      have r7 : e166 (nI f) 7 2 T = some (num L 7 2, T) := r166 (i := 7) (n := 2) hXT (by omega)
      obtain ⟨a1, f1, M1, S1, x1, x2, x3, x4, x5⟩ := H_draft (v1 := nI 11) (v2 := num L 4 3) (v3 := S.1 35 n) (v4 := num L 7 2) 0 (nI i) hb (by show 1 ≤ 3; omega) (by show 1 ≤ 3; omega)
      obtain ⟨M2, y1, y2, y3, y4⟩ := H_pt (p := nI i) x4
      have l13 : (hdL (nI 11) (num L 4 3) (S.1 35 n) (num L 7 2) 0 (nI i)).length = 13 := hd_len
      have hk2 : fst M M2 S S1 := (hk.tr x5).tr y4
      obtain ⟨M3, S3, u1, u2, u3, u4, u5⟩ := H_load (n := 8) (u := h_al M (dk + 1) (16 * u + b + i)) y3 (by rw [l13]; omega) (by omega) (by rw [l13]; omega)
      have l8 := byL_len (h_al M (dk + 1) (16 * u + b + i)) 8
      obtain ⟨M4, S4, fm4, v1, v2, v3, v4⟩ := H_post u4 (sd_n hn) (tru_g (k := 11) (by omega) (by rw [l8]; omega) (by omega)) (by rw [List.length_append, l13]; omega) (by rw [List.length_append, l13, l8]; omega)
      have hI3 := u4.I
      have hk3 := hk2.tr u5
      have d3M := hd.kp hk3.1 (by decide) (by decide)
      have d2M := hd.kp hk2.1 (by decide) (by decide)
      have x1' : c_R (f34 [.inr (.inr (some 2)), .inl 11, .inl (num L 4 3), .inl (S.1 35 n), .inl (num L 7 2)] N) = some (some a1, M1) := by
        have : f34 [.inr (.inr (some 2)), .inl 11, .inl (num L 4 3), .inl (S.1 35 n), .inl (num L 7 2)] N = some (some (.inr (.inr (some a1))), M1) := x1
        rw [this]; rfl
      have wl : al_l M2 23 (some (dk + 1)) (nI (16 * u + b + i)) = some (h_al M (dk + 1) (16 * u + b + i)) := (al_l_t d2M.2.2.1.1 (by rw [d2M.2.2.1.2.1]; omega) (by omega)).trans (congrArg some (by rw [(hk2.1.2.2.2.1 (dk + 1) (by rw [hd.2.2.1.1]; decide)).2.1]))
      have ix : nI (16 * u + b) + nI i = nI (16 * u + b + i) := nI_add _ _
      have u1' : f36 [.inr (.inr (some a1)), .inl 8, .inr (.inl (h_al M (dk + 1) (16 * u + b + i)))] M2 = some (none, M3) := u1
      have st1 : k78 3 [.inr (.inr (some dk)), .inr (.inr (some a)), .inl (nI (16 * u + b)), .inl (nI m), .inl (nI i)] N = some (.inr (3, [.inr (.inr (some dk)), .inr (.inr (some a)), .inl (nI (16 * u + b)), .inl (nI m), .inl (nI (i + 1))], M4)) := by
        show b78_3 dk (some a) (nI (16 * u + b)) (nI m) (nI i) N = _
        unfold b78_3
        rw [if_neg (show ¬ nI m ≤ nI i from nI_ge (by omega) (by omega)), bd_s ((g_r_t (ci := 1) d2).trans (congrArg some d5)), bd_s (by rw [a_ln_t e1, e2] : a_ln N 23 (some (dk + 1)) = some (nI 32)), ix, if_neg (show ¬ nI 32 ≤ nI (16 * u + b + i) from nI_ge (by omega) (by omega)), bd_s ((g_r_t (ci := 1) d2).trans (congrArg some d3)), bd_s (g_o_t (ci := 2) hXN.1.1), bd_s (c_I_of e65), bd_s ((g_r_t (ci := 1) d2).trans (congrArg some d4)), bd_s g503, bd_s (g_o_t (ci := 2) hXN.1.1), bd_s (c_I_of e66), bd_s (g_o_t (ci := 9) hIN.sh0), bd_s x1', bd_s (g_o_t (ci := 2) x3), bd_s (c_V_of y1), bd_s ((g_r_t (ci := 1) d2M.2.1.1).trans (congrArg some d2M.2.1.2.2.2.1)), bd_s wl, bd_s (g_o_t (ci := 2) y2), bd_s (c_V_of u1'), bd_s ((g_r_t (ci := 1) d3M.2.1.1).trans (congrArg some d3M.2.1.2.2.1)), bd_s ((g_r_t (ci := 5) (hI3.no0 hn)).trans (congrArg some (hI3.no3 hn))), bd_s (g_o_t (ci := 8) (hI3.po0 (sd_n hn))), bd_s (c_V_of v1), nI_1]
      have e212' : e212 (nI n) (nI f) 11 0 (nI i) T = some (nI f1, S1) := by
        show s_out (c212_0 (nI n) (nI f) 11 0 (nI i) T) = _
        have x2' : e168 11 (num L 4 3) (S.1 35 n) (num L 7 2) 0 (nI i) T = some (nI f1, S1) := x2
        unfold c212_0
        rw [bd_s r4, bd_s s35, bd_s r7, bd_s x2']
        rfl
      have w42 : s_al S1 42 (((((32 : Int32) * nI n) + ((16 : Int32) * nI u)) + nI b) + nI i) = some (h_al M (dk + 1) (16 * u + b + i)) := by
        rw [ixl32, ixl16, nI_add, nI_add, nI_add, ga42 (by omega), (x5.2.2 42 (by decide)).2, (hk.2.2 42 (by decide)).2, hbl _ (by omega), show 32 * n + (16 * u + b + i) = 32 * n + 16 * u + b + i by omega]
      have u2' : e167 (nI f1) (h_al M (dk + 1) (16 * u + b + i)) 8 S1 = some S3 := u2
      have st2 : kS216 117 [.inl (nI n), .inl (nI f), .inl (nI u), .inl (nI b), .inl (nI m), .inl (nI i)] T = some (.inr (117, [.inl (nI n), .inl (nI f), .inl (nI u), .inl (nI b), .inl (nI m), .inl (nI (i + 1))], S4)) := by
        show c216_117 (nI n) (nI f) (nI u) (nI b) (nI m) (nI i) T = _
        unfold c216_117
        rw [if_neg (show ¬ nI m ≤ nI i from nI_ge (by omega) (by omega)), bd_s e212', bd_s w42, bd_s u2', bd_s e176_v, bd_s v2, nI_1]
      obtain ⟨M6, S6, fm6, t1, t2, t3, t4⟩ := ih (i + 1) M4 S4 fm4 f' g' (by omega) (by omega) (by omega) v3 (hk3.tr v4)
      refine ⟨M6, S6, fm6, by rw [dr_go st1]; exact t1, ?_, t3, t4⟩
      rw [sd_go st2, show g' + 1 - (d + 1) = g' - d by omega]; exact t2
  obtain ⟨M6, S6, fm6, t1, t2, t3, t4⟩ := loop m 0 M S fl xF xF (by omega) (by unfold xF; omega) (by unfold xF; omega) h (fst.rf h.bk)
  exact ⟨M6, S6, fm6, t1, t2, t3, t4⟩
/-- begin -/
theorem f79_eq {rx tt : Int32} (t8 : h_tg M s = 8) (hX : rd M a L) (h21 : L.length = 21) (hu : bn L 13 ≤ 1) : f79 [.inr (.inr (some s)), .inr (.inr (some a)), .inl rx, .inl tt] M = some (none, wr8 M s (fun k => [1, num L 7 2, num L 4 3, rx, nI (16 * bn L 13 + bn L 15), nI (bn L 16), tt, 0].getD k 0)) := by
  have b15 := bn_lt L 15
  have i16 : nI (bn L 13) * 16 + nI (bn L 15) = nI (16 * bn L 13 + bn L 15) := by
    rw [ixr16, nI_add, show bn L 13 * 16 = 16 * bn L 13 by omega]
  have nx : ∀ N k v, rd N a L → 700 ≤ k → rd (h_pi N k s v) a L := fun N k v hN hk => by
    obtain ⟨c1, c2, c3, c4⟩ := hN
    exact ⟨c1, by rw [fi_ne (by omega)]; exact c2, c3, c4⟩
  show x_out (b79_0 s (some a) rx tt M) = _
  unfold b79_0 wr8
  have hx0 := nx M 700 1 hX (by omega)
  rw [bd_s (p_z_t (ci := 7) t8 (Or.inr rfl))]
  have hx0 : rd (h_pi M (100 * 7 + 0) s 1) a L := hx0
  generalize hw0 : h_pi M (100 * 7 + 0) s 1 = w0 at *
  have t0 : h_tg w0 s = 8 := by rw [← hw0]; exact t8
  rw [bd_s (g_o_t (ci := 2) hx0.1.1), bd_s (c_I_of (f66_eq hx0 (by omega))), bd_s (p_i_t (ci := 7) t0)]
  have hx1 : rd (h_pi w0 (100 * 7 + 1) s (num L 7 2)) a L := nx w0 701 _ hx0 (by omega)
  generalize hw1 : h_pi w0 (100 * 7 + 1) s (num L 7 2) = w1 at *
  have t1 : h_tg w1 s = 8 := by rw [← hw1]; exact t0
  rw [bd_s (g_o_t (ci := 2) hx1.1.1), bd_s (c_I_of (f65_eq hx1 (by omega))), bd_s (p_i_t (ci := 7) t1)]
  have hx2 : rd (h_pi w1 (100 * 7 + 2) s (num L 4 3)) a L := nx w1 702 _ hx1 (by omega)
  generalize hw2 : h_pi w1 (100 * 7 + 2) s (num L 4 3) = w2 at *
  have t2 : h_tg w2 s = 8 := by rw [← hw2]; exact t1
  rw [bd_s (p_i_t (ci := 7) t2)]
  have hx3 : rd (h_pi w2 (100 * 7 + 3) s rx) a L := nx w2 703 _ hx2 (by omega)
  generalize hw3 : h_pi w2 (100 * 7 + 3) s rx = w3 at *
  have t3 : h_tg w3 s = 8 := by rw [← hw3]; exact t2
  have q13 : f58 [.inr (.inr (some a)), .inl 0] w3 = some (some (.inl (nI (bn L 13))), w3) := f58_eq (i := 0) hx3 (by omega)
  have q15 : f58 [.inr (.inr (some a)), .inl 2] w3 = some (some (.inl (nI (bn L 15))), w3) := f58_eq (i := 2) hx3 (by omega)
  rw [bd_s (g_o_t (ci := 2) hx3.1.1), bd_s (c_I_of q13), bd_s (g_o_t (ci := 2) hx3.1.1), bd_s (c_I_of q15), i16, bd_s (p_i_t (ci := 7) t3)]
  have hx4 : rd (h_pi w3 (100 * 7 + 4) s (nI (16 * bn L 13 + bn L 15))) a L := nx w3 704 _ hx3 (by omega)
  generalize hw4 : h_pi w3 (100 * 7 + 4) s (nI (16 * bn L 13 + bn L 15)) = w4 at *
  have t4 : h_tg w4 s = 8 := by rw [← hw4]; exact t3
  have q16 : f58 [.inr (.inr (some a)), .inl 3] w4 = some (some (.inl (nI (bn L 16))), w4) := f58_eq (i := 3) hx4 (by omega)
  rw [bd_s (g_o_t (ci := 2) hx4.1.1), bd_s (c_I_of q16), bd_s (p_i_t (ci := 7) t4)]
  generalize hw5 : h_pi w4 (100 * 7 + 5) s (nI (bn L 16)) = w5 at *
  have t5 : h_tg w5 s = 8 := by rw [← hw5]; exact t4
  rw [bd_s (p_i_t (ci := 7) t5)]
  generalize hw6 : h_pi w5 (100 * 7 + 6) s tt = w6 at *
  have t6 : h_tg w6 s = 8 := by rw [← hw6]; exact t5
  rw [bd_s (p_i_t (ci := 7) t6), ← hw6, ← hw5, ← hw4, ← hw3, ← hw2, ← hw1, ← hw0]
  rfl
/-- the reference's entry -/
theorem opn_ref {m : Nat} {rx u b c lr fr : Int32} (hn : n < 8) (hm : m ≤ 5) (h43 : S.1 43 n = lr) (hrx : (lr + 1) &&& 65535 = rx) (h46 : S.1 46 n = nI m) (hXs : rdS S f L) (h13 : 13 ≤ L.length) (ht : S.1 3 0 = nI t) {X : sT → Option (sRes sT)} (hX : ∀ T, X T = Option.bind (e212 (nI n) (nI f) 10 rx 0 T) fun q_123 => Option.bind (e167 q_123.1 (Int32.toInt64 c) 1 q_123.2) fun q_129 => Option.bind (e176 (nI n) q_129) fun q_135 => Option.bind (e183 q_135.1 q_123.1 q_135.2) fun q_141 => c216_374 q_141) : c216_109 (nI n) (nI f) fr u 1 b c S = X (s_u (sw8 (s_u S 43 n rx) (48 * n + 8 * m) (fun k => [fr, num L 7 2, rx, u, b, c, 0, nI t].getD k 0)) 46 n (nI (m + 1))) := by
  have i0 : ((48 : Int32) * nI n) + ((8 : Int32) * nI m) = nI (48 * n + 8 * m) := by rw [ixl48, ixl8, nI_add]
  have ii : ∀ k, nI (48 * n + 8 * m) + nI k = nI (48 * n + 8 * m + k) := fun k => nI_add _ _
  have a43 : s_a S 43 (nI n) = some lr := by rw [ga43 (by omega), h43]
  rw [hX]
  unfold c216_109 sw8
  rw [if_neg (show ¬ (1 : Int32) = 0 by decide), bd_s a43, hrx, bd_s (gs43 (by omega))]
  have kS1 : ks [43, 44] S (s_u S 43 n rx) := ks.rf.tr (k_su : ks [43] S _) rfl
  have v43 : (s_u S 43 n rx).1 43 n = rx := s_u_at
  generalize s_u S 43 n rx = S1 at *
  have a46 : s_a S1 46 (nI n) = some (nI m) := by rw [ga46 (by omega), kS1.i (by decide), h46]
  rw [bd_s a46, i0, bd_s (gs44 (by omega))]
  have kS2 : ks [43, 44] S (s_u S1 44 (48 * n + 8 * m) fr) := kS1.tr (k_su : ks [44] S1 _) rfl
  have v43 : (s_u S1 44 (48 * n + 8 * m) fr).1 43 n = rx := by rw [su_ne (by decide)]; exact v43
  show _ = Option.bind (e212 (nI n) (nI f) 10 rx 0 (s_u (s_u (s_u (s_u (s_u (s_u (s_u (s_u (s_u S1 44 (48 * n + 8 * m) fr) 44 (48 * n + 8 * m + 1) (num L 7 2)) 44 (48 * n + 8 * m + 2) rx) 44 (48 * n + 8 * m + 3) u) 44 (48 * n + 8 * m + 4) b) 44 (48 * n + 8 * m + 5) c) 44 (48 * n + 8 * m + 6) 0) 44 (48 * n + 8 * m + 7) (nI t)) 46 n (nI (m + 1)))) _
  generalize s_u S1 44 (48 * n + 8 * m) fr = S2 at *
  have r7 : e166 (nI f) 7 2 S2 = some (num L 7 2, S2) := r166 (i := 7) (n := 2) (rdS_ks hXs kS2 (by decide) (by decide)) (by omega)
  rw [bd_s r7, nI_1, bd_s (gs44 (by omega))]
  have kS3 : ks [43, 44] S (s_u S2 44 (48 * n + 8 * m + 1) (num L 7 2)) := kS2.tr (k_su : ks [44] S2 _) rfl
  have v43 : (s_u S2 44 (48 * n + 8 * m + 1) (num L 7 2)).1 43 n = rx := by rw [su_ne (by decide)]; exact v43
  generalize s_u S2 44 (48 * n + 8 * m + 1) (num L 7 2) = S3 at *
  have a43' : s_a S3 43 (nI n) = some rx := by rw [ga43 (by omega), v43]
  rw [bd_s a43', show (2 : Int32) = nI 2 from rfl, ii, bd_s (gs44 (by omega))]
  have kS4 : ks [43, 44] S (s_u S3 44 (48 * n + 8 * m + 2) rx) := kS3.tr (k_su : ks [44] S3 _) rfl
  have v43 : (s_u S3 44 (48 * n + 8 * m + 2) rx).1 43 n = rx := by rw [su_ne (by decide)]; exact v43
  generalize s_u S3 44 (48 * n + 8 * m + 2) rx = S4 at *
  rw [show (3 : Int32) = nI 3 from rfl, ii, bd_s (gs44 (by omega))]
  have kS5 : ks [43, 44] S (s_u S4 44 (48 * n + 8 * m + 3) u) := kS4.tr (k_su : ks [44] S4 _) rfl
  have v43 : (s_u S4 44 (48 * n + 8 * m + 3) u).1 43 n = rx := by rw [su_ne (by decide)]; exact v43
  generalize s_u S4 44 (48 * n + 8 * m + 3) u = S5 at *
  rw [show (4 : Int32) = nI 4 from rfl, ii, bd_s (gs44 (by omega))]
  have kS6 : ks [43, 44] S (s_u S5 44 (48 * n + 8 * m + 4) b) := kS5.tr (k_su : ks [44] S5 _) rfl
  have v43 : (s_u S5 44 (48 * n + 8 * m + 4) b).1 43 n = rx := by rw [su_ne (by decide)]; exact v43
  generalize s_u S5 44 (48 * n + 8 * m + 4) b = S6 at *
  rw [show (5 : Int32) = nI 5 from rfl, ii, bd_s (gs44 (by omega))]
  have kS7 : ks [43, 44] S (s_u S6 44 (48 * n + 8 * m + 5) c) := kS6.tr (k_su : ks [44] S6 _) rfl
  have v43 : (s_u S6 44 (48 * n + 8 * m + 5) c).1 43 n = rx := by rw [su_ne (by decide)]; exact v43
  generalize s_u S6 44 (48 * n + 8 * m + 5) c = S7 at *
  rw [show (6 : Int32) = nI 6 from rfl, ii, bd_s (gs44 (by omega))]
  have kS8 : ks [43, 44] S (s_u S7 44 (48 * n + 8 * m + 6) 0) := kS7.tr (k_su : ks [44] S7 _) rfl
  have v43 : (s_u S7 44 (48 * n + 8 * m + 6) 0).1 43 n = rx := by rw [su_ne (by decide)]; exact v43
  generalize s_u S7 44 (48 * n + 8 * m + 6) 0 = S8 at *
  have sg3 : s_g S8 3 = nI t := by show S8.1 3 0 = _; rw [kS8.i (by decide)]; exact ht
  rw [sg3, show (7 : Int32) = nI 7 from rfl, ii, bd_s (gs44 (by omega))]
  have kS9 : ks [43, 44] S (s_u S8 44 (48 * n + 8 * m + 7) (nI t)) := kS8.tr (k_su : ks [44] S8 _) rfl
  have v43 : (s_u S8 44 (48 * n + 8 * m + 7) (nI t)).1 43 n = rx := by rw [su_ne (by decide)]; exact v43
  generalize s_u S8 44 (48 * n + 8 * m + 7) (nI t) = S9 at *
  have a46' : s_a S9 46 (nI n) = some (nI m) := by rw [ga46 (by omega), kS9.i (by decide), h46]
  rw [bd_s a46', nI_1, bd_s (gs46 (by omega))]
  have v43 : (s_u S9 46 n (nI (m + 1))).1 43 n = rx := by rw [su_ne (by decide)]; exact v43
  generalize s_u S9 46 n (nI (m + 1)) = T at *
  have a43'' : s_a T 43 (nI n) = some rx := by rw [ga43 (by omega), v43]
  rw [bd_s a43'']
theorem P_cmd (h : HB sw nd rm M S ia w pe wo t zb sb fl [(a, g, L)] [(f, L)] kR ka tog) (hN : NR nd M S t nc ca hh lv jj G) (hn : n < nd) (hG : G n = .inr (dk, OL)) (h21 : L.length = 21) (h14 : bn L 14 < 2) (hj : jj n ≤ 100) : ∃ M' S' ib fm OL' j', f80 [.inr (.inr (some dk)), .inr (.inr (some a))] M = some (none, M') ∧ e216 (nI n) (nI f) (num L 4 3) S = some S' ∧ HB sw nd rm M' S' ib w pe wo t zb sb fm [(a, g, L)] [(f, L)] kR ka tog ∧ NR nd M' S' t nc ca hh lv (u1 jj n j') (u1 G n (.inr (dk, OL'))) ∧ j' ≤ jj n + 1 := by
  have hI := h.I
  have hnd := hI.bs.2.1.2
  have hX : rd M a L := h.rd (u := (a, g, L)) List.mem_cons_self
  have hXs : rdS S f L := h.rdS (u := (f, L)) List.mem_cons_self
  obtain ⟨h1, h2, h3, ⟨lm, l1, l2, l3, l4⟩, lr0, q1, q2, q3, hol⟩ := hN.dd hn hG
  have had := hN.2.1 n hn
  have e13 : f58 [.inr (.inr (some a)), .inl 0] M = some (some (.inl (nI (bn L 13))), M) := f58_eq (i := 0) hX (by omega)
  have e14 : f58 [.inr (.inr (some a)), .inl 1] M = some (some (.inl (nI (bn L 14))), M) := f58_eq (i := 1) hX (by omega)
  have e15 : f58 [.inr (.inr (some a)), .inl 2] M = some (some (.inl (nI (bn L 15))), M) := f58_eq (i := 2) hX (by omega)
  have e16 : f58 [.inr (.inr (some a)), .inl 3] M = some (some (.inl (nI (bn L 16))), M) := f58_eq (i := 3) hX (by omega)
  have r13 : e165 (nI f) 13 S = some (nI (bn L 13), S) := r165 (i := 13) hXs (by omega)
  have r14 : e165 (nI f) 14 S = some (nI (bn L 14), S) := r165 (i := 14) hXs (by omega)
  have r15 : e165 (nI f) 15 S = some (nI (bn L 15), S) := r165 (i := 15) hXs (by omega)
  have r16 : e165 (nI f) 16 S = some (nI (bn L 16), S) := r165 (i := 16) hXs (by omega)
  have e65 := f65_eq hX (by omega)
  have e66 := f66_eq hX (by omega)
  have o2 : g_o M 2 (some a) = some a := g_o_t (ci := 2) hX.1.1
  have o1 : g_o M 1 (some dk) = some dk := g_o_t (ci := 1) h2.2.1.1
  obtain ⟨o, o76, ho⟩ := f76_eq h2 hol
  have c76 : c_R (f76 [.inr (.inr (some dk))] M) = some (o, M) := by rw [o76]; rfl
  have e77 := f77_eq (v := num L 4 3) h2 l1 l2 l4
  have e215' := e215_eq (v := num L 4 3) (show n < 8 by omega) l1 l3
  have s46 : s_a S 46 (nI n) = some (nI OL.length) := by rw [ga46 (by omega), hol.1.1]
  have b13 := bn_lt L 13
  have b15 := bn_lt L 15
  have b16 := bn_lt L 16
  have same : u1 jj n (jj n) = jj ∧ u1 G n (Sum.inr (dk, OL)) = G := ⟨u1_id, by rw [← hG]; exact u1_id⟩
  have sgo : ∀ X : Option (sRes sT), ∀ S', s_out X = some S' → s_go kS216 X = some S' := fun X S' q => by
    cases X with
    | none => cases q
    | some r =>
      cases r with
      | inl s => exact q
      | inr s => cases q
  -- bad
  have bad : ∃ M' S' fm, x_out (b80_88 dk (some a) M) = some (none, M') ∧ s_out (c216_98 (nI n) (nI f) S) = some S' ∧ HB sw nd rm M' S' ia w pe wo t zb sb fm [(a, g, L)] [(f, L)] kR ka tog ∧ NR nd M' S' t nc ca hh lv jj G := by
    obtain ⟨M1, S1, fm, x1, x2, x3, x4⟩ := P_done (rx := 0) (v := 1) h hn h2 had (by omega) (by omega)
    refine ⟨M1, S1, fm, ?_, ?_, x3, hN.fst hI x4⟩
    · have x1' : f67 [.inr (.inr (some dk)), .inl 12, .inr (.inr (some a)), .inl 0, .inl 1, .inr (.inl 1)] M = some (none, M1) := x1
      unfold b80_88
      rw [bd_s o1, bd_s (c_V_of x1')]
      rfl
    · have x2' : e213 (nI n) (nI f) 0 1 S = some S1 := x2
      unfold c216_98
      rw [bd_s x2']
      rfl
  obtain ⟨Mb, Sb, fmb, bad1, bad2, bad3, bad4⟩ := bad
  have isW : bn L 14 = 0 ∨ bn L 14 = 1 := by omega
  -- what both look at
  have cls : ∀ si : Int32, b80_20 dk (some a) (nI (bn L 13)) si M = (if b2 (lgB S n (num L 4 3) 0 lm) = 0 then b80_88 dk (some a) M else if (2 : Int32) ≤ nI (bn L 13) then b80_88 dk (some a) M else if nI (bn L 16) < 1 then b80_88 dk (some a) M else if 4 < nI (bn L 16) then b80_88 dk (some a) M else if 16 < nI (bn L 15) + nI (bn L 16) then b80_88 dk (some a) M else if si = 0 then b80_101 dk (some a) (nI (bn L 13)) si (nI (bn L 15)) (nI (bn L 16)) o M else if o = none then b80_88 dk (some a) M else b80_101 dk (some a) (nI (bn L 13)) si (nI (bn L 15)) (nI (bn L 16)) o M) := fun si => by
    unfold b80_20
    rw [bd_s o2, bd_s (c_I_of e15), bd_s o2, bd_s (c_I_of e16), bd_s o1, bd_s c76, bd_s o2, bd_s (c_I_of e65), bd_s o1, bd_s (c_I_of e77)]
  have ref : ∀ si : Int32, c216_25 (nI n) (nI f) (num L 4 3) (nI (bn L 13)) si S = (if b2 (lgB S n (num L 4 3) 0 lm) = 0 then c216_98 (nI n) (nI f) S else if 1 < nI (bn L 13) then c216_98 (nI n) (nI f) S else if nI (bn L 16) < 1 then c216_98 (nI n) (nI f) S else if 4 < nI (bn L 16) then c216_98 (nI n) (nI f) S else if 16 < nI (bn L 15) + nI (bn L 16) then c216_98 (nI n) (nI f) S else if si = 0 then c216_109 (nI n) (nI f) (num L 4 3) (nI (bn L 13)) si (nI (bn L 15)) (nI (bn L 16)) S else if nI OL.length = 6 then c216_98 (nI n) (nI f) S else c216_109 (nI n) (nI f) (num L 4 3) (nI (bn L 13)) si (nI (bn L 15)) (nI (bn L 16)) S) := fun si => by
    unfold c216_25
    rw [bd_s r15, bd_s r16, bd_s e215', bd_s s46]
  have fdef : f80 [.inr (.inr (some dk)), .inr (.inr (some a))] M = x_out (b80_20 dk (some a) (nI (bn L 13)) (nI (bn L 14)) M) := by
    show x_out (b80_0 dk (some a) M) = _
    unfold b80_0
    rw [bd_s o2, bd_s (c_I_of e13), bd_s o2, bd_s (c_I_of e14)]
    rcases isW with q | q
    · rw [q, if_neg (show ¬ nI 0 = 1 by decide)]; rfl
    · rw [q, if_pos (show nI 1 = 1 from rfl)]; rfl
  have edef : e216 (nI n) (nI f) (num L 4 3) S = s_go kS216 (c216_25 (nI n) (nI f) (num L 4 3) (nI (bn L 13)) (nI (bn L 14)) S) := by
    show s_go kS216 (c216_0 (nI n) (nI f) (num L 4 3) S) = _
    unfold c216_0
    rw [bd_s r13, bd_s r14]
    rcases isW with q | q
    · rw [q, if_neg (show ¬ nI 0 = 1 by decide)]; rfl
    · rw [q, if_pos (show nI 1 = 1 from rfl)]; rfl
  rw [fdef, edef, cls, ref]
  have isbad : x_out (b80_88 dk (some a) M) = some (none, Mb) ∧ s_go kS216 (c216_98 (nI n) (nI f) S) = some Sb := ⟨bad1, sgo _ _ bad2⟩
  have badly : ∃ M' S' ib fm OL' j', x_out (b80_88 dk (some a) M) = some (none, M') ∧ s_go kS216 (c216_98 (nI n) (nI f) S) = some S' ∧ HB sw nd rm M' S' ib w pe wo t zb sb fm [(a, g, L)] [(f, L)] kR ka tog ∧ NR nd M' S' t nc ca hh lv (u1 jj n j') (u1 G n (.inr (dk, OL'))) ∧ j' ≤ jj n + 1 := ⟨Mb, Sb, ia, fmb, OL, jj n, isbad.1, isbad.2, bad3, by rw [same.1, same.2]; exact bad4, by omega⟩
  by_cases z0 : b2 (lgB S n (num L 4 3) 0 lm) = 0
  · rw [if_pos z0, if_pos z0]; exact badly
  rw [if_neg z0, if_neg z0]
  by_cases z1 : 2 ≤ bn L 13
  · rw [if_pos (show (2 : Int32) ≤ nI (bn L 13) from nI_le (a := 2) z1 (by omega)), if_pos (show (1 : Int32) < nI (bn L 13) from nI_lt (a := 1) (by omega) (by omega))]; exact badly
  rw [if_neg (show ¬ (2 : Int32) ≤ nI (bn L 13) from nI_ge (b := 2) (by omega) (by omega)), if_neg (show ¬ (1 : Int32) < nI (bn L 13) from nI_nlt (b := bn L 13) (a := 1) (by omega) (by omega))]
  by_cases z2 : bn L 16 < 1
  · have : nI (bn L 16) < 1 := nI_lt (b := 1) z2 (by omega)
    rw [if_pos this, if_pos this]; exact badly
  have z2' : ¬ nI (bn L 16) < 1 := nI_nlt (b := 1) (by omega) (by omega)
  rw [if_neg z2', if_neg z2']
  by_cases z3 : 4 < bn L 16
  · have : 4 < nI (bn L 16) := nI_lt (a := 4) z3 (by omega)
    rw [if_pos this, if_pos this]; exact badly
  have z3' : ¬ 4 < nI (bn L 16) := nI_nlt (a := 4) (by omega) (by omega)
  rw [if_neg z3', if_neg z3', nI_add]
  by_cases z4 : 16 < bn L 15 + bn L 16
  · have : 16 < nI (bn L 15 + bn L 16) := nI_lt (a := 16) z4 (by omega)
    rw [if_pos this, if_pos this]; exact badly
  have z4' : ¬ 16 < nI (bn L 15 + bn L 16) := nI_nlt (a := 16) (by omega) (by omega)
  rw [if_neg z4', if_neg z4']
  have i16 : nI (bn L 13) * 16 + nI (bn L 15) = nI (16 * bn L 13 + bn L 15) := by
    rw [ixr16, nI_add, show bn L 13 * 16 = 16 * bn L 13 by omega]
  rcases isW with q | q
  · -- READ
    rw [q, if_pos (show nI 0 = 0 from rfl), if_pos (show nI 0 = 0 from rfl)]
    obtain ⟨M1, S1, fm1, y1, y2, y3, y4⟩ := P_blk h hn h2 had h3 (by omega) (show bn L 13 ≤ 1 by omega) (show bn L 16 ≤ 4 ∧ bn L 15 + bn L 16 ≤ 16 by omega)
    have hN1 := hN.fst hI y4
    have d1M := h2.kp y4.1 (by decide) (by decide)
    obtain ⟨M2, S2, fm2, w1, w2, w3, w4⟩ := P_done (rx := 0) (v := 0) y3 hn d1M (hN1.2.1 n hn) (by omega) (by omega)
    refine ⟨M2, S2, ia, fm2, OL, jj n, ?_, ?_, w3, by rw [same.1, same.2]; exact hN1.fst y3.I w4, by omega⟩
    · have w1' : f67 [.inr (.inr (some dk)), .inl 12, .inr (.inr (some a)), .inl 0, .inl 1, .inr (.inl 0)] M1 = some (none, M2) := w1
      unfold b80_101
      rw [if_pos (show nI 0 = 0 from rfl), bd_s o1, i16, bd_s (c_V_of y1), bd_s (g_o_t (ci := 1) d1M.2.1.1), bd_s (c_V_of w1')]
      rfl
    · have w2' : e213 (nI n) (nI f) 0 0 S1 = some S2 := w2
      unfold c216_109
      rw [if_pos (show nI 0 = 0 from rfl)]
      show sdrive kS216 xF 117 [.inl (nI n), .inl (nI f), .inl (nI (bn L 13)), .inl (nI (bn L 15)), .inl (nI (bn L 16)), .inl (nI 0)] S = _
      rw [y2]
      obtain ⟨g', hg'⟩ : ∃ g, xF - bn L 16 = g + 1 := ⟨xF - bn L 16 - 1, by unfold xF; omega⟩
      rw [hg']
      refine sd_end ?_
      show c216_117 (nI n) (nI f) (nI (bn L 13)) (nI (bn L 15)) (nI (bn L 16)) (nI (bn L 16)) S1 = _
      unfold c216_117
      rw [if_pos (nI_le (Nat.le_refl _) (by omega)), bd_s w2']
      rfl
  · -- WRITE
    rw [q, if_neg (show ¬ nI 1 = 0 by decide), if_neg (show ¬ nI 1 = 0 by decide)]
    rcases ho with ⟨rfl, ho6⟩ | ⟨i, hi, rfl, hni, ho5⟩
    · rw [if_pos rfl, ho6, if_pos (show nI 6 = 6 from rfl)]; exact badly
    rw [if_neg (by simp), if_neg (show ¬ nI OL.length = 6 from fun z => absurd ((nI_eq (b := 6) (by omega) (by omega)).mp z) (by omega))]
    obtain ⟨lr, lr', ib, OL', ⟨p1, p2, p3, p4⟩, hbN, hNN⟩ := P_opn (u := bn L 13) (b := bn L 15) (m := bn L 16) (ox := num L 7 2) (fr := num L 4 3) h hN hn hG hi hni ho5 (by omega) (by omega) hj
    have rx1 : (nI lr + 1) &&& 65535 = nI lr' := rxw p3 p4
    have t8 := (h2.2.2.2 i hi).2.1
    have t2 := h2.2.1.1
    have kM51 := k_hpi (f := 106) (a := dk) (v := nI lr') h.bk (by rw [t2]; decide)
    have hXM : rd (h_pi M 106 dk (nI lr')) a L := by
      obtain ⟨c1, c2, c3, c4⟩ := hX
      exact ⟨c1, by rw [fi_ne (by decide)]; exact c2, c3, c4⟩
    have e79 := f79_eq (rx := nI lr') (tt := nI t) (s := dk + 4 + 2 * i) (M := h_pi M 106 dk (nI lr')) t8 hXM h21 (by omega)
    have kN8 := wr8_kp (s := dk + 4 + 2 * i) (v := fun k => [1, num L 7 2, num L 4 3, nI lr', nI (16 * bn L 13 + bn L 15), nI (bn L 16), nI t, 0].getD k 0) kM51.1 t8
    have kN := ((kp.rf h.bk : kp [106, 700, 701, 702, 703, 704, 705, 706, 707] [] M M).tr kM51 rfl rfl).tr kN8 rfl rfl
    have dN := h2.kp kN (by decide) (by decide)
    have gN0 : h_fi (wr8 (h_pi M 106 dk (nI lr')) (dk + 4 + 2 * i) (fun k => [1, num L 7 2, num L 4 3, nI lr', nI (16 * bn L 13 + bn L 15), nI (bn L 16), nI t, 0].getD k 0)) 106 dk = nI lr' := by
      rw [wr8_o (by omega), fi_eq, u1_eq]
    generalize wr8 (h_pi M 106 dk (nI lr')) (dk + 4 + 2 * i) (fun k => [1, num L 7 2, num L 4 3, nI lr', nI (16 * bn L 13 + bn L 15), nI (bn L 16), nI t, 0].getD k 0) = N at *
    have rf := opn_ref (X := fun T => Option.bind (e212 (nI n) (nI f) 10 (nI lr') 0 T) fun q_123 => Option.bind (e167 q_123.1 (Int32.toInt64 (nI (bn L 16))) 1 q_123.2) fun q_129 => Option.bind (e176 (nI n) q_129) fun q_135 => Option.bind (e183 q_135.1 q_123.1 q_135.2) fun q_141 => c216_374 q_141) (u := nI (bn L 13)) (b := nI (bn L 15)) (c := nI (bn L 16)) (fr := num L 4 3) (t := t) (show n < 8 by omega) ho5 p2 rx1 hol.1.1 hXs (by omega) h.t2 (fun _ => rfl)
    generalize s_u (sw8 (s_u S 43 n (nI lr')) (48 * n + 8 * OL.length) (fun k => [num L 4 3, num L 7 2, nI lr', nI (bn L 13), nI (bn L 15), nI (bn L 16), 0, nI t].getD k 0)) 46 n (nI (OL.length + 1)) = T at *
    obtain ⟨M1, X1, X2, X3, f1, fm, x1, x2, x3, x4, x5, x6, x7⟩ := P_ans (k := 10) (wd := 1) (rx := nI lr') (v := bn L 16) hbN hn dN (hNN.2.1 n hn) (by omega) (Or.inr ⟨rfl, Or.inl rfl⟩) (by omega)
    refine ⟨M1, X3, ib, fm, OL', jj n + 1, ?_, ?_, x6, hNN.fst hbN.I x7, Nat.le_refl _⟩
    · -- the class
      have g106 : g_i M 1 6 (some dk) = some (nI lr) := (g_i_t (ci := 1) t2).trans (congrArg some p1)
      have p106 : p_i M 1 6 (some dk) (nI lr') = some (h_pi M 106 dk (nI lr')) := p_i_t (ci := 1) t2
      have f106 : h_fi (h_pi M 106 dk (nI lr')) 106 dk = nI lr' := by rw [fi_eq, u1_eq]
      have f903 : h_fi (h_pi M 106 dk (nI lr')) 903 2 = nI t := by rw [fi_ne (by decide)]; exact h.t1
      have g106' : g_i (h_pi M 106 dk (nI lr')) 1 6 (some dk) = some (nI lr') := (g_i_t (ci := 1) (M := h_pi M 106 dk (nI lr')) t2).trans (congrArg some f106)
      have g0' : g_r (h_pi M 106 dk (nI lr')) 1 0 (some dk) = some (some 2) := (g_r_t (ci := 1) (M := h_pi M 106 dk (nI lr')) t2).trans (congrArg some h2.2.1.2.1)
      have g9' : g_i (h_pi M 106 dk (nI lr')) 9 3 (some 2) = some (nI t) := (g_i_t (ci := 9) (M := h_pi M 106 dk (nI lr')) hI.sh0).trans (congrArg some f903)
      have g7' : g_o (h_pi M 106 dk (nI lr')) 7 (some (dk + 4 + 2 * i)) = some (dk + 4 + 2 * i) := g_o_t (ci := 7) (M := h_pi M 106 dk (nI lr')) t8
      have gN : g_i N 1 6 (some dk) = some (nI lr') := (g_i_t (ci := 1) dN.2.1.1).trans (congrArg some gN0)
      have x1' : f67 [.inr (.inr (some dk)), .inl 10, .inr (.inr (some a)), .inl (nI lr'), .inl 1, .inr (.inl (Int32.toInt64 (nI (bn L 16))))] N = some (none, M1) := x1
      unfold b80_101
      rw [if_neg (show ¬ nI 1 = 0 by decide), bd_s g106, rx1, bd_s p106, bd_s g106', bd_s g0', bd_s g9', bd_s g7', bd_s (c_V_of e79), bd_s gN, bd_s (g_o_t (ci := 1) dN.2.1.1), bd_s (c_V_of x1')]
      rfl
    · -- the reference
      have x2' : e212 (nI n) (nI f) 10 (nI lr') 0 T = some (nI f1, X1) := x2
      have x3' : e167 (nI f1) (Int32.toInt64 (nI (bn L 16))) 1 X1 = some X2 := x3 rfl
      show s_go kS216 (c216_109 (nI n) (nI f) (num L 4 3) (nI (bn L 13)) 1 (nI (bn L 15)) (nI (bn L 16)) S) = _
      rw [rf]
      show s_go kS216 (Option.bind (e212 (nI n) (nI f) 10 (nI lr') 0 T) _) = _
      rw [bd_s x2', bd_s x3', bd_s e176_v, bd_s x5]
      rfl
end TC
