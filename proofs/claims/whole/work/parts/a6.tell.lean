/-! ===== sendForPhase / tellsPhase ===== -/
theorem bn_1 {v : Nat} (hv : v < 256) : bn (byL (nI v).toInt64 1) 0 = v := by
  have := bn_small (v := v) (n := 1) (j := 0) (C := []) (by omega) (by omega) (by omega)
  rw [List.append_nil] at this
  rw [this]
  simp
  omega
theorem tru_g {sw nd k : Nat} {v2 v3 v4 v5 v6 : Int32} {D : List Int32} (hk : k < 128) (hD : D.length ≤ 31) (hF : ((k = 3 ∨ k = 5 ∨ k = 7) ∧ D.length = 1 ∧ bn D 0 < nd) ∨ (k = 8 ∨ k = 13 ∨ k = 14) ∨ (k = 9 ∧ D.length = 4 ∧ bn D 1 < 2) ∨ (k = 10 ∧ D.length = 1) ∨ (k = 11 ∧ D.length = 8) ∨ (k = 12 ∧ D.length = 1 ∧ bn D 0 < 2)) : tru sw nd (clL (hdL (nI k) v2 v3 v4 v5 v6 ++ D)) = true := by
  have l13 : (hdL (nI k) v2 v3 v4 v5 v6).length = 13 := hd_len
  have ll : (hdL (nI k) v2 v3 v4 v5 v6 ++ D).length = 13 + D.length := by rw [List.length_append, l13]
  rw [tru_cl (by rw [ll]; omega) (by rw [ll]; omega)]
  have e0 : bn (clL (hdL (nI k) v2 v3 v4 v5 v6 ++ D)) 0 = k := by
    rw [clL_get (by rw [ll]; omega) (by omega)]
    exact hd_0 hk
  have ed : ∀ j, j < D.length → bn (clL (hdL (nI k) v2 v3 v4 v5 v6 ++ D)) (13 + j) = bn D j := fun j hj => by
    rw [clL_get (by rw [ll]; omega) (by omega)]
    exact hd_T
  have el : (clL (hdL (nI k) v2 v3 v4 v5 v6 ++ D)).length = 17 + D.length := by rw [clL_len, ll]; omega
  unfold hfF
  rw [e0, el]
  rcases hF with ⟨q, q1, q2⟩ | q | ⟨q, q1, q2⟩ | ⟨q, q1⟩ | ⟨q, q1⟩ | ⟨q, q1, q2⟩
  · have := ed 0 (by omega)
    rw [show 13 + 0 = 13 from rfl] at this
    rw [this, q1]
    rcases q with rfl | rfl | rfl <;> simp [q2]
  · rcases q with rfl | rfl | rfl <;> simp
  · have := ed 1 (by omega)
    rw [show 13 + 1 = 14 from rfl] at this
    rw [this, q1, q]; simp [q2]
  · rw [q, q1]; simp
  · rw [q, q1]; simp
  · have := ed 0 (by omega)
    rw [show 13 + 0 = 13 from rfl] at this
    rw [this, q1, q]; simp [q2]
def ordV (un wr bl m : Nat) : Int64 := (((Int32.toInt64 (nI un)) <<< (Int32.toInt64 (24 : Int32) &&& 63) ||| (Int32.toInt64 (nI wr) <<< (Int32.toInt64 (16 : Int32) &&& 63))) ||| ((Int32.toInt64 (nI bl)) <<< (Int32.toInt64 (8 : Int32) &&& 63))) ||| (Int32.toInt64 (nI m))
theorem ord4 : ∀ un, un < 2 → ∀ wr, wr < 2 → ∀ bl, bl < 16 → ∀ m, m < 5 → byL (ordV un wr bl m) 4 = byL (nI un).toInt64 1 ++ byL (nI wr).toInt64 1 ++ byL (nI bl).toInt64 1 ++ byL (nI m).toInt64 1 := by decide +kernel
section TL
variable {sw nd rm : Nat} {M M' N : hM} {S S' T : sT} {ia ib : Nat → Nat → Int32} {w t x y zb sb a f n c nc : Nat} {pe : Nat → Option Nat} {wo : Nat → Nat} {fl fm : Nat → List (List Int32)} {hc hc' : List (Nat × Int32 × List Int32)} {hs hs' : List (Nat × List Int32)} {L Lr : List Int32} {F A : List Nat} {kR : Nat → rK} {ka : Nat → Nat → Nat} {tog : Nat → Bool} {g : Int32} {ca hh : Nat → Nat} {lv : Nat → Bool} {jj : Nat → Nat} {G : Nat → nG} {R : List Nat}
/-- four bytes at once, or one by one -/
theorem H_load4 {u u1 u2 u3 u4 : Int64} (h : HB sw nd rm M S ia w pe wo t zb sb fl ((a, g, L) :: hc) ((f, Lr) :: hs) kR ka tog) (e : byL u 4 = byL u1 1 ++ byL u2 1 ++ byL u3 1 ++ byL u4 1) (hn : L.length + 4 ≤ 44) (hn2 : Lr.length + 4 ≤ 80) : ∃ M' S1 S2 S3 S', f36 [.inr (.inr (some a)), .inl (nI 4), .inr (.inl u)] M = some (none, M') ∧ (e167 (nI f) u1 (nI 1) S = some S1 ∧ e167 (nI f) u2 (nI 1) S1 = some S2 ∧ e167 (nI f) u3 (nI 1) S2 = some S3 ∧ e167 (nI f) u4 (nI 1) S3 = some S') ∧ h_tg M' a = 3 ∧ HB sw nd rm M' S' ia w pe wo t zb sb fl ((a, g, L ++ byL u 4) :: hc) ((f, Lr ++ byL u 4) :: hs) kR ka tog ∧ fst M M' S S' := by
  obtain ⟨ct, h1, h2, h3, h4, h5, h6, h7⟩ := h.1.pb
  obtain ⟨M', m1, m2⟩ := FC_load (w := u) h1 hn (by omega)
  obtain ⟨S1, s1, r1⟩ := FR_add (w := u1) (n := 1) h2 (by omega)
  have l1 : (Lr ++ byL u1 1).length = Lr.length + 1 := by rw [List.length_append, byL_len]
  obtain ⟨S2, s2, r2⟩ := FR_add (w := u2) (n := 1) r1 (by omega)
  have l2 : (Lr ++ byL u1 1 ++ byL u2 1).length = Lr.length + 2 := by rw [List.length_append, byL_len, l1]
  obtain ⟨S3, s3, r3⟩ := FR_add (w := u3) (n := 1) r2 (by omega)
  have l3 : (Lr ++ byL u1 1 ++ byL u2 1 ++ byL u3 1).length = Lr.length + 3 := by rw [List.length_append, byL_len, l2]
  obtain ⟨S4, s4, r4⟩ := FR_add (w := u4) (n := 1) r3 (by omega)
  have eL : Lr ++ byL u1 1 ++ byL u2 1 ++ byL u3 1 ++ byL u4 1 = Lr ++ byL u 4 := by rw [e]; simp
  rw [eL] at r4
  have kS : ks [6, 7] S S4 := (((ks.rf.tr (ke167 s1) rfl : ks [6, 7] S S1).tr (ke167 s2) rfl).tr (ke167 s3) rfl).tr (ke167 s4) rfl
  have p1 : PB sw nd M' S4 ia zb sb fl fl ((a, g, L ++ byL u 4) :: hc) ((f, Lr ++ byL u 4) :: hs) := ⟨ct, m2, r4, h3, h4, h5, by rw [kS.i (by decide)]; exact h6, h7⟩
  obtain ⟨b1, b2⟩ := h.mv' (kf36 m1 h.bk) (by decide) (by decide) kS (by decide) p1 qx.rf
  exact ⟨M', S1, S2, S3, S4, m1, ⟨s1, s2, s3, s4⟩, (p1.rd List.mem_cons_self).1.1.1, b1, b2⟩
theorem sd_n (hn : n < nd) : sd sw nd (40 + n) := Or.inr (by omega)
theorem e176_v : e176 (nI n) S = some (nI (40 + n), S) := by
  show some ((40 : Int32) + nI n, S) = _
  rw [show (40 : Int32) = nI 40 from rfl, nI_add]
theorem f47_eq {ph : Nat} (h1 : h_tg M a = 1) (h2 : h_fi M 10 a = nI ph) (hp : ph ≤ 13) : f47 [.inr (.inr (some a))] M = some (some (.inl (b2 (decide (3 < ph)))), M) := by
  show x_out (b47_0 a M) = _
  unfold b47_0
  rw [bd_s ((g_i_t (ci := 0) h1).trans (congrArg some h2))]
  by_cases q : ph ≤ 3
  · rw [if_pos (show nI ph ≤ 3 from nI_le (b := 3) q (by omega))]
    have : decide (3 < ph) = false := by simp; omega
    rw [this]; rfl
  · rw [if_neg (show ¬ nI ph ≤ 3 from nI_ge (a := 3) (by omega) (by omega))]
    have : decide (3 < ph) = true := by simp; omega
    rw [this]; rfl
theorem P_tell (h : HB sw nd rm M S ia w pe wo t zb sb fl hc hs kR ka tog) (hN : NR nd M S t nc ca hh lv jj G) (hcn : c < nc) (hh1 : hc.length ≤ 3) (hh2 : hs.length ≤ 3) (h59 : S.1 59 c = -1) : ∃ M' S' fm, f49 [.inr (.inr (some (150 + hh c))), .inr (.inr (some (ca c)))] M = some (none, M') ∧ e204 (nI c) S = some S' ∧ HB sw nd rm M' S' ia w pe wo t zb sb fm hc hs kR ka tog ∧ fst M M' S S' := by
  have hI := h.I
  have hnd := hI.bs.2.1.2
  have nc3 := hN.1.1.2.2
  obtain ⟨⟨-, -, hn⟩, wr, un, bl, m, d, ph, bg, pa, cb, ⟨a1, -⟩, ⟨w1, w2, w3⟩, ⟨⟨c1, c2, c3⟩, ⟨c4, c5⟩, ⟨c6, c7, c8, c9, c10⟩⟩, ⟨d1, d2, d3, d4, d5⟩, ⟨e1, e2, -⟩, ⟨-, -, -, e3⟩, f1, -⟩ := hN.1.2.1 c hcn
  have ph3 : ph ≤ 3 := e3.mpr h59
  generalize hnn : hh c = n at *
  have ad := hN.2.1 n hn
  have tho := hI.ho0 hn
  have tno := hI.no0 hn
  have x48 := e176_v (n := n) (S := S)
  have g401 : ∀ N, cI sw nd rm N → g_r N 4 1 (some (150 + n)) = some (some (140 + n)) := fun N q => (g_r_t (ci := 4) (q.ho0 hn)).trans (congrArg some (q.ho2 hn))
  have g400 : g_r M 4 0 (some (150 + n)) = some (some 2) := (g_r_t (ci := 4) tho).trans (congrArg some (hI.ho1 hn))
  have g503 : g_i M 5 3 (some (140 + n)) = some (S.1 35 n) := (g_i_t (ci := 5) tno).trans (congrArg some ad)
  have s48 : s_a S 48 (nI c) = some (nI n) := by rw [ga48 (by omega), d2]
  have s35 : s_a S 35 (nI n) = some (S.1 35 n) := ga35 (by omega)
  have fdef : f49 [.inr (.inr (some (150 + n))), .inr (.inr (some (ca c)))] M = x_out (b49_0 (150 + n) (some (ca c)) M) := rfl
  have edef : e204 (nI c) S = s_out (c204_0 (nI c) S) := rfl
  rw [fdef, edef]
  unfold b49_0 c204_0
  rw [bd_s (g401 M hI), bd_s g503, bd_s s48, bd_s s35]
  by_cases z0 : S.1 35 n = 0
  · rw [if_pos z0, if_pos z0]
    exact ⟨M, S, fl, rfl, rfl, h, fst.rf h.bk⟩
  rw [if_neg z0, if_neg z0]
  have g47 := f47_eq a1 e1 (by omega)
  have ef : decide (3 < ph) = false := by simp; omega
  rw [ef] at g47
  have g10 : ∀ N, h_tg N (ca c) = 1 → h_fi N 10 (ca c) = nI ph → g_i N 0 10 (some (ca c)) = some (nI ph) := fun N q1 q2 => (g_i_t (ci := 0) q1).trans (congrArg some q2)
  have s56 : s_a S 56 (nI c) = some (nI ph) := by rw [ga56 (by omega), e2]
  rw [bd_s (g_o_t (ci := 0) a1), bd_s (c_I_of g47), if_pos (show b2 false = 0 from rfl), bd_s (g10 M a1 e1), bd_s s56]
  have g7 : g_i M 0 7 (some (ca c)) = some (nI c) := (g_i_t (ci := 0) a1).trans (congrArg some d1)
  have o9 : g_o M 9 (some 2) = some 2 := g_o_t (ci := 9) hI.sh0
  -- the end: it is posted
  have fin : ∀ a f M2 S2 L, HB sw nd rm M2 S2 ia w pe wo t zb sb fl ((a, 0, L) :: hc) ((f, L) :: hs) kR ka tog → fst M M2 S S2 → tru sw nd (clL L) = true → 13 ≤ L.length → L.length ≤ 44 → ∃ M' S' fm, x_out (b49_124 (150 + n) (some a) M2) = some (none, M') ∧ s_out (c204_189 (nI n) (nI f) S2) = some S' ∧ HB sw nd rm M' S' ia w pe wo t zb sb fm hc hs kR ka tog ∧ fst M M' S S' := fun a f M2 S2 L h2 k2 ht l1 l2 => by
    have hI2 := h2.I
    obtain ⟨M3, S3, fm, m1, m2, m3, m4⟩ := H_post h2 (sd_n hn) ht l1 l2
    refine ⟨M3, S3, fm, ?_, ?_, m3, k2.tr m4⟩
    · unfold b49_124
      have q1 : g_r M2 5 2 (some (140 + n)) = some (some (200 + (40 + n))) := (g_r_t (ci := 5) (hI2.no0 hn)).trans (congrArg some (hI2.no3 hn))
      rw [bd_s (g401 M2 hI2), bd_s q1, bd_s (g_o_t (ci := 8) (hI2.po0 (sd_n hn))), bd_s (c_V_of m1)]
      rfl
    · unfold c204_189
      rw [bd_s e176_v, bd_s m2]
      rfl
  -- the draft
  obtain ⟨kind, to, hkind, hto⟩ : ∃ kind : Nat, ∃ to : Int32, (ph = 0 ∧ kind = 5 ∧ to = 16777212 ∨ ph = 1 ∧ kind = 7 ∧ to = S.1 60 c ∨ ph = 2 ∧ kind = 9 ∧ to = S.1 60 c ∨ ph = 3 ∧ kind = 13 ∧ to = S.1 60 c) ∧ True := by
    have : ph = 0 ∨ ph = 1 ∨ ph = 2 ∨ ph = 3 := by omega
    rcases this with q | q | q | q
    · exact ⟨5, _, Or.inl ⟨q, rfl, rfl⟩, trivial⟩
    · exact ⟨7, _, Or.inr (Or.inl ⟨q, rfl, rfl⟩), trivial⟩
    · exact ⟨9, _, Or.inr (Or.inr (Or.inl ⟨q, rfl, rfl⟩)), trivial⟩
    · exact ⟨13, _, Or.inr (Or.inr (Or.inr ⟨q, rfl, rfl⟩)), trivial⟩
  obtain ⟨a', f', M1, S1, m1, s1, ta, hb1, k1⟩ := H_draft (v1 := nI kind) (v2 := to) (v3 := S.1 35 n) (v4 := nI c) 0 0 h hh1 hh2
  have t1 : h_tg M1 (ca c) = 1 := k1.1.t0 a1
  have i1 : ∀ k, fsF.contains k = false → h_fi M1 k (ca c) = h_fi M k (ca c) := fun k q => by rw [k1.1.fi q]
  have j1 : ∀ k, fsS.contains k = false → S1.1 k = S.1 k := fun k q => k1.2.2.i q
  have l13 : (hdL (nI kind) to (S.1 35 n) (nI c) 0 0).length = 13 := hd_len
  have e10 : h_fi M1 10 (ca c) = nI ph := by rw [i1 10 (by decide)]; exact e1
  have g10' := g10 M1 t1 e10
  have hIM1 := hb1.I
  have st34 : ∀ si0, si0 = to → b49_34 (150 + n) (some (ca c)) si0 M = (if nI ph = 0 then _ else _) := fun si0 q => by
    subst q
    unfold b49_34
    have q2 : t_2 (nI ph) = some (nI kind) := by
      rcases hkind with ⟨rfl, rfl, -⟩ | ⟨rfl, rfl, -⟩ | ⟨rfl, rfl, -⟩ | ⟨rfl, rfl, -⟩ <;> decide
    rw [bd_s g400, bd_s (g10 M a1 e1), bd_s q2, bd_s (g401 M hI), bd_s g503, bd_s g7, bd_s o9, bd_s (by rw [m1]; rfl : c_R _ = some (some a', M1)), bd_s g10']
  have st75 : ∀ si0 si1, si0 = to → si1 = nI kind → c204_75 (nI c) (nI n) (nI ph) si0 si1 S = (if nI ph = 0 then _ else _) := fun si0 si1 q1 q2 => by
    subst q1; subst q2
    unfold c204_75
    rw [bd_s s35, bd_s s1]
  have s60 : s_a S 60 (nI c) = some (S.1 60 c) := ga60 (by omega)
  have g9 : 1 ≤ ph → g_i M 0 9 (some (ca c)) = some (S.1 60 c) := fun q => (g_i_t (ci := 0) a1).trans (congrArg some (f1 q ph3))
  rcases hkind with ⟨rfl, rfl, rfl⟩ | ⟨rfl, rfl, rfl⟩ | ⟨rfl, rfl, rfl⟩ | ⟨rfl, rfl, rfl⟩
  · -- asks
    obtain ⟨M2, S2, m2, s2, tb, hb2, k2⟩ := H_load (n := 1) (u := Int32.toInt64 (nI d)) hb1 (by rw [l13]; omega) (by omega) (by rw [l13]; omega)
    obtain ⟨M3, S3, fm, r1, r2, r3, r4⟩ := fin a' f' M2 S2 _ hb2 (k1.tr k2) (tru_g (by omega) (by rw [byL_len]; omega) (Or.inl ⟨by omega, byL_len _ _, by rw [bn_1 (by omega)]; exact d5⟩)) (by rw [List.length_append, l13]; omega) (by rw [List.length_append, l13, byL_len]; omega)
    refine ⟨M3, S3, fm, ?_, ?_, r3, r4⟩
    · rw [if_pos (show nI 0 = 0 from rfl), st34 _ rfl, if_pos (show nI 0 = 0 from rfl), bd_s ((g_i_t (ci := 0) t1).trans (congrArg some (show h_fi M1 8 (ca c) = nI d by rw [i1 8 (by decide)]; exact d3))), bd_s (g_o_t (ci := 2) ta)]
      have m2' : f36 [.inr (.inr (some a')), .inl 1, .inr (.inl (Int32.toInt64 (nI d)))] M1 = some (none, M2) := m2
      rw [bd_s (c_V_of m2')]
      exact r1
    · rw [if_pos (show nI 0 = 0 from rfl)]
      unfold c204_54
      rw [if_pos (show nI 0 = 0 from rfl), st75 _ 5 rfl rfl, if_pos (show nI 0 = 0 from rfl), bd_s (show s_a S1 49 (nI c) = some (nI d) by rw [ga49 (by omega), j1 49 (by decide), d4])]
      have s2' : e167 (nI f') (Int32.toInt64 (nI d)) 1 S1 = some S2 := s2
      rw [bd_s s2']
      unfold c204_107
      rw [if_neg (show ¬ nI 0 = 1 by decide)]
      unfold c204_121
      rw [if_neg (show ¬ nI 0 = 2 by decide)]
      exact r2
  · -- logs in
    obtain ⟨M2, S2, m2, s2, tb, hb2, k2⟩ := H_load (n := 1) (u := Int32.toInt64 (nI n)) hb1 (by rw [l13]; omega) (by omega) (by rw [l13]; omega)
    obtain ⟨M3, S3, fm, r1, r2, r3, r4⟩ := fin a' f' M2 S2 _ hb2 (k1.tr k2) (tru_g (by omega) (by rw [byL_len]; omega) (Or.inl ⟨by omega, byL_len _ _, by rw [bn_1 (by omega)]; exact hn⟩)) (by rw [List.length_append, l13]; omega) (by rw [List.length_append, l13, byL_len]; omega)
    refine ⟨M3, S3, fm, ?_, ?_, r3, r4⟩
    · rw [if_neg (show ¬ nI 1 = 0 by decide), bd_s (g9 (by omega)), st34 _ rfl, if_neg (show ¬ nI 1 = 0 by decide), bd_s g10', if_pos (show nI 1 = 1 from rfl), bd_s (g401 M1 hIM1), bd_s ((g_i_t (ci := 5) (hIM1.no0 hn)).trans (congrArg some (hIM1.no2 hn))), bd_s (g_o_t (ci := 2) ta)]
      have m2' : f36 [.inr (.inr (some a')), .inl 1, .inr (.inl (Int32.toInt64 (nI n)))] M1 = some (none, M2) := m2
      rw [bd_s (c_V_of m2')]
      exact r1
    · rw [if_neg (show ¬ nI 1 = 0 by decide), if_pos (show nI 1 = 1 from rfl)]
      unfold c204_54
      rw [if_neg (show ¬ nI 1 = 0 by decide), bd_s s60, st75 _ 7 rfl rfl, if_neg (show ¬ nI 1 = 0 by decide)]
      have s2' : e167 (nI f') (Int32.toInt64 (nI n)) 1 S1 = some S2 := s2
      unfold c204_107
      rw [if_pos (show nI 1 = 1 from rfl), bd_s s2']
      unfold c204_121
      rw [if_neg (show ¬ nI 1 = 2 by decide)]
      exact r2
  · -- commands
    have eo := ord4 un (by omega) wr (by omega) bl (by omega) m (by omega)
    obtain ⟨M2, S2, S3, S4, S5, m2, ⟨s2, s3, s4, s5⟩, tb, hb2, k2⟩ := H_load4 (u1 := Int32.toInt64 (nI un)) (u2 := Int32.toInt64 (nI wr)) (u3 := Int32.toInt64 (nI bl)) (u4 := Int32.toInt64 (nI m)) hb1 eo (by rw [l13]; omega) (by rw [l13]; omega)
    have bw : bn (byL (ordV un wr bl m) 4) 1 < 2 := by
      rw [eo]
      have : wr = 0 ∨ wr = 1 := by omega
      rcases this with rfl | rfl
      · show bn (byL (nI 0).toInt64 1) 0 < 2
        rw [bn_1 (by omega)]; omega
      · show bn (byL (nI 1).toInt64 1) 0 < 2
        rw [bn_1 (by omega)]; omega
    obtain ⟨M3, S6, fm, r1, r2, r3, r4⟩ := fin a' f' M2 S5 _ hb2 (k1.tr k2) (tru_g (by omega) (by rw [byL_len]; omega) (Or.inr (Or.inr (Or.inl ⟨rfl, byL_len _ _, bw⟩)))) (by rw [List.length_append, l13]; omega) (by rw [List.length_append, l13, byL_len]; omega)
    have e48 : f48 [.inr (.inr (some (ca c)))] M1 = some (some (.inr (.inl (ordV un wr bl m))), M1) := by
      have q1 : g_i M1 0 1 (some (ca c)) = some (nI un) := (g_i_t (ci := 0) t1).trans (congrArg some (by show h_fi M1 1 (ca c) = _; rw [i1 1 (by decide)]; exact c1))
      have q0 : g_i M1 0 0 (some (ca c)) = some (nI wr) := (g_i_t (ci := 0) t1).trans (congrArg some (by show h_fi M1 0 (ca c) = _; rw [i1 0 (by decide)]; exact w1))
      have q2 : g_i M1 0 2 (some (ca c)) = some (nI bl) := (g_i_t (ci := 0) t1).trans (congrArg some (by show h_fi M1 2 (ca c) = _; rw [i1 2 (by decide)]; exact c4))
      have q3 : g_i M1 0 3 (some (ca c)) = some (nI m) := (g_i_t (ci := 0) t1).trans (congrArg some (by show h_fi M1 3 (ca c) = _; rw [i1 3 (by decide)]; exact c6))
      show x_out (b48_0 (ca c) M1) = _
      unfold b48_0 b48_20
      rw [bd_s q1, bd_s q0, bd_s q2, bd_s q3, bd_s q2, bd_s q3]
      have : wr = 0 ∨ wr = 1 := by omega
      rcases this with rfl | rfl
      · rw [if_pos (show nI 0 = 0 from rfl)]; rfl
      · rw [if_neg (show ¬ nI 1 = 0 by decide)]; rfl
    have c48 : c_L (f48 [.inr (.inr (some (ca c)))] M1) = some (ordV un wr bl m, M1) := by rw [e48]; rfl
    refine ⟨M3, S6, fm, ?_, ?_, r3, r4⟩
    · rw [if_neg (show ¬ nI 2 = 0 by decide), bd_s (g9 (by omega)), st34 _ rfl, if_neg (show ¬ nI 2 = 0 by decide), bd_s g10', if_neg (show ¬ nI 2 = 1 by decide), bd_s g10', if_pos (show nI 2 = 2 from rfl), bd_s (g_o_t (ci := 0) t1), bd_s c48, bd_s (g_o_t (ci := 2) ta)]
      have m2' : f36 [.inr (.inr (some a')), .inl 4, .inr (.inl (ordV un wr bl m))] M1 = some (none, M2) := m2
      rw [bd_s (c_V_of m2')]
      exact r1
    · rw [if_neg (show ¬ nI 2 = 0 by decide), if_neg (show ¬ nI 2 = 1 by decide), if_pos (show nI 2 = 2 from rfl)]
      unfold c204_54
      rw [if_neg (show ¬ nI 2 = 0 by decide), bd_s s60, st75 _ 9 rfl rfl, if_neg (show ¬ nI 2 = 0 by decide)]
      unfold c204_107
      rw [if_neg (show ¬ nI 2 = 1 by decide)]
      have s2' : e167 (nI f') (Int32.toInt64 (nI un)) 1 S1 = some S2 := s2
      have s3' : e167 (nI f') (Int32.toInt64 (nI wr)) 1 S2 = some S3 := s3
      have s4' : e167 (nI f') (Int32.toInt64 (nI bl)) 1 S3 = some S4 := s4
      have s5' : e167 (nI f') (Int32.toInt64 (nI m)) 1 S4 = some S5 := s5
      have y2 := ke167 s2'
      have y3 := ke167 s3'
      have y4 := ke167 s4'
      have z51 : s_a S1 51 (nI c) = some (nI un) := by rw [ga51 (by omega), j1 51 (by decide), c2]
      have z50 : s_a S2 50 (nI c) = some (nI wr) := by rw [ga50 (by omega), y2.i (by decide), j1 50 (by decide), w2]
      have z52 : s_a S3 52 (nI c) = some (nI bl) := by rw [ga52 (by omega), y3.i (by decide), y2.i (by decide), j1 52 (by decide), c5]
      have z53 : s_a S4 53 (nI c) = some (nI m) := by rw [ga53 (by omega), y4.i (by decide), y3.i (by decide), y2.i (by decide), j1 53 (by decide), c7]
      have last : ∀ sl0 : Int64, sl0 = Int32.toInt64 (nI wr) → s_out (c204_157 (nI c) (nI n) (nI f') sl0 (nI f') S2) = some S6 := fun sl0 q => by
        subst q
        unfold c204_157
        rw [bd_s s3', bd_s z52, bd_s s4', bd_s z53, bd_s s5']
        exact r2
      unfold c204_121
      rw [if_pos (show nI 2 = 2 from rfl), bd_s z51, bd_s s2', bd_s z50]
      have : wr = 0 ∨ wr = 1 := by omega
      rcases this with rfl | rfl
      · rw [if_pos (show nI 0 = 0 from rfl)]; exact last 0 (by decide)
      · rw [if_neg (show ¬ nI 1 = 0 by decide)]; exact last 1 (by decide)
  · -- aborts
    have hb2 := hb1
    have hL : ∀ X : List Int32, X ++ [] = X := List.append_nil
    rw [← hL (hdL (nI 13) (S.1 60 c) (S.1 35 n) (nI c) 0 0)] at hb2
    obtain ⟨M3, S3, fm, r1, r2, r3, r4⟩ := fin a' f' M1 S1 _ hb2 k1 (tru_g (by omega) (by show 0 ≤ 31; omega) (Or.inr (Or.inl (by omega)))) (by rw [List.append_nil, l13]; omega) (by rw [List.append_nil, l13]; omega)
    refine ⟨M3, S3, fm, ?_, ?_, r3, r4⟩
    · rw [if_neg (show ¬ nI 3 = 0 by decide), bd_s (g9 (by omega)), st34 _ rfl, if_neg (show ¬ nI 3 = 0 by decide), bd_s g10', if_neg (show ¬ nI 3 = 1 by decide), bd_s g10', if_neg (show ¬ nI 3 = 2 by decide)]
      exact r1
    · rw [if_neg (show ¬ nI 3 = 0 by decide), if_neg (show ¬ nI 3 = 1 by decide), if_neg (show ¬ nI 3 = 2 by decide)]
      unfold c204_54
      rw [if_neg (show ¬ nI 3 = 0 by decide), bd_s s60, st75 _ 13 rfl rfl, if_neg (show ¬ nI 3 = 0 by decide)]
      unfold c204_107
      rw [if_neg (show ¬ nI 3 = 1 by decide)]
      unfold c204_121
      rw [if_neg (show ¬ nI 3 = 2 by decide)]
      exact r2
end TL
