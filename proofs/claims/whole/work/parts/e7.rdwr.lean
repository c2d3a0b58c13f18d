/-! ===== read and write ===== -/
def okV (v3 v4 v5 : Int32) : Prop := ∃ un bl m : Nat, un ≤ 1 ∧ (1 ≤ m ∧ m ≤ 4 ∧ bl + m ≤ 16) ∧ v3 = nI un ∧ v4 = nI bl ∧ v5 = nI m
def cS1 (S : sT) (nc n t : Nat) (wr d un bl m : Int32) : sT := s_u (s_u (s_u (s_u (s_u (s_u (s_u (s_u (s_u (s_u (s_u (s_u S 47 0 (nI (nc + 1))) 34 n 1) 48 nc (nI n)) 49 nc d) 50 nc wr) 51 nc un) 52 nc bl) 53 nc m) 55 nc 0) 58 nc (nI t)) 59 nc (-1)) 60 nc (-1)
section RW
variable {sw nd rm : Nat} {M M' N : hM} {S T : sT} {ia : Nat → Nat → Int32} {w t x y z zb sb nc c s p n m i a b f j d r : Nat} {pe : Nat → Option Nat} {wo : Nat → Nat} {fl fm : Nat → List (List Int32)} {kR : Nat → rK} {ka : Nat → Nat → Nat} {tog : Nat → Bool} {ca hh : Nat → Nat} {lv : Nat → Bool} {jj : Nat → Nat} {G : Nat → nG} {v v1 v2 v3 v4 v5 v6 : Int32} {R : List Nat} {w6 : Int64} {wr un bl : Nat}
theorem TW.mv (h : TW sw nd rm M S ia w pe wo t zb sb fl kR ka tog) (k : kp [200, 201, 202, 203, 300, 301, 302, 907] [0, 20, 21] M M') (l : ks [4, 6, 7, 8, 9, 18, 19] S T) (p : PB sw nd M' T ia zb sb fm fm [] []) (q : qx S fl fm) : TW sw nd rm M' T ia w pe wo t zb sb fm kR ka tog ∧ fst M M' S T := by
  refine ⟨⟨h.1.keep k (by decide) (by decide) l (by decide) p, h.2.1.keep k (by decide) l (by decide) q h.x48, h.2.2⟩, k, fun a ha e => ?_, l⟩
  have e' : h_tg M' a = 20 := k.t0 e
  obtain ⟨ct, d1, -⟩ := h.1.pb
  obtain ⟨ct', d1', -⟩ := p
  exact ⟨e', (d1'.1.1 a (Or.inr e') (by omega)).trans (d1.1.1 a (Or.inr e) (by omega)).symm⟩
theorem P_tell0 (h : TW sw nd rm M S ia w pe wo t zb sb fl kR ka tog) (hN : NR nd M S t nc ca hh lv jj G) (hcn : c < nc) (h56 : S.1 56 c = 0) : ∃ M' S' fm, f49 [.inr (.inr (some (150 + hh c))), .inr (.inr (some (ca c)))] M = some (none, M') ∧ e204 (nI c) S = some S' ∧ TW sw nd rm M' S' ia w pe wo t zb sb fm kR ka tog ∧ fst M M' S S' := by
  have hI := h.I
  have hW := h.W
  have hnd := hI.bs.2.1.2
  have nc3 := hN.1.1.2.2
  have hb := h.1.pb.bk
  obtain ⟨⟨-, -, hn⟩, wr, un, bl, m, d, ph, bg, pa, cb, ⟨a1, -⟩, -, -, ⟨d1, d2, d3, d4, d5⟩, ⟨e1, e2, e2'⟩, -⟩ := hN.1.2.1 c hcn
  have ph0 : ph = 0 := by
    rw [h56] at e2
    exact ((nI_eq (a := 0) (by omega) (by omega)).mp e2).symm
  subst ph0
  generalize hnn : hh c = n at *
  have ad := hN.2.1 n hn
  have g401 : ∀ N, cI sw nd rm N → g_r N 4 1 (some (150 + n)) = some (some (140 + n)) := fun N q => (g_r_t (ci := 4) (q.ho0 hn)).trans (congrArg some (q.ho2 hn))
  have g400 : g_r M 4 0 (some (150 + n)) = some (some 2) := (g_r_t (ci := 4) (hI.ho0 hn)).trans (congrArg some (hI.ho1 hn))
  have g503 : g_i M 5 3 (some (140 + n)) = some (S.1 35 n) := (g_i_t (ci := 5) (hI.no0 hn)).trans (congrArg some ad)
  have s48 : s_a S 48 (nI c) = some (nI n) := by rw [ga48 (by omega), d2]
  have s35 : s_a S 35 (nI n) = some (S.1 35 n) := ga35 (by omega)
  have s56 : s_a S 56 (nI c) = some 0 := by rw [ga56 (by omega), h56]
  have fdef : f49 [.inr (.inr (some (150 + n))), .inr (.inr (some (ca c)))] M = x_out (b49_0 (150 + n) (some (ca c)) M) := rfl
  have edef : e204 (nI c) S = s_out (c204_0 (nI c) S) := rfl
  rw [fdef, edef]
  unfold b49_0 c204_0
  rw [bd_s (g401 M hI), bd_s g503, bd_s s48, bd_s s35]
  by_cases z0 : S.1 35 n = 0
  · rw [if_pos z0, if_pos z0]
    exact ⟨M, S, fl, rfl, rfl, h, fst.rf hb⟩
  have g47 : f47 [.inr (.inr (some (ca c)))] M = some (some (.inl 0), M) := f47_eq a1 e1 (by omega)
  have g10 : g_i M 0 10 (some (ca c)) = some 0 := (g_i_t (ci := 0) a1).trans (congrArg some e1)
  have g7 : g_i M 0 7 (some (ca c)) = some (nI c) := (g_i_t (ci := 0) a1).trans (congrArg some d1)
  rw [if_neg z0, if_neg z0, bd_s (g_o_t (ci := 0) a1), bd_s (c_I_of g47), if_pos rfl, bd_s g10, if_pos rfl, bd_s s56, if_pos rfl]
  unfold b49_34 c204_54
  obtain ⟨a', f', M1, S1, m1, s1, f18, pb1⟩ := P_draft (v1 := 5) (v2 := 16777212) (v3 := S.1 35 n) (v4 := nI c) (v5 := 0) (v6 := 0) hI h.1.pb (by show 0 ≤ 3; omega) (by show 0 ≤ 3; omega)
  have k1 := kf34 m1 hb
  have l1 := ke168 s1
  have hI1 := hI.keep k1 (by decide) (by decide)
  have t1 : h_tg M1 (ca c) = 1 := k1.t0 a1
  have ta : h_tg M1 a' = 3 := (pb1.rd List.mem_cons_self).1.1.1
  have l13 : (hdL 5 16777212 (S.1 35 n) (nI c) 0 0).length = 13 := hd_len
  obtain ⟨M2, S2, m2, s2, pb2⟩ := P_load (n := 1) (w := (nI d).toInt64) pb1 (by rw [l13]; omega) (by omega) (by rw [l13]; omega)
  have m2' : f36 [.inr (.inr (some a')), .inl (1 : Int32), .inr (.inl (nI d).toInt64)] M1 = some (none, M2) := m2
  have s2' : e167 (nI f') (nI d).toInt64 (1 : Int32) S1 = some S2 := s2
  have k2 := kf36 m2 k1.1
  have l2 := ke167 s2
  have hI2 := hI1.keep k2 (by decide) (by decide)
  have k12 : kp [200, 201, 202, 203, 300, 301, 302, 907] [0, 20, 21] M M2 := ((kp.rf hb : kp [200, 201, 202, 203, 300, 301, 302, 907] [0, 20, 21] M M).tr k1 rfl rfl).tr k2 rfl rfl
  have l12 : ks [4, 6, 7, 8, 9, 18, 19] S S2 := ((ks.rf : ks [4, 6, 7, 8, 9, 18, 19] S S).tr l1 rfl).tr l2 rfl
  have lL : (hdL 5 16777212 (S.1 35 n) (nI c) 0 0 ++ byL (nI d).toInt64 1).length = 14 := by rw [List.length_append, l13, byL_len]
  have tr : tru sw nd (clL (hdL 5 16777212 (S.1 35 n) (nI c) 0 0 ++ byL (nI d).toInt64 1)) = true := tru_g (k := 5) (by omega) (by rw [byL_len]; omega) (Or.inl ⟨Or.inr (Or.inl rfl), byL_len _ _, by rw [bn_1 (by omega)]; exact d5⟩)
  have hx : sd sw nd (40 + n) := sd_n hn
  have eu : ∀ z, upS S2 z = upS S z := fun z => upS_ks l12 (by decide) (by decide)
  obtain ⟨M3, S3, m3, s3, pb3⟩ := P_post hI2 pb2 (hW.wO.ks l12 (by decide)) (show h_fi M2 805 (200 + (40 + n)) = upS S2 (40 + n) by rw [k12.fi (by decide), eu]; exact hW.up hx) hx tr (by rw [lL]; omega)
  have k3 := kf39 m3 k2.1
  have l3 := ke183 s3
  obtain ⟨q1, q2⟩ := h.mv (k12.tr k3 rfl rfl) (l12.tr l3 rfl) pb3 (by rw [eu]; exact qx_pq (by rw [lL]; omega) (by rw [lL]; omega))
  refine ⟨M3, S3, _, ?_, ?_, q1, q2⟩
  · have g10' : g_i M1 0 10 (some (ca c)) = some 0 := (g_i_t (ci := 0) t1).trans (congrArg some (by show h_fi M1 10 (ca c) = 0; rw [k1.fi (by decide)]; exact e1))
    have g8 : g_i M1 0 8 (some (ca c)) = some (nI d) := (g_i_t (ci := 0) t1).trans (congrArg some (by show h_fi M1 8 (ca c) = _; rw [k1.fi (by decide)]; exact d3))
    rw [bd_s g400, bd_s g10, bd_s (show t_2 0 = some 5 by decide), bd_s (g401 M hI), bd_s g503, bd_s g7, bd_s (g_o_t (ci := 9) hI.sh0), bd_s (c_R_of m1), bd_s g10', if_pos rfl, bd_s g8, bd_s (g_o_t (ci := 2) ta), bd_s (c_V_of m2')]
    unfold b49_124
    rw [bd_s (g401 M2 hI2), bd_s ((g_r_t (ci := 5) (hI2.no0 hn)).trans (congrArg some (hI2.no3 hn))), bd_s (g_o_t (ci := 8) (hI2.po0 hx)), bd_s (c_V_of m3)]
    rfl
  · rw [if_pos rfl]
    unfold c204_75
    have s49 : s_a S1 49 (nI c) = some (nI d) := by rw [ga49 (by omega), l1.i (by decide), d4]
    rw [bd_s s35, bd_s s1, if_pos rfl, bd_s s49, bd_s s2']
    unfold c204_107
    rw [if_neg (show ¬ (0 : Int32) = 1 by decide)]
    unfold c204_121
    rw [if_neg (show ¬ (0 : Int32) = 2 by decide)]
    unfold c204_189
    rw [bd_s e176_v, bd_s s3]
    rfl
theorem cls_no {X Y : Option xRes} (h : ¬ okV v3 v4 v5) : (if v3 < 0 then Y else (if (2 : Int32) ≤ v3 then Y else (if v5 < (1 : Int32) then Y else (if (4 : Int32) < v5 then Y else (if v4 < 0 then Y else (if ((16 : Int32) - v5) < v4 then Y else X)))))) = Y := by
  by_cases q1 : v3 < 0
  · rw [if_pos q1]
  rw [if_neg q1]
  by_cases q2 : (2 : Int32) ≤ v3
  · rw [if_pos q2]
  rw [if_neg q2]
  by_cases q3 : v5 < 1
  · rw [if_pos q3]
  rw [if_neg q3]
  by_cases q4 : (4 : Int32) < v5
  · rw [if_pos q4]
  rw [if_neg q4]
  by_cases q5 : v4 < 0
  · rw [if_pos q5]
  rw [if_neg q5]
  by_cases q6 : ((16 : Int32) - v5) < v4
  · rw [if_pos q6]
  exfalso
  rcases pk_ix v3 (n := 2) (by omega) with z | z | ⟨un, hu, rfl⟩
  · exact q1 z
  · exact q2 z
  have q5' : ¬ v5 < 0 := fun q => q3 (Int32.lt_iff_toInt_lt.mpr (by
    have h := Int32.lt_iff_toInt_lt.mp q
    have e0 : (0 : Int32).toInt = 0 := rfl
    have e1 : (1 : Int32).toInt = 1 := rfl
    omega))
  obtain ⟨m, hm, rfl⟩ := nI_of2 (M := 4) (n := 4) (by decide) q5' (Int32.not_lt.mp q4)
  have m1 : 1 ≤ m := by
    by_cases z : m = 0
    · subst z; exact absurd (by decide) q3
    · omega
  obtain ⟨bl, hb, rfl⟩ := nI_of q5
  have e : (16 : Int32) - nI m = nI (16 - m) := pk_sub (a := 16) (by omega)
  rw [e] at q6
  have : ¬ 16 - m < bl := fun z => q6 (nI_lt z hb)
  exact h ⟨un, bl, m, by omega, ⟨m1, hm, by omega⟩, rfl, rfl, rfl⟩
theorem cls_yes {X Y : Option xRes} (hu : un ≤ 1) (hm : 1 ≤ m ∧ m ≤ 4 ∧ bl + m ≤ 16) : (if nI un < 0 then Y else (if (2 : Int32) ≤ nI un then Y else (if nI m < (1 : Int32) then Y else (if (4 : Int32) < nI m then Y else (if nI bl < 0 then Y else (if ((16 : Int32) - nI m) < nI bl then Y else X)))))) = X := by
  have e : (16 : Int32) - nI m = nI (16 - m) := pk_sub (a := 16) (by omega)
  rw [e, if_neg (nI_pos (by omega)), if_neg (show ¬ (2 : Int32) ≤ nI un from nI_ge (b := 2) (by omega) (by omega)), if_neg (show ¬ nI m < 1 from nI_nlt (b := 1) (by omega) (by omega)), if_neg (show ¬ (4 : Int32) < nI m from nI_nlt (a := 4) (by omega) (by omega)), if_neg (nI_pos (by omega)), if_neg (nI_nlt (by omega) (by omega))]
theorem ref_no {X Y : Option (sRes (Int32 × sT))} (h : ¬ okV v3 v4 v5) : (if v3 < 0 then Y else (if (1 : Int32) < v3 then Y else (if v4 < 0 then Y else (if (15 : Int32) < v4 then Y else (if v5 < (1 : Int32) then Y else (if (4 : Int32) < v5 then Y else (if (16 : Int32) < (v4 + v5) then Y else X))))))) = Y := by
  by_cases q1 : v3 < 0
  · rw [if_pos q1]
  rw [if_neg q1]
  by_cases q2 : (1 : Int32) < v3
  · rw [if_pos q2]
  rw [if_neg q2]
  by_cases q5 : v4 < 0
  · rw [if_pos q5]
  rw [if_neg q5]
  by_cases q6 : (15 : Int32) < v4
  · rw [if_pos q6]
  rw [if_neg q6]
  by_cases q3 : v5 < 1
  · rw [if_pos q3]
  rw [if_neg q3]
  by_cases q4 : (4 : Int32) < v5
  · rw [if_pos q4]
  rw [if_neg q4]
  by_cases q7 : (16 : Int32) < v4 + v5
  · rw [if_pos q7]
  exfalso
  obtain ⟨un, hu, rfl⟩ := nI_of2 (M := 1) (n := 1) (by decide) q1 (Int32.not_lt.mp q2)
  obtain ⟨bl, hb, rfl⟩ := nI_of2 (M := 15) (n := 15) (by decide) q5 (Int32.not_lt.mp q6)
  have q5' : ¬ v5 < 0 := fun q => q3 (Int32.lt_iff_toInt_lt.mpr (by
    have h := Int32.lt_iff_toInt_lt.mp q
    have e0 : (0 : Int32).toInt = 0 := rfl
    have e1 : (1 : Int32).toInt = 1 := rfl
    omega))
  obtain ⟨m, hm, rfl⟩ := nI_of2 (M := 4) (n := 4) (by decide) q5' (Int32.not_lt.mp q4)
  have m1 : 1 ≤ m := by
    by_cases z : m = 0
    · subst z; exact absurd (by decide) q3
    · omega
  rw [nI_add] at q7
  have : ¬ 16 < bl + m := fun z => q7 (nI_lt (a := 16) z (by omega))
  exact h ⟨un, bl, m, hu, ⟨m1, hm, by omega⟩, rfl, rfl, rfl⟩
theorem ref_yes {X Y : Option (sRes (Int32 × sT))} (hu : un ≤ 1) (hm : 1 ≤ m ∧ m ≤ 4 ∧ bl + m ≤ 16) : (if nI un < 0 then Y else (if (1 : Int32) < nI un then Y else (if nI bl < 0 then Y else (if (15 : Int32) < nI bl then Y else (if nI m < (1 : Int32) then Y else (if (4 : Int32) < nI m then Y else (if (16 : Int32) < (nI bl + nI m) then Y else X))))))) = X := by
  rw [nI_add, if_neg (nI_pos (by omega)), if_neg (show ¬ (1 : Int32) < nI un from nI_nlt (a := 1) (by omega) (by omega)), if_neg (nI_pos (by omega)), if_neg (show ¬ (15 : Int32) < nI bl from nI_nlt (a := 15) (by omega) (by omega)), if_neg (show ¬ nI m < 1 from nI_nlt (b := 1) (by omega) (by omega)), if_neg (show ¬ (4 : Int32) < nI m from nI_nlt (a := 4) (by omega) (by omega)), if_neg (show ¬ (16 : Int32) < nI (bl + m) from nI_nlt (a := 16) (by omega) (by omega))]
/-- the reference counts, and takes it in -/
theorem k243_lp (h47 : S.1 47 0 = nI nc) (h48 : ∀ c, c < nc → S.1 48 c = nI (hh c) ∧ hh c < nd) (hnc : nc < 300) (hn : n < nd) (h8 : nd ≤ 8) (h3 : S.1 3 0 = nI t) (hv6 : v6 = 0 ∨ v6 = 1) : ∀ k i fuel, i + k = nc → k < fuel → sdrive kS243 fuel 103 [.inl (nI n), .inl v2, .inl v3, .inl v4, .inl v5, .inl v6, .inl (nI (cn (fun c => decide (hh c = n ∧ S.1 59 c = -1)) i)), .inl (nI i)] S = (if cn (fun c => decide (hh c = n ∧ S.1 59 c = -1)) nc = 4 then some (-1, S) else some (nI nc, cS1 S nc n t v6 v2 v3 v4 v5))
  | 0, i, fuel, hi, hf => by
    obtain ⟨g, rfl⟩ : ∃ g, fuel = g + 1 := ⟨fuel - 1, by omega⟩
    have e : i = nc := by omega
    subst e
    have hcn := cn_le (p := fun c => decide (hh c = n ∧ S.1 59 c = -1)) i
    have s47 : s_g S 47 = nI i := h47
    have cond : (nI (cn (fun c => decide (hh c = n ∧ S.1 59 c = -1)) i) = 4) ↔ cn (fun c => decide (hh c = n ∧ S.1 59 c = -1)) i = 4 := nI_eq (b := 4) (by omega) (by omega)
    have st : kS243 103 [.inl (nI n), .inl v2, .inl v3, .inl v4, .inl v5, .inl v6, .inl (nI (cn (fun c => decide (hh c = n ∧ S.1 59 c = -1)) i)), .inl (nI i)] S = some (.inl (if cn (fun c => decide (hh c = n ∧ S.1 59 c = -1)) i = 4 then (-1, S) else (nI i, cS1 S i n t v6 v2 v3 v4 v5))) := by
      show c243_103 (nI n) v2 v3 v4 v5 v6 _ (nI i) S = _
      unfold c243_103
      rw [s47, if_pos (Int32.le_refl _)]
      by_cases q : cn (fun c => decide (hh c = n ∧ S.1 59 c = -1)) i = 4
      · rw [if_pos (cond.mpr q), if_pos q]
      · rw [if_neg (fun z => q (cond.mp z)), if_neg q, nI_1, bd_s (show s_p S 47 (nI (i + 1)) = some (s_u S 47 0 (nI (i + 1))) from rfl), bd_s (gs34_1 (by omega)), bd_s (gs48 hnc), bd_s (gs49 hnc), bd_s (s_sz_t hv6 (show i < 300 from hnc) (by omega)), bd_s (gs51 hnc), bd_s (gs52 hnc), bd_s (gs53 hnc), bd_s (gs55 hnc)]
        have e3 : ∀ U : sT, U.1 3 = S.1 3 → s_g U 3 = nI t := fun U e => by show U.1 3 0 = _; rw [e]; exact h3
        rw [e3 _ (by rw [su_ne (by decide), su_ne (by decide), su_ne (by decide), su_ne (by decide), su_ne (by decide), su_ne (by decide), su_ne (by decide), su_ne (by decide), su_ne (by decide)]), bd_s (gs58 hnc), bd_s (gs59 hnc), bd_s (gs60 hnc)]
        rfl
    rw [sd_end st]
    split <;> rfl
  | k + 1, i, fuel, hi, hf => by
    obtain ⟨g, rfl⟩ : ∃ g, fuel = g + 1 := ⟨fuel - 1, by omega⟩
    have s47 : s_g S 47 = nI nc := h47
    obtain ⟨q1, q2⟩ := h48 i (by omega)
    have st : kS243 103 [.inl (nI n), .inl v2, .inl v3, .inl v4, .inl v5, .inl v6, .inl (nI (cn (fun c => decide (hh c = n ∧ S.1 59 c = -1)) i)), .inl (nI i)] S = some (.inr (103, [.inl (nI n), .inl v2, .inl v3, .inl v4, .inl v5, .inl v6, .inl (nI (cn (fun c => decide (hh c = n ∧ S.1 59 c = -1)) (i + 1))), .inl (nI (i + 1))], S)) := by
      show c243_103 (nI n) v2 v3 v4 v5 v6 _ (nI i) S = _
      unfold c243_103
      have ec : cn (fun c => decide (hh c = n ∧ S.1 59 c = -1)) (i + 1) = cn (fun c => decide (hh c = n ∧ S.1 59 c = -1)) i + if decide (hh i = n ∧ S.1 59 i = -1) = true then 1 else 0 := rfl
      rw [s47, if_neg (nI_ge (by omega) (by omega)), bd_s ((ga48 (by omega)).trans (congrArg some q1)), ec]
      by_cases z : hh i = n
      · rw [if_pos (by rw [z]), bd_s (ga59 (by omega))]
        by_cases y : S.1 59 i = -1
        · rw [if_pos y, if_pos (decide_eq_true ⟨z, y⟩)]
          unfold c243_137
          rw [nI_1, nI_1]
        · rw [if_neg y, if_neg (fun q => y (of_decide_eq_true q).2), Nat.add_zero]
          unfold c243_137
          rw [nI_1]
      · rw [if_neg (fun q => z ((nI_eq (by omega) (by omega)).mp q)), if_neg (fun q => z (of_decide_eq_true q).1), Nat.add_zero]
        unfold c243_137
        rw [nI_1]
    rw [sd_go st]
    exact k243_lp h47 h48 hnc hn h8 h3 hv6 k (i + 1) g (by omega) (by omega)
end RW
