/-! ===== read and write: the calls ===== -/
section RW
variable {sw nd rm : Nat} {M M' N : hM} {S T U : sT} {ia : Nat → Nat → Int32} {w t x y z zb sb nc c s p n m i a b f j d r : Nat} {pe : Nat → Option Nat} {wo : Nat → Nat} {fl fm : Nat → List (List Int32)} {kR : Nat → rK} {ka : Nat → Nat → Nat} {tog : Nat → Bool} {ca hh : Nat → Nat} {lv : Nat → Bool} {jj : Nat → Nat} {G : Nat → nG} {v v1 v2 v3 v4 v5 v6 : Int32} {R : List Nat} {w6 : Int64} {wr un bl : Nat}
theorem C_can (h : AX sw nd rm t zb sb M S) (hv6 : v6 = 0 ∨ v6 = 1) : (∃ M1, f144 [.inr (.inr (some 1)), .inl v1, .inl v2, .inl v3, .inl v4, .inl v5] M = some (some (.inl 0), M1) ∧ e243 v1 v2 v3 v4 v5 v6 S = some (-1, S) ∧ AX sw nd rm t zb sb M1 S) ∨ ∃ M1 n d un bl m, f144 [.inr (.inr (some 1)), .inl v1, .inl v2, .inl v3, .inl v4, .inl v5] M = some (some (.inl 1), M1) ∧ (v1 = nI n ∧ v2 = nI d ∧ v3 = nI un ∧ v4 = nI bl ∧ v5 = nI m) ∧ (n < nd ∧ d < nd ∧ un ≤ 1 ∧ (1 ≤ m ∧ m ≤ 4 ∧ bl + m ≤ 16)) ∧ ∃ ia w pe wo fl kR ka tog nc ca hh lv jj G R, AL sw nd rm M1 S ia w pe wo t zb sb fl kR ka tog nc ca hh lv jj G ∧ QZ pe nd S ∧ G n = .inl R ∧ R.length < 4 ∧ nc < 300 ∧ e243 v1 v2 v3 v4 v5 v6 S = some (nI nc, cS1 S nc n t v6 (nI d) (nI un) (nI bl) (nI m)) := by
  have h0 := h
  obtain ⟨ia, w, pe, wo, fl, kR, ka, tog, nc, ca, hh, lv, jj, G, ⟨hT, ha, hN, hin⟩, qz⟩ := h
  have hI := hT.I
  have h8 := hI.bs.2.1.2
  have hb := hT.1.pb.bk
  have s1 : s_g S 1 = nI nd := hT.1.st.2.2.1.2.1
  have n1 : ¬ (1 : Int32) = 0 := by decide
  obtain ⟨⟨b1, b2', b3⟩, b4, -⟩ := hN.1
  have fd : f144 [.inr (.inr (some 1)), .inl v1, .inl v2, .inl v3, .inl v4, .inl v5] M = x_out (b144_0 1 v1 v2 v3 v4 v5 M) := rfl
  have ed : e243 v1 v2 v3 v4 v5 v6 S = s_go kS243 (c243_0 v1 v2 v3 v4 v5 v6 S) := rfl
  rw [fd, ed]
  -- a host
  rcases px2 v1 (n := nd) (by omega) with z | ⟨n, hn, rfl⟩
  · left
    refine ⟨M, ?_, ?_, h0⟩
    · unfold b144_0
      rw [bd_s (o11 hI), bd_s (c_I_of (f141_no hI z)), if_pos rfl]; rfl
    · unfold c243_0
      rw [s1]
      by_cases q : v1 < 0
      · rw [if_pos q]; rfl
      · rw [if_neg q, if_pos (z.resolve_left q)]; rfl
  rcases px2 v2 (n := nd) (by omega) with z | ⟨d, hd, rfl⟩
  · left
    refine ⟨M, ?_, ?_, h0⟩
    · unfold b144_0
      rw [bd_s (o11 hI), bd_s (c_I_of (f141_n hI hn rfl))]
      by_cases q : b2 (Option.isSome (h_fr M 504 (140 + n))) = 0
      · rw [if_pos q]; rfl
      · rw [if_neg q, bd_s (o11 hI), bd_s (c_I_of (f142_no hI z)), if_pos rfl]; rfl
    · unfold c243_0
      rw [s1, if_neg (nI_pos (by omega)), if_neg (nI_ge hn (by omega))]
      by_cases q : v2 < 0
      · rw [if_pos q]; rfl
      · rw [if_neg q, if_pos (z.resolve_left q)]; rfl
  have refS : c243_0 (nI n) (nI d) v3 v4 v5 v6 S = (if S.1 33 n = 0 then (if S.1 33 d = 0 then (c243_95 S) else (if v3 < 0 then (c243_95 S) else (if (1 : Int32) < v3 then (c243_95 S) else (if v4 < 0 then (c243_95 S) else (if (15 : Int32) < v4 then (c243_95 S) else (if v5 < (1 : Int32) then (c243_95 S) else (if (4 : Int32) < v5 then (c243_95 S) else (if (16 : Int32) < (v4 + v5) then (c243_95 S) else (if (s_g S 47) = (300 : Int32) then (c243_95 S) else (some (.inr (103, [.inl (nI n), .inl (nI d), .inl v3, .inl v4, .inl v5, .inl v6, .inl (0 : Int32), .inl (0 : Int32)], S)))))))))))) else (c243_95 S)) := by
    unfold c243_0
    rw [s1, if_neg (nI_pos (by omega)), if_neg (nI_ge hn (by omega)), if_neg (nI_pos (by omega)), if_neg (nI_ge hd (by omega)), bd_s (ga33 (by omega)), bd_s (ga33 (by omega))]
  rw [refS]
  rcases hN.dsc hn with ⟨R, hG, hho⟩ | ⟨dk, OL, hG, ⟨⟨r1, r2, r3⟩, -⟩, -⟩
  case inr =>
    left
    refine ⟨M, ?_, by rw [r3, if_neg n1]; rfl, h0⟩
    unfold b144_0
    rw [bd_s (o11 hI), bd_s (c_I_of (f141_n hI hn r1)), if_pos (show b2 (Option.isSome (none : Option Nat)) = 0 from rfl)]; rfl
  have hho' := hho
  obtain ⟨⟨r1, r2, r3⟩, -⟩ := hho'
  rw [r3, if_pos rfl]
  rcases hN.dsc hd with ⟨R', hG', ⟨⟨y1, y2, y3⟩, -⟩⟩ | ⟨dk, OL, hG', ⟨⟨y1, y2, y3⟩, -⟩, -⟩
  · left
    refine ⟨M, ?_, by rw [y3, if_pos rfl]; rfl, h0⟩
    unfold b144_0
    rw [bd_s (o11 hI), bd_s (c_I_of (f141_n hI hn r1)), if_neg (show ¬ b2 (Option.isSome (some (150 + n))) = 0 from n1), bd_s (o11 hI), bd_s (c_I_of (f142_n hI hd y2)), if_pos (show b2 (Option.isSome (none : Option Nat)) = 0 from rfl)]; rfl
  rw [y3, if_neg n1]
  have clsS : b144_0 1 (nI n) (nI d) v3 v4 v5 M = (if v3 < 0 then (b144_81 M) else (if (2 : Int32) ≤ v3 then (b144_81 M) else (if v5 < (1 : Int32) then (b144_81 M) else (if (4 : Int32) < v5 then (b144_81 M) else (if v4 < 0 then (b144_81 M) else (if ((16 : Int32) - v5) < v4 then (b144_81 M) else (if (300 : Int32) ≤ nI nc then (b144_81 M) else (Option.bind (c_I (f143 [.inr (.inr (some (150 + n)))] M)) fun q_17 => if q_17.1 = 0 then (b144_81 q_17.2) else (b144_82 (1 : Int32) q_17.2))))))))) := by
    unfold b144_0
    rw [bd_s (o11 hI), bd_s (c_I_of (f141_n hI hn r1)), if_neg (show ¬ b2 (Option.isSome (some (150 + n))) = 0 from n1), bd_s (o11 hI), bd_s (c_I_of (f142_n hI hd y2)), if_neg (show ¬ b2 (Option.isSome (some dk)) = 0 from n1), bd_s ((g_i_t (ci := 11) hI.fab0).trans (congrArg some b1)), bd_s (nod_a hI hn).1, bd_s (nod_a hI hn).2, bd_s ((g_r_t (ci := 5) (hI.no0 hn)).trans (congrArg some r1)), bd_s (g_o_t (ci := 4) (hI.ho0 hn))]
  rw [clsS]
  by_cases ok : okV v3 v4 v5
  case neg =>
    left
    exact ⟨M, by rw [cls_no ok]; rfl, by rw [ref_no ok]; rfl, h0⟩
  obtain ⟨un, bl, m, hu, hm, rfl, rfl, rfl⟩ := ok
  rw [cls_yes hu hm, ref_yes hu hm]
  have s47 : s_g S 47 = nI nc := b2'
  rw [s47]
  by_cases c3 : nc = 300
  · left
    refine ⟨M, ?_, ?_, h0⟩
    · rw [if_pos (show (300 : Int32) ≤ nI nc from nI_le (a := 300) (by omega) (by omega))]; rfl
    · rw [if_pos (show nI nc = 300 by rw [c3]; rfl)]; rfl
  have hc3 : nc < 300 := by omega
  rw [if_neg (show ¬ (300 : Int32) ≤ nI nc from nI_ge (b := 300) hc3 (by omega)), if_neg (show ¬ nI nc = 300 from fun q => c3 ((nI_eq (b := 300) (by omega) (by omega)).mp q))]
  -- room
  obtain ⟨N, k1, k2, k3, k4⟩ := k143_lp hI hN hn hG R.length 0 M xF (by omega) (by have := hho.2.2.2.1.2.1; unfold xF; omega) ⟨⟨rfl, rfl, rfl, rfl, rfl⟩, ⟨rfl, rfl, rfl, rfl⟩, fun _ _ => rfl⟩ (kp.rf hb) (fun j hj => absurd hj (by show ¬ j < 0; omega)) (fun j _ hj => hho.2.2.2.1.2.2.1 j hj)
  have e143 : f143 [.inr (.inr (some (150 + n)))] M = some (some (.inl (b2 (decide ((R.filter (lvF S)).length < 4)))), h_pi N 405 (150 + n) (nI (R.filter (lvF S)).length)) := k1
  have tN : h_tg N (150 + n) ≠ 0 := by rw [k2.2.1.1, hI.ho0 hn]; decide
  have kk : kp [405] [30] M (h_pi N 405 (150 + n) (nI (R.filter (lvF S)).length)) := ((kp.rf hb : kp [405] [30] M M).tr k3 rfl rfl).tr (k_hpi k3.1 tN) rfl rfl
  have hN1 := NR_rec hN hI hb hn hG k2 k4
  have hT1 : TW sw nd rm (h_pi N 405 (150 + n) (nI (R.filter (lvF S)).length)) S (h_ai (h_pi N 405 (150 + n) (nI (R.filter (lvF S)).length))) w pe wo t zb sb fl kR ka tog := hT.gr (dz := 0) (ds := 0) kk (by decide) (by decide) k2.1.2.2.2.1 k2.2.1.2.2.1 k2.2.1.2.2.2 (ks.rf : ks [] S S) (by decide)
  have hin1 : inT nd t lv jj (u1 G n (.inl (R.filter (lvF S)))) := fun m hm => by
    obtain ⟨i1, i2, i3⟩ := hin m hm
    refine ⟨i1, i2, fun q hq => ?_⟩
    by_cases mn : m = n
    · subst mn; rw [u1_eq] at hq; cases hq
    · rw [u1_ne mn] at hq; exact i3 q hq
  have hnow := now_eq hN hn hG
  have r243 : s_go kS243 (some (.inr (103, [.inl (nI n), .inl (nI d), .inl (nI un), .inl (nI bl), .inl (nI m), .inl v6, .inl (0 : Int32), .inl (0 : Int32)], S))) = (if cn (fun c => decide (hh c = n ∧ S.1 59 c = -1)) nc = 4 then some (-1, S) else some (nI nc, cS1 S nc n t v6 (nI d) (nI un) (nI bl) (nI m))) := k243_lp (v2 := nI d) (v3 := nI un) (v4 := nI bl) (v5 := nI m) (v6 := v6) (t := t) b2' (fun c hc => by
    obtain ⟨⟨_, _, q⟩, _, _, _, _, _, _, _, _, _, _, _, _, q2, _⟩ := b4 c hc
    exact ⟨q2.2.1, q⟩) hc3 hn h8 hT.1.st.2.2.2.1.2.1 hv6 nc 0 xF (by omega) (by unfold xF; omega)
  rw [bd_s (c_I_of e143), r243, hnow]
  by_cases q4 : (R.filter (lvF S)).length < 4
  · right
    rw [decide_eq_true q4, if_neg (show ¬ b2 true = 0 from n1), if_neg (by omega)]
    exact ⟨h_pi N 405 (150 + n) (nI (R.filter (lvF S)).length), n, d, un, bl, m, rfl, ⟨rfl, rfl, rfl, rfl, rfl⟩, ⟨hn, hd, hu, hm⟩, _, w, pe, wo, fl, kR, ka, tog, nc, ca, hh, lv, jj, _, R.filter (lvF S), ⟨hT1, ha, hN1, hin1⟩, qz, u1_eq, q4, hc3, rfl⟩
  · left
    have l4 : (R.filter (lvF S)).length ≤ 4 := Nat.le_trans (List.length_filter_le _ _) hho.2.2.2.1.2.1
    rw [decide_eq_false q4, if_pos (show b2 false = 0 from rfl), if_pos (by omega)]
    exact ⟨h_pi N 405 (150 + n) (nI (R.filter (lvF S)).length), rfl, rfl, _, w, pe, wo, fl, kR, ka, tog, nc, ca, hh, lv, jj, _, ⟨hT1, ha, hN1, hin1⟩, qz⟩
theorem cmN_kp (hI : cI sw nd rm M) (hb : bk M) (hz : 1000 ≤ h_sz M) (hn : n < nd) (hbN : bk (cmN M n nc r t wr d un bl m w6)) : kp [0, 1, 2, 3, 4, 5, 7, 8, 10, 11, 12, 13, 402, 405, 1107] [0, 30] M (cmN M n nc r t wr d un bl m w6) := by
  have n8 := hI.bs.2.1.2
  refine ⟨hbN, fun a ha => ?_, fun k hk => ⟨?_, ?_, ?_⟩, fun a ha => ⟨rfl, rfl, ?_⟩, fun q => absurd (by decide) q⟩
  · have := hb.lt ha
    constructor
    · show u1 (u1 (h_tg M) (h_sz M) 1) (h_sz M + 1) 23 a = _
      rw [u1_ne (by omega), u1_ne (by omega)]
    · show u1 (h_ln M) (h_sz M + 1) 4 a = _
      rw [u1_ne (by omega)]
  · refine funext fun b => ?_
    show cmF (h_fi M) (h_sz M) n nc r t (nI wr) (nI d) (nI un) (nI bl) (nI m) k b = _
    have ne : ∀ q, q ∈ [0, 1, 2, 3, 4, 5, 7, 8, 10, 11, 12, 13, 402, 405, 1107] → k ≠ q := fun q hq e => hk (e ▸ hq)
    unfold cmF
    rw [u2_nk (ne 12 (by decide)), u2_nk (ne 10 (by decide)), u2_nk (ne 11 (by decide)), u2_nk (ne 405 (by decide)), u2_nk (ne 402 (by decide)), u2_nk (ne 1107 (by decide)), u2_nk (ne 8 (by decide)), u2_nk (ne 7 (by decide)), u2_nk (ne 3 (by decide)), u2_nk (ne 2 (by decide)), u2_nk (ne 1 (by decide)), u2_nk (ne 0 (by decide)), u2_nk (ne 13 (by decide))]
  · exact funext fun b => u2_nk (fun e => hk (by rw [e]; decide))
  · exact funext fun b => u2_nk (fun e => hk (by rw [e]; decide))
  · have ne : ∀ q, h_tg M q = 30 → a ≠ q := fun q hq e => ha (by rw [e, hq]; decide)
    exact funext fun b => (u2_nk (ne _ (hI.ho7 hn))).trans (u2_nk (ne _ hI.ar8))
/-- the command is taken in, and the first frame goes out -/
theorem C_in (h : AL sw nd rm M S ia w pe wo t zb sb fl kR ka tog nc ca hh lv jj G) (qz : QZ pe nd S) (hG : G n = .inl R) (hR : R.length < 4) (hc3 : nc < 300) (hn : n < nd) (hd : d < nd) (hu : un ≤ 1) (hm : 1 ≤ m ∧ m ≤ 4 ∧ bl + m ≤ 16) (hwr : wr ≤ 1) (hS : cSt S T nc n t wr d un bl m w6) : ∃ B M' S', f145 [.inr (.inr (some (h_sz M))), .inl (nI wr), .inl (nI un), .inl (nI bl), .inl (nI m), .inr (.inl w6)] (h_no M 0 14) = some (none, B) ∧ h_tg B 1 = 12 ∧ f147 [.inr (.inr (some 1)), .inl (nI n), .inl (nI d), .inr (.inr (some (h_sz M)))] B = some (some (.inl (nI nc)), M') ∧ e204 (nI nc) T = some S' ∧ CR sw nd rm t zb sb M' S' := by
  obtain ⟨hT, ha, hN, hin⟩ := h
  have hI := hT.I
  have hb := hT.1.pb.bk
  have hz := hT.1.pb.sz
  have hho := hN.ho hn hG
  obtain ⟨B, N, x1, x2, x3, x4, x5⟩ := mkC (n := n) (nc := nc) (r := R.length) (t := t) (wr := nI wr) (v2 := nI d) (v3 := nI un) (v4 := nI bl) (v5 := nI m) (w6 := w6) hI hb hz hn hho.1.1 hN.1.1.1 hc3 hho.2.2.2.1.1 hR hT.1.st.2.2.2.1.1 (by
    have : wr = 0 ∨ wr = 1 := by omega
    rcases this with rfl | rfl
    · exact Or.inl rfl
    · exact Or.inr rfl)
  have eN : N = cmN M n nc R.length t wr d un bl m w6 := x5
  rw [eN] at x3 x4
  have k := cmN_kp hI hb hz hn x4
  have hN' := NR_cmd hN hI hb hz hn hG rfl hR hc3 (hin n hn).1 hwr hu hd hm x4 hS hT.1.st.2.2.2.1.2.2
  have hT' := hT.gr (dz := 2) (ds := 18) k (by decide) (by decide) rfl rfl rfl hS.1 (by decide)
  obtain ⟨M', S', fm, y1, y2, y3, y4⟩ := P_tell0 (c := nc) hT' hN' (by omega) hS.2.2.2.2.2.1.2.1
  rw [u1_eq, u1_eq] at y1
  have hI' := hT'.I
  have hN2 := hN'.fst hI' y4
  obtain ⟨⟨-, -, -⟩, wr', un', bl', m', d', ph', bg', pa', cb', p1, -, -, p4, -⟩ := hN2.1.2.1 nc (by omega)
  rw [u1_eq] at p1 p4
  refine ⟨B, M', S', x1, x2, x3 M' y1 p1.1 p4.1, y2, t, zb + 2, sb + 18, ⟨_, w, pe, wo, fm, kR, ka, tog, nc + 1, _, _, lv, jj, _, ⟨y3, ha, hN2, fun mm hmm => ?_⟩, (qz.ks hS.1 (by decide)).ks y4.2.2 (by decide)⟩, by omega, by omega, by omega⟩
  obtain ⟨i1, i2, i3⟩ := hin mm hmm
  refine ⟨i1, i2, fun q hq => ?_⟩
  by_cases mn : mm = n
  · subst mn; rw [u1_eq] at hq; cases hq
  · rw [u1_ne mn] at hq; exact i3 q hq
theorem cS_st {V : Nat → Int64} (hwr : wr ≤ 1) (hU1 : U.1 = (cS1 S nc n t (nI wr) (nI d) (nI un) (nI bl) (nI m)).1) (hU2 : ∀ q, q ≠ 54 → U.2 q = S.2 q) (h1 : ∀ i, (i < 4 * nc ∨ 4 * nc + 4 ≤ i) → U.2 54 i = S.2 54 i) (h2 : wr = 0 → ∀ k, k < 4 → U.2 54 (4 * nc + k) = 0) (h3 : wr = 1 → ∀ k, k < m → U.2 54 (4 * nc + k) = w6 + Int32.toInt64 (nI k)) : cSt S (s_u (s_u U 56 nc 0) 57 nc (nI t)) nc n t wr d un bl m w6 := by
  have e : ∀ k i, (s_u (s_u U 56 nc 0) 57 nc (nI t)).1 k i = if k = 57 ∧ i = nc then nI t else if k = 56 ∧ i = nc then 0 else (cS1 S nc n t (nI wr) (nI d) (nI un) (nI bl) (nI m)).1 k i := fun k i => by rw [y_su, y_su, hU1]
  have e2 : ∀ q, (s_u (s_u U 56 nc 0) 57 nc (nI t)).2 q = U.2 q := fun q => rfl
  generalize s_u (s_u U 56 nc 0) 57 nc (nI t) = X at *
  refine ⟨fun k hk => ⟨funext fun i => ?_, ?_⟩, fun k i q1 q2 q3 => ?_, ?_, funext fun i => ?_, ⟨?_, ?_, ?_, ?_, ?_, ?_⟩, ⟨?_, ?_, ?_, ?_, ?_⟩, fun i hi => by rw [e2]; exact h1 i hi, fun q k hk => by rw [e2]; exact h2 q k hk, fun q k hk => by rw [e2]; exact h3 q k hk⟩
  · have ne : ∀ q, q ∈ [34, 47, 48, 49, 50, 51, 52, 53, 54, 55, 56, 57, 58, 59, 60] → ¬ k = q := fun q hq e => hk (e ▸ hq)
    rw [e]
    unfold cS1
    simp [y_su, ne 34 (by decide), ne 47 (by decide), ne 48 (by decide), ne 49 (by decide), ne 50 (by decide), ne 51 (by decide), ne 52 (by decide), ne 53 (by decide), ne 55 (by decide), ne 56 (by decide), ne 57 (by decide), ne 58 (by decide), ne 59 (by decide), ne 60 (by decide)]
  · rw [e2, hU2 k (fun e => hk (by rw [e]; decide))]
  · rw [e]
    unfold cS1
    have n47 : ¬ k = 47 := by omega
    have n34 : ¬ k = 34 := by omega
    simp [y_su, q3, n47, n34]
  · rw [e]; unfold cS1; simp [y_su]
  · rw [e]; unfold cS1 u1
    simp [y_su]
  all_goals (rw [e]; unfold cS1; simp [y_su])
theorem C_read (h : AX sw nd rm t zb sb M S) : ∃ r M' S', f148 [.inr (.inr (some 1)), .inl v1, .inl v2, .inl v3, .inl v4, .inl v5] M = some (some (.inl r), M') ∧ e244 v1 v2 v3 v4 v5 S = some (r, S') ∧ CR sw nd rm t zb sb M' S' := by
  have hI0 : cI sw nd rm M := by
    obtain ⟨ia, w, pe, wo, fl, kR, ka, tog, nc, ca, hh, lv, jj, G, ⟨hT, -⟩, -⟩ := h
    exact hT.I
  have fd : f148 [.inr (.inr (some 1)), .inl v1, .inl v2, .inl v3, .inl v4, .inl v5] M = x_out (b148_0 1 v1 v2 v3 v4 v5 M) := rfl
  have ed : e244 v1 v2 v3 v4 v5 S = s_out (c244_0 v1 v2 v3 v4 v5 S) := rfl
  rw [fd, ed]
  unfold b148_0 c244_0
  rw [bd_s (o11 hI0)]
  rcases C_can (v1 := v1) (v2 := v2) (v3 := v3) (v4 := v4) (v5 := v5) (v6 := 0) h (Or.inl rfl) with ⟨M1, q1, q2, q3⟩ | ⟨M1, n, d, un, bl, m, q1, ⟨rfl, rfl, rfl, rfl, rfl⟩, ⟨hn, hd, hu, hm⟩, ia, w, pe, wo, fl, kR, ka, tog, nc, ca, hh, lv, jj, G, R, hA, qz, hG, hR, hc3, q2⟩
  · rw [bd_s (c_I_of q1), if_pos rfl, bd_s q2, if_pos rfl]
    exact ⟨_, M1, S, rfl, rfl, q3.cr⟩
  · have ht : S.1 3 0 = nI t := hA.1.1.st.2.2.2.1.2.1
    have st : cSt S (s_u (s_u (cS1 S nc n t (nI 0) (nI d) (nI un) (nI bl) (nI m)) 56 nc 0) 57 nc (nI t)) nc n t 0 d un bl m 0 := cS_st (V := fun _ => 0) (by omega) rfl (fun _ _ => rfl) (fun _ _ => rfl) (fun _ k hk => hA.2.2.1.1.2.2.2 nc k (Nat.le_refl _) hc3 hk) (fun q => by omega)
    obtain ⟨B, M', S', x1, x2, x3, x4, x5⟩ := C_in hA qz hG hR hc3 hn hd hu hm (by omega) st
    have x4' : e204 (nI nc) (s_u (s_u (cS1 S nc n t 0 (nI d) (nI un) (nI bl) (nI m)) 56 nc 0) 57 nc (nI t)) = some S' := x4
    have x1' : f145 [.inr (.inr (some (h_sz M1))), .inl (0 : Int32), .inl (nI un), .inl (nI bl), .inl (nI m), .inr (.inl (0 : Int64))] (h_no M1 0 14) = some (none, B) := x1
    have e206' : e206 (nI nc) 0 (cS1 S nc n t 0 (nI d) (nI un) (nI bl) (nI m)) = some S' := by
      show s_out (c206_0 (nI nc) 0 _) = _
      unfold c206_0
      have e3 : s_g (s_u (cS1 S nc n t 0 (nI d) (nI un) (nI bl) (nI m)) 56 nc 0) 3 = nI t := by
        show (s_u (cS1 S nc n t 0 (nI d) (nI un) (nI bl) (nI m)) 56 nc 0).1 3 0 = _
        unfold cS1
        simp [y_su]
        exact ht
      rw [bd_s (gs56 hc3), e3, bd_s (gs57 hc3), bd_s x4']
      rfl
    rw [bd_s (c_I_of q1), if_neg (show ¬ (1 : Int32) = 0 by decide), bd_s (show n_o M1 0 14 = some (h_no M1 0 14) from rfl), bd_s (c_V_of x1'), bd_s (g_o_t (ci := 11) x2), bd_s (c_I_of x3), bd_s q2, if_neg (show ¬ nI nc = -1 from nI_m1 (by omega)), bd_s e206']
    exact ⟨nI nc, M', S', rfl, rfl, x5⟩
theorem k245_lp {X : sT} (hc3 : nc < 300) (hm4 : m ≤ 4) : ∀ dd k U fuel, k + dd = m → dd < fuel → U.1 = X.1 → (∀ q, q ≠ 54 → U.2 q = X.2 q) → (∀ i, (i < 4 * nc ∨ 4 * nc + 4 ≤ i) → U.2 54 i = X.2 54 i) → (∀ k', k' < k → U.2 54 (4 * nc + k') = w6 + Int32.toInt64 (nI k')) → ∃ V : sT, sdrive kS245 fuel 26 [.inl (nI m), .inr (.inl w6), .inl (nI nc), .inl (nI k)] U = Option.bind (e206 (nI nc) 0 V) (fun q => some (nI nc, q)) ∧ V.1 = X.1 ∧ (∀ q, q ≠ 54 → V.2 q = X.2 q) ∧ (∀ i, (i < 4 * nc ∨ 4 * nc + 4 ≤ i) → V.2 54 i = X.2 54 i) ∧ ∀ k', k' < m → V.2 54 (4 * nc + k') = w6 + Int32.toInt64 (nI k')
  | 0, k, U, fuel, hk, hf, h1, h2, h3, h4 => by
    obtain ⟨g, rfl⟩ : ∃ g, fuel = g + 1 := ⟨fuel - 1, by omega⟩
    have e : k = m := by omega
    subst e
    refine ⟨U, ?_, h1, h2, h3, h4⟩
    have st : kS245 26 [.inl (nI k), .inr (.inl w6), .inl (nI nc), .inl (nI k)] U = Option.bind (e206 (nI nc) 0 U) fun q => some (.inl (nI nc, q)) := by
      show c245_26 (nI k) w6 (nI nc) (nI k) U = _
      unfold c245_26
      rw [if_pos (Int32.le_refl _)]
    cases he : e206 (nI nc) 0 U with
    | none =>
      rw [he] at st
      show sdrive kS245 (g + 1) 26 _ U = none
      unfold sdrive
      rw [st]; rfl
    | some q =>
      rw [he] at st
      exact sd_end st
  | dd + 1, k, U, fuel, hk, hf, h1, h2, h3, h4 => by
    obtain ⟨g, rfl⟩ : ∃ g, fuel = g + 1 := ⟨fuel - 1, by omega⟩
    have ix : (4 : Int32) * nI nc + nI k = nI (4 * nc + k) := by rw [show (4 : Int32) * nI nc = nI (4 * nc) from pk_mul 4 nc, nI_add]
    have st : kS245 26 [.inl (nI m), .inr (.inl w6), .inl (nI nc), .inl (nI k)] U = some (.inr (26, [.inl (nI m), .inr (.inl w6), .inl (nI nc), .inl (nI (k + 1))], s_ul U 54 (4 * nc + k) (w6 + Int32.toInt64 (nI k)))) := by
      show c245_26 (nI m) w6 (nI nc) (nI k) U = _
      unfold c245_26
      rw [if_neg (nI_ge (by omega) (by omega)), ix, bd_s (gs54 (by omega)), nI_1]
    rw [sd_go st]
    refine k245_lp hc3 hm4 dd (k + 1) _ g (by omega) (by omega) h1 (fun q hq => ?_) (fun i hi => ?_) (fun k' hk' => ?_)
    · exact (funext fun i => sul_ne (Or.inl hq)).trans (h2 q hq)
    · rw [sul_ne (Or.inr (by omega))]; exact h3 i hi
    · by_cases e : k' = k
      · subst e; exact sul_eq
      · rw [sul_ne (Or.inr (by omega))]; exact h4 k' (by omega)
theorem C_write (h : AX sw nd rm t zb sb M S) : ∃ r M' S', f149 [.inr (.inr (some 1)), .inl v1, .inl v2, .inl v3, .inl v4, .inl v5, .inr (.inl w6)] M = some (some (.inl r), M') ∧ e245 v1 v2 v3 v4 v5 w6 S = some (r, S') ∧ CR sw nd rm t zb sb M' S' := by
  have hI0 : cI sw nd rm M := by
    obtain ⟨ia, w, pe, wo, fl, kR, ka, tog, nc, ca, hh, lv, jj, G, ⟨hT, -⟩, -⟩ := h
    exact hT.I
  have fd : f149 [.inr (.inr (some 1)), .inl v1, .inl v2, .inl v3, .inl v4, .inl v5, .inr (.inl w6)] M = x_out (b149_0 1 v1 v2 v3 v4 v5 w6 M) := rfl
  have ed : e245 v1 v2 v3 v4 v5 w6 S = s_go kS245 (c245_0 v1 v2 v3 v4 v5 w6 S) := rfl
  rw [fd, ed]
  unfold b149_0 c245_0
  rw [bd_s (o11 hI0)]
  rcases C_can (v1 := v1) (v2 := v2) (v3 := v3) (v4 := v4) (v5 := v5) (v6 := 1) h (Or.inr rfl) with ⟨M1, q1, q2, q3⟩ | ⟨M1, n, d, un, bl, m, q1, ⟨rfl, rfl, rfl, rfl, rfl⟩, ⟨hn, hd, hu, hm⟩, ia, w, pe, wo, fl, kR, ka, tog, nc, ca, hh, lv, jj, G, R, hA, qz, hG, hR, hc3, q2⟩
  · rw [bd_s (c_I_of q1), if_pos rfl, bd_s q2, if_pos rfl]
    exact ⟨_, M1, S, rfl, rfl, q3.cr⟩
  · have ht : S.1 3 0 = nI t := hA.1.1.st.2.2.2.1.2.1
    obtain ⟨V, l1, l2, l3, l4, l5⟩ := k245_lp (w6 := w6) (X := cS1 S nc n t (nI 1) (nI d) (nI un) (nI bl) (nI m)) hc3 hm.2.1 m 0 (cS1 S nc n t (nI 1) (nI d) (nI un) (nI bl) (nI m)) xF (by omega) (by unfold xF; omega) rfl (fun _ _ => rfl) (fun _ _ => rfl) (fun k' hk' => by omega)
    have st : cSt S (s_u (s_u V 56 nc 0) 57 nc (nI t)) nc n t 1 d un bl m w6 := cS_st (V := fun _ => 0) (by omega) l2 l3 l4 (fun q => by omega) (fun _ => l5)
    obtain ⟨B, M', S', x1, x2, x3, x4, x5⟩ := C_in hA qz hG hR hc3 hn hd hu hm (by omega) st
    have e206' : e206 (nI nc) 0 V = some S' := by
      show s_out (c206_0 (nI nc) 0 _) = _
      unfold c206_0
      have e3 : s_g (s_u V 56 nc 0) 3 = nI t := by
        show (s_u V 56 nc 0).1 3 0 = _
        rw [su_ne (by decide), l2]
        unfold cS1
        simp [y_su]
        exact ht
      rw [bd_s (gs56 hc3), e3, bd_s (gs57 hc3), bd_s x4]
      rfl
    have x1' : f145 [.inr (.inr (some (h_sz M1))), .inl (1 : Int32), .inl (nI un), .inl (nI bl), .inl (nI m), .inr (.inl w6)] (h_no M1 0 14) = some (none, B) := x1
    rw [e206'] at l1
    have l1 : s_go kS245 (some (.inr (26, [.inl (nI m), .inr (.inl w6), .inl (nI nc), .inl (0 : Int32)], cS1 S nc n t 1 (nI d) (nI un) (nI bl) (nI m)))) = some (nI nc, S') := l1
    rw [bd_s (c_I_of q1), if_neg (show ¬ (1 : Int32) = 0 by decide), bd_s (show n_o M1 0 14 = some (h_no M1 0 14) from rfl), bd_s (c_V_of x1'), bd_s (g_o_t (ci := 11) x2), bd_s (c_I_of x3), bd_s q2, if_neg (show ¬ nI nc = -1 from nI_m1 (by omega)), l1]
    exact ⟨nI nc, M', S', rfl, rfl, x5⟩
end RW
