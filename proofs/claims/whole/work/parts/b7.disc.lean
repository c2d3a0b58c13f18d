/-! ===== a disc answers, forgets, aborts ===== -/
section DA
variable {sw nd rm : Nat} {M M' N : hM} {S S' T : sT} {ia ib : Nat → Nat → Int32} {w t x y zb sb a f n c nc fus dk j : Nat} {pe : Nat → Option Nat} {wo : Nat → Nat} {fl fm : Nat → List (List Int32)} {hc hc' : List (Nat × Int32 × List Int32)} {hs hs' : List (Nat × List Int32)} {L Lr : List Int32} {kR : Nat → rK} {ka : Nat → Nat → Nat} {tog : Nat → Bool} {ca hh : Nat → Nat} {lv : Nat → Bool} {jj : Nat → Nat} {G : Nat → nG} {R : List Nat} {g : Int32} {OL : List oE} {F A H : List Nat}
theorem H_loadc {k : Nat} {u : Int64} (h : HB sw nd rm M S ia w pe wo t zb sb fl ((a, g, L) :: hc) hs kR ka tog) (hn : L.length + k ≤ 44) (h8 : k ≤ 8) : ∃ M', f36 [.inr (.inr (some a)), .inl (nI k), .inr (.inl u)] M = some (none, M') ∧ h_tg M' a = 3 ∧ HB sw nd rm M' S ia w pe wo t zb sb fl ((a, g, L ++ byL u k) :: hc) hs kR ka tog ∧ fst M M' S S := by
  obtain ⟨ct, h1, h2, h3, h4, h5, h6, h7⟩ := h.1.pb
  obtain ⟨M', m1, m2⟩ := FC_load (w := u) h1 hn h8
  have p1 : PB sw nd M' S ia zb sb fl fl ((a, g, L ++ byL u k) :: hc) hs := ⟨ct, m2, h2, h3, h4, h5, h6, h7⟩
  obtain ⟨b1, b2⟩ := h.mv' (kf36 m1 h.bk) (by decide) (by decide) (ks.rf : ks [] S S) (by decide) p1 qx.rf
  exact ⟨M', m1, (p1.rd List.mem_cons_self).1.1.1, b1, b2⟩
/-- answer: one byte of load, or none -/
theorem P_ans {k wd : Nat} {rx : Int32} {v : Nat} (h : HB sw nd rm M S ia w pe wo t zb sb fl [(a, g, L)] [(f, L)] kR ka tog) (hn : n < nd) (hd : dkR M n dk) (had : h_fi M 503 (140 + n) = S.1 35 n) (h13 : 13 ≤ L.length) (hk : (wd = 0 ∧ (k = 8 ∨ k = 14)) ∨ (wd = 1 ∧ (k = 10 ∨ (k = 12 ∧ v < 2)))) (hv : v < 256) : ∃ M' S1 S2 S' f1 fm, f67 [.inr (.inr (some dk)), .inl (nI k), .inr (.inr (some a)), .inl rx, .inl (nI wd), .inr (.inl (nI v).toInt64)] M = some (none, M') ∧ e212 (nI n) (nI f) (nI k) rx 0 S = some (nI f1, S1) ∧ (wd = 1 → e167 (nI f1) (nI v).toInt64 1 S1 = some S2) ∧ (wd = 0 → S2 = S1) ∧ e183 (nI (40 + n)) (nI f1) S2 = some S' ∧ HB sw nd rm M' S' ia w pe wo t zb sb fm [(a, g, L)] [(f, L)] kR ka tog ∧ fst M M' S S' := by
  have hI := h.I
  have hnd := hI.bs.2.1.2
  have hX : rd M a L := h.rd (u := (a, g, L)) List.mem_cons_self
  have hXs : rdS S f L := h.rdS (u := (f, L)) List.mem_cons_self
  have e65 := f65_eq hX h13
  have e66 := f66_eq hX h13
  obtain ⟨d1, ⟨d2, d3, d4, d5, d6, d7⟩, -, -⟩ := hd
  have s35 : s_a S 35 (nI n) = some (S.1 35 n) := ga35 (by omega)
  have r4 : e166 (nI f) 4 3 S = some (num L 4 3, S) := r166 (i := 4) (n := 3) hXs (by omega)
  have r7 : e166 (nI f) 7 2 S = some (num L 7 2, S) := r166 (i := 7) (n := 2) hXs (by omega)
  obtain ⟨a1, f1, M1, S1, x1, x2, x3, x4, x5⟩ := H_draft (v1 := nI k) (v2 := num L 4 3) (v3 := S.1 35 n) (v4 := num L 7 2) rx 0 h (by show 1 ≤ 3; omega) (by show 1 ≤ 3; omega)
  obtain ⟨M2, y1, y2, y3, y4⟩ := H_rx (rx := rx) x4
  have l13 : (hdL (nI k) (num L 4 3) (S.1 35 n) (num L 7 2) rx 0).length = 13 := hd_len
  have e212' : e212 (nI n) (nI f) (nI k) rx 0 S = some (nI f1, S1) := by
    show s_out (c212_0 (nI n) (nI f) (nI k) rx 0 S) = _
    unfold c212_0
    rw [bd_s r4, bd_s s35, bd_s r7, bd_s x2]
    rfl
  have x1' : c_R (f34 [.inr (.inr (some 2)), .inl (nI k), .inl (num L 4 3), .inl (S.1 35 n), .inl (num L 7 2)] M) = some (some a1, M1) := by rw [x1]; rfl
  obtain ⟨M3, S2, m1, m2, m2', m3, m4, m5⟩ : ∃ M3 S2, f36 [.inr (.inr (some a1)), .inl (nI wd), .inr (.inl (nI v).toInt64)] M2 = some (none, M3) ∧ (wd = 1 → e167 (nI f1) (nI v).toInt64 1 S1 = some S2) ∧ (wd = 0 → S2 = S1) ∧ HB sw nd rm M3 S2 ia w pe wo t zb sb fl ((a1, 0, hdL (nI k) (num L 4 3) (S.1 35 n) (num L 7 2) rx 0 ++ byL (nI v).toInt64 wd) :: [(a, g, L)]) ((f1, hdL (nI k) (num L 4 3) (S.1 35 n) (num L 7 2) rx 0 ++ byL (nI v).toInt64 wd) :: [(f, L)]) kR ka tog ∧ fst M M3 S S2 ∧ (byL (nI v).toInt64 wd).length ≤ 1 := by
    rcases hk with ⟨rfl, -⟩ | ⟨rfl, -⟩
    · obtain ⟨M3, z1, z2, z3, z4⟩ := H_loadc (k := 0) (u := (nI v).toInt64) y3 (by rw [l13]; omega) (by omega)
      refine ⟨M3, S1, z1, fun q => by omega, fun _ => rfl, ?_, (x5.tr y4).tr z4, by show 0 ≤ 1; omega⟩
      have e : hdL (nI k) (num L 4 3) (S.1 35 n) (num L 7 2) rx 0 ++ byL (nI v).toInt64 0 = hdL (nI k) (num L 4 3) (S.1 35 n) (num L 7 2) rx 0 := List.append_nil _
      rw [e] at z3 ⊢
      exact z3
    · obtain ⟨M3, S2, z1, z2, z3, z4, z5⟩ := H_load (n := 1) (u := (nI v).toInt64) y3 (by rw [l13]; omega) (by omega) (by rw [l13]; omega)
      exact ⟨M3, S2, z1, fun _ => z2, fun q => by omega, z4, (x5.tr y4).tr z5, by rw [byL_len]; omega⟩
  have hT : tru sw nd (clL (hdL (nI k) (num L 4 3) (S.1 35 n) (num L 7 2) rx 0 ++ byL (nI v).toInt64 wd)) = true := by
    refine tru_g (by omega) (by omega) ?_
    rcases hk with ⟨rfl, q⟩ | ⟨rfl, q⟩
    · right; left; omega
    · have b1 := bn_1 hv
      have l1 := byL_len (nI v).toInt64 1
      rcases q with rfl | ⟨rfl, q⟩
      · right; right; right; left; exact ⟨rfl, l1⟩
      · right; right; right; right; right; exact ⟨rfl, l1, by rw [b1]; exact q⟩
  obtain ⟨M4, S4, fm, u1, u2, u3, u4⟩ := H_post m3 (sd_n hn) hT (by rw [List.length_append, l13]; omega) (by rw [List.length_append, l13]; omega)
  refine ⟨M4, S1, S2, S4, f1, fm, ?_, e212', m2, m2', u2, u3, m4.tr u4⟩
  have hI3 := m3.I
  have t3 : h_tg M3 dk = 2 := m4.1.t0 d2
  have f3 : h_fr M3 101 dk = some (140 + n) := by rw [m4.1.fr (by decide)]; exact d4
  show x_out (b67_0 dk (nI k) (some a) rx (nI wd) (nI v).toInt64 M) = _
  unfold b67_0
  rw [bd_s ((g_r_t (ci := 1) d2).trans (congrArg some d3)), bd_s (g_o_t (ci := 2) hX.1.1), bd_s (c_I_of e65), bd_s ((g_r_t (ci := 1) d2).trans (congrArg some d4)), bd_s ((g_i_t (ci := 5) (hI.no0 hn)).trans (congrArg some had)), bd_s (g_o_t (ci := 2) hX.1.1), bd_s (c_I_of e66), bd_s (g_o_t (ci := 9) hI.sh0), bd_s x1', bd_s (g_o_t (ci := 2) x3), bd_s (c_V_of y1), bd_s (g_o_t (ci := 2) y2), bd_s (c_V_of m1), bd_s ((g_r_t (ci := 1) t3).trans (congrArg some f3)), bd_s ((g_r_t (ci := 5) (hI3.no0 hn)).trans (congrArg some (hI3.no3 hn))), bd_s (g_o_t (ci := 8) (hI3.po0 (sd_n hn))), bd_s (c_V_of u1)]
  rfl
theorem cz_kp (hb : bk M) (hd : dkR M n dk) (c : Nat → Bool) : ∀ i, i ≤ 6 → kp [700] [] M (cz M dk c i)
  | 0, _ => kp.rf hb
  | i + 1, hi => by
    have ih := cz_kp hb hd c i (by omega)
    have e : cz M dk c (i + 1) = (if c i = true then h_pi (cz M dk c i) 700 (dk + 4 + 2 * i) 0 else cz M dk c i) := rfl
    by_cases z : c i = true
    · rw [if_pos z] at e
      rw [e]
      exact ih.tr (k_hpi ih.1 (by rw [ih.t0 (hd.2.2.2 i (by omega)).2.1]; decide)) rfl rfl
    · rw [if_neg z] at e
      rw [e]; exact ih
theorem HB_cz (h : HB sw nd rm M S ia w pe wo t zb sb fl hc hs kR ka tog) (hd : dkR M n dk) (c : Nat → Bool) (l : ks [39, 41, 44, 45, 46] S T) : HB sw nd rm (cz M dk c 6) T (h_ai M) w pe wo t zb sb fl hc hs kR ka tog := by
  have k := cz_kp h.bk hd c 6 (by omega)
  have := h.cw k (by decide) (by decide) (fun a _ => by rw [(cz_s c 6).2.1.1]) l (by decide)
  rw [(cz_s c 6).2.1.1] at this
  exact this
theorem olR.s {lr : Nat} (h : olR M S t n dk OL lr j) : olS S n OL := ⟨h.1, h.2.1⟩
/-- where a disc's slots lie -/
theorem slot_i {i : Nat} (hd : dkR M n dk) (hi : i < 6) : g_r M 1 5 (some dk) = some (some (dk + 3)) ∧ al_r M 37 (some (dk + 3)) (nI i) = some (some (dk + 4 + 2 * i)) ∧ h_tg M (dk + 4 + 2 * i) = 8 := by
  obtain ⟨d1, ⟨d2, d3, d4, d5, d6, d7⟩, ⟨e1, e2, e3, e4, e5, e6⟩, e7⟩ := hd
  exact ⟨(g_r_t (ci := 1) d2).trans (congrArg some d7), (al_r_t e5 (by rw [e6]; exact hi) (by omega)).trans (congrArg some (e7 i hi).1), (e7 i hi).2.1⟩
theorem dkR.kp (h : dkR M n dk) (k : kp F A M N) (hF : [100, 101, 102, 103, 105, 708].all (fun x => ! F.contains x) = true) (hA : A.contains 37 = false) : dkR N n dk := h.cg k.2.1 (fun x hx => k.fr (nav hF x hx)) (k.ar h.2.2.1.2.2.2.2.1 hA)
/-- a disc's own part of closing -/
theorem NR_cz (hN : NR nd M S t nc ca hh lv jj G) (hI : cI sw nd rm M) (hb : bk M) (hn : n < nd) (hG : G n = .inr (dk, OL)) (c : Nat → Bool) (hT : olS T n (OL.filter (fun e => ! c e.1))) (hw : dW n dk M M S T) (hk : ks [44, 45, 46] S T) : NR nd (cz M dk c 6) T t nc ca hh lv jj (u1 G n (.inr (dk, OL.filter (fun e => ! c e.1)))) := by
  obtain ⟨h1, h2, h3, ⟨lm, l1, l2, l3, l4⟩, lr, r1, r2, r3, r4⟩ := hN.dd hn hG
  have k := cz_kp hb h2 c 6 (by omega)
  obtain ⟨c1, c2, c3, c4, c5, c6⟩ := cz_s (M := M) (dk := dk) c 6
  have hd : diR (cz M dk c 6) T t n dk (OL.filter (fun e => ! c e.1)) (jj n) := by
    refine ⟨?_, h2.kp k (by decide) (by decide), fun i hi => ?_, ⟨lm, l1, ?_, ?_, fun i hi => ?_⟩, lr, r1, ?_, ?_, olR_fil r4 hT⟩
    · rw [c1.2, hk.i (by decide)]; exact h1
    · rw [c2.2.1, (hk 42 (by decide)).2]; exact h3 i hi
    · rw [c4 104 _ (by decide)]; exact l2
    · rw [hk.i (by decide)]; exact l3
    · rw [c2.1, hk.i (by decide)]; exact l4 i hi
    · rw [c4 106 _ (by decide)]; exact r2
    · rw [hk.i (by decide)]; exact r3
  have hw' : dW n dk (cz M dk c 6) (cz M dk c 6) S T := ⟨fun _ _ => ⟨rfl, rfl⟩, fun _ _ => ⟨fun _ _ => rfl, rfl, rfl⟩, fun _ _ => ⟨fun _ _ => rfl, fun _ => rfl⟩, fun _ _ => rfl, hw.2.2.2.2⟩
  have := hN.di hI hn hG (dW_tr (dW_cz c 6 (by omega)) hw') hd
  rw [u1_id] at this
  exact this
end DA
