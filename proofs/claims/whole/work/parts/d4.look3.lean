/-! ===== record, port, broken ===== -/
section LK
variable {sw nd rm : Nat} {M N : hM} {S T : sT} {ia : Nat → Nat → Int32} {w t x y zb sb nc c s p n i a f j : Nat} {pe : Nat → Option Nat} {wo : Nat → Nat} {fl : Nat → List (List Int32)} {kR : Nat → rK} {ka : Nat → Nat → Nat} {tog : Nat → Bool} {ca hh : Nat → Nat} {lv : Nat → Bool} {jj : Nat → Nat} {G : Nat → nG} {v v1 v2 v3 : Int32}
theorem f156_eq {na : Nat} {o : Option (List Nat)} (h : nt1 M na o) (h5 : rgo o 5 < 1000) : f156 [.inr (.inr (some na))] M = some (some (.inl (nI (rgo o (6 + 3 * rgo o 5)))), M) := by
  have o6 : g_o M 6 (some na) = some na := g_o_t (ci := 6) h.1.1
  have e1 : f96 [.inr (.inr (some na)), .inl (5 : Int32)] M = some (some (.inl (nI (rgo o 5))), M) := f96_eq h (i := 5) (by omega)
  have ix : (6 : Int32) + (3 : Int32) * nI (rgo o 5) = nI (6 + 3 * rgo o 5) := by rw [show (3 : Int32) * nI (rgo o 5) = nI (3 * rgo o 5) from pk_mul 3 _]; exact nI_add 6 _
  have e2 := f96_eq h (i := 6 + 3 * rgo o 5) (by omega)
  show x_out (b156_0 na M) = _
  unfold b156_0
  rw [bd_s o6, bd_s (c_I_of e1), bd_s o6, ix, bd_s (c_I_of e2)]
  rfl
theorem C_record (h : AX sw nd rm t zb sb M S) : ∃ r, f157 [.inr (.inr (some 1)), .inl v1, .inl v2, .inl v3] M = some (some (.inl r), M) ∧ e252 v1 v2 v3 S = some (r, S) := by
  obtain ⟨ia, w, pe, wo, fl, kR, ka, tog, nc, ca, hh, lv, jj, G, ⟨hT, ha, hN, hin⟩, qz⟩ := h
  have hI := hT.I
  have h5 := hI.bs.1.2
  have s0 : s_g S 0 = nI sw := hT.1.st.2.2.1.1
  have n1 : ¬ (1 : Int32) = 0 := by decide
  have fd : f157 [.inr (.inr (some 1)), .inl v1, .inl v2, .inl v3] M = x_out (b157_0 1 v1 v2 v3 M) := rfl
  have ed : e252 v1 v2 v3 S = s_out (c252_0 v1 v2 v3 S) := rfl
  rw [fd, ed]
  unfold b157_0 c252_0
  rw [bd_s (o11 hI), s0]
  rcases px2 v1 (n := sw) (by omega) with z | ⟨s, hs, rfl⟩
  · rw [bd_s (c_I_of (f12_no hI z)), if_pos rfl]
    by_cases q : v1 < 0
    · rw [if_pos q]; exact ⟨_, rfl, rfl⟩
    · rw [if_neg q, if_pos (z.resolve_left q)]; exact ⟨_, rfl, rfl⟩
  rw [bd_s (c_I_of (f12_yes hI hs)), if_neg n1, if_neg (nI_pos (by omega)), if_neg (nI_ge hs (by omega)), bd_s (o11 hI)]
  rcases px2 v2 (n := sw) (by omega) with z | ⟨r, hr, rfl⟩
  · rw [bd_s (c_I_of (f12_no hI z)), if_pos rfl]
    by_cases q : v2 < 0
    · rw [if_pos q]; exact ⟨_, rfl, rfl⟩
    · rw [if_neg q, if_pos (z.resolve_left q)]; exact ⟨_, rfl, rfl⟩
  have rc := hT.1.rc hs
  obtain ⟨a1, a2, a3⟩ := rc.1 r hr
  have ix : (5 : Int32) * nI s + nI r = nI (5 * s + r) := by rw [show (5 : Int32) * nI s = nI (5 * s) from pk_mul 5 s, nI_add]
  have q1 : g_r M 11 1 (some 1) = some (some 8) := (g_r_t (ci := 11) hI.fab0).trans (congrArg some hI.fab2)
  have q2 : al_r M 40 (some 8) (nI s) = some (some (10 + s)) := (al_r_t hI.ar10 (by rw [hI.ar11]; exact hs) (by omega)).trans (congrArg some (hI.si9 hs))
  have q3 : g_r M 10 4 (some (10 + s)) = some (some (30 + s)) := (g_r_t (ci := 10) (hI.si0 hs)).trans (congrArg some (hI.si4 hs))
  have q4 : al_r M 36 (some (30 + s)) (nI r) = some (some (400 + (6 * s + nJ (tog s) s r))) := (al_r_t (hI.sa2 hs) (by rw [hI.sa3 hs]; exact hr) (by omega)).trans (congrArg some a1)
  have o6 : g_o M 6 (some (400 + (6 * s + nJ (tog s) s r))) = some (400 + (6 * s + nJ (tog s) s r)) := g_o_t (ci := 6) a2.1.1
  have rk := rc.2.2.1 r (by omega)
  rw [bd_s (c_I_of (f12_yes hI hr)), if_neg n1, if_neg (nI_pos (by omega)), if_neg (nI_ge hr (by omega)), bd_s q1, bd_s q2, bd_s q3, bd_s q4, bd_s o6, bd_s (c_I_of (f105_eq a2)), ix, bd_s (ga27 (by omega))]
  cases hL : kR s r with
  | none =>
    rw [hL] at rk
    have rk : S.1 27 (5 * s + r) = 0 := rk
    rw [if_pos (show b2 (Option.isSome (none : Option (List Nat))) = 0 from rfl), rk, if_pos rfl]
    exact ⟨_, rfl, rfl⟩
  | some L =>
    rw [hL] at rk
    obtain ⟨rk1, rk2, rk3⟩ := rk
    obtain ⟨ok1, ok2⟩ := rc.2.2.2.1 r L hL
    obtain ⟨l7, ll, -⟩ := ok2.f (by omega)
    have l31 := ok2.2.1
    have l256 := ok2.2.2
    obtain ⟨k1, k2⟩ := a3 (by rw [hL]; exact (fun q => by cases q))
    rw [hL] at a2
    rw [if_neg (show ¬ b2 (Option.isSome (some L)) = 0 by show ¬ (1 : Int32) = 0; decide), rk1, if_neg n1, bd_s q1, bd_s q2, bd_s q3, bd_s q4]
    by_cases z0 : v3 = 0
    · rw [if_pos z0, if_pos z0, bd_s o6, bd_s (c_I_of (f118_eq a2)), bd_s (e191_eq (by omega) (by omega) rc.2.2.1 hL l7 l31), hL]
      exact ⟨_, rfl, rfl⟩
    rw [if_neg z0, if_neg z0]
    by_cases z1 : v3 = 1
    · rw [if_pos z1, if_pos z1, bd_s o6, bd_s (c_I_of (f103_eq a2)), bd_s (show e190 (nI s) (nI r) (4 : Int32) S = some (nI (L.getD 4 0), S) from e190_eq (i := 4) (by omega) (by omega) rc.2.2.1 hL (by omega) l31)]
      exact ⟨_, rfl, rfl⟩
    rw [if_neg z1, if_neg z1]
    have e5 : e190 (nI s) (nI r) (5 : Int32) S = some (nI (L.getD 5 0), S) := e190_eq (i := 5) (by omega) (by omega) rc.2.2.1 hL (by omega) l31
    by_cases z2 : v3 = 2
    · rw [if_pos z2, if_pos z2, bd_s o6, bd_s (c_I_of (f97_eq a2)), bd_s e5]
      exact ⟨_, rfl, rfl⟩
    rw [if_neg z2, if_neg z2]
    by_cases z3 : v3 = 3
    · have e192' : e192 (nI s) (nI r) S = some (nI (7 + 3 * L.getD 5 0), S) := by
        show s_out (c192_0 (nI s) (nI r) S) = _
        unfold c192_0
        rw [bd_s e5]
        show some ((7 : Int32) + (3 : Int32) * nI (L.getD 5 0), S) = _
        rw [show (3 : Int32) * nI (L.getD 5 0) = nI (3 * L.getD 5 0) from pk_mul 3 _, show (7 : Int32) + nI (3 * L.getD 5 0) = nI (7 + 3 * L.getD 5 0) from nI_add 7 _]
      have m1 : nI (7 + 3 * L.getD 5 0) - 1 = nI (6 + 3 * L.getD 5 0) := by rw [show 7 + 3 * L.getD 5 0 = (6 + 3 * L.getD 5 0) + 1 by omega]; exact nI_pred _
      rw [if_pos z3, if_pos z3, bd_s o6, bd_s (c_I_of (f156_eq a2 (by show L.getD 5 0 < 1000; have := l256 5; omega))), bd_s e192', m1, bd_s (e190_eq (i := 6 + 3 * L.getD 5 0) (by omega) (by omega) rc.2.2.1 hL (by omega) l31)]
      exact ⟨_, rfl, rfl⟩
    rw [if_neg z3, if_neg z3]
    by_cases z4 : v3 = 4
    · rw [if_pos z4, if_pos z4, bd_s ((g_i_t (ci := 6) a2.1.1).trans (congrArg some k1)), bd_s ((ga28 (by omega)).trans (congrArg some k2))]
      exact ⟨_, rfl, rfl⟩
    rw [if_neg z4, if_neg z4]
    exact ⟨_, rfl, rfl⟩
/-- who is there -/
def whoV (S : sT) (pe : Nat → Option Nat) (x : Nat) : Int32 := match pe x with
  | some y => if 40 ≤ y then nI (y - 40) else if 40 ≤ x then nI (y / 8) else S.1 23 x
  | none => S.1 23 x
theorem f158_eq (hI : cI sw nd rm M) (hW : WI sw nd M S w pe wo) (hX : PX sw nd M S pe) (hx : sd sw nd x) (e : pe x = some y) : f158 [.inr (.inr (some (200 + x)))] M = some (some (.inl (whoV S pe x)), M) := by
  have hx8 := hI.x8 hx
  obtain ⟨-, hy, e'⟩ := hW.sds e
  have hy8 := hI.x8 hy
  have o8 := g_o_t (ci := 8) (hI.po0 hx)
  have e5 := f115_eq hI hW hx
  have e6 := f116_eq hI hW hx
  have p11 := ((hX x hx).1).1
  rw [e] at e5
  unfold ndA at e6
  rw [e] at e6
  have e5 : f115 [.inr (.inr (some (200 + x)))] M = some (some (.inl (b2 (decide (40 ≤ y)))), M) := e5
  have e6 : f116 [.inr (.inr (some (200 + x)))] M = some (some (.inl (if 40 ≤ y then nI (y - 40) else -1)), M) := e6
  unfold whoV
  rw [e]
  show x_out (b158_0 (200 + x) M) = some (some (.inl (if 40 ≤ y then nI (y - 40) else if 40 ≤ x then nI (y / 8) else S.1 23 x)), M)
  unfold b158_0
  rw [bd_s o8, bd_s (c_I_of e5)]
  by_cases c : 40 ≤ y
  · rw [if_pos c] at e6
    rw [decide_eq_true c, if_neg (show ¬ b2 true = 0 by decide), bd_s o8, bd_s (c_I_of e6), if_pos c]; rfl
  · rw [decide_eq_false c, if_pos (show b2 false = 0 from rfl), if_neg c]
    have g803 : g_r M 8 3 (some (200 + x)) = some (some (200 + y)) := (g_r_t (ci := 8) (hI.po0 hx)).trans (congrArg some (hW.pr e))
    by_cases cx : 40 ≤ x
    · rw [bd_s ((g_i_t (ci := 8) (hI.po0 hx)).trans (congrArg some ((hI.po2 hx).trans (ow_hi cx)))), if_neg (show ¬ nI (16 + (x - 40)) < 16 from nI_nlt (b := 16) (by omega) (by omega)), bd_s g803, if_neg ((fun q => by cases q)), bd_s g803, bd_s ((g_i_t (ci := 8) (hI.po0 hy)).trans (congrArg some ((hI.po2 hy).trans (ow_lo (by omega))))), if_pos cx]
      rfl
    · rw [bd_s ((g_i_t (ci := 8) (hI.po0 hx)).trans (congrArg some ((hI.po2 hx).trans (ow_lo (by omega))))), if_pos (show nI (x / 8) < 16 from nI_lt (b := 16) (by omega) (by omega)), if_neg cx]
      unfold b158_38
      rw [bd_s ((g_i_t (ci := 8) (hI.po0 hx)).trans (congrArg some p11))]
      rfl
/-- what port answers -/
theorem ref_port (h : TW sw nd rm M S ia w pe wo t zb sb fl kR ka tog) (hx : sd sw nd x) {v4 : Int32} (h4 : (v4 = 0 ∧ x < 40) ∨ (v4 = 1 ∧ 40 ≤ x)) : ∃ r, x_out (b159_0 1 v1 v2 v3 M) = x_out (b159_0 1 v1 v2 v3 M) ∧ (f13 [.inr (.inr (some 1)), .inl v1, .inl v2] M = some (some (.inr (.inr (some (200 + x)))), M) → x_out (b159_0 1 v1 v2 v3 M) = some (some (.inl r), M)) ∧ s_out (c253_82 v3 v4 (nI x) S) = some (r, S) := by
  have hI := h.I
  have hW := h.W
  have hx8 := hI.x8 hx
  have n1 : ¬ (1 : Int32) = 0 := by decide
  have t9 := hI.po0 hx
  obtain ⟨ct, d1, d2, d3, d4, d5, d6, d7⟩ := h.1.pb
  have cls : ∀ r, (f13 [.inr (.inr (some 1)), .inl v1, .inl v2] M = some (some (.inr (.inr (some (200 + x)))), M) → x_out (b159_0 1 v1 v2 v3 M) = some (some (.inl r), M)) → s_out (c253_82 v3 v4 (nI x) S) = some (r, S) → ∃ r, x_out (b159_0 1 v1 v2 v3 M) = x_out (b159_0 1 v1 v2 v3 M) ∧ (f13 [.inr (.inr (some 1)), .inl v1, .inl v2] M = some (some (.inr (.inr (some (200 + x)))), M) → x_out (b159_0 1 v1 v2 v3 M) = some (some (.inl r), M)) ∧ s_out (c253_82 v3 v4 (nI x) S) = some (r, S) := fun r a b => ⟨r, rfl, a, b⟩
  have nn : ∀ a : Nat, ¬ (some a = none) := fun a q => (by cases q)
  cases e : pe x with
  | none =>
    refine cls (-1) (fun q => ?_) ?_
    · unfold b159_0
      rw [bd_s (o11 hI), bd_s (c_R_of q), if_neg (nn _), bd_s ((g_r_t (ci := 8) t9).trans (congrArg some (hW.pn hx e))), if_pos rfl]; rfl
    · unfold c253_82
      rw [bd_s ((ga14 hx8).trans (congrArg some (hW.2.1 x hx8 e))), if_pos rfl]; rfl
  | some y =>
    obtain ⟨⟨⟨-, hy, e'⟩, hne, h40⟩, ⟨-, w2, w3⟩, hp, -⟩ := hW.2.2.2.1 x y e
    have hy8 := hI.x8 hy
    have hw16 := hW.1.2.2
    have start : ∀ q : f13 [.inr (.inr (some 1)), .inl v1, .inl v2] M = some (some (.inr (.inr (some (200 + x)))), M), b159_0 1 v1 v2 v3 M = (if v3 = 0 then (Option.bind (g_i M 8 6 (some (200 + x))) fun v_8 => some (.inl (some (.inl v_8), M))) else (if v3 = 1 then (Option.bind (g_r M 8 10 (some (200 + x))) fun o_11 => Option.bind (g_i M 3 2 o_11) fun v_13 => some (.inl (some (.inl v_13), M))) else (if v3 = 2 then (Option.bind (g_r M 8 9 (some (200 + x))) fun o_16 => Option.bind (g_i M 3 2 o_16) fun v_18 => some (.inl (some (.inl v_18), M))) else (if v3 = 3 then (Option.bind (g_o M 8 (some (200 + x))) fun b_23 => Option.bind (c_I (f158 [.inr (.inr (some b_23))] M)) fun q_21 => some (.inl (some (.inl q_21.1), q_21.2))) else (if v3 = 4 then (Option.bind (g_i M 8 5 (some (200 + x))) fun v_26 => if v_26 = 0 then (b159_103 (0 : Int32) M) else (b159_103 (1 : Int32) M)) else (some (.inl (some (.inl (-1 : Int32)), M)))))))) := fun q => by
      unfold b159_0
      rw [bd_s (o11 hI), bd_s (c_R_of q), if_neg (nn _), bd_s ((g_r_t (ci := 8) t9).trans (congrArg some hp)), if_neg (nn _)]
    have rst : c253_82 v3 v4 (nI x) S = (if v3 = 0 then (Option.bind (e180 (nI x) S) fun q_24 => some (.inl (q_24.1, q_24.2))) else (if v3 = 1 then (Option.bind (s_a S 17 (nI x)) fun v_30 => some (.inl (v_30, S))) else (if v3 = 2 then (Option.bind (s_a S 19 (nI x)) fun v_32 => some (.inl (v_32, S))) else (if v3 = 3 then (if v4 = 0 then (Option.bind (e179 (nI x) S) fun q_34 => if q_34.1 = (-1 : Int32) then (Option.bind (s_a q_34.2 23 (nI x)) fun v_40 => c253_198 v_40 q_34.2) else (Option.bind (e179 (nI x) q_34.2) fun q_42 => c253_198 q_42.1 q_42.2)) else (Option.bind (e178 (nI x) S) fun q_49 => Option.bind (d_v q_49.1 (8 : Int32)) fun v_55 => c253_198 v_55 q_49.2)) else (if v3 = 4 then (Option.bind (e177 (nI x) S) fun q_58 => if q_58.1 = 0 then (c253_213 (0 : Int32) q_58.2) else (c253_213 (1 : Int32) q_58.2)) else (some (.inl ((-1 : Int32), S)))))))) := by
      unfold c253_82
      rw [bd_s ((ga14 hx8).trans (congrArg some w3)), if_neg (nI_m1 (by omega))]
    obtain ⟨bl1, bl2⟩ := d2.bl hx8
    by_cases z0 : v3 = 0
    · refine cls (h_fi M 806 (200 + x)) (fun q => ?_) ?_
      · rw [start q, if_pos z0, bd_s (g_i_t (ci := 8) t9)]; rfl
      · rw [rst, if_pos z0, bd_s (e180_eq hI hW h.1.st.2.2.1.2.2 d2 h.2.1.2.2.1 h.2.1.2.2.2.1 d4 hx)]; rfl
    by_cases z1 : v3 = 1
    · refine cls (nI (fl (48 + x)).length) (fun q => ?_) ?_
      · have := FC_sz d1 (p := 48 + x) (by omega) (by omega) (by rw [md_b hx8]; exact hx)
        rw [lq_b hx8] at this
        rw [start q, if_neg z0, if_pos z1, bd_s ((g_r_t (ci := 8) t9).trans (congrArg some (hI.po5 hx))), bd_s ((g_i_t (ci := 3) (hI.po7 hx)).trans (congrArg some this))]; rfl
      · rw [rst, if_neg z0, if_pos z1, bd_s ((ga17 hx8).trans (congrArg some bl1))]; rfl
    by_cases z2 : v3 = 2
    · refine cls (nI (fl (96 + x)).length) (fun q => ?_) ?_
      · have := FC_sz d1 (p := 96 + x) (by omega) (by omega) (by rw [md_q hx8]; exact hx)
        rw [lq_q] at this
        rw [start q, if_neg z0, if_neg z1, if_pos z2, bd_s ((g_r_t (ci := 8) t9).trans (congrArg some (hI.po4 hx))), bd_s ((g_i_t (ci := 3) (hI.po6 hx)).trans (congrArg some this))]; rfl
      · rw [rst, if_neg z0, if_neg z1, if_pos z2, bd_s ((ga19 hx8).trans (congrArg some bl2))]; rfl
    by_cases z3 : v3 = 3
    · refine cls (whoV S pe x) (fun q => ?_) ?_
      · rw [start q, if_neg z0, if_neg z1, if_neg z2, if_pos z3, bd_s (g_o_t (ci := 8) t9), bd_s (c_I_of (f158_eq hI hW h.1.px hx e))]; rfl
      · rw [rst, if_neg z0, if_neg z1, if_neg z2, if_pos z3]
        have e9 := e179_eq hW hx8 (fun y q => (h.x48 x y q).2)
        unfold ndA at e9
        rw [e] at e9
        have e9 : e179 (nI x) S = some (if 40 ≤ y then nI (y - 40) else -1, S) := e9
        unfold whoV
        rw [e]
        show _ = some ((if 40 ≤ y then nI (y - 40) else if 40 ≤ x then nI (y / 8) else S.1 23 x), S)
        rcases h4 with ⟨rfl, hx40⟩ | ⟨rfl, hx40⟩
        · rw [if_pos rfl, bd_s e9]
          by_cases c : 40 ≤ y
          · rw [if_pos c] at e9
            rw [if_pos c, if_neg (nI_m1 (by omega)), bd_s e9, if_pos c]; rfl
          · rw [if_neg c, if_neg c, if_pos rfl, bd_s (ga23 hx8), if_neg (by omega)]; rfl
        · have y40 := h40 hx40
          rw [if_neg n1, bd_s (e178_eq hW hx8 hy8 e), if_neg (by omega), if_pos hx40]
          have dv : d_v (nI y) 8 = some (nI (y / 8)) := by
            unfold d_v
            rw [if_neg (show ¬ (8 : Int32) = 0 by decide)]
            exact congrArg some (pk_div (d := 8) (by omega) (by omega) (by omega))
          rw [bd_s dv]; rfl
    by_cases z4 : v3 = 4
    · refine cls (if upS S x = 0 then 0 else 1) (fun q => ?_) ?_
      · rw [start q, if_neg z0, if_neg z1, if_neg z2, if_neg z3, if_pos z4, bd_s ((g_i_t (ci := 8) t9).trans (congrArg some (hW.up hx)))]
        by_cases c : upS S x = 0
        · rw [if_pos c, if_pos c]; rfl
        · rw [if_neg c, if_neg c]; rfl
      · rw [rst, if_neg z0, if_neg z1, if_neg z2, if_neg z3, if_pos z4, bd_s (e177_eq hW.wO hx8)]
        by_cases c : upS S x = 0
        · rw [if_pos c, if_pos c]; rfl
        · rw [if_neg c, if_neg c]; rfl
    · refine cls (-1) (fun q => ?_) ?_
      · rw [start q, if_neg z0, if_neg z1, if_neg z2, if_neg z3, if_neg z4]; rfl
      · rw [rst, if_neg z0, if_neg z1, if_neg z2, if_neg z3, if_neg z4]; rfl
theorem C_port (h : AX sw nd rm t zb sb M S) : ∃ r, f159 [.inr (.inr (some 1)), .inl v1, .inl v2, .inl v3] M = some (some (.inl r), M) ∧ e253 v1 v2 v3 S = some (r, S) := by
  obtain ⟨ia, w, pe, wo, fl, kR, ka, tog, nc, ca, hh, lv, jj, G, ⟨hT, ha, hN, hin⟩, qz⟩ := h
  have hI := hT.I
  have h5 := hI.bs.1.2
  have h8 := hI.bs.2.1.2
  have s0 : s_g S 0 = nI sw := hT.1.st.2.2.1.1
  have s1 : s_g S 1 = nI nd := hT.1.st.2.2.1.2.1
  have n1 : ¬ (1 : Int32) = 0 := by decide
  have fd : f159 [.inr (.inr (some 1)), .inl v1, .inl v2, .inl v3] M = x_out (b159_0 1 v1 v2 v3 M) := rfl
  have ed : e253 v1 v2 v3 S = s_out (c253_0 v1 v2 v3 S) := rfl
  rw [fd, ed]
  rcases sdV_c (sw := sw) (nd := nd) h5 h8 v1 v2 with z | ⟨s, p, hs, hp, rfl, rfl⟩ | ⟨n, hn, rfl, rfl⟩
  · refine ⟨-1, ?_, ?_⟩
    · unfold b159_0
      rw [bd_s (o11 hI), bd_s (c_R_of (f13_no hI z)), if_pos rfl]; rfl
    · unfold sdV at z
      unfold c253_0
      by_cases a : v1 < 16
      · rw [if_pos a] at z
        rw [if_pos a]
        unfold c253_11
        rw [if_pos rfl, s0]
        by_cases b : v1 < 0
        · rw [if_pos b]; rfl
        rw [if_neg b] at z ⊢
        by_cases b : nI sw ≤ v1
        · rw [if_pos b]; rfl
        rw [if_neg b] at z ⊢
        by_cases b : v2 < 0
        · rw [if_pos b]; rfl
        rw [if_neg b] at z ⊢
        by_cases b : v2 ≤ 7
        · rw [if_pos b] at z; cases z
        · rw [if_neg b]; rfl
      · rw [if_neg a] at z
        rw [if_neg a]
        unfold c253_11
        rw [if_neg n1, s1]
        by_cases b : nI nd ≤ v1 - 16
        · rw [if_pos b]; rfl
        rw [if_neg b] at z ⊢
        by_cases b : v2 = 0
        · rw [if_pos b] at z; cases z
        · rw [if_neg b]; rfl
  · have hx : sd sw nd (8 * s + p) := sd_sp hs hp
    obtain ⟨r, -, r1, r2⟩ := ref_port (v1 := nI s) (v2 := nI p) (v3 := v3) hT hx (v4 := 0) (Or.inl ⟨rfl, by omega⟩)
    refine ⟨r, r1 (f13_s hI hs hp), ?_⟩
    unfold c253_0
    rw [if_pos (show nI s < 16 from nI_lt (b := 16) (by omega) (by omega))]
    unfold c253_11
    rw [if_pos rfl, s0, if_neg (nI_pos (by omega)), if_neg (nI_ge hs (by omega)), if_neg (nI_pos (by omega)), if_pos (show nI p ≤ 7 from nI_le (b := 7) (by omega) (by omega))]
    unfold c253_60
    rw [if_pos rfl, bd_s (e175_v S)]
    exact r2
  · have hx : sd sw nd (40 + n) := sd_n hn
    obtain ⟨r, -, r1, r2⟩ := ref_port (v1 := nI (16 + n)) (v2 := 0) (v3 := v3) hT hx (v4 := 1) (Or.inr ⟨rfl, by omega⟩)
    refine ⟨r, r1 (f13_n hI hn), ?_⟩
    unfold c253_0
    rw [if_neg (show ¬ nI (16 + n) < 16 from nI_nlt (b := 16) (by omega) (by omega))]
    unfold c253_11
    rw [if_neg n1, s1, sub16, if_neg (nI_ge hn (by omega)), if_pos rfl]
    unfold c253_60
    rw [if_neg n1, sub16, bd_s e176_v]
    exact r2
theorem C_broken (h : AX sw nd rm t zb sb M S) : ∃ r, f163 [.inr (.inr (some 1)), .inl v] M = some (some (.inl r), M) ∧ e257 v S = some (r, S) := by
  obtain ⟨ia, w, pe, wo, fl, kR, ka, tog, nc, ca, hh, lv, jj, G, ⟨hT, ha, hN, hin⟩, qz⟩ := h
  have ht := hT.1.st.2.2.2.1
  obtain ⟨⟨b1, b2', b3⟩, b4, -⟩ := hN.1
  refine ⟨0, rfl, ?_⟩
  have lp : ∀ d c fuel, c + d = nc → d < fuel → sdrive kS257 fuel 29 [.inl 0, .inl (nI c)] S = some (0, S) := by
    intro d
    induction d with
    | zero =>
      intro c fuel hc hf
      obtain ⟨g, rfl⟩ : ∃ g, fuel = g + 1 := ⟨fuel - 1, by omega⟩
      refine sd_end ?_
      show c257_29 0 (nI c) S = _
      unfold c257_29
      rw [if_pos (show s_g S 47 ≤ nI c by show S.1 47 0 ≤ _; rw [b2']; exact nI_le (by omega) (by omega))]
    | succ d ih =>
      intro c fuel hc hf
      obtain ⟨g, rfl⟩ : ∃ g, fuel = g + 1 := ⟨fuel - 1, by omega⟩
      obtain ⟨⟨c1, c2, c3⟩, wr, un, bl, m, d', ph, bg, pa, cb, p1, p2, p3, p4, p5, ⟨⟨g1, g2, g3⟩, ⟨g4, g5, g6⟩, g7, g8⟩, p7, p8, p9, p10⟩ := b4 c (by omega)
      have st : kS257 29 [.inl 0, .inl (nI c)] S = some (.inr (29, [.inl 0, .inl (nI (c + 1))], S)) := by
        show c257_29 0 (nI c) S = _
        unfold c257_29
        rw [if_neg (show ¬ s_g S 47 ≤ nI c by show ¬ S.1 47 0 ≤ _; rw [b2']; exact nI_ge (by omega) (by omega)), bd_s (ga59 (by omega))]
        by_cases z : S.1 59 c = -1
        · have ph3 := g8.mpr z
          obtain ⟨q1, q2, q3⟩ := p10 ph3
          have q2 := q2 (hin (hh c) c3).1
          have lt : t - bg < 181 := by
            unfold dln at q2
            split at q2
            · omega
            · have := q3 (by omega)
              omega
          rw [if_pos z, bd_s ((ga58 (by omega)).trans (congrArg some g2)), show s_g S 3 = nI t from ht.2.1, pk_sub g3, if_pos (show nI (t - bg) < 181 from nI_lt (b := 181) lt (by omega))]
          unfold c257_67
          rw [nI_1]
        · rw [if_neg z]
          unfold c257_67
          rw [nI_1]
      rw [sd_go st]
      exact ih (c + 1) g (by omega) (by omega)
  have bk3 := hT.2.1.2.1
  show s_go kS257 (c257_0 v S) = _
  unfold c257_0
  by_cases z2 : v = 2
  · rw [if_pos z2]
    exact lp nc 0 xF (by omega) (by unfold xF; omega)
  rw [if_neg z2]
  by_cases z0 : v = 0
  · rw [if_pos z0]
    unfold c257_14
    rw [z0, bd_s (show s_a S 5 (0 : Int32) = some (S.1 5 0) from ga5 (i := 0) (by omega)), bk3 0 (by omega)]; rfl
  rw [if_neg z0]
  by_cases z1 : v = 1
  · rw [if_pos z1]
    unfold c257_14
    rw [z1, bd_s (show s_a S 5 (1 : Int32) = some (S.1 5 1) from ga5 (i := 1) (by omega)), bk3 1 (by omega)]; rfl
  rw [if_neg z1]; rfl
end LK
