section PO
variable {sw nd rm : Nat} {M M' : hM} {S T : sT} {ia ib : Nat → Nat → Int32} {w t x y z zb sb s p a f : Nat} {pe : Nat → Option Nat} {wo : Nat → Nat} {fl fm : Nat → List (List Int32)} {L X : List Int32} {r : List (List Int32)} {F A G : List Nat} {kR : Nat → rK} {ka : Nat → Nat → Nat} {tog : Nat → Bool}
theorem TB.ks32 (h : TB sw nd rm M S ia w pe wo t zb sb fl kR ka tog) (l : ks [32] S T) : TB sw nd rm M T ia w pe wo t zb sb fl kR ka tog :=
  ⟨h.1.ks32 l, h.2.1.keep (kp.rf h.1.pb.bk : kp [] [] M M) (by decide) l (by decide) qx.rf h.x48, h.2.2⟩
theorem P_passOn (h : TB sw nd rm M S ia w pe wo t zb sb fl kR ka tog) (hss : s < sw) (hp : p < 8) (hf : fl (48 + (8 * s + p)) = L :: r) (hX : rd M a L) (hXs : rdS S f L) (h16 : S.1 16 ((8 * s + p) * 4) = nI f) (h13 : 13 ≤ L.length) : ∃ M' S' fm, f136 [.inr (.inr (some (10 + s))), .inr (.inr (some (200 + (8 * s + p)))), .inr (.inr (some a))] M = some (none, M') ∧ e226 (nI s) (nI (8 * s + p)) (nI f) (num L 1 3) S = some S' ∧ TB sw nd rm M' S' ia w pe wo t zb sb fm kR ka tog ∧ i20 M M' := by
  have hI := h.I
  have hx : sd sw nd (8 * s + p) := sd_sp hss hp
  have hx8 := hI.x8 hx
  have tp := hI.po0 hx
  have ts := hI.si0 hss
  have ta := hX.1.1
  have e1 : num L 1 3 = nI (numN L 1 3) := num_N L 1 3 (by omega)
  have hτ : numN L 1 3 < 16777216 := numN_lt L 1 3
  obtain ⟨rr, v, T, o1, o2, o3, o4⟩ := P_out h.1 h.2.2 hss hp hτ hXs h13
  have hT := h.ks32 o3
  have e65 := f65_eq hX h13
  have e64 := f64_eq hX h13
  rw [e1] at e64
  have cls : f136 [.inr (.inr (some (10 + s))), .inr (.inr (some (200 + (8 * s + p)))), .inr (.inr (some a))] M = x_out (if rr < 0 then b136_24 (some (200 + (8 * s + p))) rr M else (if rr < (8 : Int32) then
      (Option.bind (g_r M 10 2 (some (10 + s))) fun o_13 =>
      Option.bind (al_r M 38 o_13 rr) fun o_15 =>
      Option.bind (g_r M 8 9 o_15) fun o_17 =>
      Option.bind (g_i M 3 2 o_17) fun v_19 =>
      if v_19 = 0 then
        (Option.bind (g_o M 8 o_15) fun b_23 =>
        Option.bind (c_I (f41 [.inr (.inr (some b_23))] M)) fun q_21 =>
        if q_21.1 = 0 then
          (b136_79 (some (200 + (8 * s + p))) q_21.2)
        else
          (Option.bind (g_o q_21.2 8 (some (200 + (8 * s + p)))) fun b_27 =>
          Option.bind (c_R (f54 [.inr (.inr (some b_27))] q_21.2)) fun q_25 =>
          Option.bind (g_o q_25.2 8 o_15) fun b_31 =>
          Option.bind (c_V (f44 [.inr (.inr (some b_31)), .inr (.inr q_25.1)] q_25.2)) fun q_29 =>
          Option.bind (g_r q_29 10 0 (some (10 + s))) fun o_33 =>
          Option.bind (g_o q_29 9 o_33) fun b_37 =>
          Option.bind (c_V (f37 [.inr (.inr (some b_37)), .inl (7 : Int32)] q_29)) fun q_35 =>
          b136_83  q_35))
      else
        (b136_79 (some (200 + (8 * s + p))) M))
    else
      (b136_24 (some (200 + (8 * s + p))) rr M))) := by
    show x_out (b136_0 (10 + s) (some (200 + (8 * s + p))) (some a) M) = _
    unfold b136_0
    rw [bd_s (g_o_t (ci := 2) ta), bd_s (c_I_of e65), bd_s (g_o_t (ci := 2) ta), bd_s (c_I_of e64), bd_s (g_o_t (ci := 10) ts), bd_s (c_I_of o1)]
  have ref : e226 (nI s) (nI (8 * s + p)) (nI f) (num L 1 3) S = s_out (if (16 : Int32) ≤ v then
    (Option.bind (e175 (nI s) (v - (16 : Int32)) T) fun q_7 =>
    Option.bind (s_a q_7.2 19 q_7.1) fun v_13 =>
    if v_13 = 0 then
      (Option.bind (e181 q_7.1 q_7.2) fun q_15 =>
      if q_15.1 = 0 then
        (c226_139 (nI (8 * s + p)) q_15.2)
      else
        (Option.bind (e185 (nI (8 * s + p)) q_15.2) fun q_21 =>
        Option.bind (e182 q_7.1 (nI f) q_21.2) fun q_27 =>
        Option.bind (s_a q_27 4 (7 : Int32)) fun v_33 =>
        Option.bind (s_s q_27 4 (7 : Int32) (v_33 + (1 : Int32))) fun S35 =>
        Option.bind (e179 q_7.1 S35) fun q_41 =>
        if q_41.1 = (-1 : Int32) then
          (c226_138  q_41.2)
        else
          (Option.bind (e166 (nI f) (4 : Int32) (3 : Int32) q_41.2) fun q_47 =>
          Option.bind (e189 q_47.1 q_47.2) fun q_53 =>
          Option.bind (e179 q_7.1 q_53.2) fun q_59 =>
          Option.bind (e188 q_53.1 q_59.1 q_59.2) fun q_65 =>
          if q_65.1 = 0 then
            (Option.bind (s_a q_65.2 5 (0 : Int32)) fun v_71 =>
            Option.bind (s_s q_65.2 5 (0 : Int32) (v_71 + (1 : Int32))) fun S73 =>
            c226_138  S73)
          else
            (c226_138  q_65.2))))
    else
      (c226_139 (nI (8 * s + p)) q_7.2))
  else
    (Option.bind (s_a T 4 v) fun v_83 =>
    Option.bind (s_s T 4 v (v_83 + (1 : Int32))) fun S85 =>
    Option.bind (e185 (nI (8 * s + p)) S85) fun q_91 =>
    Option.bind (e171 q_91.1 q_91.2) fun q_97 =>
    some (.inl q_97))) := by
    rw [e1]
    show s_out (c226_0 (nI s) (nI (8 * s + p)) (nI f) (nI (numN L 1 3)) S) = _
    unfold c226_0
    rw [bd_s o2]
  rw [cls, ref]
  -- dropped by k
  have drp : ∀ (E : Option xRes) (D : Option (sRes sT)) (k : Nat), 0 < k → k < 9 → rr = -(nI k) → v = nI k → (-(-(nI k)) = nI k) → (-(nI k) : Int32) < 0 → ¬ (16 : Int32) ≤ nI k → ∃ M' S' fm, x_out (if rr < 0 then b136_24 (some (200 + (8 * s + p))) rr M else E) = some (none, M') ∧ s_out (if (16 : Int32) ≤ v then D else (Option.bind (s_a T 4 v) fun v_83 =>
    Option.bind (s_s T 4 v (v_83 + (1 : Int32))) fun S85 =>
    Option.bind (e185 (nI (8 * s + p)) S85) fun q_91 =>
    Option.bind (e171 q_91.1 q_91.2) fun q_97 =>
    some (.inl q_97))) = some S' ∧ TB sw nd rm M' S' ia w pe wo t zb sb fm kR ka tog ∧ i20 M M' := fun E D k k0 k9 hr hv hneg hlt h16 => by
    obtain ⟨M', S1, S2, f', d1, d2, d3, d4, d5⟩ := P_drop hT hx hf k0 k9
    refine ⟨M', S2, _, ?_, ?_, d4, d5⟩
    · rw [hr, if_pos hlt]
      unfold b136_24
      rw [bd_s (g_o_t (ci := 8) tp), hneg, bd_s (c_V_of d1)]
      rfl
    · rw [hv, if_neg h16, bd_s (ga4 (by omega)), bd_s (gs4 (by omega)), bd_s d2, bd_s d3]
      rfl
  rcases o4 with ⟨q1, q2⟩ | ⟨q1, q2⟩ | ⟨q, q8, q1, q2, q3⟩
  · exact drp _ _ 2 (by omega) (by omega) q1 q2 (by decide) (by decide) (by decide)
  · exact drp _ _ 3 (by omega) (by omega) q1 q2 (by decide) (by decide) (by decide)
  · have hz : sd sw nd (8 * s + q) := sd_sp hss q8
    have hz8 := hI.x8 hz
    have tz := hI.po0 hz
    have hPT := hT.1.pb
    obtain ⟨ct, c1, c2, c3, c4, c5, c6, c7⟩ := hPT
    have gq : g_r M 8 9 (some (200 + (8 * s + q))) = some (some (250 + (8 * s + q))) := (g_r_t (ci := 8) tz).trans (congrArg some (hI.po4 hz))
    have sz := FC_sz (p := 96 + (8 * s + q)) c1 (by omega) (by omega) (by rw [md_q hz8]; exact hz)
    rw [lq_q] at sz
    have gz : g_i M 3 2 (some (250 + (8 * s + q))) = some (nI (fl (96 + (8 * s + q))).length) := (g_i_t (ci := 3) (hI.po6 hz)).trans (congrArg some sz)
    have gp : g_r M 10 2 (some (10 + s)) = some (some (20 + s)) := (g_r_t (ci := 10) ts).trans (congrArg some (hI.si3 hss))
    have n1 : ¬ rr < 0 := by rw [q1]; exact nI_pos (by omega)
    have n2 : rr < 8 := by rw [q1]; exact nI_lt (b := 8) q8 (by omega)
    have n3 : (16 : Int32) ≤ v := by rw [q2]; exact nI_le (a := 16) (by omega) (by omega)
    have g175 : e175 (nI s) (v - 16) T = some (nI (8 * s + q), T) := by
      have x1 : v - 16 = nI q := by rw [q2, show (16 : Int32) = nI 16 from rfl, pk_sub (by omega)]; congr 1; omega
      have : nI (8 * s) + nI q = nI (8 * s + q) := nI_add _ _
      rw [x1]
      simp [e175, c175_0, ixl8, this, s_out]
    have g19 : s_a T 19 (nI (8 * s + q)) = some (nI (fl (96 + (8 * s + q))).length) := (ga19 hz8).trans (congrArg some (c2.bl hz8).2)
    rw [if_neg n1, if_pos n2, if_pos n3, q1, bd_s gp, bd_s (port_a hI hss q8), bd_s gq, bd_s gz, bd_s g175]
    show ∃ M' S' fm, _ ∧ s_out (Option.bind (s_a T 19 (nI (8 * s + q))) _) = _ ∧ _
    rw [bd_s g19]
    -- it stays
    have sty : ∃ M' S' fm, x_out (b136_79 (some (200 + (8 * s + p))) M) = some (none, M') ∧ s_out (c226_139 (nI (8 * s + p)) T) = some S' ∧ TB sw nd rm M' S' ia w pe wo t zb sb fm kR ka tog ∧ i20 M M' := by
      obtain ⟨M', S', fm, d1, d2, d3, d4⟩ := P_stay hT hx hf
      refine ⟨M', S', fm, ?_, ?_, d3, d4⟩
      · unfold b136_79
        rw [bd_s (g_o_t (ci := 8) tp), bd_s (c_V_of d1)]
        rfl
      · rw [d2]; rfl
    by_cases cq : nI (fl (96 + (8 * s + q))).length = 0
    · rw [if_pos cq, if_pos cq, bd_s (g_o_t (ci := 8) tz), bd_s (c_I_of (f41_eq tz))]
      have hW := hT.W
      have g181 := e181_eq hI hW hT.1.st.2.2.1.2.2 c2 hT.2.1.2.2.1 hT.2.1.2.2.2.1 c3 hT.2.1.2.2.2.2.1 hz
      rw [bd_s g181]
      have hup := hW.up hz
      have hw0 := c1.way0 hz hz8
      show ∃ M' S' fm, x_out (if (if h_fi M 805 (200 + (8 * s + q)) = 0 then (0 : Int32) else if h_fi M 806 (200 + (8 * s + q)) ≤ 0 then 0 else if h_fr M 808 (200 + (8 * s + q)) = none then 1 else 0) = 0 then _ else _) = _ ∧ s_out (if (if upS T (8 * s + q) = 0 then (0 : Int32) else if fl (8 * s + q) = [] then (if h_fi M 806 (200 + (8 * s + q)) ≤ 0 then 0 else 1) else 0) = 0 then _ else _) = _ ∧ _
      rw [hup]
      by_cases cu : upS T (8 * s + q) = 0
      · rw [if_pos cu, if_pos cu, if_pos rfl, if_pos rfl]
        exact sty
      · rw [if_neg cu, if_neg cu]
        by_cases cc : h_fi M 806 (200 + (8 * s + q)) ≤ 0
        · rw [if_pos cc, if_pos cc, if_pos rfl, ite_self, if_pos rfl]
          exact sty
        · rw [if_neg cc, if_neg cc]
          by_cases cw : fl (8 * s + q) = []
          · rw [if_pos (hw0.mpr cw), if_pos cw, if_neg (by decide), if_neg (by decide)]
            obtain ⟨a', M1, M2, M3, f', S1, S2, fm, d1, d2, d3, ⟨d4, d4'⟩, d5, d6, d7, ⟨d8, d8'⟩, d9, d10, d11⟩ := P_go hT hx hf hz cu cw cc
            have hff : nI f' = nI f := by rw [← d6, o3.i (by decide)]; exact h16
            rw [hff] at d7
            have hff' : f' = f := (nI_eq (by have := d9.1; omega) (by have := hXs.1; omega)).mp hff
            subst hff'
            have hI1 := hI.keep d4 (by decide) (by decide)
            have hI2 := hI1.keep d4' (by decide) (by decide)
            have g179 : e179 (nI (8 * s + q)) (s_u S2 4 7 (S2.1 4 7 + 1)) = some (ndA pe (8 * s + q), s_u S2 4 7 (S2.1 4 7 + 1)) := e179_eq d10.W hz8 (fun y hy => (d10.x48 _ y hy).2)
            have g4 : s_a S2 4 7 = some (S2.1 4 7) := ga4 (i := 7) (by omega)
            have gs : s_s S2 4 7 (S2.1 4 7 + 1) = some (s_u S2 4 7 (S2.1 4 7 + 1)) := gs4 (i := 7) (by omega)
            have g54 : c_R (f54 [.inr (.inr (some (200 + (8 * s + p))))] M) = some (some a', M1) := by rw [d1]; rfl
            refine ⟨M3, s_u S2 4 7 (S2.1 4 7 + 1), fm, ?_, ?_, d10, d11⟩
            · rw [bd_s (g_o_t (ci := 8) tp), bd_s g54]
              show x_out (Option.bind (g_o M1 8 (some (200 + (8 * s + q)))) _) = _
              rw [bd_s (g_o_t (ci := 8) (hI1.po0 hz)), bd_s (c_V_of d2), bd_s ((g_r_t (ci := 10) (hI2.si0 hss)).trans (congrArg some (hI2.si1 hss))), bd_s (g_o_t (ci := 9) hI2.sh0), bd_s (c_V_of d3)]
              rfl
            · rw [bd_s d5]
              show s_out (Option.bind (e182 (nI (8 * s + q)) (nI f') S1) _) = _
              rw [bd_s d7, bd_s g4, bd_s gs, bd_s g179]
              show s_out (if ndA pe (8 * s + q) = -1 then _ else _) = _
              by_cases cn : ndA pe (8 * s + q) = -1
              · rw [if_pos cn]; rfl
              · rw [if_neg cn]
                have g166 : e166 (nI f') 4 3 (s_u S2 4 7 (S2.1 4 7 + 1)) = some (num L 4 3, s_u S2 4 7 (S2.1 4 7 + 1)) := r166 (i := 4) (n := 3) d9 (by omega)
                show s_out (Option.bind (e166 (nI f') 4 3 (s_u S2 4 7 (S2.1 4 7 + 1))) _) = _
                rw [bd_s g166]
                show s_out (Option.bind (e189 (num L 4 3) (s_u S2 4 7 (S2.1 4 7 + 1))) _) = _
                rw [bd_s (show e189 (num L 4 3) (s_u S2 4 7 (S2.1 4 7 + 1)) = some ((num L 4 3 &&& 255) - 1, s_u S2 4 7 (S2.1 4 7 + 1)) from rfl)]
                show s_out (Option.bind (e179 (nI (8 * s + q)) (s_u S2 4 7 (S2.1 4 7 + 1))) _) = _
                rw [bd_s g179]
                have g188 := e188_eq (S := s_u S2 4 7 (S2.1 4 7 + 1)) (nd := nd) (v := (num L 4 3 &&& 255) - 1) (u := ndA pe (8 * s + q)) d10.1.st.2.2.1.2.1
                have k7 : ks [4] S2 (s_u S2 4 7 (S2.1 4 7 + 1)) := k_su
                have e38 : (s_u S2 4 7 (S2.1 4 7 + 1)).1 38 = S.1 38 := by rw [k7.i (by decide), d8'.i (by decide), d8.i (by decide), o3.i (by decide)]
                have e37 : (s_u S2 4 7 (S2.1 4 7 + 1)).1 37 = S.1 37 := by rw [k7.i (by decide), d8'.i (by decide), d8.i (by decide), o3.i (by decide)]
                rw [e38, e37] at g188
                rcases q3 with q3 | q3
                · exact absurd q3 cn
                · rw [q3] at g188
                  show s_out (Option.bind (e188 ((num L 4 3 &&& 255) - 1) (ndA pe (8 * s + q)) (s_u S2 4 7 (S2.1 4 7 + 1))) _) = _
                  rw [bd_s g188]
                  rfl
          · have cw' : ¬ h_fr M 808 (200 + (8 * s + q)) = none := fun y => cw (hw0.mp y)
            rw [if_neg cw', if_neg cw, if_pos rfl, if_pos rfl]
            exact sty
    · rw [if_neg cq, if_neg cq]
      exact sty
end PO
