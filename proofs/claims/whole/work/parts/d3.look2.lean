/-! ===== more calls that only look ===== -/
def fw8 (L : List Int32) (j : Nat) : Nat → Nat → Int64 → Int64
  | 0, _, u => u
  | d + 1, k, u => fw8 L j d (k + 1) ((u <<< (Int32.toInt64 (8 : Int32) &&& 63)) ||| (Int32.toInt64 (if L.length ≤ j + k then 0 else nI (bn L (j + k)))))
theorem fw8_0 {L : List Int32} {j : Nat} (h : L.length ≤ j) : ∀ d k, fw8 L j d k 0 = 0
  | 0, _ => rfl
  | d + 1, k => by
    show fw8 L j d (k + 1) _ = 0
    rw [if_pos (by omega), show ((0 : Int64) <<< (Int32.toInt64 (8 : Int32) &&& 63)) ||| (Int32.toInt64 0) = 0 by decide]
    exact fw8_0 h d (k + 1)
section LK
variable {sw nd rm : Nat} {M N : hM} {S T : sT} {ia : Nat → Nat → Int32} {w t x y zb sb nc c s p n i a f j : Nat} {pe : Nat → Option Nat} {wo : Nat → Nat} {fl : Nat → List (List Int32)} {kR : Nat → rK} {ka : Nat → Nat → Nat} {tog : Nat → Bool} {ca hh : Nat → Nat} {lv : Nat → Bool} {jj : Nat → Nat} {G : Nat → nG} {v v1 v2 v3 : Int32} {L : List Int32}
theorem FC_wy {tr : List Int32 → Bool} {ct : Nat → Int32} {hl : List (Nat × Int32 × List Int32)} (hI : cI sw nd rm M) (hF : FC tr sw nd M ia ct zb sb fl hl) (hx : sd sw nd x) : (fl x = [] → h_fr M 808 (200 + x) = none) ∧ ∀ L, fl x = [L] → ∃ a, h_fr M 808 (200 + x) = some a ∧ rd M a L := by
  obtain ⟨h0, cl, c1, c2, c3, c4, c5, c6⟩ := hF
  have hx8 := hI.x8 hx
  have e := c3.1 x hx
  refine ⟨fun q => ?_, fun L q => ?_⟩
  · rw [e, fT_nil c4 (by omega) q]; rfl
  · obtain ⟨a, l, hc, hL, hw⟩ := fT_at c4 (by omega) q
    obtain ⟨b1, b2, z, b3, b4⟩ := c2 x a (by rw [hc]; exact List.mem_cons_self)
    have ez := fcC_z b3 b4
    rw [hL] at ez
    have hz : L.length = z := by rw [ez, fbl_len]
    exact ⟨a, by rw [e, hc]; rfl, b1, by rw [hz]; exact b3, by omega, by rw [hz]; exact ez.symm⟩
theorem FR_way {hl : List (Nat × List Int32)} (h : FR S fl hl) (hx : x < 48) (hw : fl x = [L]) : ∃ f, S.1 15 x = nI f ∧ rdS S f L := by
  obtain ⟨rl, c1, c2, c3, c4, c5⟩ := h
  obtain ⟨f, l, hc, hL, -⟩ := rT_at c4 (p := x) (by omega) hw
  obtain ⟨d1, z, d2, d3⟩ := c2 x f (by rw [hc]; exact List.mem_cons_self)
  have e := (c3.1 x hx).1
  have hl' : (frl S f).length = z := frl_len d2 d3
  refine ⟨f, by rw [e, hc]; rfl, d1, ?_, ?_, hL⟩
  · rw [← hL, hl']; exact d2
  · rw [← hL, hl']; exact d3
theorem W_way (hI : cI sw nd rm M) (hW : WI sw nd M S w pe wo) : (f29 [.inr (.inr (some 1)), .inl v1, .inl v2] M = some (some (.inr (.inr none)), M) ∧ e240 v1 v2 S = some (-1, S)) ∨ ∃ x, sd sw nd x ∧ pe x ≠ none ∧ f29 [.inr (.inr (some 1)), .inl v1, .inl v2] M = some (some (.inr (.inr (h_fr M 808 (200 + x)))), M) ∧ e240 v1 v2 S = some (S.1 15 x, S) := by
  have hsd : ∀ {a b : Nat}, pe a = some b → sd sw nd a ∧ sd sw nd b ∧ pe b = some a := fun e => hW.sds e
  obtain ⟨⟨w1, w2, w3⟩, -, -, -, a5, -⟩ := hW
  have fd : f29 [.inr (.inr (some 1)), .inl v1, .inl v2] M = x_out (b29_0 1 v1 v2 M) := rfl
  have ed : e240 v1 v2 S = s_out (c240_0 v1 v2 S) := rfl
  rw [fd, ed]
  unfold b29_0 c240_0
  rw [bd_s (o11 hI)]
  rcases px2 v1 (n := w) (by omega) with z | ⟨i, hi, rfl⟩
  · left
    rw [bd_s (c_I_of (f16_no hI w1 z)), bd_s (e234_no w2 z), if_pos rfl, if_pos rfl]
    exact ⟨rfl, rfl⟩
  · have n1 : ¬ (1 : Int32) = 0 := by decide
    obtain ⟨-, -, x, y, e1, e2, e3, e4, e5, e6, e7⟩ := a5 i hi
    obtain ⟨sx, sy, -⟩ := hsd e1
    have x8 := hI.x8 sx
    have y8 := hI.x8 sy
    rw [bd_s (c_I_of (f16_yes hI w1 hi w3)), bd_s (e234_yes w2 hi w3), if_neg n1, if_neg n1]
    by_cases z0 : v2 = 0
    · right
      subst z0
      have ix : (2 : Int32) * nI i + 0 = nI (2 * i) := by rw [show (2 : Int32) * nI i = nI (2 * i) from pk_mul 2 i, Int32.add_zero]
      refine ⟨x, sx, by rw [e1]; exact (fun q => by cases q), ?_, ?_⟩
      · rw [if_neg (show ¬ (0 : Int32) < 0 by decide), if_pos (show (0 : Int32) ≤ 1 by decide), if_pos rfl, bd_s ((g_r_t (ci := 11) hI.fab0).trans (congrArg some hI.fab4)), bd_s ((al_r_t hI.ar4 (by rw [hI.ar5]; omega) (by omega)).trans (congrArg some e6)), bd_s (g_r_t (ci := 8) (hI.po0 sx))]
        rfl
      · rw [if_pos rfl]
        unfold c240_17
        rw [ix, bd_s ((ga10 (by omega)).trans (congrArg some e4)), bd_s (ga15 x8)]
        rfl
    by_cases z1 : v2 = 1
    · right
      subst z1
      have ix : (2 : Int32) * nI i + 1 = nI (2 * i + 1) := by rw [show (2 : Int32) * nI i = nI (2 * i) from pk_mul 2 i, nI_1]
      have y40 := sy
      refine ⟨y, sy, ?_, ?_, ?_⟩
      · rw [(hsd e1).2.2]; exact (fun q => by cases q)
      · rw [if_neg (show ¬ (1 : Int32) < 0 by decide), if_pos (show (1 : Int32) ≤ 1 by decide), if_neg n1, bd_s ((g_r_t (ci := 11) hI.fab0).trans (congrArg some hI.fab5)), bd_s ((al_r_t hI.ar6 (by rw [hI.ar7]; omega) (by omega)).trans (congrArg some e7)), bd_s (g_r_t (ci := 8) (hI.po0 sy))]
        rfl
      · rw [if_neg n1, if_pos rfl]
        unfold c240_17
        rw [ix, bd_s ((ga10 (by omega)).trans (congrArg some e5)), bd_s (ga15 y8)]
        rfl
    · left
      refine ⟨?_, by rw [if_neg z0, if_neg z1]; rfl⟩
      by_cases q : v2 < 0
      · rw [if_pos q]; rfl
      · rw [if_neg q]
        by_cases q2 : v2 ≤ 1
        · obtain ⟨k, k1, rfl⟩ := nI_of2 (M := 1) (n := 1) (by decide) q q2
          have : k = 0 ∨ k = 1 := by omega
          rcases this with rfl | rfl
          · exact absurd rfl z0
          · exact absurd rfl z1
        · rw [if_neg q2]; rfl
theorem k161_lp (h : rd M a L) (h8 : 8 ≤ L.length) (hj : j < 2 ^ 31) : ∀ d k u fuel, k + d = 8 → d < fuel → drive k161 fuel 25 [.inl (nI j), .inr (.inr (some a)), .inr (.inl u), .inl (nI k)] M = some (some (.inr (.inl (fw8 L j d k u))), M)
  | 0, k, u, fuel, hk, hf => by
    obtain ⟨g, rfl⟩ : ∃ g, fuel = g + 1 := ⟨fuel - 1, by omega⟩
    refine dr_end ?_
    show b161_25 (nI j) (some a) u (nI k) M = _
    unfold b161_25
    rw [if_pos (show (8 : Int32) ≤ nI k from nI_le (a := 8) (by omega) (by omega))]; rfl
  | d + 1, k, u, fuel, hk, hf => by
    obtain ⟨g, rfl⟩ : ∃ g, fuel = g + 1 := ⟨fuel - 1, by omega⟩
    have h48 := h.2.2.1
    have st : k161 25 [.inl (nI j), .inr (.inr (some a)), .inr (.inl u), .inl (nI k)] M = some (.inr (25, [.inl (nI j), .inr (.inr (some a)), .inr (.inl ((u <<< (Int32.toInt64 (8 : Int32) &&& 63)) ||| (Int32.toInt64 (if L.length ≤ j + k then 0 else nI (bn L (j + k)))))), .inl (nI (k + 1))], M)) := by
      show b161_25 (nI j) (some a) u (nI k) M = _
      unfold b161_25
      rw [if_neg (show ¬ (8 : Int32) ≤ nI k from nI_ge (b := 8) (by omega) (by omega)), bd_s ((g_i_t (ci := 2) h.1.1).trans (congrArg some h.2.1)), pk_sub (show k ≤ L.length by omega)]
      by_cases c : L.length ≤ j + k
      · rw [if_pos (nI_le (by omega) hj), if_pos c]
        unfold b161_57
        rw [nI_1]
      · rw [if_neg (nI_ge (by omega) (by omega)), bd_s (g_o_t (ci := 2) h.1.1), nI_add, bd_s (c_I_of (f55_eq h (by omega))), if_neg c]
        unfold b161_57
        rw [nI_1]
    rw [dr_go st]
    exact k161_lp h h8 hj d (k + 1) _ g (by omega) (by omega)
theorem k255_lp (h : rdS S f L) (hj : j < L.length) : ∀ d k u fuel, k + d = 8 → d < fuel → sdrive kS255 fuel 37 [.inl (nI j), .inl (nI f), .inr (.inl u), .inl (nI k)] S = some (fw8 L j d k u, S)
  | 0, k, u, fuel, hk, hf => by
    obtain ⟨g, rfl⟩ : ∃ g, fuel = g + 1 := ⟨fuel - 1, by omega⟩
    refine sd_end ?_
    show c255_37 (nI j) (nI f) u (nI k) S = _
    unfold c255_37
    rw [if_pos (show (8 : Int32) ≤ nI k from nI_le (a := 8) (by omega) (by omega))]; rfl
  | d + 1, k, u, fuel, hk, hf => by
    obtain ⟨g, rfl⟩ : ∃ g, fuel = g + 1 := ⟨fuel - 1, by omega⟩
    have h80 := h.2.2.1
    have st : kS255 37 [.inl (nI j), .inl (nI f), .inr (.inl u), .inl (nI k)] S = some (.inr (37, [.inl (nI j), .inl (nI f), .inr (.inl ((u <<< (Int32.toInt64 (8 : Int32) &&& 63)) ||| (Int32.toInt64 (if L.length ≤ j + k then 0 else nI (bn L (j + k)))))), .inl (nI (k + 1))], S)) := by
      show c255_37 (nI j) (nI f) u (nI k) S = _
      unfold c255_37
      rw [if_neg (show ¬ (8 : Int32) ≤ nI k from nI_ge (b := 8) (by omega) (by omega)), bd_s ((ga7 h.1).trans (congrArg some h.2.1)), nI_add]
      by_cases c : L.length ≤ j + k
      · rw [if_pos (nI_le c (by omega)), if_pos c]
        unfold c255_77
        rw [nI_1]
      · rw [if_neg (nI_ge (by omega) (by omega)), bd_s (r165 h (by omega)), if_neg c]
        unfold c255_77
        rw [nI_1]
    rw [sd_go st]
    exact k255_lp h hj d (k + 1) _ g (by omega) (by omega)
theorem C_frame (h : AX sw nd rm t zb sb M S) : ∃ r, f161 [.inr (.inr (some 1)), .inl v1, .inl v2, .inl v3] M = some (some (.inr (.inl r)), M) ∧ e255 v1 v2 v3 S = some (r, S) := by
  obtain ⟨ia, w, pe, wo, fl, kR, ka, tog, nc, ca, hh, lv, jj, G, ⟨hT, ha, hN, hin⟩, qz⟩ := h
  have hI := hT.I
  have fd : f161 [.inr (.inr (some 1)), .inl v1, .inl v2, .inl v3] M = x_go k161 (b161_0 1 v1 v2 v3 M) := rfl
  have ed : e255 v1 v2 v3 S = s_go kS255 (c255_0 v1 v2 v3 S) := rfl
  rw [fd, ed]
  unfold b161_0 c255_0
  rw [bd_s (o11 hI)]
  obtain ⟨ct, d1, d2, d3, d4, d5, d6, d7⟩ := hT.1.pb
  have zero : f29 [.inr (.inr (some 1)), .inl v1, .inl v2] M = some (some (.inr (.inr none)), M) → e240 v1 v2 S = some (-1, S) → ∃ r, x_go k161 (Option.bind (c_R (f29 [.inr (.inr (some 1)), .inl v1, .inl v2] M)) fun q_1 => if q_1.1 = none then (b161_17 q_1.2) else (if 0 ≤ v3 then (some (.inr (25, [.inl v3, .inr (.inr q_1.1), .inr (.inl (0 : Int64)), .inl (0 : Int32)], q_1.2))) else (b161_17 q_1.2))) = some (some (.inr (.inl r)), M) ∧ s_go kS255 (Option.bind (e240 v1 v2 S) fun q_1 => if q_1.1 = (-1 : Int32) then (c255_29 q_1.2) else (if v3 < 0 then (c255_29 q_1.2) else (Option.bind (s_a q_1.2 7 q_1.1) fun v_7 => if v3 < v_7 then (some (.inr (37, [.inl v3, .inl q_1.1, .inr (.inl (0 : Int64)), .inl (0 : Int32)], q_1.2))) else (c255_29 q_1.2)))) = some (r, S) := fun q1 q2 => by
    rw [bd_s (c_R_of q1), bd_s q2, if_pos rfl, if_pos rfl]
    exact ⟨0, rfl, rfl⟩
  rcases W_way (v1 := v1) (v2 := v2) hI hT.W with ⟨q1, q2⟩ | ⟨x, hx, -, q1, q2⟩
  · exact zero q1 q2
  · have hx8 := hI.x8 hx
    obtain ⟨y1, y2⟩ := FC_wy hI d1 hx
    cases hf : fl x with
    | nil =>
      rw [y1 hf] at q1
      rw [(d2.way0 hx8).mpr hf] at q2
      exact zero q1 q2
    | cons L r =>
      have hr : r = [] := by
        have := (d3 x hx8).1
        rw [hf, List.length_cons] at this
        exact List.eq_nil_of_length_eq_zero (by omega)
      subst hr
      obtain ⟨a, a1, a2⟩ := y2 L hf
      obtain ⟨f, f1, f2⟩ := FR_way d2 hx8 hf
      have hl := (hT.2.1.1 x (by omega) L (by rw [hf]; exact List.mem_cons_self)).1 (by omega)
      have f18 := f2.1
      rw [a1] at q1
      rw [f1] at q2
      have nn : ¬ (some a = none) := (fun q => by cases q)
      have nm : ¬ nI f = -1 := nI_m1 (by omega)
      rw [bd_s (c_R_of q1), bd_s q2, if_neg nn, if_neg nm]
      by_cases z : v3 < 0
      · rw [if_neg (show ¬ 0 ≤ v3 from Int32.not_le.mpr z), if_pos z]
        exact ⟨0, rfl, rfl⟩
      · obtain ⟨j, j1, rfl⟩ := nI_of z
        rw [if_pos (nI_pos' j1), if_neg z, bd_s ((ga7 f18).trans (congrArg some f2.2.1))]
        have cl : x_go k161 (some (.inr (25, [.inl (nI j), .inr (.inr (some a)), .inr (.inl (0 : Int64)), .inl (0 : Int32)], M))) = some (some (.inr (.inl (fw8 L j 8 0 0))), M) := k161_lp a2 (by omega) j1 8 0 0 xF (by omega) (by unfold xF; omega)
        by_cases c : j < L.length
        · rw [if_pos (nI_lt c (by omega))]
          exact ⟨fw8 L j 8 0 0, cl, k255_lp f2 c 8 0 0 xF (by omega) (by unfold xF; omega)⟩
        · rw [if_neg (nI_nlt (by omega) j1)]
          rw [fw8_0 (by omega)] at cl
          exact ⟨0, cl, rfl⟩
theorem NR.dsc (hN : NR nd M S t nc ca hh lv jj G) (hn : n < nd) : (∃ R, G n = .inl R ∧ hoR nd M S nc ca hh n R) ∨ ∃ dk OL, G n = .inr (dk, OL) ∧ diR M S t n dk OL (jj n) ∧ (∀ c, c < nc → hh c ≠ n) := by
  have q := hN.2.2.1 n hn
  cases hG : G n with
  | inl R => rw [hG] at q; exact Or.inl ⟨R, rfl, q⟩
  | inr o => rw [hG] at q; exact Or.inr ⟨o.1, o.2, rfl, q.1, q.2.1⟩
theorem f142_no (hI : cI sw nd rm M) (h : v < 0 ∨ nI nd ≤ v) : f142 [.inr (.inr (some 1)), .inl v] M = some (some (.inl 0), M) := by
  show x_out (b142_0 1 v M) = _
  unfold b142_0
  rw [bd_s ((g_r_t (ci := 11) hI.fab0).trans (congrArg some hI.fab1)), bd_s (g_o_t (ci := 9) hI.sh0), bd_s (c_I_of (f8_no hI h)), if_pos rfl]; rfl
theorem f141_no (hI : cI sw nd rm M) (h : v < 0 ∨ nI nd ≤ v) : f141 [.inr (.inr (some 1)), .inl v] M = some (some (.inl 0), M) := by
  show x_out (b141_0 1 v M) = _
  unfold b141_0
  rw [bd_s ((g_r_t (ci := 11) hI.fab0).trans (congrArg some hI.fab1)), bd_s (g_o_t (ci := 9) hI.sh0), bd_s (c_I_of (f8_no hI h)), if_pos rfl]; rfl
theorem nod_a (hI : cI sw nd rm M) (hn : n < nd) : g_r M 11 2 (some 1) = some (some 9) ∧ al_r M 35 (some 9) (nI n) = some (some (140 + n)) := by
  have := hI.bs.2.1.2
  exact ⟨(g_r_t (ci := 11) hI.fab0).trans (congrArg some hI.fab3), (al_r_t hI.ar12 (by rw [hI.ar13]; exact hn) (by omega)).trans (congrArg some (hI.no4 hn))⟩
theorem f142_n {o : Option Nat} (hI : cI sw nd rm M) (hn : n < nd) (e : h_fr M 505 (140 + n) = o) : f142 [.inr (.inr (some 1)), .inl (nI n)] M = some (some (.inl (b2 o.isSome)), M) := by
  show x_out (b142_0 1 (nI n) M) = _
  unfold b142_0
  rw [bd_s ((g_r_t (ci := 11) hI.fab0).trans (congrArg some hI.fab1)), bd_s (g_o_t (ci := 9) hI.sh0), bd_s (c_I_of (f8_yes hI hn)), if_neg (show ¬ (1 : Int32) = 0 by decide), bd_s (nod_a hI hn).1, bd_s (nod_a hI hn).2, bd_s ((g_r_t (ci := 5) (hI.no0 hn)).trans (congrArg some e))]
  cases o with
  | none => rw [if_pos rfl]; rfl
  | some a => rw [if_neg ((fun q => by cases q))]; rfl
theorem f141_n {o : Option Nat} (hI : cI sw nd rm M) (hn : n < nd) (e : h_fr M 504 (140 + n) = o) : f141 [.inr (.inr (some 1)), .inl (nI n)] M = some (some (.inl (b2 o.isSome)), M) := by
  show x_out (b141_0 1 (nI n) M) = _
  unfold b141_0
  rw [bd_s ((g_r_t (ci := 11) hI.fab0).trans (congrArg some hI.fab1)), bd_s (g_o_t (ci := 9) hI.sh0), bd_s (c_I_of (f8_yes hI hn)), if_neg (show ¬ (1 : Int32) = 0 by decide), bd_s (nod_a hI hn).1, bd_s (nod_a hI hn).2, bd_s ((g_r_t (ci := 5) (hI.no0 hn)).trans (congrArg some e))]
  cases o with
  | none => rw [if_pos rfl]; rfl
  | some a => rw [if_neg ((fun q => by cases q))]; rfl
theorem C_block (h : AX sw nd rm t zb sb M S) : ∃ r, f154 [.inr (.inr (some 1)), .inl v1, .inl v2, .inl v3] M = some (some (.inr (.inl r)), M) ∧ e250 v1 v2 v3 S = some (r, S) := by
  obtain ⟨ia, w, pe, wo, fl, kR, ka, tog, nc, ca, hh, lv, jj, G, ⟨hT, ha, hN, hin⟩, qz⟩ := h
  have hI := hT.I
  have h8 := hI.bs.2.1.2
  have s1 : s_g S 1 = nI nd := hT.1.st.2.2.1.2.1
  have fd : f154 [.inr (.inr (some 1)), .inl v1, .inl v2, .inl v3] M = x_out (b154_0 1 v1 v2 v3 M) := rfl
  have ed : e250 v1 v2 v3 S = s_out (c250_0 v1 v2 v3 S) := rfl
  rw [fd, ed]
  unfold b154_0 c250_0
  rw [bd_s (o11 hI), s1]
  rcases px2 v1 (n := nd) (by omega) with z | ⟨n, hn, rfl⟩
  · rw [bd_s (c_I_of (f142_no hI z)), if_pos rfl]
    by_cases q : v1 < 0
    · rw [if_pos q]; exact ⟨_, rfl, rfl⟩
    · rw [if_neg q, if_pos (z.resolve_left q)]; exact ⟨_, rfl, rfl⟩
  · rw [if_neg (nI_pos (by omega)), if_neg (nI_ge hn (by omega)), bd_s (ga33 (by omega))]
    rcases hN.dsc hn with ⟨R, hG, ⟨r1, r2, r3⟩, -⟩ | ⟨dk, OL, hG, ⟨⟨r1, r2, r3⟩, ⟨k1, ⟨k2, k3, k4, k5, k6, k7⟩, ⟨k8, k9, -⟩, -⟩, r5, -⟩, -⟩
    · rw [bd_s (c_I_of (f142_n hI hn r2)), if_pos (show b2 (Option.isSome (none : Option Nat)) = 0 from rfl), r3, if_pos rfl]
      exact ⟨_, rfl, rfl⟩
    · rw [bd_s (c_I_of (f142_n hI hn r2)), if_neg (show ¬ b2 (Option.isSome (some dk)) = 0 by show ¬ (1 : Int32) = 0; decide), r3, if_neg (show ¬ (1 : Int32) = 0 by decide)]
      rcases pk_ix v2 (n := 2) (by omega) with z | z | ⟨u, hu, rfl⟩
      · rw [if_pos z, if_pos z]; exact ⟨_, rfl, rfl⟩
      · by_cases q : v2 < 0
        · rw [if_pos q, if_pos q]; exact ⟨_, rfl, rfl⟩
        · obtain ⟨j, j1, rfl⟩ := nI_of q
          have j2 : 2 ≤ j := (nI_leI (by omega) j1).mp z
          rw [if_neg q, if_neg q, if_pos (show (2 : Int32) ≤ nI j from z), if_pos (show (1 : Int32) < nI j from nI_lt (a := 1) (by omega) j1)]; exact ⟨_, rfl, rfl⟩
      · rw [if_neg (nI_pos (by omega)), if_neg (nI_pos (by omega)), if_neg (show ¬ (2 : Int32) ≤ nI u from nI_ge (b := 2) hu (by omega)), if_neg (show ¬ (1 : Int32) < nI u from nI_nlt (b := u) (a := 1) (by omega) (by omega))]
        rcases pk_ix v3 (n := 16) (by omega) with z | z | ⟨b, hb, rfl⟩
        · rw [if_pos z, if_pos z]; exact ⟨_, rfl, rfl⟩
        · by_cases q : v3 < 0
          · rw [if_pos q, if_pos q]; exact ⟨_, rfl, rfl⟩
          · obtain ⟨j, j1, rfl⟩ := nI_of q
            have j2 : 16 ≤ j := (nI_leI (by omega) j1).mp z
            rw [if_neg q, if_neg q, if_neg (show ¬ nI j < 16 from nI_nlt (b := 16) j2 j1), if_neg (show ¬ nI j ≤ 15 from nI_ge (a := 15) (by omega) j1)]; exact ⟨_, rfl, rfl⟩
        · have i1 : nI u * (16 : Int32) + nI b = nI (u * 16 + b) := by rw [show nI u * (16 : Int32) = nI (u * 16) from pk_mul u 16, nI_add]
          have i2 : (32 : Int32) * nI n + (16 : Int32) * nI u + nI b = nI (32 * n + (u * 16 + b)) := by rw [show (32 : Int32) * nI n = nI (32 * n) from pk_mul 32 n, show (16 : Int32) * nI u = nI (16 * u) from pk_mul 16 u, nI_add, nI_add, show 32 * n + 16 * u + b = 32 * n + (u * 16 + b) by omega]
          rw [if_neg (nI_pos (by omega)), if_neg (nI_pos (by omega)), if_pos (show nI b < 16 from nI_lt (b := 16) hb (by omega)), if_pos (show nI b ≤ 15 from nI_le (b := 15) (by omega) (by omega)), bd_s (nod_a hI hn).1, bd_s (nod_a hI hn).2, bd_s ((g_r_t (ci := 5) (hI.no0 hn)).trans (congrArg some r2)), bd_s ((g_r_t (ci := 1) k2).trans (congrArg some k5)), i1, i2, bd_s ((al_l_t k8 (by rw [k9]; omega) (by omega)).trans (congrArg some (r5 (u * 16 + b) (by omega)))), bd_s (ga42 (by omega))]
          exact ⟨_, rfl, rfl⟩
theorem C_way (h : AX sw nd rm t zb sb M S) : ∃ r S', f155 [.inr (.inr (some 1)), .inl v1, .inl v2] M = some (some (.inl r), M) ∧ e251 v1 v2 S = some (r, S') ∧ AX sw nd rm t zb sb M S' := by
  have h0 := h
  obtain ⟨ia, w, pe, wo, fl, kR, ka, tog, nc, ca, hh, lv, jj, G, ⟨hT, ha, hN, hin⟩, qz⟩ := h
  have hI := hT.I
  have h5 := hI.bs.1.2
  have s0 : s_g S 0 = nI sw := hT.1.st.2.2.1.1
  have fd : f155 [.inr (.inr (some 1)), .inl v1, .inl v2] M = x_out (b155_0 1 v1 v2 M) := rfl
  have ed : e251 v1 v2 S = s_out (c251_0 v1 v2 S) := rfl
  rw [fd, ed]
  unfold b155_0 c251_0
  rw [bd_s (o11 hI), s0]
  rcases px2 v1 (n := sw) (by omega) with z | ⟨s, hs, rfl⟩
  · rw [bd_s (c_I_of (f12_no hI z)), if_pos rfl]
    by_cases q : v1 < 0
    · rw [if_pos q]; exact ⟨_, S, rfl, rfl, h0⟩
    · rw [if_neg q, if_pos (z.resolve_left q)]; exact ⟨_, S, rfl, rfl, h0⟩
  · rw [bd_s (c_I_of (f12_yes hI hs)), if_neg (show ¬ (1 : Int32) = 0 by decide), if_neg (nI_pos (by omega)), if_neg (nI_ge hs (by omega))]
    by_cases q1 : v2 < 1
    · rw [if_pos q1, if_pos q1]; exact ⟨_, S, rfl, rfl, h0⟩
    rw [if_neg q1, if_neg q1]
    by_cases q2 : v2 ≤ 15
    · have qn : ¬ v2 < 0 := fun q => q1 (Int32.lt_iff_toInt_lt.mpr (by
        have h := Int32.lt_iff_toInt_lt.mp q
        have e0 : (0 : Int32).toInt = 0 := rfl
        have e1 : (1 : Int32).toInt = 1 := rfl
        omega))
      obtain ⟨e, e15, rfl⟩ := nI_of2 (M := 15) (n := 15) (by decide) qn q2
      obtain ⟨d, d1, d2, d3, d4⟩ := hT.1.st.2.2.2.2.2 s hs
      have rc := hT.1.rc hs
      obtain ⟨hl, hK⟩ := rc.kl h5
      have e132 := f132_eq hI hs rc.2.2.2.2.2.1 rc.2.2.2.2.1 (e := e) (by omega)
      have e132 : f132 [.inr (.inr (some (10 + s))), .inl (nI e)] M = some (some (.inl (wtK sw (kR s) s e)), M) := e132
      have o10 := g_o_t (ci := 10) (hI.si0 hs)
      have ref : ∀ T, ks [32] S T → ∃ T', s_out (c251_48 (nI s) (nI e) T) = some (wtK sw (kR s) s e, T') ∧ AX sw nd rm t zb sb M T' := fun T l => by
        have hT' := hT.1.ks32 l
        have rc' := hT'.rc hs
        obtain ⟨T', t1, t2⟩ := e201_eq (e := e) hs h5 (by omega) hT'.st.2.2.1.1 rc'.2.2.1 hl hK
        exact ⟨T', by unfold c251_48; rw [bd_s t1]; rfl, h0.ks32 (l.tt t2 (fun _ q => q))⟩
      have cls : x_out (b155_48 (nI e) (some (10 + s)) M) = some (some (.inl (wtK sw (kR s) s e)), M) := by
        unfold b155_48
        rw [bd_s o10, bd_s (c_I_of e132)]; rfl
      rw [if_pos q2, if_pos q2, bd_s ((g_r_t (ci := 11) hI.fab0).trans (congrArg some hI.fab2)), bd_s ((al_r_t hI.ar10 (by rw [hI.ar11]; exact hs) (by omega)).trans (congrArg some (hI.si9 hs))), bd_s ((g_i_t (ci := 10) (hI.si0 hs)).trans (congrArg some d3)), bd_s ((ga26 (by omega)).trans (congrArg some d4))]
      by_cases qd : nI d = nI e
      · obtain ⟨T1, u1', u2'⟩ := e200_eq hs h5 rc.2.2.1 hl hK
        rw [if_pos qd, if_pos qd.symm, bd_s ((g_i_t (ci := 10) (hI.si0 hs)).trans (congrArg some rc.2.2.2.2.2.2)), bd_s u1']
        by_cases qo : b2 (ofK sw (kR s) s) = 0
        · rw [if_pos qo, if_pos qo]
          exact ⟨8, T1, rfl, rfl, h0.ks32 u2'⟩
        · rw [if_neg qo, if_neg qo]
          obtain ⟨T', t1, t2⟩ := ref T1 u2'
          exact ⟨_, T', cls, t1, t2⟩
      · rw [if_neg qd, if_neg (Ne.symm qd)]
        obtain ⟨T', t1, t2⟩ := ref S ks.rf
        exact ⟨_, T', cls, t1, t2⟩
    · rw [if_neg q2, if_neg q2]; exact ⟨_, S, rfl, rfl, h0⟩
end LK
