/-! ===== takeFlogi, addressOf ===== -/
/-- the port of node v among d nodes from k on -/
def poL (o : Option (List Nat)) (v : Nat) : Nat → Nat → Int32
  | _, 0 => -1
  | k, d + 1 => if rgo o (7 + 3 * rgo o 5 + 2 * k) = v then nI (rgo o (7 + 3 * rgo o 5 + 2 * k + 1)) else poL o v (k + 1) d
def poK (o : Option (List Nat)) (v : Nat) : Int32 := poL o v 0 (rgo o (6 + 3 * rgo o 5))
def onK (n : Nat) (K : rK) (s r : Nat) : Bool := if 16 ≤ rgo (K r) 4 then false else decide (hoK n K s (rgo (K r) 4) = nI r)
def adL (n : Nat) (K : rK) (s v : Nat) : Nat → Nat → Int32
  | _, 0 => 0
  | r, d + 1 => if onK n K s r = true ∧ poK (K r) v ≠ -1 then ((nI (rgo (K r) 4) <<< ((16 : Int32) &&& 31)) ||| (poK (K r) v <<< ((8 : Int32) &&& 31))) ||| (nI (v + 1)) else adL n K s v (r + 1) d
theorem rno_all {nd : Nat} {X : List Int32} : ∀ q i last seen, rno nd X i last seen q = true → ∀ k, k < q → bn X (i + 2 * k + 1) < 8
  | 0, _, _, _, _, k, hk => by omega
  | q + 1, i, last, seen, h, k, hk => by
    unfold rno at h
    by_cases c1 : nI (bn X (i + 1)) ≤ last
    · rw [if_pos c1] at h; cases h
    rw [if_neg c1] at h
    by_cases c2 : 8 ≤ nI (bn X (i + 1))
    · rw [if_pos c2] at h; cases h
    rw [if_neg c2] at h
    by_cases c3 : nI nd ≤ nI (bn X i)
    · rw [if_pos c3] at h; cases h
    rw [if_neg c3] at h
    by_cases c4 : ((seen >>> (nI (bn X i) &&& 31)) &&& 1) = 1
    · rw [if_pos c4] at h; cases h
    rw [if_neg c4] at h
    by_cases z : k = 0
    · subst z
      have b1 := bn_lt X (i + 1)
      have h8 : ¬ 8 ≤ bn X (i + 1) := fun q => c2 (nI_le (a := 8) q (by omega))
      show bn X (i + 1) < 8
      omega
    · have := rno_all q (i + 2) _ _ h (k - 1) (by omega)
      rw [show i + 2 + 2 * (k - 1) + 1 = i + 2 * k + 1 by omega] at this
      exact this
theorem rOK.n {sw nd : Nat} {L : List Nat} (h : rOK sw nd L) (hs : sw < 256) : ∀ k, k < L.getD (6 + 3 * L.getD 5 0) 0 → L.getD (7 + 3 * L.getD 5 0 + 2 * k + 1) 0 < 8 := by
  obtain ⟨f1, f2, -⟩ := h.f hs
  have hr := h.1
  have hl := clL_len (L := hdN ++ sbL L)
  rw [rec_len] at hl
  have e5 : bn (clL (hdN ++ sbL L)) 18 = L.getD 5 0 := rec_bn h (i := 5) (by omega)
  have e6 : bn (clL (hdN ++ sbL L)) (19 + 3 * L.getD 5 0) = L.getD (6 + 3 * L.getD 5 0) 0 := by
    have := rec_bn h (i := 6 + 3 * L.getD 5 0) (by omega)
    rw [show 13 + (6 + 3 * L.getD 5 0) = 19 + 3 * L.getD 5 0 by omega] at this
    exact this
  unfold rcF at hr
  rw [e5, e6, if_neg (by omega), if_neg (by omega), if_neg (by omega)] at hr
  split at hr
  · cases hr
  split at hr
  · cases hr
  split at hr
  · cases hr
  rw [Bool.and_eq_true] at hr
  intro k hk
  have := rno_all _ _ _ _ hr.2 k hk
  have e := rec_bn h (i := 7 + 3 * L.getD 5 0 + 2 * k + 1) (by omega)
  rw [show 13 + (7 + 3 * L.getD 5 0 + 2 * k + 1) = 20 + 3 * L.getD 5 0 + 2 * k + 1 by omega] at e
  rw [e] at this
  exact this
section AD
variable {sw nd rm : Nat} {M : hM} {S T : sT} {s : Nat} {K : rK}
theorem poL_rg {o : Option (List Nat)} {v q : Nat} (h : ∀ k, k < q → rgo o (7 + 3 * rgo o 5 + 2 * k + 1) < 8) : ∀ d k, k + d = q → poL o v k d = -1 ∨ ∃ p, p < 8 ∧ poL o v k d = nI p
  | 0, _, _ => Or.inl rfl
  | d + 1, k, hk => by
    unfold poL
    split
    · exact Or.inr ⟨_, h k (by omega), rfl⟩
    · exact poL_rg h d (k + 1) (by omega)
theorem poK_rg {v : Nat} (hok : ∀ r L, K r = some L → r < sw ∧ rOK sw nd L) (hs : sw < 256) (r : Nat) : poK (K r) v = -1 ∨ ∃ p, p < 8 ∧ poK (K r) v = nI p := by
  refine poL_rg (q := rgo (K r) (6 + 3 * rgo (K r) 5)) (fun k hk => ?_) _ 0 (by omega)
  cases hL : K r with
  | none => rw [hL] at hk; have hk : k < 0 := hk; omega
  | some L =>
    rw [hL] at hk
    exact (hok r L hL).2.n hs k hk
/-- portOf -/
theorem f126_eq {na v : Nat} {o : Option (List Nat)} (h : nt1 M na o) (hv : v < 256) : f126 [.inr (.inr (some na)), .inl (nI v)] M = some (some (.inl (poK o v)), M) := by
  have t7 := h.1.1
  have e5 : f96 [.inr (.inr (some na)), .inl 5] M = some (some (.inl (nI (rgo o 5))), M) := f96_eq (i := 5) h (by omega)
  have hp := rgo_lt (i := 5) h
  have hq := rgo_lt (i := 6 + 3 * rgo o 5) h
  have x7 : (7 : Int32) + nI (3 * rgo o 5) = nI (7 + 3 * rgo o 5) := nI_add 7 _
  have e6 : f96 [.inr (.inr (some na)), .inl (nI (7 + 3 * rgo o 5) - 1)] M = some (some (.inl (nI (rgo o (6 + 3 * rgo o 5)))), M) := by
    rw [show 7 + 3 * rgo o 5 = 6 + 3 * rgo o 5 + 1 by omega, nI_pred]
    exact f96_eq h (by omega)
  have loop : ∀ d k fuel, k + d = rgo o (6 + 3 * rgo o 5) → d < fuel → drive k126 fuel 13 [.inr (.inr (some na)), .inl (nI v), .inl (nI (7 + 3 * rgo o 5)), .inl (nI k)] M = some (some (.inl (poL o v k d)), M) := by
    intro d
    induction d with
    | zero =>
      intro k fuel hk hf
      obtain ⟨g, rfl⟩ : ∃ g, fuel = g + 1 := ⟨fuel - 1, by omega⟩
      have c : nI (rgo o (6 + 3 * rgo o 5)) ≤ nI k := nI_le (by omega) (by omega)
      refine dr_end ?_
      simp [k126, b126_13, t7, e6, c, poL, g_i, g_r, g_l, g_o, p_i, p_r, p_l, p_z, c_V, c_I, c_L, c_R, x_out, z_fl_pi, z_fr_pi, z_ai_pi, z_al_pi, z_ar_pi, z_ln_pi, z_tg_pi, z_sz_pi, z_sl_pi, z_fi_pl, z_fr_pl, z_ai_pl, z_al_pl, z_ar_pl, z_ln_pl, z_tg_pl, z_sz_pl, z_sl_pl, z_fi_pr, z_fl_pr, z_ai_pr, z_al_pr, z_ar_pr, z_ln_pr, z_tg_pr, z_sz_pr, z_sl_pr, z_fi_qi, z_fl_qi, z_fr_qi, z_al_qi, z_ar_qi, z_ln_qi, z_tg_qi, z_sz_qi, z_sl_qi, z_fi_ql, z_fl_ql, z_fr_ql, z_ai_ql, z_ar_ql, z_ln_ql, z_tg_ql, z_sz_ql, z_sl_ql, z_fi_qr, z_fl_qr, z_fr_qr, z_ai_qr, z_al_qr, z_ln_qr, z_tg_qr, z_sz_qr, z_sl_qr, z_fi_ca, z_fl_ca, z_fr_ca, z_al_ca, z_ar_ca, z_ln_ca, z_tg_ca, z_sz_ca, z_sl_ca, y_pi, y_pl, y_pr, y_qi, y_ql, y_qr, y_ca]
    | succ d ih =>
      intro k fuel hk hf
      obtain ⟨g, rfl⟩ : ∃ g, fuel = g + 1 := ⟨fuel - 1, by omega⟩
      have c : ¬ nI (rgo o (6 + 3 * rgo o 5)) ≤ nI k := nI_ge (by omega) (by omega)
      have x1 : nI (7 + 3 * rgo o 5) + nI (2 * k) = nI (7 + 3 * rgo o 5 + 2 * k) := nI_add _ _
      have x2 : nI (7 + 3 * rgo o 5 + 2 * k) + 1 = nI (7 + 3 * rgo o 5 + 2 * k + 1) := nI_add _ 1
      have e7 := f96_eq (i := 7 + 3 * rgo o 5 + 2 * k) h (by omega)
      have e8 := f96_eq (i := 7 + 3 * rgo o 5 + 2 * k + 1) h (by omega)
      have b7 := rgo_lt (i := 7 + 3 * rgo o 5 + 2 * k) h
      unfold poL
      by_cases z : rgo o (7 + 3 * rgo o 5 + 2 * k) = v
      · rw [if_pos z]
        rw [z] at e7
        refine dr_end ?_
        simp [k126, b126_13, t7, e6, c, ixl2, x1, x2, e7, e8, g_i, g_r, g_l, g_o, p_i, p_r, p_l, p_z, c_V, c_I, c_L, c_R, x_out, z_fl_pi, z_fr_pi, z_ai_pi, z_al_pi, z_ar_pi, z_ln_pi, z_tg_pi, z_sz_pi, z_sl_pi, z_fi_pl, z_fr_pl, z_ai_pl, z_al_pl, z_ar_pl, z_ln_pl, z_tg_pl, z_sz_pl, z_sl_pl, z_fi_pr, z_fl_pr, z_ai_pr, z_al_pr, z_ar_pr, z_ln_pr, z_tg_pr, z_sz_pr, z_sl_pr, z_fi_qi, z_fl_qi, z_fr_qi, z_al_qi, z_ar_qi, z_ln_qi, z_tg_qi, z_sz_qi, z_sl_qi, z_fi_ql, z_fl_ql, z_fr_ql, z_ai_ql, z_ar_ql, z_ln_ql, z_tg_ql, z_sz_ql, z_sl_ql, z_fi_qr, z_fl_qr, z_fr_qr, z_ai_qr, z_al_qr, z_ln_qr, z_tg_qr, z_sz_qr, z_sl_qr, z_fi_ca, z_fl_ca, z_fr_ca, z_al_ca, z_ar_ca, z_ln_ca, z_tg_ca, z_sz_ca, z_sl_ca, y_pi, y_pl, y_pr, y_qi, y_ql, y_qr, y_ca]
      · have z' : ¬ nI (rgo o (7 + 3 * rgo o 5 + 2 * k)) = nI v := fun q => z ((nI_eq (by omega) (by omega)).mp q)
        rw [if_neg z]
        have hb : k126 13 [.inr (.inr (some na)), .inl (nI v), .inl (nI (7 + 3 * rgo o 5)), .inl (nI k)] M = some (.inr (13, [.inr (.inr (some na)), .inl (nI v), .inl (nI (7 + 3 * rgo o 5)), .inl (nI (k + 1))], M)) := by
          simp [k126, b126_13, t7, e6, c, ixl2, x1, e7, z', nI_1, g_i, g_r, g_l, g_o, p_i, p_r, p_l, p_z, c_V, c_I, c_L, c_R, x_out, z_fl_pi, z_fr_pi, z_ai_pi, z_al_pi, z_ar_pi, z_ln_pi, z_tg_pi, z_sz_pi, z_sl_pi, z_fi_pl, z_fr_pl, z_ai_pl, z_al_pl, z_ar_pl, z_ln_pl, z_tg_pl, z_sz_pl, z_sl_pl, z_fi_pr, z_fl_pr, z_ai_pr, z_al_pr, z_ar_pr, z_ln_pr, z_tg_pr, z_sz_pr, z_sl_pr, z_fi_qi, z_fl_qi, z_fr_qi, z_al_qi, z_ar_qi, z_ln_qi, z_tg_qi, z_sz_qi, z_sl_qi, z_fi_ql, z_fl_ql, z_fr_ql, z_ai_ql, z_ar_ql, z_ln_ql, z_tg_ql, z_sz_ql, z_sl_ql, z_fi_qr, z_fl_qr, z_fr_qr, z_ai_qr, z_al_qr, z_ln_qr, z_tg_qr, z_sz_qr, z_sl_qr, z_fi_ca, z_fl_ca, z_fr_ca, z_al_ca, z_ar_ca, z_ln_ca, z_tg_ca, z_sz_ca, z_sl_ca, y_pi, y_pl, y_pr, y_qi, y_ql, y_qr, y_ca]
        rw [dr_go hb]
        exact ih (k + 1) g (by omega) (by omega)
  have e0 : nI 0 = 0 := rfl
  have hb0 : b126_0 na (nI v) M = some (.inr (13, [.inr (.inr (some na)), .inl (nI v), .inl (nI (7 + 3 * rgo o 5)), .inl (nI 0)], M)) := by
    simp [b126_0, t7, e5, ixl3, x7, e0, g_i, g_r, g_l, g_o, p_i, p_r, p_l, p_z, c_V, c_I, c_L, c_R, x_out, z_fl_pi, z_fr_pi, z_ai_pi, z_al_pi, z_ar_pi, z_ln_pi, z_tg_pi, z_sz_pi, z_sl_pi, z_fi_pl, z_fr_pl, z_ai_pl, z_al_pl, z_ar_pl, z_ln_pl, z_tg_pl, z_sz_pl, z_sl_pl, z_fi_pr, z_fl_pr, z_ai_pr, z_al_pr, z_ar_pr, z_ln_pr, z_tg_pr, z_sz_pr, z_sl_pr, z_fi_qi, z_fl_qi, z_fr_qi, z_al_qi, z_ar_qi, z_ln_qi, z_tg_qi, z_sz_qi, z_sl_qi, z_fi_ql, z_fl_ql, z_fr_ql, z_ai_ql, z_ar_ql, z_ln_ql, z_tg_ql, z_sz_ql, z_sl_ql, z_fi_qr, z_fl_qr, z_fr_qr, z_ai_qr, z_al_qr, z_ln_qr, z_tg_qr, z_sz_qr, z_sl_qr, z_fi_ca, z_fl_ca, z_fr_ca, z_al_ca, z_ar_ca, z_ln_ca, z_tg_ca, z_sz_ca, z_sl_ca, y_pi, y_pl, y_pr, y_qi, y_ql, y_qr, y_ca]
  show x_go k126 (b126_0 na (nI v) M) = _
  rw [hb0]
  exact loop _ 0 xF (by omega) (by unfold xF; omega)
/-- addressOf -/
theorem f127_eq (hI : cI sw nd rm M) (hs : s < sw) (hN : ntS M sw s K) (hH : hoA M sw s K) {v : Nat} (hv : v < 256) : f127 [.inr (.inr (some (10 + s))), .inl (nI v)] M = some (some (.inl (adL sw K s v 0 sw)), M) := by
  have hsw := hI.bs.1.2
  have h1 := hI.si0 hs
  have h4 := hI.si4 hs
  have hl := ln_n hI hs
  have loop : ∀ d r fuel, r + d = sw → d < fuel → drive k127 fuel 2 [.inr (.inr (some (10 + s))), .inl (nI v), .inl (nI r)] M = some (some (.inl (adL sw K s v r d)), M) := by
    intro d
    induction d with
    | zero =>
      intro r fuel hr hf
      obtain ⟨g, rfl⟩ : ∃ g, fuel = g + 1 := ⟨fuel - 1, by omega⟩
      have c : nI sw ≤ nI r := nI_le (by omega) (by omega)
      refine dr_end ?_
      simp [k127, b127_2, h1, h4, hl, c, adL, g_i, g_r, g_l, g_o, p_i, p_r, p_l, p_z, c_V, c_I, c_L, c_R, x_out, z_fl_pi, z_fr_pi, z_ai_pi, z_al_pi, z_ar_pi, z_ln_pi, z_tg_pi, z_sz_pi, z_sl_pi, z_fi_pl, z_fr_pl, z_ai_pl, z_al_pl, z_ar_pl, z_ln_pl, z_tg_pl, z_sz_pl, z_sl_pl, z_fi_pr, z_fl_pr, z_ai_pr, z_al_pr, z_ar_pr, z_ln_pr, z_tg_pr, z_sz_pr, z_sl_pr, z_fi_qi, z_fl_qi, z_fr_qi, z_al_qi, z_ar_qi, z_ln_qi, z_tg_qi, z_sz_qi, z_sl_qi, z_fi_ql, z_fl_ql, z_fr_ql, z_ai_ql, z_ar_ql, z_ln_ql, z_tg_ql, z_sz_ql, z_sl_ql, z_fi_qr, z_fl_qr, z_fr_qr, z_ai_qr, z_al_qr, z_ln_qr, z_tg_qr, z_sz_qr, z_sl_qr, z_fi_ca, z_fl_ca, z_fr_ca, z_al_ca, z_ar_ca, z_ln_ca, z_tg_ca, z_sz_ca, z_sl_ca, y_pi, y_pl, y_pr, y_qi, y_ql, y_qr, y_ca]
    | succ d ih =>
      intro r fuel hr hf
      obtain ⟨g, rfl⟩ : ∃ g, fuel = g + 1 := ⟨fuel - 1, by omega⟩
      have c : ¬ nI sw ≤ nI r := nI_ge (by omega) (by omega)
      have hrs : r < sw := by omega
      obtain ⟨na, n1, n2, n3, n4⟩ := hN r hrs
      have hna := not_a hI hs hrs n1
      have t7 := n4.1.1
      have e106 : f106 [.inr (.inr (some (10 + s))), .inl (nI r)] M = some (some (.inl (b2 (onK sw K s r))), M) := f106_eq hI hs hN hH hrs
      have e126 := f126_eq n4 hv
      have e103 := f103_eq n4
      unfold adL
      cases ho : onK sw K s r with
      | false =>
        rw [ho, b2_f] at e106
        have hb : k127 2 [.inr (.inr (some (10 + s))), .inl (nI v), .inl (nI r)] M = some (.inr (2, [.inr (.inr (some (10 + s))), .inl (nI v), .inl (nI (r + 1))], M)) := by
          simp [k127, b127_2, b127_33, h1, h4, hl, c, e106, nI_1, g_i, g_r, g_l, g_o, p_i, p_r, p_l, p_z, c_V, c_I, c_L, c_R, x_out, z_fl_pi, z_fr_pi, z_ai_pi, z_al_pi, z_ar_pi, z_ln_pi, z_tg_pi, z_sz_pi, z_sl_pi, z_fi_pl, z_fr_pl, z_ai_pl, z_al_pl, z_ar_pl, z_ln_pl, z_tg_pl, z_sz_pl, z_sl_pl, z_fi_pr, z_fl_pr, z_ai_pr, z_al_pr, z_ar_pr, z_ln_pr, z_tg_pr, z_sz_pr, z_sl_pr, z_fi_qi, z_fl_qi, z_fr_qi, z_al_qi, z_ar_qi, z_ln_qi, z_tg_qi, z_sz_qi, z_sl_qi, z_fi_ql, z_fl_ql, z_fr_ql, z_ai_ql, z_ar_ql, z_ln_ql, z_tg_ql, z_sz_ql, z_sl_ql, z_fi_qr, z_fl_qr, z_fr_qr, z_ai_qr, z_al_qr, z_ln_qr, z_tg_qr, z_sz_qr, z_sl_qr, z_fi_ca, z_fl_ca, z_fr_ca, z_al_ca, z_ar_ca, z_ln_ca, z_tg_ca, z_sz_ca, z_sl_ca, y_pi, y_pl, y_pr, y_qi, y_ql, y_qr, y_ca]
        rw [dr_go hb, if_neg (fun q => by cases q.1)]
        exact ih (r + 1) g (by omega) (by omega)
      | true =>
        rw [ho, b2_t] at e106
        by_cases z : poK (K r) v = -1
        · have hb : k127 2 [.inr (.inr (some (10 + s))), .inl (nI v), .inl (nI r)] M = some (.inr (2, [.inr (.inr (some (10 + s))), .inl (nI v), .inl (nI (r + 1))], M)) := by
            simp [k127, b127_2, b127_33, h1, h4, hl, c, e106, hna, t7, e126, z, nI_1, g_i, g_r, g_l, g_o, p_i, p_r, p_l, p_z, c_V, c_I, c_L, c_R, x_out, z_fl_pi, z_fr_pi, z_ai_pi, z_al_pi, z_ar_pi, z_ln_pi, z_tg_pi, z_sz_pi, z_sl_pi, z_fi_pl, z_fr_pl, z_ai_pl, z_al_pl, z_ar_pl, z_ln_pl, z_tg_pl, z_sz_pl, z_sl_pl, z_fi_pr, z_fl_pr, z_ai_pr, z_al_pr, z_ar_pr, z_ln_pr, z_tg_pr, z_sz_pr, z_sl_pr, z_fi_qi, z_fl_qi, z_fr_qi, z_al_qi, z_ar_qi, z_ln_qi, z_tg_qi, z_sz_qi, z_sl_qi, z_fi_ql, z_fl_ql, z_fr_ql, z_ai_ql, z_ar_ql, z_ln_ql, z_tg_ql, z_sz_ql, z_sl_ql, z_fi_qr, z_fl_qr, z_fr_qr, z_ai_qr, z_al_qr, z_ln_qr, z_tg_qr, z_sz_qr, z_sl_qr, z_fi_ca, z_fl_ca, z_fr_ca, z_al_ca, z_ar_ca, z_ln_ca, z_tg_ca, z_sz_ca, z_sl_ca, y_pi, y_pl, y_pr, y_qi, y_ql, y_qr, y_ca]
          rw [dr_go hb, if_neg (fun q => q.2 z)]
          exact ih (r + 1) g (by omega) (by omega)
        · rw [if_pos ⟨rfl, z⟩]
          refine dr_end ?_
          simp [k127, b127_2, b127_33, h1, h4, hl, c, e106, hna, t7, e126, z, e103, nI_1, g_i, g_r, g_l, g_o, p_i, p_r, p_l, p_z, c_V, c_I, c_L, c_R, x_out, z_fl_pi, z_fr_pi, z_ai_pi, z_al_pi, z_ar_pi, z_ln_pi, z_tg_pi, z_sz_pi, z_sl_pi, z_fi_pl, z_fr_pl, z_ai_pl, z_al_pl, z_ar_pl, z_ln_pl, z_tg_pl, z_sz_pl, z_sl_pl, z_fi_pr, z_fl_pr, z_ai_pr, z_al_pr, z_ar_pr, z_ln_pr, z_tg_pr, z_sz_pr, z_sl_pr, z_fi_qi, z_fl_qi, z_fr_qi, z_al_qi, z_ar_qi, z_ln_qi, z_tg_qi, z_sz_qi, z_sl_qi, z_fi_ql, z_fl_ql, z_fr_ql, z_ai_ql, z_ar_ql, z_ln_ql, z_tg_ql, z_sz_ql, z_sl_ql, z_fi_qr, z_fl_qr, z_fr_qr, z_ai_qr, z_al_qr, z_ln_qr, z_tg_qr, z_sz_qr, z_sl_qr, z_fi_ca, z_fl_ca, z_fr_ca, z_al_ca, z_ar_ca, z_ln_ca, z_tg_ca, z_sz_ca, z_sl_ca, y_pi, y_pl, y_pr, y_qi, y_ql, y_qr, y_ca]
  exact loop sw 0 xF (by omega) (by unfold xF; omega)
theorem on_same {r : Nat} (hr : r < sw) (h5 : sw ≤ 5) (hl : rKl K) : onK sw K s r = ((K r).isSome && decide (r = s ∨ wyK sw K s r ≠ -1) && !oPr sw K s r r) := by
  unfold onK
  cases hk : K r with
  | none =>
    have e : hoK sw K s (rgo none 4) = -1 := if_pos rfl
    have : ¬ (-1 : Int32) = nI r := fun q => nI_m1 (n := r) (by omega) q.symm
    rw [if_neg (by show ¬ 16 ≤ 0; omega), e]
    simp [this]
  | some L =>
    have d1 := (hl r L hk).2.2.2
    have hrg : rgo (K r) 4 = L.getD 4 0 := rgo_some hk
    rw [← hk, hrg, if_neg (by omega)]
    have hho : hoK sw K s (L.getD 4 0) = hoP sw K s (rgo (K r) 4) sw := by
      unfold hoK
      rw [hrg, if_neg (by omega)]
    rw [hho]
    have iff := hoP_iff (n := sw) (K := K) (s := s) (d := rgo (K r) 4) (r := r) (by omega) hr
    have hsome : (K r).isSome = true := by rw [hk]; rfl
    by_cases z : hoP sw K s (rgo (K r) 4) sw = nI r
    · obtain ⟨i1, i2, i3⟩ := iff.mp z
      have ho : oPr sw K s r r = false := by
        by_cases q : oPr sw K s r r = true
        · obtain ⟨-, p, p1, p2, p3⟩ := (oPr_iff hl r).mp q
          exact absurd ⟨p2, p3⟩ (i3 p p1)
        · simpa using q
      rw [decide_eq_true z, decide_eq_true i1, ho, hsome]
      rfl
    · rw [decide_eq_false z, hsome]
      by_cases y : r = s ∨ wyK sw K s r ≠ -1
      · have ho : oPr sw K s r r = true := by
          by_cases q : oPr sw K s r r = true
          · exact q
          · exact absurd (iff.mpr ⟨y, rfl, fun p p1 p2 => q ((oPr_iff hl r).mpr ⟨hsome, p, p1, p2.1, p2.2⟩)⟩) z
        rw [decide_eq_true y, ho]
        rfl
      · rw [decide_eq_false y]
        rfl
theorem e227_eq {v : Nat} (hs : s < sw) (h5 : sw ≤ 5) (hv : v < 256) (h0 : S.1 0 0 = nI sw) (h : rkS S s K) (hl : rKl K) (hK : rKo sw K) : ∃ T, e227 (nI s) (nI v) S = some (adL sw K s v 0 sw, T) ∧ ks [32] S T := by
  obtain ⟨T, t1, t2, t3⟩ := e195_eq (by omega) h hl h5 hK
  have hT := h.ks t2 (by decide) (by decide) (by decide)
  have h0' : T.1 0 0 = nI sw := by rw [t2.i (by decide)]; exact h0
  have lp2 : ∀ r L, r < sw → K r = some L → ∀ d k fuel, k + d = L.getD (6 + 3 * L.getD 5 0) 0 → d < fuel → sdrive kS227 fuel 60 [.inl (nI s), .inl (nI v), .inl (nI r), .inl (nI (7 + 3 * L.getD 5 0)), .inl (nI k)] T = if poL (K r) v k d = -1 then sdrive kS227 (fuel - (d + 1)) 7 [.inl (nI s), .inl (nI v), .inl (nI (r + 1))] T else some (((nI (rgo (K r) 4) <<< ((16 : Int32) &&& 31)) ||| (poL (K r) v k d <<< ((8 : Int32) &&& 31))) ||| (nI (v + 1)), T) := by
    intro r L hr hL d
    obtain ⟨l1, l2, l3, -⟩ := hl r L hL
    have e6 : e190 (nI s) (nI r) (nI (7 + 3 * L.getD 5 0) - 1) T = some (nI (L.getD (6 + 3 * L.getD 5 0) 0), T) := by
      rw [show 7 + 3 * L.getD 5 0 = 6 + 3 * L.getD 5 0 + 1 by omega, nI_pred]
      exact e190_eq (by omega) (by omega) hT hL (by omega) l2
    have e4 : e190 (nI s) (nI r) 4 T = some (nI (L.getD 4 0), T) := e190_eq (i := 4) (by omega) (by omega) hT hL (by omega) l2
    have b6 := l3 (6 + 3 * L.getD 5 0)
    have r4 : rgo (K r) 4 = L.getD 4 0 := rgo_some hL
    have r5 : rgo (K r) 5 = L.getD 5 0 := rgo_some hL
    induction d with
    | zero =>
      intro k fuel hk hf
      obtain ⟨g, rfl⟩ : ∃ g, fuel = g + 1 := ⟨fuel - 1, by omega⟩
      have c : nI (L.getD (6 + 3 * L.getD 5 0) 0) ≤ nI k := nI_le (by omega) (by omega)
      have hb : kS227 60 [.inl (nI s), .inl (nI v), .inl (nI r), .inl (nI (7 + 3 * L.getD 5 0)), .inl (nI k)] T = some (.inr (7, [.inl (nI s), .inl (nI v), .inl (nI (r + 1))], T)) := by
        show c227_60 (nI s) (nI v) (nI r) (nI (7 + 3 * L.getD 5 0)) (nI k) T = _
        unfold c227_60 c227_132
        rw [bd_s e6]
        show (if nI (L.getD (6 + 3 * L.getD 5 0) 0) ≤ nI k then _ else _) = _
        rw [if_pos c, nI_1]
      rw [sd_go hb, if_pos (show poL (K r) v k 0 = -1 from rfl)]
      rfl
    | succ d ih =>
      intro k fuel hk hf
      obtain ⟨g, rfl⟩ : ∃ g, fuel = g + 1 := ⟨fuel - 1, by omega⟩
      have c : ¬ nI (L.getD (6 + 3 * L.getD 5 0) 0) ≤ nI k := nI_ge (by omega) (by omega)
      have x1 : nI (7 + 3 * L.getD 5 0) + 2 * nI k = nI (7 + 3 * L.getD 5 0 + 2 * k) := by rw [ixl2, nI_add]
      have x2 : nI (7 + 3 * L.getD 5 0 + 2 * k) + 1 = nI (7 + 3 * L.getD 5 0 + 2 * k + 1) := nI_add _ 1
      have e7 : e190 (nI s) (nI r) (nI (7 + 3 * L.getD 5 0) + 2 * nI k) T = some (nI (L.getD (7 + 3 * L.getD 5 0 + 2 * k) 0), T) := by
        rw [x1]; exact e190_eq (by omega) (by omega) hT hL (by omega) l2
      have e8 : e190 (nI s) (nI r) (nI (7 + 3 * L.getD 5 0) + 2 * nI k + 1) T = some (nI (L.getD (7 + 3 * L.getD 5 0 + 2 * k + 1) 0), T) := by
        rw [x1, x2]; exact e190_eq (by omega) (by omega) hT hL (by omega) l2
      have b7 := l3 (7 + 3 * L.getD 5 0 + 2 * k)
      have r7 : rgo (K r) (7 + 3 * rgo (K r) 5 + 2 * k) = L.getD (7 + 3 * L.getD 5 0 + 2 * k) 0 := by rw [r5]; exact rgo_some hL
      have r8 : rgo (K r) (7 + 3 * rgo (K r) 5 + 2 * k + 1) = L.getD (7 + 3 * L.getD 5 0 + 2 * k + 1) 0 := by rw [r5]; exact rgo_some hL
      have b8 := l3 (7 + 3 * L.getD 5 0 + 2 * k + 1)
      unfold poL
      rw [r7, r8]
      by_cases z : L.getD (7 + 3 * L.getD 5 0 + 2 * k) 0 = v
      · rw [if_pos z, if_neg (nI_m1 (by omega))]
        refine sd_end ?_
        show c227_60 (nI s) (nI v) (nI r) (nI (7 + 3 * L.getD 5 0)) (nI k) T = _
        unfold c227_60
        rw [bd_s e6]
        show (if nI (L.getD (6 + 3 * L.getD 5 0) 0) ≤ nI k then _ else _) = _
        rw [if_neg c, bd_s e7]
        show (if nI (L.getD (7 + 3 * L.getD 5 0 + 2 * k) 0) = nI v then _ else _) = _
        rw [if_pos (by rw [z]), bd_s e4, bd_s e8, r4, nI_1]
      · have z' : ¬ nI (L.getD (7 + 3 * L.getD 5 0 + 2 * k) 0) = nI v := fun q => z ((nI_eq (by omega) (by omega)).mp q)
        have hb : kS227 60 [.inl (nI s), .inl (nI v), .inl (nI r), .inl (nI (7 + 3 * L.getD 5 0)), .inl (nI k)] T = some (.inr (60, [.inl (nI s), .inl (nI v), .inl (nI r), .inl (nI (7 + 3 * L.getD 5 0)), .inl (nI (k + 1))], T)) := by
          show c227_60 (nI s) (nI v) (nI r) (nI (7 + 3 * L.getD 5 0)) (nI k) T = _
          unfold c227_60
          rw [bd_s e6]
          show (if nI (L.getD (6 + 3 * L.getD 5 0) 0) ≤ nI k then _ else _) = _
          rw [if_neg c, bd_s e7]
          show (if nI (L.getD (7 + 3 * L.getD 5 0 + 2 * k) 0) = nI v then _ else _) = _
          rw [if_neg z', nI_1]
        rw [sd_go hb, if_neg z]
        show sdrive kS227 g 60 _ T = _
        rw [ih (k + 1) g (by omega) (by omega), show g + 1 - (d + 1 + 1) = g - (d + 1) by omega]
  have loop : ∀ d r fuel, r + d = sw → 300 * d < fuel → sdrive kS227 fuel 7 [.inl (nI s), .inl (nI v), .inl (nI r)] T = some (adL sw K s v r d, T) := by
    intro d
    induction d with
    | zero =>
      intro r fuel hr hf
      obtain ⟨g, rfl⟩ : ∃ g, fuel = g + 1 := ⟨fuel - 1, by omega⟩
      have c : nI sw ≤ nI r := nI_le (by omega) (by omega)
      refine sd_end ?_
      simp [kS227, c227_7, s_g, h0', c, adL]
    | succ d ih =>
      intro r fuel hr hf
      obtain ⟨g, rfl⟩ : ∃ g, fuel = g + 1 := ⟨fuel - 1, by omega⟩
      have c : ¬ nI sw ≤ nI r := nI_ge (by omega) (by omega)
      have hrs : r < sw := by omega
      have e7' : s_a T 27 (5 * nI s + nI r) = some (T.1 27 (5 * s + r)) := e27 (by omega) (by omega)
      have e7 := e197_eq (t := r) hs h5 hrs hT hl hK t3
      have e9 := e199_eq (t := r) hs h5 hrs hT hl hK t3
      have hh := hT r (by omega)
      have on := on_same (s := s) hrs h5 hl
      have next : kS227 7 [.inl (nI s), .inl (nI v), .inl (nI r)] T = some (.inr (7, [.inl (nI s), .inl (nI v), .inl (nI (r + 1))], T)) → onK sw K s r = false → sdrive kS227 (g + 1) 7 [.inl (nI s), .inl (nI v), .inl (nI r)] T = some (adL sw K s v r (d + 1), T) := fun hb ho => by
        unfold adL
        rw [sd_go hb, ho, if_neg (fun q => by cases q.1)]
        exact ih (r + 1) g (by omega) (by omega)
      cases hL : K r with
      | none =>
        rw [hL] at hh
        have hh : T.1 27 (5 * s + r) = 0 := hh
        rw [hL] at on
        exact next (by simp [kS227, c227_7, c227_132, s_g, h0', c, e7', hh, nI_1]) (by rw [on]; rfl)
      | some L =>
        rw [hL] at hh
        obtain ⟨hh1, -⟩ := hh
        have hsome : (K r).isSome = true := by rw [hL]; rfl
        rw [hsome] at on
        by_cases y : r = s ∨ wyK sw K s r ≠ -1
        · rw [decide_eq_true y] at e7 on
          cases ho : oPr sw K s r r with
          | true =>
            rw [ho] at e9 on
            exact next (by simp [kS227, c227_7, c227_132, s_g, h0', c, e7', hh1, e7, e9, b2, nI_1]) (by rw [on]; rfl)
          | false =>
            rw [ho] at e9 on
            obtain ⟨l1, l2, l3, -⟩ := hl r L hL
            have b5 := l3 5
            have b6 := l3 (6 + 3 * L.getD 5 0)
            have g5 : e190 (nI s) (nI r) 5 T = some (nI (L.getD 5 0), T) := e190_eq (i := 5) (by omega) (by omega) hT hL (by omega) l2
            have x7 : (7 : Int32) + nI (3 * L.getD 5 0) = nI (7 + 3 * L.getD 5 0) := nI_add 7 _
            have e192 : e192 (nI s) (nI r) T = some (nI (7 + 3 * L.getD 5 0), T) := by
              simp only [e192, c192_0, g5, Option.bind_some, ixl3, x7, s_out]
            have e0 : nI 0 = 0 := rfl
            have n1 : ¬ (1 : Int32) = 0 := by decide
            have hb : kS227 7 [.inl (nI s), .inl (nI v), .inl (nI r)] T = some (.inr (60, [.inl (nI s), .inl (nI v), .inl (nI r), .inl (nI (7 + 3 * L.getD 5 0)), .inl (nI 0)], T)) := by
              have e7 : e197 (nI s) (nI r) T = some (1, T) := e7
              have e9 : e199 (nI s) (nI r) T = some (0, T) := e9
              simp only [kS227, c227_7, s_g, h0', if_neg c, e7', hh1, Option.bind_some, if_neg n1, e7, e9, if_true, e192, e0]
            rw [sd_go hb]
            show sdrive kS227 g 60 _ T = _
            rw [lp2 r L hrs hL (L.getD (6 + 3 * L.getD 5 0) 0) 0 g (by omega) (by omega)]
            have on : onK sw K s r = true := by rw [on]; rfl
            have ep : poL (K r) v 0 (L.getD (6 + 3 * L.getD 5 0) 0) = poK (K r) v := by
              unfold poK
              rw [rgo_some (i := 5) hL, rgo_some hL]
            rw [ep]
            unfold adL
            rw [on]
            by_cases z : poK (K r) v = -1
            · rw [if_pos z, if_neg (fun q => q.2 z)]
              exact ih (r + 1) _ (by omega) (by omega)
            · rw [if_neg z, if_pos ⟨rfl, z⟩]
        · rw [decide_eq_false y] at e7 on
          exact next (by simp [kS227, c227_7, c227_132, s_g, h0', c, e7', hh1, e7, b2, nI_1]) (by rw [on]; rfl)
  refine ⟨T, ?_, t2⟩
  have e0 : nI 0 = 0 := rfl
  have hb0 : c227_0 (nI s) (nI v) S = some (.inr (7, [.inl (nI s), .inl (nI v), .inl (nI 0)], T)) := by
    simp [c227_0, t1, e0]
  show s_go kS227 (c227_0 (nI s) (nI v) S) = _
  rw [hb0]
  exact loop sw 0 xF (by omega) (by unfold xF; omega)
end AD
