/-! ===== who holds a domain ===== -/
/-- the first of the k lowest switches that is reached and has domain d -/
def hoP (n : Nat) (K : rK) (s d : Nat) : Nat → Int32
  | 0 => -1
  | k + 1 => if hoP n K s d k = -1 ∧ (k = s ∨ wyK n K s k ≠ -1) ∧ rgo (K k) 4 = d then nI k else hoP n K s d k
def hoK (n : Nat) (K : rK) (s d : Nat) : Int32 := if d = 0 then -1 else hoP n K s d n
def ofK (n : Nat) (K : rK) (s : Nat) : Bool := (K s).isSome && decide (hoK n K s (rgo (K s) 4) ≠ nI s)
section HO
variable {n : Nat} {K : rK} {s d : Nat}
theorem hoP_rg : ∀ k, k < 1000000 → hoP n K s d k = -1 ∨ ∃ r, r < k ∧ hoP n K s d k = nI r ∧ (r = s ∨ wyK n K s r ≠ -1) ∧ rgo (K r) 4 = d ∧ ∀ q, q < r → ¬ ((q = s ∨ wyK n K s q ≠ -1) ∧ rgo (K q) 4 = d)
  | 0, _ => Or.inl rfl
  | k + 1, hk => by
    have ih := hoP_rg k (by omega)
    have noth : ∀ m, m < 1000000 → hoP n K s d m = -1 → ∀ q, q < m → ¬ ((q = s ∨ wyK n K s q ≠ -1) ∧ rgo (K q) 4 = d) := by
      intro m
      induction m with
      | zero => intro _ _ q hq; omega
      | succ m im =>
        intro hm h q hq
        have h' : (if hoP n K s d m = -1 ∧ (m = s ∨ wyK n K s m ≠ -1) ∧ rgo (K m) 4 = d then nI m else hoP n K s d m) = -1 := h
        by_cases c : hoP n K s d m = -1 ∧ (m = s ∨ wyK n K s m ≠ -1) ∧ rgo (K m) 4 = d
        · rw [if_pos c] at h'
          exact absurd h' (nI_m1 (by omega))
        · rw [if_neg c] at h'
          by_cases z : q = m
          · subst z
            exact fun y => c ⟨h', y⟩
          · exact im (by omega) h' q (by omega)
    show (if hoP n K s d k = -1 ∧ (k = s ∨ wyK n K s k ≠ -1) ∧ rgo (K k) 4 = d then nI k else hoP n K s d k) = -1 ∨ ∃ r, r < k + 1 ∧ (if hoP n K s d k = -1 ∧ (k = s ∨ wyK n K s k ≠ -1) ∧ rgo (K k) 4 = d then nI k else hoP n K s d k) = nI r ∧ _
    by_cases c : hoP n K s d k = -1 ∧ (k = s ∨ wyK n K s k ≠ -1) ∧ rgo (K k) 4 = d
    · rw [if_pos c]
      exact Or.inr ⟨k, by omega, rfl, c.2.1, c.2.2, noth k (by omega) c.1⟩
    · rw [if_neg c]
      rcases ih with ih | ⟨r, r1, r2, r3, r4, r5⟩
      · exact Or.inl ih
      · exact Or.inr ⟨r, by omega, r2, r3, r4, r5⟩
theorem hoP_no : ∀ m, m < 1000000 → hoP n K s d m = -1 → ∀ q, q < m → ¬ ((q = s ∨ wyK n K s q ≠ -1) ∧ rgo (K q) 4 = d)
  | 0, _, _, q, hq => by omega
  | m + 1, hm, h, q, hq => by
    have h' : (if hoP n K s d m = -1 ∧ (m = s ∨ wyK n K s m ≠ -1) ∧ rgo (K m) 4 = d then nI m else hoP n K s d m) = -1 := h
    by_cases c : hoP n K s d m = -1 ∧ (m = s ∨ wyK n K s m ≠ -1) ∧ rgo (K m) 4 = d
    · rw [if_pos c] at h'
      exact absurd h' (nI_m1 (by omega))
    · rw [if_neg c] at h'
      by_cases z : q = m
      · subst z
        exact fun y => c ⟨h', y⟩
      · exact hoP_no m (by omega) h' q (by omega)
/-- r holds d just if it is the first that is reached and has it -/
theorem hoP_iff {r : Nat} (hn : n < 1000000) (hr : r < n) : hoP n K s d n = nI r ↔ (r = s ∨ wyK n K s r ≠ -1) ∧ rgo (K r) 4 = d ∧ ∀ q, q < r → ¬ ((q = s ∨ wyK n K s q ≠ -1) ∧ rgo (K q) 4 = d) := by
  rcases hoP_rg (n := n) (K := K) (s := s) (d := d) n hn with h | ⟨p, p1, p2, p3, p4, p5⟩
  · rw [h]
    refine ⟨fun q => absurd q.symm (nI_m1 (by omega)), fun ⟨a, b, c⟩ => ?_⟩
    exact absurd ⟨a, b⟩ (hoP_no n hn h r hr)
  · rw [p2]
    constructor
    · intro q
      have := (nI_eq (by omega) (by omega)).mp q
      subst this
      exact ⟨p3, p4, p5⟩
    · rintro ⟨a, b, c⟩
      have h1 : ¬ p < r := fun q => c p q ⟨p3, p4⟩
      have h2 : ¬ r < p := fun q => p5 r q ⟨a, b⟩
      rw [show p = r by omega]
end HO
/-! ===== the class: holders, isOn, findWays ===== -/
section FW
variable {sw nd rm s : Nat} {M : hM} {K : rK}
/-- the ways, the holders -/
def wyA (M : hM) (sw s : Nat) (K : rK) : Prop := ∀ t, t < sw → h_ai M (40 + s) t = wyK sw K s t
def hoA (M : hM) (sw s : Nat) (K : rK) : Prop := ∀ d, d < 16 → h_ai M (50 + s) d = hoK sw K s d
theorem ln_h (hI : cI sw nd rm M) (hs : s < sw) : a_ln M 20 (some (50 + s)) = some (nI 16) := by rw [a_ln_t (hI.sa6 hs), hI.sa7 hs]
theorem k104_2 (hs : s < sw) : ∀ d i M fuel, cI sw nd rm M → i + d = 16 → d < fuel → ∃ M', drive k104 fuel 2 [.inr (.inr (some (10 + s))), .inl (nI i)] M = drive k104 (fuel - (d + 1)) 26 [.inr (.inr (some (10 + s))), .inl (nI 0)] M' ∧ aiO (fun x => x = 50 + s) M M' ∧ (∀ j, i ≤ j → j < 16 → h_ai M' (50 + s) j = -1) ∧ ∀ j, j < i → h_ai M' (50 + s) j = h_ai M (50 + s) j
  | 0, i, M, fuel, hI, hi, hf => by
    obtain ⟨g, rfl⟩ : ∃ g, fuel = g + 1 := ⟨fuel - 1, by omega⟩
    have h1 := hI.si0 hs
    have h9 := hI.si8 hs
    have hl := ln_h hI hs
    have c : nI 16 ≤ nI i := nI_le (by omega) (by omega)
    have e0 : nI 0 = 0 := rfl
    have hb' : k104 2 [.inr (.inr (some (10 + s))), .inl (nI i)] M = some (.inr (26, [.inr (.inr (some (10 + s))), .inl (nI 0)], M)) := by
      simp [k104, b104_2, h1, h9, hl, c, e0, g_i, g_r, g_l, g_o, p_i, p_r, p_l, p_z, c_V, c_I, c_L, c_R, x_out, z_fl_pi, z_fr_pi, z_ai_pi, z_al_pi, z_ar_pi, z_ln_pi, z_tg_pi, z_sz_pi, z_sl_pi, z_fi_pl, z_fr_pl, z_ai_pl, z_al_pl, z_ar_pl, z_ln_pl, z_tg_pl, z_sz_pl, z_sl_pl, z_fi_pr, z_fl_pr, z_ai_pr, z_al_pr, z_ar_pr, z_ln_pr, z_tg_pr, z_sz_pr, z_sl_pr, z_fi_qi, z_fl_qi, z_fr_qi, z_al_qi, z_ar_qi, z_ln_qi, z_tg_qi, z_sz_qi, z_sl_qi, z_fi_ql, z_fl_ql, z_fr_ql, z_ai_ql, z_ar_ql, z_ln_ql, z_tg_ql, z_sz_ql, z_sl_ql, z_fi_qr, z_fl_qr, z_fr_qr, z_ai_qr, z_al_qr, z_ln_qr, z_tg_qr, z_sz_qr, z_sl_qr, z_fi_ca, z_fl_ca, z_fr_ca, z_al_ca, z_ar_ca, z_ln_ca, z_tg_ca, z_sz_ca, z_sl_ca, y_pi, y_pl, y_pr, y_qi, y_ql, y_qr, y_ca]
    exact ⟨M, by rw [dr_go hb']; rfl, aiO.rf, fun j h1 h2 => by omega, fun _ _ => rfl⟩
  | d + 1, i, M, fuel, hI, hi, hf => by
    obtain ⟨g, rfl⟩ : ∃ g, fuel = g + 1 := ⟨fuel - 1, by omega⟩
    have h1 := hI.si0 hs
    have h9 := hI.si8 hs
    have hl := ln_h hI hs
    have c : ¬ nI 16 ≤ nI i := nI_ge (by omega) (by omega)
    have hw : as_i M 20 (some (50 + s)) (nI i) (-1) = some (h_qi M (50 + s) i (-1)) := as_i_t (hI.sa6 hs) (by rw [hI.sa7 hs]; omega) (by omega)
    have hb' : k104 2 [.inr (.inr (some (10 + s))), .inl (nI i)] M = some (.inr (2, [.inr (.inr (some (10 + s))), .inl (nI (i + 1))], h_qi M (50 + s) i (-1))) := by
      simp [k104, b104_2, h1, h9, hl, c, hw, nI_1, g_i, g_r, g_l, g_o, p_i, p_r, p_l, p_z, c_V, c_I, c_L, c_R, x_out, z_fl_pi, z_fr_pi, z_ai_pi, z_al_pi, z_ar_pi, z_ln_pi, z_tg_pi, z_sz_pi, z_sl_pi, z_fi_pl, z_fr_pl, z_ai_pl, z_al_pl, z_ar_pl, z_ln_pl, z_tg_pl, z_sz_pl, z_sl_pl, z_fi_pr, z_fl_pr, z_ai_pr, z_al_pr, z_ar_pr, z_ln_pr, z_tg_pr, z_sz_pr, z_sl_pr, z_fi_qi, z_fl_qi, z_fr_qi, z_al_qi, z_ar_qi, z_ln_qi, z_tg_qi, z_sz_qi, z_sl_qi, z_fi_ql, z_fl_ql, z_fr_ql, z_ai_ql, z_ar_ql, z_ln_ql, z_tg_ql, z_sz_ql, z_sl_ql, z_fi_qr, z_fl_qr, z_fr_qr, z_ai_qr, z_al_qr, z_ln_qr, z_tg_qr, z_sz_qr, z_sl_qr, z_fi_ca, z_fl_ca, z_fr_ca, z_al_ca, z_ar_ca, z_ln_ca, z_tg_ca, z_sz_ca, z_sl_ca, y_pi, y_pl, y_pr, y_qi, y_ql, y_qr, y_ca]
    have ao : aiO (fun x => x = 50 + s) M (h_qi M (50 + s) i (-1)) := aiO_q rfl
    obtain ⟨M', j1, j2, j3, j4⟩ := k104_2 hs d (i + 1) _ g (ao.I hI) (by omega) (by omega)
    refine ⟨M', ?_, ao.tr j2 (fun _ q => q), fun j q1 q2 => ?_, fun j q => ?_⟩
    · rw [dr_go hb']
      show drive k104 g 2 _ _ = _
      rw [j1, show g + 1 - (d + 1 + 1) = g - (d + 1) by omega]
    · by_cases z : j = i
      · subst z; rw [j4 j (by omega), qi_eq]
      · exact j3 j (by omega) q2
    · rw [j4 j (by omega), qi_ne (by omega)]
theorem k104_26 (hs : s < sw) : ∀ d r M fuel, cI sw nd rm M → ntS M sw s K → wyA M sw s K → r + d = sw → d < fuel → (∀ e, e < 16 → h_ai M (50 + s) e = if e = 0 then -1 else hoP sw K s e r) → ∃ M', drive k104 fuel 26 [.inr (.inr (some (10 + s))), .inl (nI r)] M = some (none, M') ∧ aiO (fun x => x = 50 + s) M M' ∧ hoA M' sw s K
  | 0, r, M, fuel, hI, hN, hW, hr, hf, hH => by
    obtain ⟨g, rfl⟩ : ∃ g, fuel = g + 1 := ⟨fuel - 1, by omega⟩
    have h1 := hI.si0 hs
    have h4 := hI.si4 hs
    have hl := ln_n hI hs
    have hsw := hI.bs.1.2
    have c : nI sw ≤ nI r := nI_le (by omega) (by omega)
    have hb' : k104 26 [.inr (.inr (some (10 + s))), .inl (nI r)] M = some (.inl (none, M)) := by
      simp [k104, b104_26, h1, h4, hl, c, g_i, g_r, g_l, g_o, p_i, p_r, p_l, p_z, c_V, c_I, c_L, c_R, x_out, z_fl_pi, z_fr_pi, z_ai_pi, z_al_pi, z_ar_pi, z_ln_pi, z_tg_pi, z_sz_pi, z_sl_pi, z_fi_pl, z_fr_pl, z_ai_pl, z_al_pl, z_ar_pl, z_ln_pl, z_tg_pl, z_sz_pl, z_sl_pl, z_fi_pr, z_fl_pr, z_ai_pr, z_al_pr, z_ar_pr, z_ln_pr, z_tg_pr, z_sz_pr, z_sl_pr, z_fi_qi, z_fl_qi, z_fr_qi, z_al_qi, z_ar_qi, z_ln_qi, z_tg_qi, z_sz_qi, z_sl_qi, z_fi_ql, z_fl_ql, z_fr_ql, z_ai_ql, z_ar_ql, z_ln_ql, z_tg_ql, z_sz_ql, z_sl_ql, z_fi_qr, z_fl_qr, z_fr_qr, z_ai_qr, z_al_qr, z_ln_qr, z_tg_qr, z_sz_qr, z_sl_qr, z_fi_ca, z_fl_ca, z_fr_ca, z_al_ca, z_ar_ca, z_ln_ca, z_tg_ca, z_sz_ca, z_sl_ca, y_pi, y_pl, y_pr, y_qi, y_ql, y_qr, y_ca]
    refine ⟨M, dr_end hb', aiO.rf, fun e he => ?_⟩
    rw [hH e he, show r = sw by omega]
    rfl
  | d + 1, r, M, fuel, hI, hN, hW, hr, hf, hH => by
    obtain ⟨g, rfl⟩ : ∃ g, fuel = g + 1 := ⟨fuel - 1, by omega⟩
    have h1 := hI.si0 hs
    have h4 := hI.si4 hs
    have h8 := hI.si7 hs
    have h9 := hI.si8 hs
    have h11 := hI.si2 hs
    have hl := ln_n hI hs
    have hlh := ln_h hI hs
    have hsw := hI.bs.1.2
    have hrs : r < sw := by omega
    have c : ¬ nI sw ≤ nI r := nI_ge (by omega) (by omega)
    obtain ⟨na, n1, n2, n3, n4⟩ := hN r hrs
    have hn := not_a hI hs hrs n1
    have ht := n4.1.1
    have e3 := f103_eq n4
    have hd := rgo_lt (i := 4) n4
    have hwv : al_i M 20 (some (40 + s)) (nI r) = some (wyK sw K s r) := by
      rw [al_i_t (hI.sa4 hs) (by rw [hI.sa5 hs]; exact hrs) (by omega), hW r hrs]
    have keepH : ∀ e, e < 16 → ¬ (hoP sw K s e r = -1 ∧ (r = s ∨ wyK sw K s r ≠ -1) ∧ rgo (K r) 4 = e) ∨ e = 0 → (if e = 0 then -1 else hoP sw K s e r) = (if e = 0 then -1 else hoP sw K s e (r + 1)) := fun e he q => by
      by_cases z : e = 0
      · rw [if_pos z, if_pos z]
      · rw [if_neg z, if_neg z]
        show _ = if hoP sw K s e r = -1 ∧ (r = s ∨ wyK sw K s r ≠ -1) ∧ rgo (K r) 4 = e then nI r else hoP sw K s e r
        rw [if_neg (q.resolve_right z)]
    have stay : k104 26 [.inr (.inr (some (10 + s))), .inl (nI r)] M = some (.inr (26, [.inr (.inr (some (10 + s))), .inl (nI (r + 1))], M)) → (∀ e, e < 16 → e ≠ 0 → ¬ (hoP sw K s e r = -1 ∧ (r = s ∨ wyK sw K s r ≠ -1) ∧ rgo (K r) 4 = e)) → ∃ M', drive k104 (g + 1) 26 [.inr (.inr (some (10 + s))), .inl (nI r)] M = some (none, M') ∧ aiO (fun x => x = 50 + s) M M' ∧ hoA M' sw s K := fun hb hno => by
      obtain ⟨M', j1, j2, j3⟩ := k104_26 hs d (r + 1) M g hI hN hW (by omega) (by omega) (fun e he => by
        rw [hH e he]
        exact keepH e he (by
          by_cases z : e = 0
          · exact Or.inr z
          · exact Or.inl (hno e he z)))
      exact ⟨M', by rw [dr_go hb]; exact j1, j2, j3⟩
    by_cases cr : r = s ∨ wyK sw K s r ≠ -1
    · have pre : ∀ X, b104_58 (10 + s) (nI r) 1 M = X → k104 26 [.inr (.inr (some (10 + s))), .inl (nI r)] M = X := fun X hX => by
        by_cases z : r = s
        · subst z
          simp [k104, b104_26, b104_53, h1, h4, hl, c, h11, hX, g_i, g_r, g_l, g_o, p_i, p_r, p_l, p_z, c_V, c_I, c_L, c_R, x_out, z_fl_pi, z_fr_pi, z_ai_pi, z_al_pi, z_ar_pi, z_ln_pi, z_tg_pi, z_sz_pi, z_sl_pi, z_fi_pl, z_fr_pl, z_ai_pl, z_al_pl, z_ar_pl, z_ln_pl, z_tg_pl, z_sz_pl, z_sl_pl, z_fi_pr, z_fl_pr, z_ai_pr, z_al_pr, z_ar_pr, z_ln_pr, z_tg_pr, z_sz_pr, z_sl_pr, z_fi_qi, z_fl_qi, z_fr_qi, z_al_qi, z_ar_qi, z_ln_qi, z_tg_qi, z_sz_qi, z_sl_qi, z_fi_ql, z_fl_ql, z_fr_ql, z_ai_ql, z_ar_ql, z_ln_ql, z_tg_ql, z_sz_ql, z_sl_ql, z_fi_qr, z_fl_qr, z_fr_qr, z_ai_qr, z_al_qr, z_ln_qr, z_tg_qr, z_sz_qr, z_sl_qr, z_fi_ca, z_fl_ca, z_fr_ca, z_al_ca, z_ar_ca, z_ln_ca, z_tg_ca, z_sz_ca, z_sl_ca, y_pi, y_pl, y_pr, y_qi, y_ql, y_qr, y_ca]
        · have z' : ¬ nI r = nI s := fun q => z ((nI_eq (by omega) (by omega)).mp q)
          have y : ¬ wyK sw K s r = -1 := cr.resolve_left z
          simp [k104, b104_26, b104_53, h1, h4, hl, c, h11, z', h8, hwv, y, hX, g_i, g_r, g_l, g_o, p_i, p_r, p_l, p_z, c_V, c_I, c_L, c_R, x_out, z_fl_pi, z_fr_pi, z_ai_pi, z_al_pi, z_ar_pi, z_ln_pi, z_tg_pi, z_sz_pi, z_sl_pi, z_fi_pl, z_fr_pl, z_ai_pl, z_al_pl, z_ar_pl, z_ln_pl, z_tg_pl, z_sz_pl, z_sl_pl, z_fi_pr, z_fl_pr, z_ai_pr, z_al_pr, z_ar_pr, z_ln_pr, z_tg_pr, z_sz_pr, z_sl_pr, z_fi_qi, z_fl_qi, z_fr_qi, z_al_qi, z_ar_qi, z_ln_qi, z_tg_qi, z_sz_qi, z_sl_qi, z_fi_ql, z_fl_ql, z_fr_ql, z_ai_ql, z_ar_ql, z_ln_ql, z_tg_ql, z_sz_ql, z_sl_ql, z_fi_qr, z_fl_qr, z_fr_qr, z_ai_qr, z_al_qr, z_ln_qr, z_tg_qr, z_sz_qr, z_sl_qr, z_fi_ca, z_fl_ca, z_fr_ca, z_al_ca, z_ar_ca, z_ln_ca, z_tg_ca, z_sz_ca, z_sl_ca, y_pi, y_pl, y_pr, y_qi, y_ql, y_qr, y_ca]
      by_cases c0 : rgo (K r) 4 = 0
      · have c0' : nI (rgo (K r) 4) ≤ 0 := by rw [c0]; decide
        exact stay (pre _ (by simp [b104_58, b104_103, h1, h4, hn, ht, e3, c0', nI_1, g_i, g_r, g_l, g_o, p_i, p_r, p_l, p_z, c_V, c_I, c_L, c_R, x_out, z_fl_pi, z_fr_pi, z_ai_pi, z_al_pi, z_ar_pi, z_ln_pi, z_tg_pi, z_sz_pi, z_sl_pi, z_fi_pl, z_fr_pl, z_ai_pl, z_al_pl, z_ar_pl, z_ln_pl, z_tg_pl, z_sz_pl, z_sl_pl, z_fi_pr, z_fl_pr, z_ai_pr, z_al_pr, z_ar_pr, z_ln_pr, z_tg_pr, z_sz_pr, z_sl_pr, z_fi_qi, z_fl_qi, z_fr_qi, z_al_qi, z_ar_qi, z_ln_qi, z_tg_qi, z_sz_qi, z_sl_qi, z_fi_ql, z_fl_ql, z_fr_ql, z_ai_ql, z_ar_ql, z_ln_ql, z_tg_ql, z_sz_ql, z_sl_ql, z_fi_qr, z_fl_qr, z_fr_qr, z_ai_qr, z_al_qr, z_ln_qr, z_tg_qr, z_sz_qr, z_sl_qr, z_fi_ca, z_fl_ca, z_fr_ca, z_al_ca, z_ar_ca, z_ln_ca, z_tg_ca, z_sz_ca, z_sl_ca, y_pi, y_pl, y_pr, y_qi, y_ql, y_qr, y_ca])) (fun e he hz y => hz (by rw [← y.2.2, c0]))
      · have c0' : ¬ nI (rgo (K r) 4) ≤ 0 := nI_nle (by omega) (by omega)
        by_cases c16 : 16 ≤ rgo (K r) 4
        · have c16' : nI 16 ≤ nI (rgo (K r) 4) := nI_le c16 (by omega)
          exact stay (pre _ (by simp [b104_58, b104_103, h1, h4, hn, ht, e3, c0', h9, hlh, c16', nI_1, g_i, g_r, g_l, g_o, p_i, p_r, p_l, p_z, c_V, c_I, c_L, c_R, x_out, z_fl_pi, z_fr_pi, z_ai_pi, z_al_pi, z_ar_pi, z_ln_pi, z_tg_pi, z_sz_pi, z_sl_pi, z_fi_pl, z_fr_pl, z_ai_pl, z_al_pl, z_ar_pl, z_ln_pl, z_tg_pl, z_sz_pl, z_sl_pl, z_fi_pr, z_fl_pr, z_ai_pr, z_al_pr, z_ar_pr, z_ln_pr, z_tg_pr, z_sz_pr, z_sl_pr, z_fi_qi, z_fl_qi, z_fr_qi, z_al_qi, z_ar_qi, z_ln_qi, z_tg_qi, z_sz_qi, z_sl_qi, z_fi_ql, z_fl_ql, z_fr_ql, z_ai_ql, z_ar_ql, z_ln_ql, z_tg_ql, z_sz_ql, z_sl_ql, z_fi_qr, z_fl_qr, z_fr_qr, z_ai_qr, z_al_qr, z_ln_qr, z_tg_qr, z_sz_qr, z_sl_qr, z_fi_ca, z_fl_ca, z_fr_ca, z_al_ca, z_ar_ca, z_ln_ca, z_tg_ca, z_sz_ca, z_sl_ca, y_pi, y_pl, y_pr, y_qi, y_ql, y_qr, y_ca])) (fun e he hz y => by omega)
        · have c16' : ¬ nI 16 ≤ nI (rgo (K r) 4) := nI_ge (by omega) (by omega)
          have hv : al_i M 20 (some (50 + s)) (nI (rgo (K r) 4)) = some (hoP sw K s (rgo (K r) 4) r) := by
            rw [al_i_t (hI.sa6 hs) (by rw [hI.sa7 hs]; omega) (by omega), hH _ (by omega), if_neg c0]
          by_cases ch : hoP sw K s (rgo (K r) 4) r = -1
          · have hw : as_i M 20 (some (50 + s)) (nI (rgo (K r) 4)) (nI r) = some (h_qi M (50 + s) (rgo (K r) 4) (nI r)) := as_i_t (hI.sa6 hs) (by rw [hI.sa7 hs]; omega) (by omega)
            have hb' := pre (some (.inr (26, [.inr (.inr (some (10 + s))), .inl (nI (r + 1))], h_qi M (50 + s) (rgo (K r) 4) (nI r)))) (by simp [b104_58, b104_103, h1, h4, hn, ht, e3, c0', h9, hlh, c16', hv, ch, hw, nI_1, g_i, g_r, g_l, g_o, p_i, p_r, p_l, p_z, c_V, c_I, c_L, c_R, x_out, z_fl_pi, z_fr_pi, z_ai_pi, z_al_pi, z_ar_pi, z_ln_pi, z_tg_pi, z_sz_pi, z_sl_pi, z_fi_pl, z_fr_pl, z_ai_pl, z_al_pl, z_ar_pl, z_ln_pl, z_tg_pl, z_sz_pl, z_sl_pl, z_fi_pr, z_fl_pr, z_ai_pr, z_al_pr, z_ar_pr, z_ln_pr, z_tg_pr, z_sz_pr, z_sl_pr, z_fi_qi, z_fl_qi, z_fr_qi, z_al_qi, z_ar_qi, z_ln_qi, z_tg_qi, z_sz_qi, z_sl_qi, z_fi_ql, z_fl_ql, z_fr_ql, z_ai_ql, z_ar_ql, z_ln_ql, z_tg_ql, z_sz_ql, z_sl_ql, z_fi_qr, z_fl_qr, z_fr_qr, z_ai_qr, z_al_qr, z_ln_qr, z_tg_qr, z_sz_qr, z_sl_qr, z_fi_ca, z_fl_ca, z_fr_ca, z_al_ca, z_ar_ca, z_ln_ca, z_tg_ca, z_sz_ca, z_sl_ca, y_pi, y_pl, y_pr, y_qi, y_ql, y_qr, y_ca])
            have ao : aiO (fun x => x = 50 + s) M (h_qi M (50 + s) (rgo (K r) 4) (nI r)) := aiO_q rfl
            have hW' : wyA (h_qi M (50 + s) (rgo (K r) 4) (nI r)) sw s K := fun t ht => by
              rw [ao.2.2 _ (by omega)]; exact hW t ht
            obtain ⟨M', j1, j2, j3⟩ := k104_26 hs d (r + 1) _ g (ao.I hI) (hN.ao ao (fun x q => by omega)) hW' (by omega) (by omega) (fun e he => by
              by_cases z : e = rgo (K r) 4
              · subst z
                rw [qi_eq, if_neg c0]
                show _ = if hoP sw K s (rgo (K r) 4) r = -1 ∧ (r = s ∨ wyK sw K s r ≠ -1) ∧ rgo (K r) 4 = rgo (K r) 4 then nI r else hoP sw K s (rgo (K r) 4) r
                rw [if_pos ⟨ch, cr, rfl⟩]
              · rw [qi_ne z, hH e he]
                exact keepH e he (Or.inl (fun y => z y.2.2.symm)))
            exact ⟨M', by rw [dr_go hb']; exact j1, ao.tr j2 (fun _ q => q), j3⟩
          · exact stay (pre _ (by simp [b104_58, b104_103, h1, h4, hn, ht, e3, c0', h9, hlh, c16', hv, ch, nI_1, g_i, g_r, g_l, g_o, p_i, p_r, p_l, p_z, c_V, c_I, c_L, c_R, x_out, z_fl_pi, z_fr_pi, z_ai_pi, z_al_pi, z_ar_pi, z_ln_pi, z_tg_pi, z_sz_pi, z_sl_pi, z_fi_pl, z_fr_pl, z_ai_pl, z_al_pl, z_ar_pl, z_ln_pl, z_tg_pl, z_sz_pl, z_sl_pl, z_fi_pr, z_fl_pr, z_ai_pr, z_al_pr, z_ar_pr, z_ln_pr, z_tg_pr, z_sz_pr, z_sl_pr, z_fi_qi, z_fl_qi, z_fr_qi, z_al_qi, z_ar_qi, z_ln_qi, z_tg_qi, z_sz_qi, z_sl_qi, z_fi_ql, z_fl_ql, z_fr_ql, z_ai_ql, z_ar_ql, z_ln_ql, z_tg_ql, z_sz_ql, z_sl_ql, z_fi_qr, z_fl_qr, z_fr_qr, z_ai_qr, z_al_qr, z_ln_qr, z_tg_qr, z_sz_qr, z_sl_qr, z_fi_ca, z_fl_ca, z_fr_ca, z_al_ca, z_ar_ca, z_ln_ca, z_tg_ca, z_sz_ca, z_sl_ca, y_pi, y_pl, y_pr, y_qi, y_ql, y_qr, y_ca])) (fun e he hz y => ch (by rw [y.2.2]; exact y.1))
    · have z : ¬ r = s := fun q => cr (Or.inl q)
      have z' : ¬ nI r = nI s := fun q => z ((nI_eq (by omega) (by omega)).mp q)
      have y : wyK sw K s r = -1 := by
        by_cases q : wyK sw K s r = -1
        · exact q
        · exact absurd (Or.inr q) cr
      exact stay (by simp [k104, b104_26, b104_58, b104_103, h1, h4, hl, c, h11, z', h8, hwv, y, hn, ht, e3, nI_1, g_i, g_r, g_l, g_o, p_i, p_r, p_l, p_z, c_V, c_I, c_L, c_R, x_out, z_fl_pi, z_fr_pi, z_ai_pi, z_al_pi, z_ar_pi, z_ln_pi, z_tg_pi, z_sz_pi, z_sl_pi, z_fi_pl, z_fr_pl, z_ai_pl, z_al_pl, z_ar_pl, z_ln_pl, z_tg_pl, z_sz_pl, z_sl_pl, z_fi_pr, z_fl_pr, z_ai_pr, z_al_pr, z_ar_pr, z_ln_pr, z_tg_pr, z_sz_pr, z_sl_pr, z_fi_qi, z_fl_qi, z_fr_qi, z_al_qi, z_ar_qi, z_ln_qi, z_tg_qi, z_sz_qi, z_sl_qi, z_fi_ql, z_fl_ql, z_fr_ql, z_ai_ql, z_ar_ql, z_ln_ql, z_tg_ql, z_sz_ql, z_sl_ql, z_fi_qr, z_fl_qr, z_fr_qr, z_ai_qr, z_al_qr, z_ln_qr, z_tg_qr, z_sz_qr, z_sl_qr, z_fi_ca, z_fl_ca, z_fr_ca, z_al_ca, z_ar_ca, z_ln_ca, z_tg_ca, z_sz_ca, z_sl_ca, y_pi, y_pl, y_pr, y_qi, y_ql, y_qr, y_ca]) (fun e he hz q => cr q.2.1)
/-- noteHolders -/
theorem f104_eq (hI : cI sw nd rm M) (hs : s < sw) (hN : ntS M sw s K) (hW : wyA M sw s K) : ∃ M', f104 [.inr (.inr (some (10 + s)))] M = some (none, M') ∧ aiO (fun x => x = 50 + s) M M' ∧ hoA M' sw s K := by
  have hsw := hI.bs.1.2
  obtain ⟨M1, i1, i2, i3, i4⟩ := k104_2 hs 16 0 M xF hI (by omega) (by unfold xF; omega)
  obtain ⟨M2, j1, j2, j3⟩ := k104_26 hs sw 0 M1 (xF - 17) (i2.I hI) (hN.ao i2 (fun x q => by omega)) (fun t ht => by rw [i2.2.2 _ (by omega)]; exact hW t ht) (by omega) (by unfold xF; omega) (fun e he => by
    rw [i3 e (by omega) he]
    split <;> rfl)
  refine ⟨M2, ?_, i2.tr j2 (fun _ q => q), j3⟩
  show drive k104 xF 2 [.inr (.inr (some (10 + s))), .inl (nI 0)] M = _
  rw [i1]
  exact j1
/-- isOn -/
theorem f106_eq (hI : cI sw nd rm M) (hs : s < sw) (hN : ntS M sw s K) (hH : hoA M sw s K) {r : Nat} (hr : r < sw) : f106 [.inr (.inr (some (10 + s))), .inl (nI r)] M = some (some (.inl (b2 (if 16 ≤ rgo (K r) 4 then false else decide (hoK sw K s (rgo (K r) 4) = nI r)))), M) := by
  have h1 := hI.si0 hs
  have h4 := hI.si4 hs
  have h9 := hI.si8 hs
  have hlh := ln_h hI hs
  have hsw := hI.bs.1.2
  obtain ⟨na, n1, n2, n3, n4⟩ := hN r hr
  have hn := not_a hI hs hr n1
  have ht := n4.1.1
  have e3 := f103_eq n4
  have hd := rgo_lt (i := 4) n4
  by_cases c16 : 16 ≤ rgo (K r) 4
  · have c16' : nI 16 ≤ nI (rgo (K r) 4) := nI_le c16 (by omega)
    simp [f106, b106_0, b106_33, b106_34, h1, h4, hn, ht, e3, h9, hlh, c16', c16, b2, g_i, g_r, g_l, g_o, p_i, p_r, p_l, p_z, c_V, c_I, c_L, c_R, x_out, z_fl_pi, z_fr_pi, z_ai_pi, z_al_pi, z_ar_pi, z_ln_pi, z_tg_pi, z_sz_pi, z_sl_pi, z_fi_pl, z_fr_pl, z_ai_pl, z_al_pl, z_ar_pl, z_ln_pl, z_tg_pl, z_sz_pl, z_sl_pl, z_fi_pr, z_fl_pr, z_ai_pr, z_al_pr, z_ar_pr, z_ln_pr, z_tg_pr, z_sz_pr, z_sl_pr, z_fi_qi, z_fl_qi, z_fr_qi, z_al_qi, z_ar_qi, z_ln_qi, z_tg_qi, z_sz_qi, z_sl_qi, z_fi_ql, z_fl_ql, z_fr_ql, z_ai_ql, z_ar_ql, z_ln_ql, z_tg_ql, z_sz_ql, z_sl_ql, z_fi_qr, z_fl_qr, z_fr_qr, z_ai_qr, z_al_qr, z_ln_qr, z_tg_qr, z_sz_qr, z_sl_qr, z_fi_ca, z_fl_ca, z_fr_ca, z_al_ca, z_ar_ca, z_ln_ca, z_tg_ca, z_sz_ca, z_sl_ca, y_pi, y_pl, y_pr, y_qi, y_ql, y_qr, y_ca]
  · have c16' : ¬ nI 16 ≤ nI (rgo (K r) 4) := nI_ge (by omega) (by omega)
    have hv : al_i M 20 (some (50 + s)) (nI (rgo (K r) 4)) = some (hoK sw K s (rgo (K r) 4)) := by
      rw [al_i_t (hI.sa6 hs) (by rw [hI.sa7 hs]; omega) (by omega), hH _ (by omega)]
    by_cases z : hoK sw K s (rgo (K r) 4) = nI r
    · simp [f106, b106_0, b106_33, b106_34, h1, h4, hn, ht, e3, h9, hlh, c16', c16, hv, z, b2, g_i, g_r, g_l, g_o, p_i, p_r, p_l, p_z, c_V, c_I, c_L, c_R, x_out, z_fl_pi, z_fr_pi, z_ai_pi, z_al_pi, z_ar_pi, z_ln_pi, z_tg_pi, z_sz_pi, z_sl_pi, z_fi_pl, z_fr_pl, z_ai_pl, z_al_pl, z_ar_pl, z_ln_pl, z_tg_pl, z_sz_pl, z_sl_pl, z_fi_pr, z_fl_pr, z_ai_pr, z_al_pr, z_ar_pr, z_ln_pr, z_tg_pr, z_sz_pr, z_sl_pr, z_fi_qi, z_fl_qi, z_fr_qi, z_al_qi, z_ar_qi, z_ln_qi, z_tg_qi, z_sz_qi, z_sl_qi, z_fi_ql, z_fl_ql, z_fr_ql, z_ai_ql, z_ar_ql, z_ln_ql, z_tg_ql, z_sz_ql, z_sl_ql, z_fi_qr, z_fl_qr, z_fr_qr, z_ai_qr, z_al_qr, z_ln_qr, z_tg_qr, z_sz_qr, z_sl_qr, z_fi_ca, z_fl_ca, z_fr_ca, z_al_ca, z_ar_ca, z_ln_ca, z_tg_ca, z_sz_ca, z_sl_ca, y_pi, y_pl, y_pr, y_qi, y_ql, y_qr, y_ca]
    · simp [f106, b106_0, b106_33, b106_34, h1, h4, hn, ht, e3, h9, hlh, c16', c16, hv, z, b2, g_i, g_r, g_l, g_o, p_i, p_r, p_l, p_z, c_V, c_I, c_L, c_R, x_out, z_fl_pi, z_fr_pi, z_ai_pi, z_al_pi, z_ar_pi, z_ln_pi, z_tg_pi, z_sz_pi, z_sl_pi, z_fi_pl, z_fr_pl, z_ai_pl, z_al_pl, z_ar_pl, z_ln_pl, z_tg_pl, z_sz_pl, z_sl_pl, z_fi_pr, z_fl_pr, z_ai_pr, z_al_pr, z_ar_pr, z_ln_pr, z_tg_pr, z_sz_pr, z_sl_pr, z_fi_qi, z_fl_qi, z_fr_qi, z_al_qi, z_ar_qi, z_ln_qi, z_tg_qi, z_sz_qi, z_sl_qi, z_fi_ql, z_fl_ql, z_fr_ql, z_ai_ql, z_ar_ql, z_ln_ql, z_tg_ql, z_sz_ql, z_sl_ql, z_fi_qr, z_fl_qr, z_fr_qr, z_ai_qr, z_al_qr, z_ln_qr, z_tg_qr, z_sz_qr, z_sl_qr, z_fi_ca, z_fl_ca, z_fr_ca, z_al_ca, z_ar_ca, z_ln_ca, z_tg_ca, z_sz_ca, z_sl_ca, y_pi, y_pl, y_pr, y_qi, y_ql, y_qr, y_ca]
/-- wayTo -/
theorem f132_eq (hI : cI sw nd rm M) (hs : s < sw) (hH : hoA M sw s K) (hW : wyA M sw s K) {e : Nat} (he : e < 256) : f132 [.inr (.inr (some (10 + s))), .inl (nI e)] M = some (some (.inl (if 16 ≤ e then -1 else if hoK sw K s e = -1 then -1 else wyK sw K s (hoK sw K s e).toNatClampNeg)), M) := by
  have h1 := hI.si0 hs
  have h8 := hI.si7 hs
  have h9 := hI.si8 hs
  have hlh := ln_h hI hs
  have hsw := hI.bs.1.2
  have c0 : ¬ nI e < 0 := nI_pos (by omega)
  by_cases c16 : 16 ≤ e
  · have c16' : nI 16 ≤ nI e := nI_le c16 (by omega)
    simp [f132, b132_0, b132_22, b132_23, b132_39, c0, h1, h9, hlh, c16', c16, g_i, g_r, g_l, g_o, p_i, p_r, p_l, p_z, c_V, c_I, c_L, c_R, x_out, z_fl_pi, z_fr_pi, z_ai_pi, z_al_pi, z_ar_pi, z_ln_pi, z_tg_pi, z_sz_pi, z_sl_pi, z_fi_pl, z_fr_pl, z_ai_pl, z_al_pl, z_ar_pl, z_ln_pl, z_tg_pl, z_sz_pl, z_sl_pl, z_fi_pr, z_fl_pr, z_ai_pr, z_al_pr, z_ar_pr, z_ln_pr, z_tg_pr, z_sz_pr, z_sl_pr, z_fi_qi, z_fl_qi, z_fr_qi, z_al_qi, z_ar_qi, z_ln_qi, z_tg_qi, z_sz_qi, z_sl_qi, z_fi_ql, z_fl_ql, z_fr_ql, z_ai_ql, z_ar_ql, z_ln_ql, z_tg_ql, z_sz_ql, z_sl_ql, z_fi_qr, z_fl_qr, z_fr_qr, z_ai_qr, z_al_qr, z_ln_qr, z_tg_qr, z_sz_qr, z_sl_qr, z_fi_ca, z_fl_ca, z_fr_ca, z_al_ca, z_ar_ca, z_ln_ca, z_tg_ca, z_sz_ca, z_sl_ca, y_pi, y_pl, y_pr, y_qi, y_ql, y_qr, y_ca]
  · have c16' : ¬ nI 16 ≤ nI e := nI_ge (by omega) (by omega)
    have hv : al_i M 20 (some (50 + s)) (nI e) = some (hoK sw K s e) := by
      rw [al_i_t (hI.sa6 hs) (by rw [hI.sa7 hs]; omega) (by omega), hH _ (by omega)]
    by_cases z : hoK sw K s e = -1
    · simp [f132, b132_0, b132_22, b132_23, b132_39, c0, h1, h9, hlh, c16', c16, hv, z, g_i, g_r, g_l, g_o, p_i, p_r, p_l, p_z, c_V, c_I, c_L, c_R, x_out, z_fl_pi, z_fr_pi, z_ai_pi, z_al_pi, z_ar_pi, z_ln_pi, z_tg_pi, z_sz_pi, z_sl_pi, z_fi_pl, z_fr_pl, z_ai_pl, z_al_pl, z_ar_pl, z_ln_pl, z_tg_pl, z_sz_pl, z_sl_pl, z_fi_pr, z_fl_pr, z_ai_pr, z_al_pr, z_ar_pr, z_ln_pr, z_tg_pr, z_sz_pr, z_sl_pr, z_fi_qi, z_fl_qi, z_fr_qi, z_al_qi, z_ar_qi, z_ln_qi, z_tg_qi, z_sz_qi, z_sl_qi, z_fi_ql, z_fl_ql, z_fr_ql, z_ai_ql, z_ar_ql, z_ln_ql, z_tg_ql, z_sz_ql, z_sl_ql, z_fi_qr, z_fl_qr, z_fr_qr, z_ai_qr, z_al_qr, z_ln_qr, z_tg_qr, z_sz_qr, z_sl_qr, z_fi_ca, z_fl_ca, z_fr_ca, z_al_ca, z_ar_ca, z_ln_ca, z_tg_ca, z_sz_ca, z_sl_ca, y_pi, y_pl, y_pr, y_qi, y_ql, y_qr, y_ca]
    · have : ∃ r, r < sw ∧ hoK sw K s e = nI r := by
        unfold hoK at z ⊢
        by_cases q : e = 0
        · rw [if_pos q] at z; exact absurd rfl z
        · rw [if_neg q] at z ⊢
          rcases hoP_rg (n := sw) (K := K) (s := s) (d := e) sw (by omega) with h | ⟨r, r1, r2, -⟩
          · exact absurd h z
          · exact ⟨r, r1, r2⟩
      obtain ⟨r, r1, r2⟩ := this
      rw [r2] at hv z
      have hwv : al_i M 20 (some (40 + s)) (nI r) = some (wyK sw K s r) := by
        rw [al_i_t (hI.sa4 hs) (by rw [hI.sa5 hs]; exact r1) (by omega), hW r r1]
      rw [r2, nI_clamp (by omega)]
      simp [f132, b132_0, b132_22, b132_23, b132_39, c0, h1, h9, hlh, c16', c16, hv, z, h8, hwv, g_i, g_r, g_l, g_o, p_i, p_r, p_l, p_z, c_V, c_I, c_L, c_R, x_out, z_fl_pi, z_fr_pi, z_ai_pi, z_al_pi, z_ar_pi, z_ln_pi, z_tg_pi, z_sz_pi, z_sl_pi, z_fi_pl, z_fr_pl, z_ai_pl, z_al_pl, z_ar_pl, z_ln_pl, z_tg_pl, z_sz_pl, z_sl_pl, z_fi_pr, z_fl_pr, z_ai_pr, z_al_pr, z_ar_pr, z_ln_pr, z_tg_pr, z_sz_pr, z_sl_pr, z_fi_qi, z_fl_qi, z_fr_qi, z_al_qi, z_ar_qi, z_ln_qi, z_tg_qi, z_sz_qi, z_sl_qi, z_fi_ql, z_fl_ql, z_fr_ql, z_ai_ql, z_ar_ql, z_ln_ql, z_tg_ql, z_sz_ql, z_sl_ql, z_fi_qr, z_fl_qr, z_fr_qr, z_ai_qr, z_al_qr, z_ln_qr, z_tg_qr, z_sz_qr, z_sl_qr, z_fi_ca, z_fl_ca, z_fr_ca, z_al_ca, z_ar_ca, z_ln_ca, z_tg_ca, z_sz_ca, z_sl_ca, y_pi, y_pl, y_pr, y_qi, y_ql, y_qr, y_ca]
end FW
