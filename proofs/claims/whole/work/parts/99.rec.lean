/-! ===== records in frames ===== -/
/-- the bytes of a record as a frame's load -/
def sbL (L : List Nat) : List Int32 := L.map (fun b => by8 (nI b).toInt64 0)
theorem sbL_len {L : List Nat} : (sbL L).length = L.length := List.length_map _
theorem bn_sb {L : List Nat} {i : Nat} (h : ∀ i, L.getD i 0 < 256) (hi : i < L.length) : bn (sbL L) i = L.getD i 0 := by
  unfold bn sbL
  rw [List.getD_eq_getElem?_getD, List.getElem?_map, List.getElem?_eq_getElem hi]
  have e : L.getD i 0 = L[i] := by rw [List.getD_eq_getElem?_getD, List.getElem?_eq_getElem hi]; rfl
  have hb := h i
  rw [e] at hb ⊢
  show (by8 (nI L[i]).toInt64 0 &&& 255).toNatClampNeg = L[i]
  rw [by8_n _ (by omega), nI_l (by omega), Nat.pow_zero, Nat.div_one]
  have : (lN L[i]).toBitVec.toNat = L[i] := by
    show (BitVec.ofNat 64 L[i]).toNat = L[i]
    rw [BitVec.toNat_ofNat]
    exact Nat.mod_eq_of_lt (by omega)
  rw [this, Nat.mod_eq_of_lt hb, nI_clamp (by omega)]
theorem sbL_snoc {L : List Nat} {b : Nat} : sbL (L ++ [b]) = sbL L ++ [by8 (nI b).toInt64 0] := by unfold sbL; rw [List.map_append]; rfl
theorem sbL_take {L : List Nat} {k : Nat} (hk : k < L.length) : sbL (L.take (k + 1)) = sbL (L.take k) ++ [by8 (nI (L.getD k 0)).toInt64 0] := by
  rw [List.take_succ_eq_append_getElem hk, sbL_snoc]
  have e : L.getD k 0 = L[k] := by rw [List.getD_eq_getElem?_getD, List.getElem?_eq_getElem hk]; rfl
  rw [e]
section RF
variable {tr : List Int32 → Bool} {sw nd rm : Nat} {M : hM} {ia : Nat → Nat → Int32} {ct : Nat → Int32} {zb sb : Nat} {fl : Nat → List (List Int32)} {hl : List (Nat × Int32 × List Int32)} {a na : Nat} {g : Int32} {X : List Int32} {L : List Nat}
/-- one byte more in a held frame -/
theorem FC_ap {v : Int32} (hF : FC tr sw nd M ia ct zb sb fl ((a, g, X) :: hl)) (hX : X.length < 48) : FC tr sw nd (h_pi (h_qi M (a + 1) X.length v) 201 a (nI (X.length + 1))) ia ct zb sb fl ((a, g, X ++ [v]) :: hl) := by
  obtain ⟨h1, h2, h3, h4, h5⟩ := hF.hok List.mem_cons_self
  have h3 : fcC M a = X := h3
  have h4 : h_fi M 201 a = nI X.length := h4
  have h2 : h_fi M 202 a = g := h2
  have hx : fbl M (a + 1) X.length = X := by rw [← fcC_z h4 (by omega)]; exact h3
  have kk : kp [201] [21] M (h_pi (h_qi M (a + 1) X.length v) 201 a (nI (X.length + 1))) := ((kp.rf hF.1.2.2 : kp [201] [21] M M).tr (k_hqi hF.1.2.2 h1.1.2.2.1 (by decide)) rfl rfl).tr (k_hpi (k_hqi hF.1.2.2 h1.1.2.2.1 (by decide)).1 (show h_tg M a ≠ 0 by rw [h1.1.1]; decide)) rfl rfl
  refine bo_con (N := h_qi M (a + 1) X.length v) (z := X.length + 1) hF qi_bo rfl (by omega) ?_ h2 kk.1
  apply List.ext_getElem?
  intro j
  by_cases hj : j < X.length
  · rw [fbl_get (by omega), List.getElem?_append_left hj, qi_ne (by omega), ← fbl_get (M := M) (b := a + 1) hj, hx]
  · by_cases q : j = X.length
    · subst q
      rw [fbl_get (by omega), qi_eq, List.getElem?_append_right (by omega), Nat.sub_self]
      rfl
    · rw [List.getElem?_eq_none (by rw [fbl_len]; omega), List.getElem?_eq_none (by rw [List.length_append]; simp; omega)]
/-- addLoadOf -/
theorem k120_loop (hL : nt1 M na (some L)) (hna : na + 40 < 1000) : ∀ d k N X fuel, FC tr sw nd N ia ct zb sb fl ((a, g, X) :: hl) → kp [201] [21] M N → (∀ x, x < 1000 → h_ai N x = h_ai M x) → k + d = L.length → X.length + d ≤ 44 → d < fuel → ∃ M', drive k120 fuel 2 [.inr (.inr (some a)), .inr (.inr (some na)), .inl (nI k)] N = some (none, M') ∧ FC tr sw nd M' ia ct zb sb fl ((a, g, X ++ sbL (L.drop k)) :: hl)
  | 0, k, N, X, fuel, hF, hk, hx, hd, hn, hf => by
    obtain ⟨f, rfl⟩ : ∃ f, fuel = f + 1 := ⟨fuel - 1, by omega⟩
    obtain ⟨h6, h7, h8, h9⟩ := hL.2
    have t7 : h_tg N na = 7 := hk.t0 hL.1.1
    have f1 : h_fi N 601 na = nI L.length := by rw [hk.fi (by decide)]; exact h6
    have c : nI L.length ≤ nI k := nI_le (by omega) (by omega)
    refine ⟨N, dr_end ?_, ?_⟩
    · simp [k120, b120_2, b120_50, t7, f1, c, g_i, g_r, g_l, g_o, p_i, p_r, p_l, p_z, c_V, c_I, c_L, c_R, x_out, z_fl_pi, z_fr_pi, z_ai_pi, z_al_pi, z_ar_pi, z_ln_pi, z_tg_pi, z_sz_pi, z_sl_pi, z_fi_pl, z_fr_pl, z_ai_pl, z_al_pl, z_ar_pl, z_ln_pl, z_tg_pl, z_sz_pl, z_sl_pl, z_fi_pr, z_fl_pr, z_ai_pr, z_al_pr, z_ar_pr, z_ln_pr, z_tg_pr, z_sz_pr, z_sl_pr, z_fi_qi, z_fl_qi, z_fr_qi, z_al_qi, z_ar_qi, z_ln_qi, z_tg_qi, z_sz_qi, z_sl_qi, z_fi_ql, z_fl_ql, z_fr_ql, z_ai_ql, z_ar_ql, z_ln_ql, z_tg_ql, z_sz_ql, z_sl_ql, z_fi_qr, z_fl_qr, z_fr_qr, z_ai_qr, z_al_qr, z_ln_qr, z_tg_qr, z_sz_qr, z_sl_qr, z_fi_ca, z_fl_ca, z_fr_ca, z_al_ca, z_ar_ca, z_ln_ca, z_tg_ca, z_sz_ca, z_sl_ca, y_pi, y_pl, y_pr, y_qi, y_ql, y_qr, y_ca]
    · rw [List.drop_eq_nil_of_le (by omega)]
      show FC tr sw nd N ia ct zb sb fl ((a, g, X ++ []) :: hl)
      rw [List.append_nil]
      exact hF
  | d + 1, k, N, X, fuel, hF, hk, hx, hd, hn, hf => by
    obtain ⟨f, rfl⟩ : ∃ f, fuel = f + 1 := ⟨fuel - 1, by omega⟩
    obtain ⟨h6, h7, h8, h9⟩ := hL.2
    have t7 : h_tg N na = 7 := hk.t0 hL.1.1
    have hLN : nt1 N na (some L) := by
      obtain ⟨⟨a1, a2, a3, a4⟩, -⟩ := hL
      refine ⟨⟨t7, by rw [hk.fr (by decide)]; exact a2, hk.t0 a3, hk.l0 a4 a3⟩, by rw [hk.fi (by decide)]; exact h6, h7, h8, ?_⟩
      rw [hx (na + 40) hna]
      exact h9
    have f1 : h_fi N 601 na = nI L.length := hLN.2.1
    have c : ¬ nI L.length ≤ nI k := nI_ge (by omega) (by omega)
    obtain ⟨g1, g2, g3, g4, g5⟩ := hF.hok List.mem_cons_self
    have t3 : h_tg N a = 3 := g1.1.1
    have f200 : h_fr N 200 a = some (a + 1) := g1.1.2.1
    have f201 : h_fi N 201 a = nI X.length := g4
    have c44 : ¬ (44 : Int32) ≤ nI X.length := nI_ge (b := 44) (by omega) (by omega)
    have e96 : f96 [.inr (.inr (some na)), .inl (nI k)] N = some (some (.inl (nI (L.getD k 0))), N) := f96_eq hLN (by omega)
    have hw : as_b N 21 (some (a + 1)) (nI X.length) (Int32.toInt8 (nI (L.getD k 0))).toInt32 = some (h_qi N (a + 1) X.length (by8 (nI (L.getD k 0)).toInt64 0)) := by
      rw [as_b_t g1.1.2.2.1 (by rw [g1.1.2.2.2]; omega) (by omega), i8_i32, by8_i0]
    have hF' := FC_ap (v := by8 (nI (L.getD k 0)).toInt64 0) hF (by omega)
    have hb : k120 2 [.inr (.inr (some a)), .inr (.inr (some na)), .inl (nI k)] N = some (.inr (2, [.inr (.inr (some a)), .inr (.inr (some na)), .inl (nI (k + 1))], h_pi (h_qi N (a + 1) X.length (by8 (nI (L.getD k 0)).toInt64 0)) 201 a (nI (X.length + 1)))) := by
      show b120_2 a (some na) (nI k) N = _
      unfold b120_2
      have e1 : g_i N 6 1 (some na) = some (nI L.length) := (g_i_t (ci := 6) t7).trans (congrArg some f1)
      have e2 : g_i N 2 1 (some a) = some (nI X.length) := (g_i_t (ci := 2) t3).trans (congrArg some f201)
      have e3 : g_r N 2 0 (some a) = some (some (a + 1)) := (g_r_t (ci := 2) t3).trans (congrArg some f200)
      have e4 : g_o N 6 (some na) = some na := g_o_t (ci := 6) t7
      have e5 : g_i (h_qi N (a + 1) X.length (by8 (nI (L.getD k 0)).toInt64 0)) 2 1 (some a) = some (nI X.length) := (g_i_t (ci := 2) (show h_tg N a = 3 from t3)).trans (congrArg some f201)
      have e6 : p_i (h_qi N (a + 1) X.length (by8 (nI (L.getD k 0)).toInt64 0)) 2 1 (some a) (nI (X.length + 1)) = some (h_pi (h_qi N (a + 1) X.length (by8 (nI (L.getD k 0)).toInt64 0)) 201 a (nI (X.length + 1))) := p_i_t (M := h_qi N (a + 1) X.length (by8 (nI (L.getD k 0)).toInt64 0)) (ci := 2) t3
      rw [bd_s e1, if_neg c, bd_s e2, if_neg c44, bd_s e3, bd_s e2, bd_s e4, bd_s (c_I_of e96), bd_s hw, bd_s e5, nI_1, bd_s e6, nI_1]
    have kN : kp [201] [21] N (h_pi (h_qi N (a + 1) X.length (by8 (nI (L.getD k 0)).toInt64 0)) 201 a (nI (X.length + 1))) := ((kp.rf hF.1.2.2 : kp [201] [21] N N).tr (k_hqi hF.1.2.2 g1.1.2.2.1 (by decide)) rfl rfl).tr (k_hpi (k_hqi hF.1.2.2 g1.1.2.2.1 (by decide)).1 (show h_tg N a ≠ 0 by rw [t3]; decide)) rfl rfl
    have h1000 : 1000 ≤ a := g1.2.1
    obtain ⟨M', j1, j2⟩ := k120_loop hL hna d (k + 1) _ _ f hF' (hk.tt kN (fun _ q => q) (fun _ q => q)) (fun x q => by
      rw [← hx x q]
      exact funext fun i => u2_nk (by omega)) (by omega) (by rw [List.length_append]; simp; omega) (by omega)
    refine ⟨M', by rw [dr_go hb]; exact j1, ?_⟩
    have hkl : k < L.length := by omega
    have ed : sbL (L.drop k) = by8 (nI (L.getD k 0)).toInt64 0 :: sbL (L.drop (k + 1)) := by
      rw [List.drop_eq_getElem_cons hkl]
      have e : L.getD k 0 = L[k] := by rw [List.getD_eq_getElem?_getD, List.getElem?_eq_getElem hkl]; rfl
      rw [e]
      rfl
    rw [ed]
    rw [List.append_assoc] at j2
    exact j2
theorem FC_lof (hF : FC tr sw nd M ia ct zb sb fl ((a, g, X) :: hl)) (hL : nt1 M na (some L)) (hna : na + 40 < 1000) (hn : X.length + L.length ≤ 44) : ∃ M', f120 [.inr (.inr (some a)), .inr (.inr (some na))] M = some (none, M') ∧ FC tr sw nd M' ia ct zb sb fl ((a, g, X ++ sbL L) :: hl) := by
  have h31 := hL.2.2.2.1
  exact k120_loop hL hna L.length 0 M X xF hF (kp.rf hF.1.2.2) (fun _ _ => rfl) (by omega) (by omega) (by unfold xF; omega)
end RF
section RR
variable {S : sT} {fl : Nat → List (List Int32)} {hl : List (Nat × List Int32)} {s r f : Nat} {K : rK} {L : List Nat}
/-- recordFrame -/
theorem k202_loop (hs : s < 5) (hr : r < 5) (hL : K r = some L) (h31 : L.length ≤ 31) : ∀ d k S X fuel, FR S fl ((f, X) :: hl) → rkS S s K → k + d = L.length → X.length + d ≤ 80 → d < fuel → ∃ T, sdrive kS202 fuel 18 [.inl (nI s), .inl (nI r), .inl (nI f), .inl (nI k)] S = some (nI f, T) ∧ FR T fl ((f, X ++ sbL (L.drop k)) :: hl) ∧ ks [6, 7] S T
  | 0, k, S, X, fuel, hF, hK, hd, hn, hf => by
    obtain ⟨g, rfl⟩ : ∃ g, fuel = g + 1 := ⟨fuel - 1, by omega⟩
    have hh := hK r hr
    rw [hL] at hh
    have e30 : s_a S 30 (5 * nI s + nI r) = some (nI L.length) := by rw [ixl5, nI_add, ga30 (by omega), hh.2.1]
    have c : nI L.length ≤ nI k := nI_le (by omega) (by omega)
    refine ⟨S, sd_end ?_, ?_, ks.rf⟩
    · simp [kS202, c202_18, e30, c]
    · rw [List.drop_eq_nil_of_le (by omega)]
      show FR S fl ((f, X ++ []) :: hl)
      rw [List.append_nil]
      exact hF
  | d + 1, k, S, X, fuel, hF, hK, hd, hn, hf => by
    obtain ⟨g, rfl⟩ : ∃ g, fuel = g + 1 := ⟨fuel - 1, by omega⟩
    have hh := hK r hr
    rw [hL] at hh
    have e30 : s_a S 30 (5 * nI s + nI r) = some (nI L.length) := by rw [ixl5, nI_add, ga30 (by omega), hh.2.1]
    have c : ¬ nI L.length ≤ nI k := nI_ge (by omega) (by omega)
    have e190 := e190_eq (i := k) hs hr hK hL (by omega) h31
    obtain ⟨T1, t1, t2⟩ := FR_add (n := 1) (w := (nI (L.getD k 0)).toInt64) hF (by omega)
    have t1' : e167 (nI f) (nI (L.getD k 0)).toInt64 1 S = some T1 := t1
    have k1 := ke167 t1
    have hb : kS202 18 [.inl (nI s), .inl (nI r), .inl (nI f), .inl (nI k)] S = some (.inr (18, [.inl (nI s), .inl (nI r), .inl (nI f), .inl (nI (k + 1))], T1)) := by
      simp only [kS202, c202_18, e30, Option.bind_some, if_neg c, e190, t1', nI_1, if_true]
    obtain ⟨T, j1, j2, j3⟩ := k202_loop hs hr hL h31 d (k + 1) T1 _ g t2 (hK.ks k1 (by decide) (by decide) (by decide)) (by omega) (by rw [List.length_append, byL_len]; omega) (by omega)
    refine ⟨T, by rw [sd_go hb]; exact j1, ?_, k1.tt j3 (fun _ q => q)⟩
    have hkl : k < L.length := by omega
    have ed : sbL (L.drop k) = by8 (nI (L.getD k 0)).toInt64 0 :: sbL (L.drop (k + 1)) := by
      rw [List.drop_eq_getElem_cons hkl]
      have e : L.getD k 0 = L[k] := by rw [List.getD_eq_getElem?_getD, List.getElem?_eq_getElem hkl]; rfl
      rw [e]
      rfl
    rw [ed]
    rw [List.append_assoc] at j2
    exact j2
end RR
