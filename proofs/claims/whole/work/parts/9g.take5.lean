/-! ===== a record out of a frame ===== -/
/-- the load of a frame, as bytes -/
def ldN (X : List Int32) : List Nat := (List.range (X.length - 17)).map (fun i => bn X (13 + i))
theorem ld_len {X : List Int32} : (ldN X).length = X.length - 17 := by unfold ldN; rw [List.length_map, List.length_range]
theorem ld_get {X : List Int32} {i : Nat} (hi : i < X.length - 17) : (ldN X).getD i 0 = bn X (13 + i) := by
  unfold ldN
  rw [List.getD_eq_getElem?_getD, List.getElem?_map, List.getElem?_range hi]
  rfl
theorem ld_lt {X : List Int32} {i : Nat} : (ldN X).getD i 0 < 256 := by
  by_cases hi : i < X.length - 17
  · rw [ld_get hi]; exact bn_lt _ _
  · rw [List.getD_eq_getElem?_getD, List.getElem?_eq_none (by rw [ld_len]; omega)]; show 0 < 256; omega
theorem rnb_cg {sw : Nat} {X Y : List Int32} : ∀ p i last, (∀ j, i ≤ j → j < i + 3 * p → bn X j = bn Y j) → rnb sw X i last p = rnb sw Y i last p
  | 0, _, _, _ => rfl
  | p + 1, i, last, h => by
    unfold rnb
    rw [h i (by omega) (by omega), h (i + 1) (by omega) (by omega), h (i + 2) (by omega) (by omega), rnb_cg p (i + 3) _ (fun j h1 h2 => h j (by omega) (by omega))]
theorem rno_cg {nd : Nat} {X Y : List Int32} : ∀ q i last seen, (∀ j, i ≤ j → j < i + 2 * q → bn X j = bn Y j) → rno nd X i last seen q = rno nd Y i last seen q
  | 0, _, _, _, _ => rfl
  | q + 1, i, last, seen, h => by
    unfold rno
    rw [h i (by omega) (by omega), h (i + 1) (by omega) (by omega), rno_cg q (i + 2) _ _ (fun j h1 h2 => h j (by omega) (by omega))]
theorem rcF_cg {sw nd : Nat} {X Y : List Int32} (hl : X.length = Y.length) (hb : ∀ j, 13 ≤ j → j < X.length - 4 → bn X j = bn Y j) : rcF sw nd X = rcF sw nd Y := by
  unfold rcF
  rw [← hl]
  by_cases c1 : X.length < 24
  · rw [if_pos c1, if_pos c1]
  rw [if_neg c1, if_neg c1, ← hb 18 (by omega) (by omega)]
  by_cases c2 : X.length < 24 + 3 * bn X 18
  · rw [if_pos c2, if_pos c2]
  rw [if_neg c2, if_neg c2, ← hb (19 + 3 * bn X 18) (by omega) (by omega)]
  by_cases c3 : 24 + 3 * bn X 18 + 2 * bn X (19 + 3 * bn X 18) = X.length
  · have c3' : ¬ (24 + 3 * bn X 18 + 2 * bn X (19 + 3 * bn X 18) ≠ X.length) := fun q => q c3
    rw [if_neg c3', if_neg c3', ← hb 13 (by omega) (by omega), ← hb 17 (by omega) (by omega)]
    rw [rnb_cg (X := X) (Y := Y) _ _ _ (fun j h1 h2 => hb j (by omega) (by omega)), rno_cg (X := X) (Y := Y) _ _ _ _ (fun j h1 h2 => hb j (by omega) (by omega))]
  · rw [if_pos c3, if_pos c3]
/-- a TRUE record's load may be told on -/
theorem rOK_ld {sw nd : Nat} {X : List Int32} (h : rcF sw nd X = true) (h17 : 17 ≤ X.length) (h48 : X.length ≤ 48) : rOK sw nd (ldN X) := by
  refine ⟨?_, by rw [ld_len]; omega, fun i => ld_lt⟩
  rw [rcF_cg (Y := X)]
  · exact h
  · rw [clL_len, rec_len, ld_len]; omega
  · intro j h1 h2
    rw [clL_len, rec_len, ld_len] at h2
    obtain ⟨i, rfl⟩ : ∃ i, j = 13 + i := ⟨j - 13, by omega⟩
    rw [clL_get (by rw [rec_len, ld_len]; omega) (by omega), hd_T, bn_sb (fun i => ld_lt) (by rw [ld_len]; omega), ld_get (by omega)]
def isK (o : Option (List Nat)) : Int32 := ((nI (rgo o 1) <<< ((16 : Int32) &&& 31)) ||| (nI (rgo o 2) <<< ((8 : Int32) &&& 31))) ||| nI (rgo o 3)
theorem f118_eq {M : hM} {na : Nat} {o : Option (List Nat)} (h : nt1 M na o) : f118 [.inr (.inr (some na))] M = some (some (.inl (isK o)), M) := by
  have t7 := h.1.1
  have e1 : f96 [.inr (.inr (some na)), .inl 1] M = some (some (.inl (nI (rgo o 1))), M) := f96_eq (i := 1) h (by omega)
  have e2 : f96 [.inr (.inr (some na)), .inl 2] M = some (some (.inl (nI (rgo o 2))), M) := f96_eq (i := 2) h (by omega)
  have e3 : f96 [.inr (.inr (some na)), .inl 3] M = some (some (.inl (nI (rgo o 3))), M) := f96_eq (i := 3) h (by omega)
  show x_out (b118_0 na M) = _
  unfold b118_0
  rw [bd_s (g_o_t (ci := 6) t7), bd_s (c_I_of e1)]
  show x_out (Option.bind (g_o M 6 (some na)) _) = _
  rw [bd_s (g_o_t (ci := 6) t7), bd_s (c_I_of e2)]
  show x_out (Option.bind (g_o M 6 (some na)) _) = _
  rw [bd_s (g_o_t (ci := 6) t7), bd_s (c_I_of e3)]
  rfl
theorem e191_eq {S : sT} {s r : Nat} {K : rK} {L : List Nat} (hs : s < 5) (hr : r < 5) (h : rkS S s K) (hL : K r = some L) (h7 : 7 ≤ L.length) (h31 : L.length ≤ 31) : e191 (nI s) (nI r) S = some (isK (K r), S) := by
  have e1 : e190 (nI s) (nI r) 1 S = some (nI (L.getD 1 0), S) := e190_eq (i := 1) hs hr h hL (by omega) h31
  have e2 : e190 (nI s) (nI r) 2 S = some (nI (L.getD 2 0), S) := e190_eq (i := 2) hs hr h hL (by omega) h31
  have e3 : e190 (nI s) (nI r) 3 S = some (nI (L.getD 3 0), S) := e190_eq (i := 3) hs hr h hL (by omega) h31
  unfold isK
  rw [rgo_some hL, rgo_some hL, rgo_some hL]
  show s_out (c191_0 (nI s) (nI r) S) = _
  unfold c191_0
  rw [bd_s e1]
  show s_out (Option.bind (e190 (nI s) (nI r) 2 S) _) = _
  rw [bd_s e2]
  show s_out (Option.bind (e190 (nI s) (nI r) 3 S) _) = _
  rw [bd_s e3]
  rfl
/-- only a notice's own cells differ -/
def noO (na : Nat) (M N : hM) : Prop := (h_fl N = h_fl M ∧ h_fr N = h_fr M ∧ h_al N = h_al M ∧ h_ar N = h_ar M) ∧ (h_ln N = h_ln M ∧ h_tg N = h_tg M ∧ h_sz N = h_sz M ∧ h_sl N = h_sl M) ∧ (∀ k, k ≠ 601 → k ≠ 602 → h_fi N k = h_fi M k) ∧ (∀ a, a ≠ na → h_fi N 601 a = h_fi M 601 a ∧ h_fi N 602 a = h_fi M 602 a) ∧ ∀ a, a ≠ na + 40 → h_ai N a = h_ai M a
section NO
variable {na : Nat} {M N O : hM}
theorem noO.rf : noO na M M := ⟨⟨rfl, rfl, rfl, rfl⟩, ⟨rfl, rfl, rfl, rfl⟩, fun _ _ _ => rfl, fun _ _ => ⟨rfl, rfl⟩, fun _ _ => rfl⟩
theorem noO.tr (h : noO na M N) (g : noO na N O) : noO na M O := by
  obtain ⟨⟨a1, a2, a3, a4⟩, ⟨a5, a6, a7, a8⟩, a9, b1, b2⟩ := h
  obtain ⟨⟨c1, c2, c3, c4⟩, ⟨c5, c6, c7, c8⟩, c9, d1, d2⟩ := g
  exact ⟨⟨c1.trans a1, c2.trans a2, c3.trans a3, c4.trans a4⟩, ⟨c5.trans a5, c6.trans a6, c7.trans a7, c8.trans a8⟩, fun k p q => (c9 k p q).trans (a9 k p q), fun a q => ⟨(d1 a q).1.trans (b1 a q).1, (d1 a q).2.trans (b1 a q).2⟩, fun a q => (d2 a q).trans (b2 a q)⟩
theorem noO_1 {v : Int32} : noO na M (h_pi M 601 na v) := ⟨⟨rfl, rfl, rfl, rfl⟩, ⟨rfl, rfl, rfl, rfl⟩, fun k p _ => fi_ne p, fun a q => ⟨by rw [fi_eq, u1_ne q], by rw [fi_ne (by decide)]⟩, fun _ _ => rfl⟩
theorem noO_2 {v : Int32} : noO na M (h_pi M 602 na v) := ⟨⟨rfl, rfl, rfl, rfl⟩, ⟨rfl, rfl, rfl, rfl⟩, fun k _ q => fi_ne q, fun a q => ⟨by rw [fi_ne (by decide)], by rw [fi_eq, u1_ne q]⟩, fun _ _ => rfl⟩
theorem noO_q {i : Nat} {v : Int32} : noO na M (h_qi M (na + 40) i v) := ⟨⟨rfl, rfl, rfl, rfl⟩, ⟨rfl, rfl, rfl, rfl⟩, fun _ _ _ => rfl, fun _ _ => ⟨rfl, rfl⟩, fun a q => funext fun i => u2_nk q⟩
theorem noO.I {sw nd rm : Nat} (h : noO na M N) (g : cI sw nd rm M) : cI sw nd rm N := by
  obtain ⟨⟨a1, a2, a3, a4⟩, ⟨a5, a6, a7, a8⟩, a9, b1, b2⟩ := h
  unfold cI c_fab c_sh c_ar c_si c_sa c_sp c_ss c_no c_ho c_po c_nt
  rw [a2, a4, a5, a6, a9 900 (by decide) (by decide), a9 901 (by decide) (by decide), a9 902 (by decide) (by decide), a9 1001 (by decide) (by decide), a9 501 (by decide) (by decide), a9 801 (by decide) (by decide), a9 802 (by decide) (by decide)]
  exact g
theorem noO.bk (h : noO na M N) (hb : bk M) (ht : h_tg M na ≠ 0) (ht2 : h_tg M (na + 40) ≠ 0) : bk N := fun a ha => by
  obtain ⟨⟨a1, a2, a3, a4⟩, ⟨a5, a6, a7, a8⟩, a9, b1, b2⟩ := h
  rw [a7] at ha
  obtain ⟨c1, c2, c3, c4⟩ := hb a ha
  have n1 : a ≠ na := fun q => ht (q ▸ c1)
  have n2 : a ≠ na + 40 := fun q => ht2 (q ▸ c1)
  refine ⟨by rw [a6]; exact c1, by rw [a5]; exact c2, fun k => ⟨?_, by rw [a1]; exact (c3 k).2.1, by rw [a2]; exact (c3 k).2.2⟩, fun i => ⟨by rw [b2 a n2]; exact (c4 i).1, by rw [a3]; exact (c4 i).2.1, by rw [a4]; exact (c4 i).2.2⟩⟩
  by_cases q1 : k = 601
  · subst q1; rw [(b1 a n1).1]; exact (c3 601).1
  · by_cases q2 : k = 602
    · subst q2; rw [(b1 a n1).2]; exact (c3 602).1
    · rw [a9 k q1 q2]; exact (c3 k).1
theorem noO.rd {a : Nat} {X : List Int32} (h : noO na M N) (g : rd M a X) (ha : 1000 ≤ a) (hn : na + 40 < 1000) : rd N a X := by
  obtain ⟨⟨a1, a2, a3, a4⟩, ⟨a5, a6, a7, a8⟩, a9, b1, b2⟩ := h
  obtain ⟨⟨g1, g2, g3, g4⟩, g5, g6, g7⟩ := g
  refine ⟨⟨by rw [a6]; exact g1, by rw [a2]; exact g2, by rw [a6]; exact g3, by rw [a5]; exact g4⟩, by rw [a9 201 (by decide) (by decide)]; exact g5, g6, ?_⟩
  show (List.range X.length).map (fun i => h_ai N (a + 1) i) = X
  rw [b2 (a + 1) (by omega)]
  exact g7
theorem noO.nt {nb : Nat} {o : Option (List Nat)} (h : noO na M N) (g : nt1 M nb o) (hne : nb ≠ na) : nt1 N nb o := by
  obtain ⟨⟨a1, a2, a3, a4⟩, ⟨a5, a6, a7, a8⟩, a9, b1, b2⟩ := h
  obtain ⟨g1, g2⟩ := g
  unfold nt1
  rw [a6, a2, a5, (b1 nb hne).1, b2 (nb + 40) (by omega)]
  exact ⟨g1, g2⟩
/-- Notice.add -/
theorem f114_eq {k : Nat} {v : Nat} (h : h_tg M na = 7 ∧ h_fr M 600 na = some (na + 40) ∧ h_tg M (na + 40) = 21 ∧ h_ln M (na + 40) = 31) (hk : h_fi M 601 na = nI k) (h31 : k < 31) : f114 [.inr (.inr (some na)), .inl (nI v)] M = some (none, h_pi (h_qi M (na + 40) k (Int32.toInt8 (nI v)).toInt32) 601 na (nI (k + 1))) := by
  obtain ⟨h1, h2, h3, h4⟩ := h
  have el : a_ln M 21 (some (na + 40)) = some (nI 31) := by rw [a_ln_t h3, h4]
  have c : ¬ nI 31 ≤ nI k := nI_ge h31 (by omega)
  have hw : as_b M 21 (some (na + 40)) (nI k) (Int32.toInt8 (nI v)).toInt32 = some (h_qi M (na + 40) k (Int32.toInt8 (nI v)).toInt32) := by
    rw [as_b_t h3 (by rw [h4]; omega) (by omega), i8_i32]
  simp [f114, b114_0, b114_33, h1, hk, h2, el, c, hw, nI_1, g_i, g_r, g_l, g_o, p_i, p_r, p_l, p_z, c_V, c_I, c_L, c_R, x_out, z_fl_pi, z_fr_pi, z_ai_pi, z_al_pi, z_ar_pi, z_ln_pi, z_tg_pi, z_sz_pi, z_sl_pi, z_fi_pl, z_fr_pl, z_ai_pl, z_al_pl, z_ar_pl, z_ln_pl, z_tg_pl, z_sz_pl, z_sl_pl, z_fi_pr, z_fl_pr, z_ai_pr, z_al_pr, z_ar_pr, z_ln_pr, z_tg_pr, z_sz_pr, z_sl_pr, z_fi_qi, z_fl_qi, z_fr_qi, z_al_qi, z_ar_qi, z_ln_qi, z_tg_qi, z_sz_qi, z_sl_qi, z_fi_ql, z_fl_ql, z_fr_ql, z_ai_ql, z_ar_ql, z_ln_ql, z_tg_ql, z_sz_ql, z_sl_ql, z_fi_qr, z_fl_qr, z_fr_qr, z_ai_qr, z_al_qr, z_ln_qr, z_tg_qr, z_sz_qr, z_sl_qr, z_fi_ca, z_fl_ca, z_fr_ca, z_al_ca, z_ar_ca, z_ln_ca, z_tg_ca, z_sz_ca, z_sl_ca, y_pi, y_pl, y_pr, y_qi, y_ql, y_qr, y_ca]
end NO
