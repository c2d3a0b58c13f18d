/-! ===== new things in a heap ===== -/
section NW
variable {M N : hM} {ci n t : Nat}
/-- the same but for what lies in references, tags, lengths and sizes -/
theorem no_eq (hb : bk M) : bk (h_no M ci n) ∧ (h_fi (h_no M ci n) = h_fi M ∧ h_fl (h_no M ci n) = h_fl M ∧ h_fr (h_no M ci n) = h_fr M ∧ h_ai (h_no M ci n) = h_ai M ∧ h_al (h_no M ci n) = h_al M ∧ h_ar (h_no M ci n) = h_ar M) ∧ h_ln (h_no M ci n) = h_ln M ∧ h_tg (h_no M ci n) = u1 (h_tg M) (h_sz M) (ci + 1) ∧ h_sz (h_no M ci n) = h_sz M + 1 ∧ h_sl (h_no M ci n) = h_sl M + n := by
  have k := k_n_o (ci := ci) (n := n) (M := M) rfl hb
  refine ⟨k.1, ⟨funext fun j => (k.2.2.1 j (fun q => by cases q)).1, funext fun j => (k.2.2.1 j (fun q => by cases q)).2.1, funext fun j => (k.2.2.1 j (fun q => by cases q)).2.2, rfl, rfl, rfl⟩, rfl, rfl, rfl, rfl⟩
theorem na_eq (hb : bk M) (hn : n ≤ 1000000) : n_a M t (nI n) = some (h_na M t n) ∧ bk (h_na M t n) ∧ (h_fi (h_na M t n) = h_fi M ∧ h_fl (h_na M t n) = h_fl M ∧ h_fr (h_na M t n) = h_fr M ∧ h_ai (h_na M t n) = h_ai M ∧ h_al (h_na M t n) = h_al M ∧ h_ar (h_na M t n) = h_ar M) ∧ h_ln (h_na M t n) = u1 (h_ln M) (h_sz M) n ∧ h_tg (h_na M t n) = u1 (h_tg M) (h_sz M) t ∧ h_sz (h_na M t n) = h_sz M + 1 ∧ h_sl (h_na M t n) = h_sl M + n := by
  have e : n_a M t (nI n) = some (h_na M t n) := by
    unfold n_a
    rw [nI_clamp (by omega), if_pos ⟨nI_pos (by omega), hn⟩]
  have k := k_n_a e hb
  obtain ⟨d1, d2, d3, d4⟩ := hb (h_sz M) (Nat.le_refl _)
  refine ⟨e, k.1, ⟨rfl, rfl, rfl, ?_, ?_, ?_⟩, rfl, rfl, rfl, rfl⟩
  · refine funext fun a => funext fun i => ?_
    show (if a = h_sz M then 0 else h_ai M a i) = _
    by_cases c : a = h_sz M
    · rw [if_pos c, c, (d4 i).1]
    · rw [if_neg c]
  · refine funext fun a => funext fun i => ?_
    show (if a = h_sz M then 0 else h_al M a i) = _
    by_cases c : a = h_sz M
    · rw [if_pos c, c, (d4 i).2.1]
    · rw [if_neg c]
  · refine funext fun a => funext fun i => ?_
    show (if a = h_sz M then none else h_ar M a i) = _
    by_cases c : a = h_sz M
    · rw [if_pos c, c, (d4 i).2.2]
    · rw [if_neg c]
/-- a reference set: all else is as it was -/
theorem pr_eq {k a : Nat} {v : Option Nat} (hb : bk M) (ht : h_tg M a ≠ 0) : bk (h_pr M k a v) ∧ (h_fi (h_pr M k a v) = h_fi M ∧ h_fl (h_pr M k a v) = h_fl M ∧ h_ai (h_pr M k a v) = h_ai M ∧ h_al (h_pr M k a v) = h_al M ∧ h_ar (h_pr M k a v) = h_ar M) ∧ (h_ln (h_pr M k a v) = h_ln M ∧ h_tg (h_pr M k a v) = h_tg M ∧ h_sz (h_pr M k a v) = h_sz M ∧ h_sl (h_pr M k a v) = h_sl M) ∧ h_fr (h_pr M k a v) = u2 (h_fr M) k a v := ⟨(k_hpr hb ht).1, ⟨rfl, rfl, rfl, rfl, rfl⟩, ⟨rfl, rfl, rfl, rfl⟩, rfl⟩
theorem qr_eq {a i : Nat} {v : Option Nat} (hb : bk M) (ht : h_tg M a ≠ 0) : bk (h_qr M a i v) ∧ (h_fi (h_qr M a i v) = h_fi M ∧ h_fl (h_qr M a i v) = h_fl M ∧ h_fr (h_qr M a i v) = h_fr M ∧ h_ai (h_qr M a i v) = h_ai M ∧ h_al (h_qr M a i v) = h_al M) ∧ (h_ln (h_qr M a i v) = h_ln M ∧ h_tg (h_qr M a i v) = h_tg M ∧ h_sz (h_qr M a i v) = h_sz M ∧ h_sl (h_qr M a i v) = h_sl M) ∧ h_ar (h_qr M a i v) = u2 (h_ar M) a i v := ⟨(k_hqr hb rfl ht).1, ⟨rfl, rfl, rfl, rfl, rfl⟩, ⟨rfl, rfl, rfl, rfl⟩, rfl⟩
end NW
/-! ===== a disc is made ===== -/
section DC
variable {sw nd rm : Nat} {M N : hM} {dk i n : Nat}
theorem k10_st (hb : bk N) (hs : h_sz N = dk + 4 + 2 * i) (hi : i < 6) (t37 : h_tg N (dk + 3) = 37) (l6 : h_ln N (dk + 3) = 6) (t2 : h_tg N dk = 2) (f105 : h_fr N 105 dk = some (dk + 3)) : ∃ N', k10 41 [.inr (.inr (some dk)), .inl (nI i)] N = some (.inr (41, [.inr (.inr (some dk)), .inl (nI (i + 1))], N')) ∧ bk N' ∧ (h_sz N' = dk + 4 + 2 * (i + 1) ∧ h_sl N' = h_sl N + 13) ∧ (h_fi N' = h_fi N ∧ h_al N' = h_al N ∧ h_ai N' = h_ai N) ∧ h_fr N' = u2 (h_fr N) 708 (dk + 4 + 2 * i) (some (dk + 5 + 2 * i)) ∧ h_tg N' = u1 (u1 (h_tg N) (dk + 4 + 2 * i) 8) (dk + 5 + 2 * i) 23 ∧ h_ln N' = u1 (h_ln N) (dk + 5 + 2 * i) 4 ∧ h_ar N' = u2 (h_ar N) (dk + 3) i (some (dk + 4 + 2 * i)) := by
  obtain ⟨a1, ⟨a2, a3, a4, a5, a6, a7⟩, a8, a9, a10, a11⟩ := no_eq (ci := 7) (n := 9) hb
  have e0 : k10 41 [.inr (.inr (some dk)), .inl (nI i)] N = b10_41 dk (nI i) N := rfl
  rw [e0]
  unfold b10_41
  rw [if_neg (show ¬ (6 : Int32) ≤ nI i from nI_ge (b := 6) hi (by omega)), bd_s ((g_r_t (ci := 1) t2).trans (congrArg some f105)), bd_s (show n_o N 7 9 = some (h_no N 7 9) from rfl)]
  generalize h_no N 7 9 = A at *
  rw [hs] at a9 a10 ⊢
  obtain ⟨b0, b1, ⟨b2, b3, b4, b5, b6, b7⟩, b8, b9, b10, b11⟩ := na_eq (M := A) (t := 23) (n := 4) a1 (by omega)
  have tA : h_tg A (dk + 4 + 2 * i) = 8 := by rw [a9, u1_eq]
  have ev : f9 [.inr (.inr (some (dk + 4 + 2 * i)))] A = some (none, h_pr (h_na A 23 4) 708 (dk + 4 + 2 * i) (some (h_sz A))) := by
    show x_out (b9_0 (dk + 4 + 2 * i) A) = _
    unfold b9_0
    rw [bd_s (show n_a A 23 (4 : Int32) = some (h_na A 23 4) from b0), bd_s (p_r_t (ci := 7) (by rw [b9, u1_ne (by omega)]; exact tA))]
    rfl
  rw [bd_s (c_V_of ev)]
  have hszA : h_sz A = dk + 5 + 2 * i := by omega
  rw [hszA] at b8 b9 b10 ⊢
  have tB : h_tg (h_na A 23 4) (dk + 4 + 2 * i) ≠ 0 := by rw [b9, u1_ne (by omega), tA]; decide
  obtain ⟨c1, ⟨c2, c3, c4, c5, c6⟩, ⟨c7, c8, c9, c10⟩, c11⟩ := pr_eq (k := 708) (a := dk + 4 + 2 * i) (v := some (dk + 5 + 2 * i)) b1 tB
  generalize h_pr (h_na A 23 4) 708 (dk + 4 + 2 * i) (some (dk + 5 + 2 * i)) = C at *
  have tC : h_tg C (dk + 3) = 37 := by rw [c8, b9, u1_ne (by omega), a9, u1_ne (by omega)]; exact t37
  have lC : h_ln C (dk + 3) = 6 := by rw [c7, b8, u1_ne (by omega), a8]; exact l6
  rw [bd_s (as_r_t (ci := 7) tC (by rw [lC]; exact hi) (by omega) (show h_tg C (dk + 4 + 2 * i) = 8 by rw [c8, b9, u1_ne (by omega)]; exact tA)), nI_1]
  obtain ⟨d1, ⟨d2, d3, d4, d5, d6⟩, ⟨d7, d8, d9, d10⟩, d11⟩ := qr_eq (a := dk + 3) (i := i) (v := some (dk + 4 + 2 * i)) c1 (by rw [tC]; decide)
  refine ⟨_, rfl, d1, ⟨?_, ?_⟩, ⟨?_, ?_, ?_⟩, ?_, ?_, ?_, ?_⟩
  · rw [d9, c9, b10]; omega
  · rw [d10, c10, b11, a11]
  · rw [d2, c2, b2, a2]
  · rw [d6, c5, b6, a6]
  · rw [d5, c4, b5, a5]
  · rw [d4, c11, b4, a4]
  · rw [d8, c8, b9, a9]
  · rw [d7, c7, b8, a8]
  · rw [d11, c6, b7, a7]
/-- the writes made so far -/
def owc (N : hM) (dk i : Nat) : Prop := ∀ k, k < i → h_ar N (dk + 3) k = some (dk + 4 + 2 * k) ∧ h_tg N (dk + 4 + 2 * k) = 8 ∧ h_fr N 708 (dk + 4 + 2 * k) = some (dk + 5 + 2 * k) ∧ h_tg N (dk + 5 + 2 * k) = 23 ∧ h_ln N (dk + 5 + 2 * k) = 4
def dk0 (N : hM) (n dk : Nat) : Prop := (h_tg N dk = 2 ∧ h_fr N 100 dk = some 2 ∧ h_fr N 101 dk = some (140 + n) ∧ h_fr N 102 dk = some (dk + 1) ∧ h_fr N 103 dk = some (dk + 2) ∧ h_fr N 105 dk = some (dk + 3)) ∧ (h_tg N (dk + 1) = 23 ∧ h_ln N (dk + 1) = 32 ∧ h_tg N (dk + 2) = 20 ∧ h_ln N (dk + 2) = 8 ∧ h_tg N (dk + 3) = 37 ∧ h_ln N (dk + 3) = 6)
theorem k10_lp : ∀ d i N fuel, i + d = 6 → d < fuel → bk N → h_sz N = dk + 4 + 2 * i → dk0 N n dk → owc N dk i → ∃ N', drive k10 fuel 41 [.inr (.inr (some dk)), .inl (nI i)] N = some (none, N') ∧ bk N' ∧ (h_sz N' = dk + 16 ∧ h_sl N' = h_sl N + 13 * d) ∧ (h_fi N' = h_fi N ∧ h_al N' = h_al N ∧ h_ai N' = h_ai N) ∧ (∀ k a, a < dk → h_fr N' k a = h_fr N k a ∧ h_ar N' a = h_ar N a) ∧ dk0 N' n dk ∧ owc N' dk 6
  | 0, i, N, fuel, hi, hf, hb, hs, h0, h1 => by
    obtain ⟨f, rfl⟩ : ∃ f, fuel = f + 1 := ⟨fuel - 1, by omega⟩
    have : i = 6 := by omega
    subst this
    refine ⟨N, dr_end ?_, hb, ⟨by omega, by omega⟩, ⟨rfl, rfl, rfl⟩, fun _ _ _ => ⟨rfl, rfl⟩, h0, h1⟩
    show b10_41 dk (nI 6) N = _
    unfold b10_41
    rw [if_pos (show (6 : Int32) ≤ nI 6 by decide)]
  | d + 1, i, N, fuel, hi, hf, hb, hs, h0, h1 => by
    obtain ⟨f, rfl⟩ : ∃ f, fuel = f + 1 := ⟨fuel - 1, by omega⟩
    obtain ⟨⟨q1, q2, q3, q4, q5, q6⟩, q7, q8, q9, q10, q11, q12⟩ := h0
    obtain ⟨N1, a1, a2, ⟨a3, a4⟩, ⟨a5, a6, a7⟩, a8, a9, a10, a11⟩ := k10_st hb hs (by omega) q11 q12 q1 q6
    have tg : ∀ a, a < dk + 4 + 2 * i → h_tg N1 a = h_tg N a := fun a ha => by rw [a9, u1_ne (by omega), u1_ne (by omega)]
    have ln : ∀ a, a < dk + 4 + 2 * i → h_ln N1 a = h_ln N a := fun a ha => by rw [a10, u1_ne (by omega)]
    have fr : ∀ k a, a < dk + 4 + 2 * i → h_fr N1 k a = h_fr N k a := fun k a ha => by rw [a8]; exact u2_ne (by omega)
    have h0' : dk0 N1 n dk := by
      refine ⟨⟨?_, ?_, ?_, ?_, ?_, ?_⟩, ?_, ?_, ?_, ?_, ?_, ?_⟩
      · rw [tg _ (by omega)]; exact q1
      · rw [fr _ _ (by omega)]; exact q2
      · rw [fr _ _ (by omega)]; exact q3
      · rw [fr _ _ (by omega)]; exact q4
      · rw [fr _ _ (by omega)]; exact q5
      · rw [fr _ _ (by omega)]; exact q6
      · rw [tg _ (by omega)]; exact q7
      · rw [ln _ (by omega)]; exact q8
      · rw [tg _ (by omega)]; exact q9
      · rw [ln _ (by omega)]; exact q10
      · rw [tg _ (by omega)]; exact q11
      · rw [ln _ (by omega)]; exact q12
    have h1' : owc N1 dk (i + 1) := fun k hk => by
      by_cases e : k = i
      · subst e
        refine ⟨by rw [a11]; exact u2_eq, by rw [a9, u1_ne (by omega), u1_eq], by rw [a8]; exact u2_eq, by rw [a9, u1_eq], by rw [a10, u1_eq]⟩
      · obtain ⟨y1, y2, y3, y4, y5⟩ := h1 k (by omega)
        refine ⟨?_, by rw [tg _ (by omega)]; exact y2, by rw [fr _ _ (by omega)]; exact y3, by rw [tg _ (by omega)]; exact y4, by rw [ln _ (by omega)]; exact y5⟩
        rw [a11]
        exact (u2_ne e).trans y1
    obtain ⟨N2, b1, b2, ⟨b3, b4⟩, ⟨b5, b6, b7⟩, b8, b9, b10⟩ := k10_lp d (i + 1) N1 f (by omega) (by omega) a2 a3 h0' h1'
    refine ⟨N2, ?_, b2, ⟨b3, by omega⟩, ⟨b5.trans a5, b6.trans a6, b7.trans a7⟩, fun k a ha => ⟨(b8 k a ha).1.trans (fr k a (by omega)), (b8 k a ha).2.trans (by rw [a11]; exact funext fun j => u2_nk (by omega))⟩, b9, b10⟩
    rw [dr_go a1]; exact b1
theorem f10_eq (hb : bk N) (hs : h_sz N = dk + 1) (t2 : h_tg N dk = 2) : ∃ N', f10 [.inr (.inr (some dk)), .inr (.inr (some 2)), .inr (.inr (some (140 + n)))] N = some (none, N') ∧ bk N' ∧ (h_sz N' = dk + 16 ∧ h_sl N' = h_sl N + 124) ∧ (h_fi N' = h_fi N ∧ h_al N' = h_al N ∧ h_ai N' = h_ai N) ∧ (∀ k a, a < dk → h_fr N' k a = h_fr N k a ∧ h_ar N' a = h_ar N a) ∧ dk0 N' n dk ∧ owc N' dk 6 := by
  have fd : f10 [.inr (.inr (some dk)), .inr (.inr (some 2)), .inr (.inr (some (140 + n)))] N = x_go k10 (b10_0 dk (some 2) (some (140 + n)) N) := rfl
  rw [fd]
  unfold b10_0
  obtain ⟨a0, a1, ⟨a2, a3, a4, a5, a6, a7⟩, a8, a9, a10, a11⟩ := na_eq (M := N) (t := 23) (n := 32) hb (by omega)
  rw [bd_s (show n_a N 23 (32 : Int32) = some (h_na N 23 32) from a0), hs]
  rw [hs] at a8 a9 a10
  generalize h_na N 23 32 = A at *
  have tA : h_tg A dk = 2 := by rw [a9, u1_ne (by omega)]; exact t2
  obtain ⟨b1, ⟨b2, b3, b5, b6, b7⟩, ⟨b8, b9, b10, b11⟩, b4⟩ := pr_eq (k := 102) (a := dk) (v := some (dk + 1)) a1 (by rw [tA]; decide)
  rw [bd_s (show p_r A 1 2 (some dk) (some (dk + 1)) = some (h_pr A 102 dk (some (dk + 1))) from p_r_t (ci := 1) tA)]
  generalize h_pr A 102 dk (some (dk + 1)) = B at *
  have tB : h_tg B dk = 2 := by rw [b9]; exact tA
  obtain ⟨c0, c1, ⟨c2, c3, c4, c5, c6, c7⟩, c8, c9, c10, c11⟩ := na_eq (M := B) (t := 20) (n := 8) b1 (by omega)
  have sB : h_sz B = dk + 2 := by omega
  rw [bd_s (show n_a B 20 (8 : Int32) = some (h_na B 20 8) from c0), sB]
  rw [sB] at c8 c9 c10
  generalize h_na B 20 8 = C at *
  have tC : h_tg C dk = 2 := by rw [c9, u1_ne (by omega)]; exact tB
  obtain ⟨d1, ⟨d2, d3, d5, d6, d7⟩, ⟨d8, d9, d10, d11⟩, d4⟩ := pr_eq (k := 103) (a := dk) (v := some (dk + 2)) c1 (by rw [tC]; decide)
  rw [bd_s (show p_r C 1 3 (some dk) (some (dk + 2)) = some (h_pr C 103 dk (some (dk + 2))) from p_r_t (ci := 1) tC)]
  generalize h_pr C 103 dk (some (dk + 2)) = D at *
  have tD : h_tg D dk = 2 := by rw [d9]; exact tC
  obtain ⟨e0, e1, ⟨e2, e3, e4, e5, e6, e7⟩, e8, e9, e10, e11⟩ := na_eq (M := D) (t := 37) (n := 6) d1 (by omega)
  have sD : h_sz D = dk + 3 := by omega
  rw [bd_s (show n_a D 37 (6 : Int32) = some (h_na D 37 6) from e0), sD]
  rw [sD] at e8 e9 e10
  generalize h_na D 37 6 = E at *
  have tE : h_tg E dk = 2 := by rw [e9, u1_ne (by omega)]; exact tD
  obtain ⟨g1, ⟨g2, g3, g5, g6, g7⟩, ⟨g8, g9, g10, g11⟩, g4⟩ := pr_eq (k := 105) (a := dk) (v := some (dk + 3)) e1 (by rw [tE]; decide)
  rw [bd_s (show p_r E 1 5 (some dk) (some (dk + 3)) = some (h_pr E 105 dk (some (dk + 3))) from p_r_t (ci := 1) tE)]
  generalize h_pr E 105 dk (some (dk + 3)) = F at *
  have tF : h_tg F dk = 2 := by rw [g9]; exact tE
  obtain ⟨k1, ⟨k2, k3, k5, k6, k7⟩, ⟨k8, k9, k10', k11⟩, k4⟩ := pr_eq (k := 100) (a := dk) (v := some 2) g1 (by rw [tF]; decide)
  rw [bd_s (show p_r F 1 0 (some dk) (some 2) = some (h_pr F 100 dk (some 2)) from p_r_t (ci := 1) tF)]
  generalize h_pr F 100 dk (some 2) = K at *
  have tK : h_tg K dk = 2 := by rw [k9]; exact tF
  obtain ⟨l1, ⟨l2, l3, l5, l6, l7⟩, ⟨l8, l9, l10, l11⟩, l4⟩ := pr_eq (k := 101) (a := dk) (v := some (140 + n)) k1 (by rw [tK]; decide)
  rw [bd_s (show p_r K 1 1 (some dk) (some (140 + n)) = some (h_pr K 101 dk (some (140 + n))) from p_r_t (ci := 1) tK)]
  generalize h_pr K 101 dk (some (140 + n)) = L at *
  have frL : h_fr L = u2 (u2 (u2 (u2 (u2 (h_fr N) 102 dk (some (dk + 1))) 103 dk (some (dk + 2))) 105 dk (some (dk + 3))) 100 dk (some 2)) 101 dk (some (140 + n)) := by rw [l4, k4, g4, e4, d4, c4, b4, a4]
  have tgL : h_tg L = u1 (u1 (u1 (h_tg N) (dk + 1) 23) (dk + 2) 20) (dk + 3) 37 := by rw [l9, k9, g9, e9, d9, c9, b9, a9]
  have lnL : h_ln L = u1 (u1 (u1 (h_ln N) (dk + 1) 32) (dk + 2) 8) (dk + 3) 6 := by rw [l8, k8, g8, e8, d8, c8, b8, a8]
  have h0 : dk0 L n dk := by
    refine ⟨⟨?_, ?_, ?_, ?_, ?_, ?_⟩, ?_, ?_, ?_, ?_, ?_, ?_⟩
    · rw [l9]; exact tK
    · rw [frL, u2_nk (by decide), u2_eq]
    · rw [frL, u2_eq]
    · rw [frL, u2_nk (by decide), u2_nk (by decide), u2_nk (by decide), u2_nk (by decide), u2_eq]
    · rw [frL, u2_nk (by decide), u2_nk (by decide), u2_nk (by decide), u2_eq]
    · rw [frL, u2_nk (by decide), u2_nk (by decide), u2_eq]
    · rw [tgL, u1_ne (by omega), u1_ne (by omega), u1_eq]
    · rw [lnL, u1_ne (by omega), u1_ne (by omega), u1_eq]
    · rw [tgL, u1_ne (by omega), u1_eq]
    · rw [lnL, u1_ne (by omega), u1_eq]
    · rw [tgL, u1_eq]
    · rw [lnL, u1_eq]
  obtain ⟨X, x1, x2, ⟨x3, x4⟩, ⟨x5, x6, x7⟩, x8, x9, x10⟩ := k10_lp (dk := dk) (n := n) 6 0 L xF (by omega) (by unfold xF; omega) l1 (by omega) h0 (fun k hk => by omega)
  refine ⟨X, x1, x2, ⟨x3, by omega⟩, ⟨?_, ?_, ?_⟩, fun k a ha => ?_, x9, x10⟩
  · rw [x5, l2, k2, g2, e2, d2, c2, b2, a2]
  · rw [x6, l6, k6, g6, e6, d6, c6, b6, a6]
  · rw [x7, l5, k5, g5, e5, d5, c5, b5, a5]
  · refine ⟨?_, by rw [(x8 k a ha).2, l7, k7, g7, e7, d7, c7, b7, a7]⟩
    rw [(x8 k a ha).1, frL, u2_ne (by omega), u2_ne (by omega), u2_ne (by omega), u2_ne (by omega), u2_ne (by omega)]
end DC
