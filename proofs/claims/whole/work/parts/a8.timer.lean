/-! ===== a command's timer ===== -/
theorem dm20 {x : Nat} (h : x ≤ 200000) : d_m (nI x) 20 = some (nI (x % 20)) := by
  unfold d_m
  rw [if_neg (by decide)]
  exact congrArg some (pk_rem (d := 20) (by omega) (by omega) (by omega))
section TM
variable {sw nd rm : Nat} {M M' N : hM} {S S' T : sT} {ia ib : Nat → Nat → Int32} {w t x y zb sb a f n c nc : Nat} {pe : Nat → Option Nat} {wo : Nat → Nat} {fl fm : Nat → List (List Int32)} {hc hc' : List (Nat × Int32 × List Int32)} {hs hs' : List (Nat × List Int32)} {kR : Nat → rK} {ka : Nat → Nat → Nat} {tog : Nat → Bool} {ca hh : Nat → Nat} {lv : Nat → Bool} {jj : Nat → Nat} {G : Nat → nG} {R : List Nat}
theorem fst_cU (k : fst M M' S S') : cU c S S' := fun c' _ => by
  rw [k.2.2.i (by decide), k.2.2.i (by decide), k.2.2.i (by decide), k.2.2.i (by decide)]
  exact ⟨rfl, rfl, rfl, rfl⟩
theorem P_again {pa : Nat} (h : HB sw nd rm M S ia w pe wo t zb sb fl hc hs kR ka tog) (hN : NR nd M S t nc ca hh lv jj G) (hcn : c < nc) (hh1 : hc.length ≤ 3) (hh2 : hs.length ≤ 3) (h59 : S.1 59 c = -1) (n2 : ¬ S.1 56 c = 2) (h57 : S.1 57 c = nI pa) (hpa : pa ≤ t) : ∃ M' S' fm, x_out (b52_115 (150 + hh c) (some (ca c)) (nI t - nI pa) M) = some (none, M') ∧ s_out (c207_107 (nI c) S) = some S' ∧ HB sw nd rm M' S' ia w pe wo t zb sb fm hc hs kR ka tog ∧ fst M M' S S' := by
  have nc3 := hN.1.1.2.2
  have ht3 := h.t3
  have hn := (hN.1.2.1 c hcn).1.2.2
  have s56 : s_a S 56 (nI c) = some (S.1 56 c) := ga56 (by omega)
  have s57 : s_a S 57 (nI c) = some (nI pa) := by rw [ga57 (by omega), h57]
  have sg : s_g S 3 = nI t := h.t2
  have sub : nI t - nI pa = nI (t - pa) := pk_sub hpa
  unfold b52_115 c207_107
  rw [bd_s s56, if_neg n2, bd_s s57, sg, sub]
  by_cases z : t ≤ pa
  · rw [if_pos (show nI (t - pa) ≤ 0 from nI_le (b := 0) (by omega) (by omega)), if_pos (show nI t ≤ nI pa from nI_le z (by omega))]
    exact ⟨M, S, fl, rfl, rfl, h, fst.rf h.bk⟩
  · rw [if_neg (show ¬ nI (t - pa) ≤ 0 from nI_ge (a := 0) (by omega) (by omega)), if_neg (show ¬ nI t ≤ nI pa from nI_ge (by omega) (by omega)), bd_s (dm20 (by omega)), bd_s s57, sub, bd_s (dm20 (by omega))]
    by_cases z2 : nI ((t - pa) % 20) = 0
    · obtain ⟨M1, S1, fm, r1, r2, r3, r4⟩ := P_tell h hN hcn hh1 hh2 h59
      rw [if_pos z2, if_pos z2, bd_s (g_o_t (ci := 4) (h.I.ho0 hn)), bd_s (c_V_of r1), bd_s r2]
      exact ⟨M1, S1, fm, rfl, rfl, r3, r4⟩
    · rw [if_neg z2, if_neg z2]
      exact ⟨M, S, fl, rfl, rfl, h, fst.rf h.bk⟩
theorem P_timer (h : HB sw nd rm M S ia w pe wo t zb sb fl hc hs kR ka tog) (hN : NR nd M S t nc ca hh lv jj G) (hcn : c < nc) (hh1 : hc.length ≤ 3) (hh2 : hs.length ≤ 3) (h59 : S.1 59 c = -1) (hlv : lv (hh c) = false) : ∃ M' S' ib fm, f52 [.inr (.inr (some (150 + hh c))), .inr (.inr (some (ca c)))] M = some (none, M') ∧ e207 (nI c) S = some S' ∧ HB sw nd rm M' S' ib w pe wo t zb sb fm hc hs kR ka tog ∧ NR nd M' S' t nc ca hh lv jj G ∧ cU c S S' ∧ sgS S' t c ∧ i20 M M' := by
  have hI := h.I
  have nc3 := hN.1.1.2.2
  have ht3 := h.t3
  obtain ⟨⟨-, -, hn⟩, wr, un, bl, m, d, ph, bg, pa, cb, ⟨a1, -⟩, -, -, -, ⟨e1, e2, -⟩, ⟨⟨g1, g2, g3⟩, ⟨g4, g5, g6⟩, g7, g8⟩, f1, -⟩ := hN.1.2.1 c hcn
  have p3 : ph ≤ 3 := g8.mpr h59
  have g400 : g_r M 4 0 (some (150 + hh c)) = some (some 2) := (g_r_t (ci := 4) (hI.ho0 hn)).trans (congrArg some (hI.ho1 hn))
  have g903 : g_i M 9 3 (some 2) = some (nI t) := (g_i_t (ci := 9) hI.sh0).trans (congrArg some h.t1)
  have q11 : g_i M 0 11 (some (ca c)) = some (nI bg) := (g_i_t (ci := 0) a1).trans (congrArg some g1)
  have q12 : g_i M 0 12 (some (ca c)) = some (nI pa) := (g_i_t (ci := 0) a1).trans (congrArg some g4)
  have q10 : g_i M 0 10 (some (ca c)) = some (nI ph) := (g_i_t (ci := 0) a1).trans (congrArg some e1)
  have s56 : s_a S 56 (nI c) = some (nI ph) := by rw [ga56 (by omega), e2]
  have s57 : s_a S 57 (nI c) = some (nI pa) := by rw [ga57 (by omega), g5]
  have s58 : s_a S 58 (nI c) = some (nI bg) := by rw [ga58 (by omega), g2]
  have sg : s_g S 3 = nI t := h.t2
  have sub1 : nI t - nI bg = nI (t - bg) := pk_sub g3
  have sub2 : nI t - nI pa = nI (t - pa) := pk_sub g6
  have lt120 : (nI (t - bg) < 120) ↔ t - bg < 120 := nI_ltI (b := 120) (by omega) (by omega)
  have lt60 : (nI (t - pa) < 60) ↔ t - pa < 60 := nI_ltI (b := 60) (by omega) (by omega)
  have fdef : f52 [.inr (.inr (some (150 + hh c))), .inr (.inr (some (ca c)))] M = x_out (b52_0 (150 + hh c) (some (ca c)) M) := rfl
  have edef : e207 (nI c) S = s_out (c207_0 (nI c) S) := rfl
  have ofst : ∀ S', (∀ k, fsS.contains k = false → S'.1 k = S.1 k) → t < dln ph bg pa → sgS S' t c := fun S' q1 q2 _ ph' bg' pa' y1 y2 y3 y4 y5 y6 => by
    rw [q1 56 (by decide), e2] at y4
    rw [q1 58 (by decide), g2] at y5
    rw [q1 57 (by decide), g5] at y6
    have z1 : ph = ph' := (nI_eq (by omega) (by omega)).mp y4
    have z2 : bg = bg' := (nI_eq (by omega) (by omega)).mp y5
    have z3 : pa = pa' := (nI_eq (by omega) (by omega)).mp y6
    subst z1; subst z2; subst z3
    exact q2
  have ended : ∀ S', S'.1 59 c ≠ -1 → sgS S' t c := fun S' q1 q2 => absurd q2 q1
  -- it says so again, perhaps
  have again : ∀ u : Int32, ph ≠ 2 → t < dln ph bg pa → (f52 [.inr (.inr (some (150 + hh c))), .inr (.inr (some (ca c)))] M = x_out (b52_115 (150 + hh c) (some (ca c)) (nI t - nI pa) M)) → (e207 (nI c) S = s_out (c207_107 (nI c) S)) → ∃ M' S' ib fm, f52 [.inr (.inr (some (150 + hh c))), .inr (.inr (some (ca c)))] M = some (none, M') ∧ e207 (nI c) S = some S' ∧ HB sw nd rm M' S' ib w pe wo t zb sb fm hc hs kR ka tog ∧ NR nd M' S' t nc ca hh lv jj G ∧ cU c S S' ∧ sgS S' t c ∧ i20 M M' := fun _ n2 q1 q2 q3 => by
    obtain ⟨M1, S1, fm, r1, r2, r3, r4⟩ := P_again h hN hcn hh1 hh2 h59 (by rw [e2]; exact fun z => n2 ((nI_eq (b := 2) (by omega) (by omega)).mp z)) g5 g6
    exact ⟨M1, S1, ia, fm, q2.trans r1, q3.trans r2, r3, hN.fst hI r4, fst_cU r4, ofst S1 (fun k q => r4.2.2.i q) q1, r4.2.1⟩
  by_cases c2 : ph < 2
  · have le2 : ¬ (2 : Int32) ≤ nI ph := nI_ge (b := 2) (by omega) (by omega)
    have ne2 : ¬ nI ph = 2 := fun q => absurd ((nI_eq (b := 2) (by omega) (by omega)).mp q) (by omega)
    have ne3 : ¬ nI ph = 3 := fun q => absurd ((nI_eq (b := 3) (by omega) (by omega)).mp q) (by omega)
    by_cases old : t - bg < 120
    · refine again 0 (by omega) (by unfold dln; rw [if_pos (by omega)]; omega) ?_ ?_
      · rw [fdef]
        unfold b52_0
        rw [bd_s g400, bd_s g903, bd_s q11, sub1, if_pos (lt120.mpr old)]
        unfold b52_22
        rw [bd_s g400, bd_s g903, bd_s q12, bd_s q10, if_neg le2, if_pos rfl]
        unfold b52_64
        rw [bd_s q10, if_neg ne2, bd_s q10, if_neg ne3]
      · rw [edef]
        unfold c207_0
        rw [bd_s s56, if_neg le2, bd_s s58, sg, sub1, if_pos (lt120.mpr old)]
        unfold c207_36
        rw [bd_s s56, if_neg ne2]
        unfold c207_71
        rw [bd_s s56, if_neg ne3]
    · obtain ⟨M1, S1, ib, r1, r2, r3, r4, r5, r6, r7, -⟩ := P_end (how := 13) h hN hcn (by omega)
      refine ⟨M1, S1, ib, fl, ?_, ?_, r3, r4, r5, ended S1 r6, r7⟩
      · rw [fdef]
        have r1' : f50 [.inr (.inr (some (ca c))), .inl 13, .inl (nI t)] M = some (none, M1) := r1
        unfold b52_0
        rw [bd_s g400, bd_s g903, bd_s q11, sub1, if_neg (fun q => old (lt120.mp q))]
        unfold b52_22
        rw [bd_s g400, bd_s g903, bd_s q12, bd_s q10, if_neg le2, if_neg (show ¬ (1 : Int32) = 0 by decide), bd_s g400, bd_s g903, bd_s (g_o_t (ci := 0) a1), bd_s (c_V_of r1')]
        rfl
      · rw [edef]
        have r2' : e205 (nI c) 13 S = some S1 := r2
        unfold c207_0
        rw [bd_s s56, if_neg le2, bd_s s58, sg, sub1, if_neg (fun q => old (lt120.mp q)), bd_s r2']
        rfl
  have le2 : (2 : Int32) ≤ nI ph := nI_le (a := 2) (by omega) (by omega)
  by_cases c3 : ph = 2
  · subst c3
    by_cases old : t - bg < 120
    · refine ⟨M, S, ia, fl, ?_, ?_, h, hN, cU_rf, ofst S (fun _ _ => rfl) (by unfold dln; rw [if_pos (by omega)]; omega), i20_rf⟩
      · rw [fdef]
        unfold b52_0
        rw [bd_s g400, bd_s g903, bd_s q11, sub1, if_pos (lt120.mpr old)]
        unfold b52_22
        rw [bd_s g400, bd_s g903, bd_s q12, bd_s q10, if_pos le2]
        unfold b52_64
        rw [bd_s q10, if_pos (show nI 2 = 2 from rfl), if_pos rfl]
        rfl
      · rw [edef]
        unfold c207_0
        rw [bd_s s56, if_pos le2]
        unfold c207_36
        rw [bd_s s56, if_pos (show nI 2 = 2 from rfl), bd_s s58, sg, sub1, if_pos (lt120.mpr old)]
        unfold c207_71
        rw [bd_s s56, if_neg (show ¬ nI 2 = 3 by decide)]
        unfold c207_107
        rw [bd_s s56, if_pos (show nI 2 = 2 from rfl)]
        rfl
    · obtain ⟨M1, S1, ib, fm, r1, r2, r3, r4, r5, r6, r7, r8, r9, r10⟩ := P_enter (ph' := 3) h hN hcn hh1 hh2 h59 e2 (by omega) (by omega) (f1 (by omega) (by omega)) hlv
      refine ⟨M1, S1, ib, fm, ?_, ?_, r3, r4, r5, fun _ ph' bg' pa' y1 y2 y3 y4 y5 y6 => ?_, r10⟩
      · rw [fdef]
        have r1' : f51 [.inr (.inr (some (150 + hh c))), .inr (.inr (some (ca c))), .inl 3] M = some (none, M1) := r1
        unfold b52_0
        rw [bd_s g400, bd_s g903, bd_s q11, sub1, if_neg (fun q => old (lt120.mp q))]
        unfold b52_22
        rw [bd_s g400, bd_s g903, bd_s q12, bd_s q10, if_pos le2]
        unfold b52_64
        rw [bd_s q10, if_pos (show nI 2 = 2 from rfl), if_neg (show ¬ (1 : Int32) = 0 by decide), bd_s (g_o_t (ci := 4) (hI.ho0 hn)), bd_s (c_V_of r1')]
        rfl
      · rw [edef]
        have r2' : e206 (nI c) 3 S = some S1 := r2
        unfold c207_0
        rw [bd_s s56, if_pos le2]
        unfold c207_36
        rw [bd_s s56, if_pos (show nI 2 = 2 from rfl), bd_s s58, sg, sub1, if_neg (fun q => old (lt120.mp q)), bd_s r2']
        rfl
      · rw [r7] at y4
        rw [r8] at y6
        have z1 : 3 = ph' := (nI_eq (by omega) (by omega)).mp y4
        have z3 : t = pa' := (nI_eq (by omega) (by omega)).mp y6
        subst z1; subst z3
        unfold dln
        rw [if_neg (by omega)]; omega
  have c4 : ph = 3 := by omega
  subst c4
  by_cases young : t - pa < 60
  · refine again 0 (by omega) (by unfold dln; rw [if_neg (by omega)]; omega) ?_ ?_
    · rw [fdef]
      have tail : ∀ si0 : Int32, x_out (b52_22 (150 + hh c) (some (ca c)) si0 M) = x_out (b52_115 (150 + hh c) (some (ca c)) (nI t - nI pa) M) := fun si0 => by
        unfold b52_22
        rw [bd_s g400, bd_s g903, bd_s q12, bd_s q10, if_pos le2]
        unfold b52_64
        rw [bd_s q10, if_neg (show ¬ nI 3 = 2 by decide), bd_s q10, if_pos (show nI 3 = 3 from rfl), sub2, if_pos (lt60.mpr young)]
      unfold b52_0
      rw [bd_s g400, bd_s g903, bd_s q11]
      split
      · exact tail 0
      · exact tail 1
    · rw [edef]
      unfold c207_0
      rw [bd_s s56, if_pos le2]
      unfold c207_36
      rw [bd_s s56, if_neg (show ¬ nI 3 = 2 by decide)]
      unfold c207_71
      rw [bd_s s56, if_pos (show nI 3 = 3 from rfl), bd_s s57, sg, sub2, if_pos (lt60.mpr young)]
  · obtain ⟨M1, S1, ib, r1, r2, r3, r4, r5, r6, r7, -⟩ := P_end (how := 12) h hN hcn (by omega)
    refine ⟨M1, S1, ib, fl, ?_, ?_, r3, r4, r5, ended S1 r6, r7⟩
    · rw [fdef]
      have r1' : f50 [.inr (.inr (some (ca c))), .inl 12, .inl (nI t)] M = some (none, M1) := r1
      have tail : ∀ si0 : Int32, x_out (b52_22 (150 + hh c) (some (ca c)) si0 M) = some (none, M1) := fun si0 => by
        unfold b52_22
        rw [bd_s g400, bd_s g903, bd_s q12, bd_s q10, if_pos le2]
        unfold b52_64
        rw [bd_s q10, if_neg (show ¬ nI 3 = 2 by decide), bd_s q10, if_pos (show nI 3 = 3 from rfl), sub2, if_neg (fun q => young (lt60.mp q)), bd_s g400, bd_s g903, bd_s (g_o_t (ci := 0) a1), bd_s (c_V_of r1')]
        rfl
      unfold b52_0
      rw [bd_s g400, bd_s g903, bd_s q11]
      split
      · exact tail 0
      · exact tail 1
    · rw [edef]
      have r2' : e205 (nI c) 12 S = some S1 := r2
      unfold c207_0
      rw [bd_s s56, if_pos le2]
      unfold c207_36
      rw [bd_s s56, if_neg (show ¬ nI 3 = 2 by decide)]
      unfold c207_71
      rw [bd_s s56, if_pos (show nI 3 = 3 from rfl), bd_s s57, sg, sub2, if_neg (fun q => young (lt60.mp q)), bd_s r2']
      rfl
end TM
/-! ===== the class goes through a list, the reference through all ===== -/
theorem merge {ρ : Type} {kk : Nat → List aV → hM → Option xRes} {kS : Nat → List aV → sT → Option (sRes ρ)} {H H' : Nat} {ar : Nat → List aV} {as : Nat → List aV} {J : Nat → hM → sT → Prop} {nc : Nat} {R : List Nat} (hsk : ∀ c M S, J c M S → c < nc → c ∉ R → kS H' (as c) S = some (.inr (H', as (c + 1), S)) ∧ J (c + 1) M S) (hdo : ∀ i c M S, J c M S → c < nc → i < R.length → R.getD i 0 = c → ∃ M' S', kk H (ar i) M = some (.inr (H, ar (i + 1), M')) ∧ kS H' (as c) S = some (.inr (H', as (c + 1), S')) ∧ J (c + 1) M' S') (hR : R.Pairwise (· < ·)) (hRn : ∀ c, c ∈ R → c < nc) : ∀ d c pre suf M S fuel fus, R = pre ++ suf → (∀ x, x ∈ pre → x < c) → (∀ x, x ∈ suf → c ≤ x) → c + d = nc → J c M S → suf.length < fuel → d < fus → ∃ M' S' fuel', fuel ≤ fuel' + suf.length ∧ drive kk fuel H (ar pre.length) M = drive kk fuel' H (ar R.length) M' ∧ sdrive kS fus H' (as c) S = sdrive kS (fus - d) H' (as nc) S' ∧ J nc M' S'
  | 0, c, pre, suf, M, S, fuel, fus, hR1, h1, h2, hd, hJ, hf, hg => by
    have hc : c = nc := by omega
    subst hc
    have hs : suf = [] := by
      cases suf with
      | nil => rfl
      | cons x l =>
        have y1 := h2 x List.mem_cons_self
        have y2 := hRn x (by rw [hR1]; exact List.mem_append_right _ List.mem_cons_self)
        omega
    subst hs
    rw [List.append_nil] at hR1
    subst hR1
    exact ⟨M, S, fuel, by show fuel ≤ fuel + 0; omega, rfl, rfl, hJ⟩
  | d + 1, c, pre, suf, M, S, fuel, fus, hR1, h1, h2, hd, hJ, hf, hg => by
    obtain ⟨g, rfl⟩ : ∃ g, fus = g + 1 := ⟨fus - 1, by omega⟩
    by_cases z : c ∈ R
    · -- it is the next
      have zs : c ∈ suf := by
        rw [hR1] at z
        rcases List.mem_append.mp z with q | q
        · have := h1 c q; omega
        · exact q
      cases suf with
      | nil => cases zs
      | cons x l =>
        have hxc : x = c := by
          have y1 := h2 x List.mem_cons_self
          rcases List.mem_cons.mp zs with q | q
          · exact q.symm
          · have : (x :: l).Pairwise (· < ·) := by
              rw [hR1] at hR
              exact (List.pairwise_append.mp hR).2.1
            have := (List.pairwise_cons.mp this).1 c q
            omega
        subst hxc
        have hi : R.getD pre.length 0 = x := by rw [hR1]; exact gA0
        have hil : pre.length < R.length := by rw [hR1, List.length_append]; simp
        obtain ⟨M', S', q1, q2, q3⟩ := hdo pre.length x M S hJ (by omega) hil hi
        obtain ⟨f, rfl⟩ : ∃ f, fuel = f + 1 := ⟨fuel - 1, by have : l.length + 1 < fuel := hf; omega⟩
        have hl : ∀ y, y ∈ l → x + 1 ≤ y := fun y hy => by
          have : (x :: l).Pairwise (· < ·) := by
            rw [hR1] at hR
            exact (List.pairwise_append.mp hR).2.1
          exact (List.pairwise_cons.mp this).1 y hy
        obtain ⟨M2, S2, f2, r0, r1, r2, r3⟩ := merge hsk hdo hR hRn d (x + 1) (pre ++ [x]) l M' S' f g (by rw [hR1]; simp) (fun y hy => by
          rcases List.mem_append.mp hy with q | q
          · have := h1 y q; omega
          · have : y = x := by simpa using q
            omega) hl (by omega) q3 (by have : l.length + 1 < f + 1 := hf; omega) (by omega)
        refine ⟨M2, S2, f2, by show f + 1 ≤ f2 + (l.length + 1); omega, ?_, ?_, r3⟩
        · rw [dr_go q1]
          have e : (pre ++ [x]).length = pre.length + 1 := by simp
          rw [e] at r1
          exact r1
        · rw [sd_go q2, show g + 1 - (d + 1) = g - d by omega]
          exact r2
    · obtain ⟨q1, q2⟩ := hsk c M S hJ (by omega) z
      obtain ⟨M2, S2, f2, r0, r1, r2, r3⟩ := merge hsk hdo hR hRn d (c + 1) pre suf M S fuel g hR1 (fun y hy => by have := h1 y hy; omega) (fun y hy => by
        have y1 := h2 y hy
        have : y ≠ c := fun q => z (by rw [hR1, ← q]; exact List.mem_append_right _ hy)
        omega) (by omega) q2 hf (by omega)
      refine ⟨M2, S2, f2, r0, r1, ?_, r3⟩
      rw [sd_go q1, show g + 1 - (d + 1) = g - d by omega]
      exact r2
