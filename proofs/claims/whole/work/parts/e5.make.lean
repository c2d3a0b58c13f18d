/-! ===== a heap as its ten parts ===== -/
def T10 (fi : Nat → Nat → Int32) (fl : Nat → Nat → Int64) (fr : Nat → Nat → Option Nat) (ai : Nat → Nat → Int32) (al : Nat → Nat → Int64) (ar : Nat → Nat → Option Nat) (ln tg : Nat → Nat) (sz sl : Nat) : hM := (fi, fl, fr, ai, al, ar, ln, tg, sz, sl)
theorem T10_of (M : hM) : M = T10 (h_fi M) (h_fl M) (h_fr M) (h_ai M) (h_al M) (h_ar M) (h_ln M) (h_tg M) (h_sz M) (h_sl M) := rfl
section TT
variable {fi : Nat → Nat → Int32} {fl : Nat → Nat → Int64} {fr : Nat → Nat → Option Nat} {ai : Nat → Nat → Int32} {al : Nat → Nat → Int64} {ar : Nat → Nat → Option Nat} {ln tg : Nat → Nat} {sz sl ci k a b i t n : Nat} {v : Int32} {w : Int64} {o : Option Nat}
theorem t_go (h : tg a = ci + 1) : g_o (T10 fi fl fr ai al ar ln tg sz sl) ci (some a) = some a := g_o_t h
theorem t_gi (h : tg a = ci + 1) : g_i (T10 fi fl fr ai al ar ln tg sz sl) ci k (some a) = some (fi (100 * ci + k) a) := g_i_t (M := T10 fi fl fr ai al ar ln tg sz sl) h
theorem t_gr (h : tg a = ci + 1) : g_r (T10 fi fl fr ai al ar ln tg sz sl) ci k (some a) = some (fr (100 * ci + k) a) := g_r_t (M := T10 fi fl fr ai al ar ln tg sz sl) h
theorem t_pi (h : tg a = ci + 1) : p_i (T10 fi fl fr ai al ar ln tg sz sl) ci k (some a) v = some (T10 (u2 fi (100 * ci + k) a v) fl fr ai al ar ln tg sz sl) := p_i_t (M := T10 fi fl fr ai al ar ln tg sz sl) h
theorem t_pz (h : tg a = ci + 1) (hv : v = 0 ∨ v = 1) : p_z (T10 fi fl fr ai al ar ln tg sz sl) ci k (some a) v = some (T10 (u2 fi (100 * ci + k) a v) fl fr ai al ar ln tg sz sl) := p_z_t (M := T10 fi fl fr ai al ar ln tg sz sl) h hv
theorem t_pl (h : tg a = ci + 1) : p_l (T10 fi fl fr ai al ar ln tg sz sl) ci k (some a) w = some (T10 fi (u2 fl (100 * ci + k) a w) fr ai al ar ln tg sz sl) := p_l_t (M := T10 fi fl fr ai al ar ln tg sz sl) h
theorem t_pr (h : tg a = ci + 1) : p_r (T10 fi fl fr ai al ar ln tg sz sl) ci k (some a) o = some (T10 fi fl (u2 fr (100 * ci + k) a o) ai al ar ln tg sz sl) := p_r_t (M := T10 fi fl fr ai al ar ln tg sz sl) h
theorem t_alr (h : tg a = t) (hi : i < ln a) (hs : i < 2 ^ 31) : al_r (T10 fi fl fr ai al ar ln tg sz sl) t (some a) (nI i) = some (ar a i) := al_r_t (M := T10 fi fl fr ai al ar ln tg sz sl) h hi hs
theorem t_asr (h : tg a = 30 + ci) (hi : i < ln a) (hs : i < 2 ^ 31) (hb : tg b = ci + 1) : as_r (T10 fi fl fr ai al ar ln tg sz sl) ci (some a) (nI i) (some b) = some (T10 fi fl fr ai al (u2 ar a i (some b)) ln tg sz sl) := as_r_t (M := T10 fi fl fr ai al ar ln tg sz sl) h hi hs hb
theorem t_no (hb : bk (T10 fi fl fr ai al ar ln tg sz sl)) : n_o (T10 fi fl fr ai al ar ln tg sz sl) ci n = some (T10 fi fl fr ai al ar ln (u1 tg sz (ci + 1)) (sz + 1) (sl + n)) ∧ bk (T10 fi fl fr ai al ar ln (u1 tg sz (ci + 1)) (sz + 1) (sl + n)) := by
  obtain ⟨c1, ⟨c2, c3, c4, c5, c6, c7⟩, c8, c9, c10, c11⟩ := no_eq (ci := ci) (n := n) hb
  have e : h_no (T10 fi fl fr ai al ar ln tg sz sl) ci n = T10 fi fl fr ai al ar ln (u1 tg sz (ci + 1)) (sz + 1) (sl + n) := by
    rw [T10_of (h_no (T10 fi fl fr ai al ar ln tg sz sl) ci n), c2, c3, c4, c5, c6, c7, c8, c9, c10, c11]
    rfl
  rw [e] at c1
  exact ⟨congrArg some e, c1⟩
theorem t_na (hb : bk (T10 fi fl fr ai al ar ln tg sz sl)) (hn : n ≤ 1000000) : n_a (T10 fi fl fr ai al ar ln tg sz sl) t (nI n) = some (T10 fi fl fr ai al ar (u1 ln sz n) (u1 tg sz t) (sz + 1) (sl + n)) ∧ bk (T10 fi fl fr ai al ar (u1 ln sz n) (u1 tg sz t) (sz + 1) (sl + n)) := by
  obtain ⟨c0, c1, ⟨c2, c3, c4, c5, c6, c7⟩, c8, c9, c10, c11⟩ := na_eq (t := t) hb hn
  have e : h_na (T10 fi fl fr ai al ar ln tg sz sl) t n = T10 fi fl fr ai al ar (u1 ln sz n) (u1 tg sz t) (sz + 1) (sl + n) := by
    rw [T10_of (h_na (T10 fi fl fr ai al ar ln tg sz sl) t n), c2, c3, c4, c5, c6, c7, c8, c9, c10, c11]
    rfl
  rw [e] at c1
  exact ⟨c0.trans (congrArg some e), c1⟩
theorem t_bi (hb : bk (T10 fi fl fr ai al ar ln tg sz sl)) (h : tg a ≠ 0) : bk (T10 (u2 fi k a v) fl fr ai al ar ln tg sz sl) := (k_hpi (f := k) (a := a) (v := v) hb h).1
theorem t_bl (hb : bk (T10 fi fl fr ai al ar ln tg sz sl)) (h : tg a ≠ 0) : bk (T10 fi (u2 fl k a w) fr ai al ar ln tg sz sl) := (k_hpl (f := k) (a := a) (v := w) hb h).1
theorem t_br (hb : bk (T10 fi fl fr ai al ar ln tg sz sl)) (h : tg a ≠ 0) : bk (T10 fi fl (u2 fr k a o) ai al ar ln tg sz sl) := (k_hpr (f := k) (a := a) (v := o) hb h).1
theorem t_bq (hb : bk (T10 fi fl fr ai al ar ln tg sz sl)) (h : tg a ≠ 0) : bk (T10 fi fl fr ai al (u2 ar a i o) ln tg sz sl) := (k_hqr (a := a) (i := i) (v := o) hb rfl h).1
end TT
/-! ===== a command is made ===== -/
def cmF (f : Nat → Nat → Int32) (a n nc r t : Nat) (wr v2 v3 v4 v5 : Int32) : Nat → Nat → Int32 := u2 (u2 (u2 (u2 (u2 (u2 (u2 (u2 (u2 (u2 (u2 (u2 (u2 f 13 a (-1)) 0 a wr) 1 a v3) 2 a v4) 3 a v5) 7 a (nI nc)) 8 a v2) 1107 1 (nI nc + 1)) 402 (150 + n) 1) 405 (150 + n) (nI r + 1)) 11 a (nI t)) 10 a 0) 12 a (nI t)
section MC
variable {sw nd rm : Nat} {M : hM} {n nc r t : Nat} {wr v2 v3 v4 v5 : Int32} {w6 : Int64}
theorem mkC (hI : cI sw nd rm M) (hb : bk M) (hz : 1000 ≤ h_sz M) (hn : n < nd) (h504 : h_fr M 504 (140 + n) = some (150 + n)) (h1107 : h_fi M 1107 1 = nI nc) (hc : nc < 300) (h405 : h_fi M 405 (150 + n) = nI r) (hr : r < 4) (h903 : h_fi M 903 2 = nI t) (hwr : wr = 0 ∨ wr = 1) : ∃ B N, f145 [.inr (.inr (some (h_sz M))), .inl wr, .inl v3, .inl v4, .inl v5, .inr (.inl w6)] (h_no M 0 14) = some (none, B) ∧ h_tg B 1 = 12 ∧ (∀ M', f49 [.inr (.inr (some (150 + n))), .inr (.inr (some (h_sz M)))] N = some (none, M') → h_tg M' (h_sz M) = 1 → h_fi M' 7 (h_sz M) = nI nc → f147 [.inr (.inr (some 1)), .inl (nI n), .inl v2, .inr (.inr (some (h_sz M)))] B = some (some (.inl (nI nc)), M')) ∧ bk N ∧ N = T10 (cmF (h_fi M) (h_sz M) n nc r t wr v2 v3 v4 v5) (u2 (h_fl M) 4 (h_sz M) w6) (u2 (h_fr M) 5 (h_sz M) (some (h_sz M + 1))) (h_ai M) (h_al M) (u2 (u2 (h_ar M) 7 nc (some (h_sz M))) (170 + n) r (some (h_sz M))) (u1 (h_ln M) (h_sz M + 1) 4) (u1 (u1 (h_tg M) (h_sz M) 1) (h_sz M + 1) 23) (h_sz M + 2) (h_sl M + 18) := by
  have n8 := hI.bs.2.1.2
  have f1 := hI.fab0
  have f2 := hI.fab3
  have f3 := hI.fab6
  have a7 := hI.ar8
  have l7 := hI.ar9
  have a9 := hI.ar12
  have l9 := hI.ar13
  have x9 := hI.no4 hn
  have t5 := hI.no0 hn
  have t4 := hI.ho0 hn
  have fh0 := hI.ho1 hn
  have fh4 := hI.ho4 hn
  have t17 := hI.ho7 hn
  have l17 := hI.ho8 hn
  have ts := hI.sh0
  have hnd : h_ln M 9 = nd := l9
  clear hI
  have eM := T10_of M
  generalize h_fi M = fi at *
  generalize h_fl M = fl at *
  generalize h_fr M = fr at *
  generalize h_ai M = ai at *
  generalize h_al M = al at *
  generalize h_ar M = ar at *
  generalize h_ln M = ln at *
  generalize h_tg M = tg at *
  generalize h_sz M = a at *
  generalize h_sl M = sl at *
  subst eM
  obtain ⟨e0, b0⟩ := t_no (ci := 0) (n := 14) hb
  have e0' : h_no (T10 fi fl fr ai al ar ln tg a sl) 0 14 = T10 fi fl fr ai al ar ln (u1 tg a (0 + 1)) (a + 1) (sl + 14) := Option.some.inj e0
  rw [e0']
  obtain ⟨e1, b1⟩ := t_na (t := 23) (n := 4) b0 (by omega)
  have ta : u1 (u1 tg a (0 + 1)) (a + 1) 23 a = 0 + 1 := by rw [u1_ne (by omega), u1_eq]
  have nz : u1 (u1 tg a (0 + 1)) (a + 1) 23 a ≠ 0 := by rw [ta]; decide
  have low : ∀ b, b < 1000 → u1 (u1 tg a (0 + 1)) (a + 1) 23 b = tg b := fun b hb => by rw [u1_ne (by omega), u1_ne (by omega)]
  have lowl : ∀ b, b < 1000 → u1 ln (a + 1) 4 b = ln b := fun b hb => by rw [u1_ne (by omega)]
  have t1' : u1 (u1 tg a (0 + 1)) (a + 1) 23 1 = 11 + 1 := by rw [low 1 (by omega)]; exact f1
  have t7' : u1 (u1 tg a (0 + 1)) (a + 1) 23 7 = 30 + 0 := by rw [low 7 (by omega)]; exact a7
  have t9' : u1 (u1 tg a (0 + 1)) (a + 1) 23 9 = 35 := by rw [low 9 (by omega)]; exact a9
  have tn' : u1 (u1 tg a (0 + 1)) (a + 1) 23 (140 + n) = 5 + 1 := by rw [low _ (by omega)]; exact t5
  have th' : u1 (u1 tg a (0 + 1)) (a + 1) 23 (150 + n) = 4 + 1 := by rw [low _ (by omega)]; exact t4
  have tr' : u1 (u1 tg a (0 + 1)) (a + 1) 23 (170 + n) = 30 + 0 := by rw [low _ (by omega)]; exact t17
  have ts' : u1 (u1 tg a (0 + 1)) (a + 1) 23 2 = 9 + 1 := by rw [low 2 (by omega)]; exact ts
  have ef : f145 [.inr (.inr (some a)), .inl wr, .inl v3, .inl v4, .inl v5, .inr (.inl w6)] (T10 fi fl fr ai al ar ln (u1 tg a (0 + 1)) (a + 1) (sl + 14)) = some (none, T10 (u2 (u2 (u2 (u2 (u2 fi 13 a (-1)) 0 a wr) 1 a v3) 2 a v4) 3 a v5) (u2 fl 4 a w6) (u2 fr 5 a (some (a + 1))) ai al ar (u1 ln (a + 1) 4) (u1 (u1 tg a (0 + 1)) (a + 1) 23) (a + 1 + 1) (sl + 14 + 4)) := by
    show x_out (b145_0 a wr v3 v4 v5 w6 _) = _
    unfold b145_0
    rw [bd_s (show n_a (T10 fi fl fr ai al ar ln (u1 tg a (0 + 1)) (a + 1) (sl + 14)) 23 (4 : Int32) = _ from e1), bd_s (t_pr (ci := 0) ta), bd_s (t_pi (ci := 0) ta), bd_s (t_pz (ci := 0) ta hwr), bd_s (t_pi (ci := 0) ta), bd_s (t_pi (ci := 0) ta), bd_s (t_pi (ci := 0) ta), bd_s (t_pl (ci := 0) ta)]
    rfl
  refine ⟨_, T10 (cmF fi a n nc r t wr v2 v3 v4 v5) (u2 fl 4 a w6) (u2 fr 5 a (some (a + 1))) ai al (u2 (u2 ar 7 nc (some a)) (170 + n) r (some a)) (u1 ln (a + 1) 4) (u1 (u1 tg a (0 + 1)) (a + 1) 23) (a + 1 + 1) (sl + 14 + 4), ef, t1', fun M' h1 h2 h3 => ?_, ?_, rfl⟩
  · -- f49 is called on N
    have e51 : f51 [.inr (.inr (some (150 + n))), .inr (.inr (some a)), .inl 0] (T10 (u2 (u2 (u2 (u2 (u2 (u2 (u2 (u2 (u2 (u2 (u2 fi 13 a (-1)) 0 a wr) 1 a v3) 2 a v4) 3 a v5) 7 a (nI nc)) 8 a v2) 1107 1 (nI nc + 1)) 402 (150 + n) 1) 405 (150 + n) (nI r + 1)) 11 a (nI t)) (u2 fl 4 a w6) (u2 fr 5 a (some (a + 1))) ai al (u2 (u2 ar 7 nc (some a)) (170 + n) r (some a)) (u1 ln (a + 1) 4) (u1 (u1 tg a (0 + 1)) (a + 1) 23) (a + 1 + 1) (sl + 14 + 4)) = some (none, M') := by
      show x_out (b51_0 (150 + n) (some a) 0 _) = _
      unfold b51_0
      rw [bd_s (t_pi (ci := 0) ta), bd_s (t_gr (ci := 4) th'), show u2 fr 5 a (some (a + 1)) (100 * 4 + 0) (150 + n) = some 2 from (u2_nk (by decide)).trans fh0, bd_s (t_gi (ci := 9) ts')]
      have e903 : u2 (u2 (u2 (u2 (u2 (u2 (u2 (u2 (u2 (u2 (u2 (u2 fi 13 a (-1)) 0 a wr) 1 a v3) 2 a v4) 3 a v5) 7 a (nI nc)) 8 a v2) 1107 1 (nI nc + 1)) 402 (150 + n) 1) 405 (150 + n) (nI r + 1)) 11 a (nI t)) (100 * 0 + 10) a 0 (100 * 9 + 3) 2 = nI t := by
        rw [u2_nk (by decide), u2_nk (by decide), u2_nk (by decide), u2_nk (by decide), u2_nk (by decide), u2_nk (by decide), u2_nk (by decide), u2_nk (by decide), u2_nk (by decide), u2_nk (by decide), u2_nk (by decide), u2_nk (by decide)]
        exact h903
      rw [e903, bd_s (t_pi (ci := 0) ta), bd_s (t_go (ci := 4) th')]
      have h1 : f49 [.inr (.inr (some (150 + n))), .inr (.inr (some a))] (T10 (u2 (u2 (u2 (u2 (u2 (u2 (u2 (u2 (u2 (u2 (u2 (u2 (u2 fi 13 a (-1)) 0 a wr) 1 a v3) 2 a v4) 3 a v5) 7 a (nI nc)) 8 a v2) 1107 1 (nI nc + 1)) 402 (150 + n) 1) 405 (150 + n) (nI r + 1)) 11 a (nI t)) (100 * 0 + 10) a 0) (100 * 0 + 12) a (nI t)) (u2 fl 4 a w6) (u2 fr 5 a (some (a + 1))) ai al (u2 (u2 ar 7 nc (some a)) (170 + n) r (some a)) (u1 ln (a + 1) 4) (u1 (u1 tg a (0 + 1)) (a + 1) 23) (a + 1 + 1) (sl + 14 + 4)) = some (none, M') := h1
      rw [bd_s (c_V_of h1)]
      rfl
    have e146 : f146 [.inr (.inr (some (150 + n))), .inr (.inr (some a))] (T10 (u2 (u2 (u2 (u2 (u2 (u2 (u2 (u2 fi 13 a (-1)) 0 a wr) 1 a v3) 2 a v4) 3 a v5) 7 a (nI nc)) 8 a v2) 1107 1 (nI nc + 1)) (u2 fl 4 a w6) (u2 fr 5 a (some (a + 1))) ai al (u2 ar 7 nc (some a)) (u1 ln (a + 1) 4) (u1 (u1 tg a (0 + 1)) (a + 1) 23) (a + 1 + 1) (sl + 14 + 4)) = some (none, M') := by
      show x_out (b146_0 (150 + n) (some a) _) = _
      unfold b146_0
      have e405 : u2 (u2 (u2 (u2 (u2 (u2 (u2 (u2 fi 13 a (-1)) 0 a wr) 1 a v3) 2 a v4) 3 a v5) 7 a (nI nc)) 8 a v2) 1107 1 (nI nc + 1) (100 * 4 + 5) (150 + n) = nI r := by
        rw [u2_nk (by decide), u2_nk (by decide), u2_nk (by decide), u2_nk (by decide), u2_nk (by decide), u2_nk (by decide), u2_nk (by decide), u2_nk (by decide)]
        exact h405
      have e405' : u2 (u2 (u2 (u2 (u2 (u2 (u2 (u2 (u2 fi 13 a (-1)) 0 a wr) 1 a v3) 2 a v4) 3 a v5) 7 a (nI nc)) 8 a v2) 1107 1 (nI nc + 1)) (100 * 4 + 2) (150 + n) 1 (100 * 4 + 5) (150 + n) = nI r := (u2_nk (by decide)).trans e405
      have e903 : u2 (u2 (u2 (u2 (u2 (u2 (u2 (u2 (u2 (u2 fi 13 a (-1)) 0 a wr) 1 a v3) 2 a v4) 3 a v5) 7 a (nI nc)) 8 a v2) 1107 1 (nI nc + 1)) (100 * 4 + 2) (150 + n) 1) (100 * 4 + 5) (150 + n) (nI r + 1) (100 * 9 + 3) 2 = nI t := by
        rw [u2_nk (by decide), u2_nk (by decide), u2_nk (by decide), u2_nk (by decide), u2_nk (by decide), u2_nk (by decide), u2_nk (by decide), u2_nk (by decide), u2_nk (by decide), u2_nk (by decide)]
        exact h903
      rw [bd_s (t_gi (ci := 4) th'), e405, if_neg (show ¬ (4 : Int32) ≤ nI r from nI_ge (b := 4) hr (by omega)), bd_s (t_pz (ci := 4) th' (Or.inr rfl)), bd_s (t_gr (ci := 4) th'), show u2 fr 5 a (some (a + 1)) (100 * 4 + 4) (150 + n) = some (170 + n) from (u2_nk (by decide)).trans fh4, bd_s (t_gi (ci := 4) th'), e405', bd_s (t_asr (ci := 0) tr' (by rw [lowl _ (by omega), l17]; exact hr) (by omega) ta), bd_s (t_gi (ci := 4) th'), e405', bd_s (t_pi (ci := 4) th'), bd_s (t_gr (ci := 4) th'), show u2 fr 5 a (some (a + 1)) (100 * 4 + 0) (150 + n) = some 2 from (u2_nk (by decide)).trans fh0, bd_s (t_gi (ci := 9) ts'), e903, bd_s (t_pi (ci := 0) ta), bd_s (t_go (ci := 4) th'), bd_s (c_V_of e51)]
      rfl
    show x_out (b147_0 1 (nI n) v2 (some a) _) = _
    unfold b147_0
    have g1107 : u2 (u2 (u2 (u2 (u2 fi 13 a (-1)) 0 a wr) 1 a v3) 2 a v4) 3 a v5 (100 * 11 + 7) 1 = nI nc := by
      rw [u2_nk (by decide), u2_nk (by decide), u2_nk (by decide), u2_nk (by decide), u2_nk (by decide)]
      exact h1107
    have g1107' : u2 (u2 (u2 (u2 (u2 (u2 (u2 fi 13 a (-1)) 0 a wr) 1 a v3) 2 a v4) 3 a v5) (100 * 0 + 7) a (nI nc)) (100 * 0 + 8) a v2 (100 * 11 + 7) 1 = nI nc := by
      rw [u2_nk (by decide), u2_nk (by decide)]
      exact g1107
    have r3 : ∀ k, k ≠ 5 → ∀ b, u2 fr 5 a (some (a + 1)) k b = fr k b := fun k hk b => u2_nk hk
    rw [bd_s (t_gi (ci := 11) t1'), g1107, bd_s (t_pi (ci := 0) ta), bd_s (t_pi (ci := 0) ta), bd_s (t_gr (ci := 11) t1'), show u2 fr 5 a (some (a + 1)) (100 * 11 + 6) 1 = some 7 from (r3 _ (by decide) _).trans f3, bd_s (t_gi (ci := 11) t1'), g1107', bd_s (t_asr (ci := 0) t7' (by rw [lowl 7 (by omega), l7]; omega) (by omega) ta), bd_s (t_gi (ci := 11) t1'), g1107', bd_s (t_pi (ci := 11) t1'), bd_s (t_gr (ci := 11) t1'), show u2 fr 5 a (some (a + 1)) (100 * 11 + 2) 1 = some 9 from (r3 _ (by decide) _).trans f2, bd_s (t_alr t9' (by rw [lowl 9 (by omega), hnd]; exact hn) (by omega)), show u2 ar 7 nc (some a) 9 n = some (140 + n) from (u2_nk (by decide)).trans x9, bd_s (t_gr (ci := 5) tn'), show u2 fr 5 a (some (a + 1)) (100 * 5 + 4) (140 + n) = some (150 + n) from (r3 _ (by decide) _).trans h504, bd_s (t_go (ci := 4) th'), bd_s (c_V_of e146), bd_s ((g_i_t (ci := 0) h2).trans (congrArg some h3))]
    rfl
  · have h1 : u1 (u1 tg a (0 + 1)) (a + 1) 23 1 ≠ 0 := by rw [t1']; decide
    have hh : u1 (u1 tg a (0 + 1)) (a + 1) 23 (150 + n) ≠ 0 := by rw [th']; decide
    have h7 : u1 (u1 tg a (0 + 1)) (a + 1) 23 7 ≠ 0 := by rw [t7']; decide
    have hr' : u1 (u1 tg a (0 + 1)) (a + 1) 23 (170 + n) ≠ 0 := by rw [tr']; decide
    unfold cmF
    exact t_bi (t_bi (t_bi (t_bi (t_bi (t_bi (t_bi (t_bi (t_bi (t_bi (t_bi (t_bi (t_bi (t_bl (t_br (t_bq (t_bq b1 h7) hr') nz) nz) nz) nz) nz) nz) nz) nz) nz) h1) hh) hh) nz) nz) nz
end MC
