/-! ===== commands go on, end, and their timers ===== -/
/-- not ended, and still in time -/
def sgS (S : sT) (t c : Nat) : Prop := S.1 59 c = -1 → ∀ ph bg pa, ph ≤ 3 → bg ≤ 200000 → pa ≤ 200000 → S.1 56 c = nI ph → S.1 58 c = nI bg → S.1 57 c = nI pa → t < dln ph bg pa
def cU (c : Nat) (S T : sT) : Prop := ∀ c', c' ≠ c → T.1 56 c' = S.1 56 c' ∧ T.1 57 c' = S.1 57 c' ∧ T.1 58 c' = S.1 58 c' ∧ T.1 59 c' = S.1 59 c'
section EN
variable {sw nd rm : Nat} {M M' N : hM} {S S' T : sT} {ia ib : Nat → Nat → Int32} {w t x y zb sb a f n c nc : Nat} {pe : Nat → Option Nat} {wo : Nat → Nat} {fl fm : Nat → List (List Int32)} {hc hc' : List (Nat × Int32 × List Int32)} {hs hs' : List (Nat × List Int32)} {L Lr : List Int32} {F A : List Nat} {kR : Nat → rK} {ka : Nat → Nat → Nat} {tog : Nat → Bool} {g : Int32} {ca hh : Nat → Nat} {lv : Nat → Bool} {jj : Nat → Nat} {G : Nat → nG} {R : List Nat}
theorem cU_rf : cU c S S := fun _ _ => ⟨rfl, rfl, rfl, rfl⟩
theorem cU_sg {c' : Nat} (h : cU c S T) (hne : c' ≠ c) (g : sgS S t c') : sgS T t c' := by
  obtain ⟨h1, h2, h3, h4⟩ := h c' hne
  unfold sgS
  rw [h1, h2, h3, h4]; exact g
/-- two fields of a command -/
theorem HB.c2 {k l p q : Nat} {u v u' v' : Int32} (h : HB sw nd rm M S ia w pe wo t zb sb fl hc hs kR ka tog) (ht : h_tg M a ≠ 0) (hk : k ≤ 13 ∧ l ≤ 13) (hp : 54 ≤ p ∧ 54 ≤ q) : HB sw nd rm (h_pi (h_pi M k a u) l a v) (s_u (s_u S p c u') q c v') (h_ai M) w pe wo t zb sb fl hc hs kR ka tog := by
  have k1 := k_hpi (f := k) (a := a) (v := u) h.bk ht
  have k2 := k_hpi (f := l) (a := a) (v := v) k1.1 (show h_tg (h_pi M k a u) a ≠ 0 from ht)
  have kk : kp [k, l] [] M (h_pi (h_pi M k a u) l a v) := ((kp.rf h.bk : kp [k, l] [] M M).tt k1 (by simp) (by simp)).tt k2 (by simp) (by simp)
  have l1 : ks [p] S (s_u S p c u') := k_su
  have l2 : ks [q] (s_u S p c u') (s_u (s_u S p c u') q c v') := k_su
  have ll : ks [p, q] S (s_u (s_u S p c u') q c v') := (ks.rf.tt l1 (by simp) : ks [p, q] S (s_u S p c u')).tt l2 (by simp)
  refine h.cw kk ?_ rfl (fun _ _ => rfl) ll ?_
  · rw [List.all_eq_true]
    intro x hx
    have : 13 < x := by
      have : ∀ y, y ∈ hbF → 13 < y := by decide
      exact this x hx
    have : [k, l].contains x = false := by
      rw [Bool.eq_false_iff]
      intro z
      rw [List.contains_iff_mem] at z
      simp at z
      omega
    rw [this]; rfl
  · rw [List.all_eq_true]
    intro x hx
    have : x < 54 := by
      have : ∀ y, y ∈ hbS → y < 54 := by decide
      exact this x hx
    have : [p, q].contains x = false := by
      rw [Bool.eq_false_iff]
      intro z
      rw [List.contains_iff_mem] at z
      simp at z
      omega
    rw [this]; rfl
theorem fi2 {k l k' a a' : Nat} {u v : Int32} (h : (k' ≠ k ∧ k' ≠ l) ∨ a' ≠ a) : h_fi (h_pi (h_pi M k a u) l a v) k' a' = h_fi M k' a' := by
  rcases h with ⟨h1, h2⟩ | h
  · rw [fi_ne h2, fi_ne h1]
  · by_cases q : k' = l
    · subst q
      rw [fi_eq, u1_ne h]
      by_cases q2 : k' = k
      · subst q2; rw [fi_eq, u1_ne h]
      · rw [fi_ne q2]
    · rw [fi_ne q]
      by_cases q2 : k' = k
      · subst q2; rw [fi_eq, u1_ne h]
      · rw [fi_ne q2]
theorem su2 {p q k' c c' : Nat} {u v : Int32} (h : (k' ≠ p ∧ k' ≠ q) ∨ c' ≠ c) : (s_u (s_u S p c u) q c v).1 k' c' = S.1 k' c' := by
  rcases h with ⟨h1, h2⟩ | h
  · rw [su_ne h2, su_ne h1]
  · by_cases q' : k' = q
    · subst q'
      rw [su_eq, u1_ne h]
      by_cases q2 : k' = p
      · subst q2; rw [su_eq, u1_ne h]
      · rw [su_ne q2]
    · rw [su_ne q']
      by_cases q2 : k' = p
      · subst q2; rw [su_eq, u1_ne h]
      · rw [su_ne q2]
/-- enter / turns -/
theorem P_enter {ph ph' : Nat} (h : HB sw nd rm M S ia w pe wo t zb sb fl hc hs kR ka tog) (hN : NR nd M S t nc ca hh lv jj G) (hcn : c < nc) (hh1 : hc.length ≤ 3) (hh2 : hs.length ≤ 3) (h59 : S.1 59 c = -1) (hph : S.1 56 c = nI ph) (p3 : ph < 3) (p3' : 1 ≤ ph' ∧ ph' ≤ 3) (hgo : h_fi M 9 (ca c) = S.1 60 c) (hlv : lv (hh c) = false) : ∃ M' S' ib fm, f51 [.inr (.inr (some (150 + hh c))), .inr (.inr (some (ca c))), .inl (nI ph')] M = some (none, M') ∧ e206 (nI c) (nI ph') S = some S' ∧ HB sw nd rm M' S' ib w pe wo t zb sb fm hc hs kR ka tog ∧ NR nd M' S' t nc ca hh lv jj G ∧ cU c S S' ∧ S'.1 59 c = -1 ∧ S'.1 56 c = nI ph' ∧ S'.1 57 c = nI t ∧ S'.1 58 c = S.1 58 c ∧ i20 M M' := by
  have hI := h.I
  have nc3 := hN.1.1.2.2
  have ht3 := h.t3
  obtain ⟨⟨-, -, hn⟩, wr, un, bl, m, d, ph0, bg, pa, cb, ⟨a1, a2, a3, a4⟩, bb, cc, dd, ⟨e1, e2, -⟩, ⟨⟨g1, g2, g3⟩, ⟨g4, g5, g6⟩, g7, g8⟩, f1, f2, f3, f4⟩ := hN.1.2.1 c hcn
  have p0 : ph0 ≤ 3 := g8.mpr h59
  have eph : ph0 = ph := (nI_eq (by omega) (by omega)).mp (by rw [← e2]; exact hph)
  subst eph
  obtain ⟨f5, -, -⟩ := f4 p0
  have t120 : t ≤ bg + 120 := by
    unfold dln at f5
    rw [if_pos p3] at f5; exact f5
  let N := h_pi (h_pi M 10 (ca c) (nI ph')) 12 (ca c) (nI t)
  let T := s_u (s_u S 56 c (nI ph')) 57 c (nI t)
  have n0 : h_tg M (ca c) ≠ 0 := by rw [a1]; decide
  have hbN : HB sw nd rm N T (h_ai M) w pe wo t zb sb fl hc hs kR ka tog := h.c2 n0 (by omega) (by omega)
  have F1 : ∀ k a', (k ≠ 10 ∧ k ≠ 12) ∨ a' ≠ ca c → h_fi N k a' = h_fi M k a' := fun k a' q => fi2 q
  have S1 : ∀ k c', (k ≠ 56 ∧ k ≠ 57) ∨ c' ≠ c → T.1 k c' = S.1 k c' := fun k c' q => su2 q
  have F10 : h_fi N 10 (ca c) = nI ph' := by
    show h_fi (h_pi (h_pi M 10 (ca c) (nI ph')) 12 (ca c) (nI t)) 10 (ca c) = _
    rw [fi_ne (by decide), fi_eq, u1_eq]
  have F12 : h_fi N 12 (ca c) = nI t := by
    show h_fi (h_pi (h_pi M 10 (ca c) (nI ph')) 12 (ca c) (nI t)) 12 (ca c) = _
    rw [fi_eq, u1_eq]
  have S56 : T.1 56 c = nI ph' := by
    show (s_u (s_u S 56 c (nI ph')) 57 c (nI t)).1 56 c = _
    rw [su_ne (by decide), su_eq, u1_eq]
  have S57 : T.1 57 c = nI t := by
    show (s_u (s_u S 56 c (nI ph')) 57 c (nI t)).1 57 c = _
    rw [su_eq, u1_eq]
  have hNT : NR nd N T t nc ca hh lv jj G := by
    refine hN.cm hcn (fun k a' q => F1 k a' ?_) ⟨rfl, rfl, rfl, rfl, rfl, rfl⟩ (fun _ _ => rfl) (fun k c' q => S1 k c' ?_) (fun _ _ _ => rfl) ?_ (fun _ => h59)
    · rcases q with q | q
      · left; refine ⟨fun z => q (by rw [z]; decide), fun z => q (by rw [z]; decide)⟩
      · exact Or.inr q
    · rcases q with q | q
      · left; refine ⟨fun z => q (by rw [z]; decide), fun z => q (by rw [z]; decide)⟩
      · exact Or.inr q
    · refine ⟨wr, un, bl, m, d, ph', bg, t, cb, ⟨a1, a2, a3, a4⟩, ?_, ?_, ?_, ⟨F10, S56, by omega⟩, ⟨?_, ⟨F12, S57, Nat.le_refl _⟩, ?_, ?_⟩, fun _ _ => ?_, ?_, ?_, fun _ => ⟨?_, fun q => ?_, fun _ => t120⟩⟩
      · rw [F1 0 _ (by omega), S1 50 _ (by omega)]; exact bb
      · rw [F1 1 _ (by omega), F1 2 _ (by omega), F1 3 _ (by omega), S1 51 _ (by omega), S1 52 _ (by omega), S1 53 _ (by omega)]; exact cc
      · rw [F1 7 _ (by omega), F1 8 _ (by omega), S1 48 _ (by omega), S1 49 _ (by omega)]; exact dd
      · rw [F1 11 _ (by omega), S1 58 _ (by omega)]; exact ⟨g1, g2, g3⟩
      · rw [F1 13 _ (by omega), S1 59 _ (by omega)]; exact g7
      · rw [S1 59 _ (by omega)]; exact ⟨fun _ => h59, fun _ => p3'.2⟩
      · rw [F1 9 _ (by omega), S1 60 _ (by omega)]; exact hgo
      · rw [F1 6 _ (by omega), S1 55 _ (by omega)]; exact f2
      · exact f3
      · unfold dln; split <;> omega
      · rw [hlv] at q; cases q
  obtain ⟨M1, S1', fm, r1, r2, r3, r4⟩ := P_tell hbN hNT hcn hh1 hh2 (by rw [S1 59 c (by omega)]; exact h59)
  have gs : ∀ k, fsS.contains k = false → S1'.1 k = T.1 k := fun k q => r4.2.2.i q
  refine ⟨M1, S1', h_ai M, fm, ?_, ?_, r3, hNT.fst hbN.I r4, fun c' q => ?_, by rw [gs 59 (by decide), S1 59 c (by omega)]; exact h59, by rw [gs 56 (by decide)]; exact S56, by rw [gs 57 (by decide)]; exact S57, by rw [gs 58 (by decide), S1 58 c (by omega)], i20_tr (i20_rf : i20 M N) r4.2.1⟩
  · show x_out (b51_0 (150 + hh c) (some (ca c)) (nI ph') M) = _
    unfold b51_0
    have q1 : p_i M 0 10 (some (ca c)) (nI ph') = some (h_pi M 10 (ca c) (nI ph')) := p_i_t (ci := 0) a1
    have q2 : g_r (h_pi M 10 (ca c) (nI ph')) 4 0 (some (150 + hh c)) = some (some 2) := (g_r_t (ci := 4) (M := h_pi M 10 (ca c) (nI ph')) (hI.ho0 hn)).trans (congrArg some (hI.ho1 hn))
    have q3 : g_i (h_pi M 10 (ca c) (nI ph')) 9 3 (some 2) = some (nI t) := (g_i_t (ci := 9) (M := h_pi M 10 (ca c) (nI ph')) hI.sh0).trans (congrArg some (by show h_fi (h_pi M 10 (ca c) (nI ph')) 903 2 = _; rw [fi_ne (by decide)]; exact h.t1))
    have q4 : p_i (h_pi M 10 (ca c) (nI ph')) 0 12 (some (ca c)) (nI t) = some N := p_i_t (ci := 0) (M := h_pi M 10 (ca c) (nI ph')) a1
    rw [bd_s q1, bd_s q2, bd_s q3, bd_s q4, bd_s (g_o_t (ci := 4) (hbN.I.ho0 hn)), bd_s (c_V_of r1)]
    rfl
  · show s_out (c206_0 (nI c) (nI ph') S) = _
    unfold c206_0
    have q3 : s_g (s_u S 56 c (nI ph')) 3 = nI t := by show (s_u S 56 c (nI ph')).1 3 0 = _; rw [su_ne (by decide)]; exact h.t2
    rw [bd_s (gs56 (by omega)), q3, bd_s (gs57 (by omega)), bd_s r2]
    rfl
  · rw [gs 56 (by decide), gs 57 (by decide), gs 58 (by decide), gs 59 (by decide), S1 56 c' (Or.inr q), S1 57 c' (Or.inr q), S1 58 c' (Or.inr q), S1 59 c' (Or.inr q)]
    exact ⟨rfl, rfl, rfl, rfl⟩
/-- end / ends -/
theorem P_end {how : Nat} (h : HB sw nd rm M S ia w pe wo t zb sb fl hc hs kR ka tog) (hN : NR nd M S t nc ca hh lv jj G) (hcn : c < nc) (hw : 10 ≤ how ∧ how ≤ 13) : ∃ M' S' ib, f50 [.inr (.inr (some (ca c))), .inl (nI how), .inl (nI t)] M = some (none, M') ∧ e205 (nI c) (nI how) S = some S' ∧ HB sw nd rm M' S' ib w pe wo t zb sb fl hc hs kR ka tog ∧ NR nd M' S' t nc ca hh lv jj G ∧ cU c S S' ∧ S'.1 59 c ≠ -1 ∧ i20 M M' ∧ (h_fi M' 8 = h_fi M 8 ∧ S'.1 49 = S.1 49) := by
  have hI := h.I
  have nc3 := hN.1.1.2.2
  have ht3 := h.t3
  obtain ⟨⟨-, -, hn⟩, wr, un, bl, m, d, ph0, bg, pa, cb, ⟨a1, a2, a3, a4⟩, bb, cc, dd, ⟨e1, e2, -⟩, ⟨⟨g1, g2, g3⟩, ⟨g4, g5, g6⟩, g7, g8⟩, f1, f2, f3, f4⟩ := hN.1.2.1 c hcn
  let N := h_pi (h_pi M 10 (ca c) (nI how)) 13 (ca c) (nI t)
  let T := s_u (s_u S 56 c (nI how)) 59 c (nI t)
  have n0 : h_tg M (ca c) ≠ 0 := by rw [a1]; decide
  have hbN : HB sw nd rm N T (h_ai M) w pe wo t zb sb fl hc hs kR ka tog := h.c2 n0 (by omega) (by omega)
  have F1 : ∀ k a', (k ≠ 10 ∧ k ≠ 13) ∨ a' ≠ ca c → h_fi N k a' = h_fi M k a' := fun k a' q => fi2 q
  have S1 : ∀ k c', (k ≠ 56 ∧ k ≠ 59) ∨ c' ≠ c → T.1 k c' = S.1 k c' := fun k c' q => su2 q
  have F10 : h_fi N 10 (ca c) = nI how := by
    show h_fi (h_pi (h_pi M 10 (ca c) (nI how)) 13 (ca c) (nI t)) 10 (ca c) = _
    rw [fi_ne (by decide), fi_eq, u1_eq]
  have F13 : h_fi N 13 (ca c) = nI t := by
    show h_fi (h_pi (h_pi M 10 (ca c) (nI how)) 13 (ca c) (nI t)) 13 (ca c) = _
    rw [fi_eq, u1_eq]
  have S56 : T.1 56 c = nI how := by
    show (s_u (s_u S 56 c (nI how)) 59 c (nI t)).1 56 c = _
    rw [su_ne (by decide), su_eq, u1_eq]
  have S59 : T.1 59 c = nI t := by
    show (s_u (s_u S 56 c (nI how)) 59 c (nI t)).1 59 c = _
    rw [su_eq, u1_eq]
  have nm1 : ¬ nI t = -1 := nI_m1 (by omega)
  have hNT : NR nd N T t nc ca hh lv jj G := by
    refine hN.cm hcn (fun k a' q => F1 k a' ?_) ⟨rfl, rfl, rfl, rfl, rfl, rfl⟩ (fun _ _ => rfl) (fun k c' q => S1 k c' ?_) (fun _ _ _ => rfl) ?_ (fun q => absurd (by rw [← S59]; exact q) nm1)
    · rcases q with q | q
      · left; refine ⟨fun z => q (by rw [z]; decide), fun z => q (by rw [z]; decide)⟩
      · exact Or.inr q
    · rcases q with q | q
      · left; refine ⟨fun z => q (by rw [z]; decide), fun z => q (by rw [z]; decide)⟩
      · exact Or.inr q
    · refine ⟨wr, un, bl, m, d, how, bg, pa, cb, ⟨a1, a2, a3, a4⟩, ?_, ?_, ?_, ⟨F10, S56, by omega⟩, ⟨?_, ?_, ?_, ?_⟩, fun _ _ => by omega, ?_, f3, fun _ => by omega⟩
      · rw [F1 0 _ (by omega), S1 50 _ (by omega)]; exact bb
      · rw [F1 1 _ (by omega), F1 2 _ (by omega), F1 3 _ (by omega), S1 51 _ (by omega), S1 52 _ (by omega), S1 53 _ (by omega)]; exact cc
      · rw [F1 7 _ (by omega), F1 8 _ (by omega), S1 48 _ (by omega), S1 49 _ (by omega)]; exact dd
      · rw [F1 11 _ (by omega), S1 58 _ (by omega)]; exact ⟨g1, g2, g3⟩
      · rw [F1 12 _ (by omega), S1 57 _ (by omega)]; exact ⟨g4, g5, g6⟩
      · rw [F13, S59]
      · rw [S59]; exact ⟨fun q => by omega, fun q => absurd q nm1⟩
      · rw [F1 6 _ (by omega), S1 55 _ (by omega)]; exact f2
  refine ⟨N, T, h_ai M, ?_, ?_, hbN, hNT, fun c' q => ?_, by rw [S59]; exact nm1, i20_rf, funext fun z => F1 8 z (by omega), funext fun z => S1 49 z (by omega)⟩
  · show x_out (b50_0 (ca c) (nI how) (nI t) M) = _
    unfold b50_0
    have q1 : p_i M 0 10 (some (ca c)) (nI how) = some (h_pi M 10 (ca c) (nI how)) := p_i_t (ci := 0) a1
    have q4 : p_i (h_pi M 10 (ca c) (nI how)) 0 13 (some (ca c)) (nI t) = some N := p_i_t (ci := 0) (M := h_pi M 10 (ca c) (nI how)) a1
    rw [bd_s q1, bd_s q4]
    rfl
  · show s_out (c205_0 (nI c) (nI how) S) = _
    unfold c205_0
    have q3 : s_g (s_u S 56 c (nI how)) 3 = nI t := by show (s_u S 56 c (nI how)).1 3 0 = _; rw [su_ne (by decide)]; exact h.t2
    rw [bd_s (gs56 (by omega)), q3, bd_s (gs59 (by omega))]
    rfl
  · rw [S1 56 c' (Or.inr q), S1 57 c' (Or.inr q), S1 58 c' (Or.inr q), S1 59 c' (Or.inr q)]
    exact ⟨rfl, rfl, rfl, rfl⟩
end EN
