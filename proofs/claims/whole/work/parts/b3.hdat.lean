/-! ===== DATA and READY of a host; all it gets ===== -/
section HD
variable {sw nd rm : Nat} {M M' N : hM} {S S' T : sT} {ia ib : Nat → Nat → Int32} {w t x y zb sb a f n c nc fus : Nat} {pe : Nat → Option Nat} {wo : Nat → Nat} {fl fm : Nat → List (List Int32)} {hc hc' : List (Nat × Int32 × List Int32)} {hs hs' : List (Nat × List Int32)} {L : List Int32} {kR : Nat → rK} {ka : Nat → Nat → Nat} {tog : Nat → Bool} {ca hh : Nat → Nat} {lv : Nat → Bool} {jj : Nat → Nat} {G : Nat → nG} {R : List Nat} {g : Int32}
theorem sul_eq {k i : Nat} {v : Int64} : (s_ul S k i v).2 k i = v := u2_eq
theorem sul_ne {k i k' j : Nat} {v : Int64} (h : k' ≠ k ∨ j ≠ i) : (s_ul S k i v).2 k' j = S.2 k' j := by
  rcases h with h | h
  · exact u2_nk h
  · exact u2_ne h
theorem ql_eq {b i : Nat} {v : Int64} : h_al (h_ql M b i v) b i = v := u2_eq
theorem ql_ne {b i j : Nat} {v : Int64} (h : j ≠ i) : h_al (h_ql M b i v) b j = h_al M b j := u2_ne h
theorem ql_nk {b i b' : Nat} {v : Int64} (h : b' ≠ b) : h_al (h_ql M b i v) b' = h_al M b' := funext fun _ => u2_nk h
/-- a part of a READ comes -/
theorem P_val {p cb : Nat} {v : Int64} (h : HB sw nd rm M S ia w pe wo t zb sb fl hc hs kR ka tog) (hN : NR nd M S t nc ca hh lv jj G) (hcn : c < nc) (hp : p < 4) (hcb : cb < 16) (hwr : S.1 50 c = nI 0) : ∃ ib, HB sw nd rm (h_pi (h_ql M (ca c + 1) p v) 6 (ca c) (nI cb)) (s_u (s_ul S 54 (4 * c + p) v) 55 c (nI cb)) ib w pe wo t zb sb fl hc hs kR ka tog ∧ NR nd (h_pi (h_ql M (ca c + 1) p v) 6 (ca c) (nI cb)) (s_u (s_ul S 54 (4 * c + p) v) 55 c (nI cb)) t nc ca hh lv jj G := by
  obtain ⟨-, wr, un, bl, m, d, ph, bg, pa, cb0, ⟨a1, a2, a3, a4⟩, ⟨w1, w2, w3⟩, cc, dd, ee, ⟨g1, g2, g3, g4⟩, f1, f2, ⟨f3, f4⟩, f5⟩ := hN.1.2.1 c hcn
  have hw0 : wr = 0 := (nI_eq (by omega) (by omega)).mp (by rw [← w2]; exact hwr)
  subst hw0
  have k1 := k_hql (i := p) (v := v) h.bk a3 (by decide)
  have k2 := k_hpi (f := 6) (a := ca c) (v := nI cb) k1.1 (show h_tg (h_ql M (ca c + 1) p v) (ca c) ≠ 0 by show h_tg M (ca c) ≠ 0; rw [a1]; decide)
  have kk : kp [6] [23] M (h_pi (h_ql M (ca c + 1) p v) 6 (ca c) (nI cb)) := ((kp.rf h.bk : kp [6] [23] M M).tr k1 rfl rfl).tr k2 rfl rfl
  have l1 : ks [54] S (s_ul S 54 (4 * c + p) v) := k_sul
  have l2 : ks [55] (s_ul S 54 (4 * c + p) v) (s_u (s_ul S 54 (4 * c + p) v) 55 c (nI cb)) := k_su
  have ll : ks [54, 55] S (s_u (s_ul S 54 (4 * c + p) v) 55 c (nI cb)) := (ks.rf.tr l1 rfl : ks [54, 55] S _).tr l2 rfl
  have F1 : ∀ k a', k ≠ 6 ∨ a' ≠ ca c → h_fi (h_pi (h_ql M (ca c + 1) p v) 6 (ca c) (nI cb)) k a' = h_fi M k a' := fun k a' q => by
    rcases q with q | q
    · rw [fi_ne q]; rfl
    · by_cases z : k = 6
      · subst z; rw [fi_eq, u1_ne q]; rfl
      · rw [fi_ne z]; rfl
  have S1 : ∀ k c', k ≠ 55 ∨ c' ≠ c → (s_u (s_ul S 54 (4 * c + p) v) 55 c (nI cb)).1 k c' = S.1 k c' := fun k c' q => by
    rcases q with q | q
    · rw [su_ne q]; rfl
    · by_cases z : k = 55
      · subst z; rw [su_eq, u1_ne q]; rfl
      · rw [su_ne z]; rfl
  refine ⟨_, h.cw kk (by decide) (by decide) (fun _ _ => rfl) ll (by decide), hN.cm hcn (fun k a' q => F1 k a' ?_) ⟨rfl, rfl, rfl, rfl, rfl, rfl⟩ (fun a' q => ql_nk q) (fun k c' q => S1 k c' ?_) (fun k i q => ?_) ?_ (fun q => by rw [S1 59 c (by omega)] at q; exact q)⟩
  · rcases q with q | q
    · exact Or.inl (fun z => q (by rw [z]; decide))
    · exact Or.inr q
  · rcases q with q | q
    · exact Or.inl (fun z => q (by rw [z]; decide))
    · exact Or.inr q
  · show (s_ul S 54 (4 * c + p) v).2 k i = _
    exact sul_ne (by omega)
  · refine ⟨0, un, bl, m, d, ph, bg, pa, cb, ⟨a1, a2, a3, a4⟩, ?_, ?_, ?_, ?_, ⟨?_, ?_, ?_, ?_⟩, ?_, ⟨?_, ?_, hcb⟩, ⟨fun _ k hk => ?_, fun q => by omega⟩, f5⟩
    · rw [F1 0 _ (by omega), S1 50 _ (by omega)]; exact ⟨w1, w2, w3⟩
    · rw [F1 1 _ (by omega), F1 2 _ (by omega), F1 3 _ (by omega), S1 51 _ (by omega), S1 52 _ (by omega), S1 53 _ (by omega)]; exact cc
    · rw [F1 7 _ (by omega), F1 8 _ (by omega), S1 48 _ (by omega), S1 49 _ (by omega)]; exact dd
    · rw [F1 10 _ (by omega), S1 56 _ (by omega)]; exact ee
    · rw [F1 11 _ (by omega), S1 58 _ (by omega)]; exact g1
    · rw [F1 12 _ (by omega), S1 57 _ (by omega)]; exact g2
    · rw [F1 13 _ (by omega), S1 59 _ (by omega)]; exact g3
    · rw [S1 59 _ (by omega)]; exact g4
    · rw [F1 9 _ (by omega), S1 60 _ (by omega)]; exact f1
    · rw [fi_eq, u1_eq]
    · rw [su_eq, u1_eq]
    · show h_al (h_ql M (ca c + 1) p v) (ca c + 1) k = (s_ul S 54 (4 * c + p) v).2 54 (4 * c + k)
      by_cases z : k = p
      · subst z; rw [ql_eq, sul_eq]
      · rw [ql_ne z, sul_ne (by omega)]; exact f3 rfl k hk
/-- takeData -/
theorem P_da (h : HB sw nd rm M S ia w pe wo t zb sb fl [(a, g, L)] [(f, L)] kR ka tog) (hN : NR nd M S t nc ca hh lv jj G) (hn : n < nd) (hG : G n = .inl R) (h25 : L.length = 25) : ∃ M' S' ib fm, f88 [.inr (.inr (some (150 + n))), .inr (.inr (some a))] M = some (none, M') ∧ s_out (c211_273 (nI n) (nI f) (nI 11) (num L 4 3) S) = some S' ∧ HB sw nd rm M' S' ib w pe wo t zb sb fm [(a, g, L)] [(f, L)] kR ka tog ∧ NR nd M' S' t nc ca hh lv jj G := by
  have hI := h.I
  have hnd := hI.bs.2.1.2
  have nc3 := hN.1.1.2.2
  have hX : rd M a L := h.rd (u := (a, g, L)) List.mem_cons_self
  have hXs : rdS S f L := h.rdS (u := (f, L)) List.mem_cons_self
  obtain ⟨R1, R2⟩ := ref273 (k := 11) (p := 2) h hN hn hXs (by omega) (by omega)
  obtain ⟨o, o1, o2⟩ := P_cof (p := 2) h hN hn hG hX (by omega) (by omega)
  have o1' : c_R (f83 [.inr (.inr (some (150 + n))), .inr (.inr (some a)), .inl 2] M) = some (o, M) := by
    have : f83 [.inr (.inr (some (150 + n))), .inr (.inr (some a)), .inl 2] M = some (some (.inr (.inr o)), M) := o1
    rw [this]; rfl
  show ∃ M' S' ib fm, x_out (b88_0 (150 + n) (some a) M) = _ ∧ _
  unfold b88_0
  rw [bd_s (g_o_t (ci := 4) (hI.ho0 hn)), bd_s o1']
  rcases o2 with ⟨rfl, q⟩ | ⟨rfl, q⟩
  · rw [R2 q, if_pos rfl]
    exact ⟨M, S, ia, fl, rfl, rfl, h, hN⟩
  rw [R1 q, if_neg (by simp)]
  obtain ⟨q1, q2, q3, q4⟩ := q
  generalize numN L 7 2 = c at *
  obtain ⟨-, wr, un, bl, m, d, ph, bg, pa, cb, ⟨p2, pu, pv, pw⟩, ⟨w1, w2, w3⟩, ⟨-, -, ⟨m1, m2, m3, m4, -⟩⟩, ⟨-, p6, -⟩, -, -, -, ⟨b1, b2', b3⟩, -⟩ := hN.1.2.1 c q1
  have hp := bn_lt L 11
  have e165'' : e165 (nI f) 11 S = some (nI (bn L 11), S) := r165 (i := 11) hXs (by omega)
  have s48 : s_a S 48 (nI c) = some (nI n) := by rw [ga48 (by omega), p6, q2]
  have s50 : s_a S 50 (nI c) = some (nI wr) := by rw [ga50 (by omega), w2]
  have s53 : s_a S 53 (nI c) = some (nI m) := by rw [ga53 (by omega), m2]
  have o2 : g_o M 2 (some a) = some a := g_o_t (ci := 2) hX.1.1
  have e71 := f71_eq hX (by omega)
  have none' : c210_138 (nI c) (nI f) (nI 11) (nI (bn L 11)) S = c210_196 (nI c) (nI f) (nI 11) S → Option.bind (e210 (nI c) (nI f) (nI 11) S) (fun q => c211_344 q) = some (.inl S) := fun q => by
    have : e210 (nI c) (nI f) (nI 11) S = some S := by
      show s_go kS210 (c210_0 (nI c) (nI f) (nI 11) S) = _
      unfold c210_0
      rw [bd_s e165'', bd_s s48, bd_s e176_v, if_neg (show ¬ nI 11 = 14 by decide), if_neg (show ¬ nI 11 = 10 by decide)]
      show s_go kS210 (c210_138 (nI c) (nI f) (nI 11) (nI (bn L 11)) S) = _
      rw [q]
      unfold c210_196
      rw [if_neg (show ¬ nI 11 = 12 by decide)]
      rfl
    rw [bd_s this]
    rfl
  rw [bd_s ((g_i_t (ci := 0) p2).trans (congrArg some w1))]
  have wrc : wr = 1 ∨ wr = 0 := by omega
  rcases wrc with rfl | rfl
  · rw [if_neg (show ¬ nI 1 = 0 by decide), none' (by unfold c210_138; rw [if_pos (show nI 11 = 11 from rfl), bd_s s50, if_neg (show ¬ nI 1 = 0 by decide)])]
    exact ⟨M, S, ia, fl, rfl, rfl, h, hN⟩
  rw [if_pos (show nI 0 = 0 from rfl), bd_s o2, bd_s (c_I_of e71), bd_s ((g_i_t (ci := 0) p2).trans (congrArg some m1))]
  by_cases zp : m ≤ bn L 11
  · have lm : nI m ≤ nI (bn L 11) := nI_le zp (by omega)
    rw [if_pos lm, none' (by unfold c210_138; rw [if_pos (show nI 11 = 11 from rfl), bd_s s50, if_pos (show nI 0 = 0 from rfl), bd_s s53, if_pos lm])]
    exact ⟨M, S, ia, fl, rfl, rfl, h, hN⟩
  have lm : ¬ nI m ≤ nI (bn L 11) := nI_ge (by omega) (by omega)
  obtain ⟨y1, y2, -⟩ := or4 cb b3 (bn L 11) (by omega)
  obtain ⟨ib, k1, k2⟩ := P_val (v := num8 L 13 8) h hN q1 (show bn L 11 < 4 by omega) y2 w2
  have e56 : c_L (f56 [.inr (.inr (some a)), .inl 13, .inl 8] M) = some (num8 L 13 8, M) := by
    have : f56 [.inr (.inr (some a)), .inl 13, .inl 8] M = some (some (.inr (.inl (num8 L 13 8))), M) := f56_eq (i := 13) (n := 8) hX (by omega)
    rw [this]; rfl
  have e87 : f87 [.inr (.inr (some (ca c))), .inl (nI (bn L 11)), .inr (.inl (num8 L 13 8))] M = some (none, h_pi (h_ql M (ca c + 1) (bn L 11) (num8 L 13 8)) 6 (ca c) (nI (cb ||| (1 <<< bn L 11)))) := by
    show x_out (b87_0 (ca c) (nI (bn L 11)) (num8 L 13 8) M) = _
    unfold b87_0
    have r1 : g_r M 0 5 (some (ca c)) = some (some (ca c + 1)) := (g_r_t (ci := 0) p2).trans (congrArg some pu)
    have r2 : as_l M 23 (some (ca c + 1)) (nI (bn L 11)) (num8 L 13 8) = some (h_ql M (ca c + 1) (bn L 11) (num8 L 13 8)) := as_l_t pv (by rw [pw]; omega) (by omega)
    have r3 : g_i (h_ql M (ca c + 1) (bn L 11) (num8 L 13 8)) 0 6 (some (ca c)) = some (nI cb) := (g_i_t (ci := 0) (M := h_ql M (ca c + 1) (bn L 11) (num8 L 13 8)) p2).trans (congrArg some b1)
    rw [if_neg (nI_pos (by omega)), if_neg (show ¬ (4 : Int32) ≤ nI (bn L 11) from nI_ge (b := 4) (by omega) (by omega)), bd_s r1, bd_s r2, bd_s r3, y1, bd_s (p_i_t (ci := 0) (M := h_ql M (ca c + 1) (bn L 11) (num8 L 13 8)) p2)]
    rfl
  refine ⟨_, _, ib, fl, ?_, ?_, k1, k2⟩
  · rw [if_neg lm, bd_s o2, bd_s (c_I_of e71), bd_s o2, bd_s e56, bd_s (g_o_t (ci := 0) p2), bd_s (c_V_of e87)]
    rfl
  · have e210' : e210 (nI c) (nI f) (nI 11) S = some (s_u (s_ul S 54 (4 * c + bn L 11) (num8 L 13 8)) 55 c (nI (cb ||| (1 <<< bn L 11)))) := by
      show s_go kS210 (c210_0 (nI c) (nI f) (nI 11) S) = _
      unfold c210_0
      rw [bd_s e165'', bd_s s48, bd_s e176_v, if_neg (show ¬ nI 11 = 14 by decide), if_neg (show ¬ nI 11 = 10 by decide)]
      show s_go kS210 (c210_138 (nI c) (nI f) (nI 11) (nI (bn L 11)) S) = _
      unfold c210_138
      have r2 : s_sl S 54 (((4 : Int32) * nI c) + nI (bn L 11)) (num8 L 13 8) = some (s_ul S 54 (4 * c + bn L 11) (num8 L 13 8)) := by
        rw [ixl4, nI_add]; exact gs54 (by omega)
      have r3 : s_a (s_ul S 54 (4 * c + bn L 11) (num8 L 13 8)) 55 (nI c) = some (nI cb) := by
        rw [ga55 (by omega)]; exact congrArg some b2'
      rw [if_pos (show nI 11 = 11 from rfl), bd_s s50, if_pos (show nI 0 = 0 from rfl), bd_s s53, if_neg lm, bd_s (e209_eq hXs (by omega)), bd_s r2, bd_s r3, y1, bd_s (gs55 (by omega))]
      rfl
    rw [bd_s e210']
    rfl
end HD
