/-! ===== a host takes TOLD and LOGGED ===== -/
section TD
variable {sw nd rm : Nat} {M M' N : hM} {S S' T : sT} {ia ib : Nat → Nat → Int32} {w t x y zb sb a f n c nc fus : Nat} {pe : Nat → Option Nat} {wo : Nat → Nat} {fl fm : Nat → List (List Int32)} {hc hc' : List (Nat × Int32 × List Int32)} {hs hs' : List (Nat × List Int32)} {L : List Int32} {kR : Nat → rK} {ka : Nat → Nat → Nat} {tog : Nat → Bool} {ca hh : Nat → Nat} {lv : Nat → Bool} {jj : Nat → Nat} {G : Nat → nG} {R : List Nat}
theorem tru_6' (h : tru sw nd L = true) (k : bn L 0 = 6) : L.length = 21 ∧ bn L 13 < nd := by
  have := tru_hf h
  unfold hfF at this
  rw [if_neg (by omega), if_neg (by omega), if_neg (by omega), if_pos k] at this
  split at this
  · rename_i q
    split at this
    · rename_i q2; exact ⟨q, q2⟩
    · cases this
  · cases this
theorem tru_12 (h : tru sw nd L = true) (k : bn L 0 = 12) : L.length = 18 ∧ bn L 13 < 2 := by
  have := tru_hf h
  unfold hfF at this
  rw [if_neg (by omega), if_neg (by omega), if_neg (by omega), if_neg (by omega), if_neg (by omega), if_neg (by omega), if_neg (by omega), if_pos k] at this
  split at this
  · rename_i q; exact ⟨q, of_decide_eq_true this⟩
  · cases this
theorem tru_11 (h : tru sw nd L = true) (k : bn L 0 = 11) : L.length = 25 := by
  have := tru_hf h
  unfold hfF at this
  rw [if_neg (by omega), if_neg (by omega), if_neg (by omega), if_neg (by omega), if_neg (by omega), if_neg (by omega), if_pos k] at this
  exact of_decide_eq_true this
theorem tru_9 (h : tru sw nd L = true) (k : bn L 0 = 9) : L.length = 21 ∧ bn L 14 < 2 := by
  have := tru_hf h
  unfold hfF at this
  rw [if_neg (by omega), if_neg (by omega), if_neg (by omega), if_neg (by omega), if_pos k] at this
  split at this
  · rename_i q; exact ⟨q, of_decide_eq_true this⟩
  · cases this
/-- one field of a command -/
theorem HB.c1 {k p : Nat} {u u' : Int32} (h : HB sw nd rm M S ia w pe wo t zb sb fl hc hs kR ka tog) (ht : h_tg M a ≠ 0) (hk : k ≤ 13) (hp : 54 ≤ p) : HB sw nd rm (h_pi M k a u) (s_u S p c u') (h_ai M) w pe wo t zb sb fl hc hs kR ka tog := by
  have k1 := k_hpi (f := k) (a := a) (v := u) h.bk ht
  have l1 : ks [p] S (s_u S p c u') := k_su
  refine h.cw k1 ?_ rfl (fun _ _ => rfl) l1 ?_
  · rw [List.all_eq_true]
    intro x hx
    have : 13 < x := by
      have : ∀ y, y ∈ hbF → 13 < y := by decide
      exact this x hx
    have : [k].contains x = false := by
      rw [Bool.eq_false_iff]
      intro z
      rw [List.contains_iff_mem] at z
      simp at z
      omega
    rw [this]; rfl
  · rw [List.all_eq_true]
    intro x hx
    have : x < 54 := by
      have : ∀ y, y ∈ hbS → y < 54 := by decide
      exact this x hx
    have : [p].contains x = false := by
      rw [Bool.eq_false_iff]
      intro z
      rw [List.contains_iff_mem] at z
      simp at z
      omega
    rw [this]; rfl
theorem P_goal {v : Int32} (h : HB sw nd rm M S ia w pe wo t zb sb fl hc hs kR ka tog) (hN : NR nd M S t nc ca hh lv jj G) (hcn : c < nc) (hph : S.1 56 c = nI 0) : HB sw nd rm (h_pi M 9 (ca c) v) (s_u S 60 c v) (h_ai M) w pe wo t zb sb fl hc hs kR ka tog ∧ NR nd (h_pi M 9 (ca c) v) (s_u S 60 c v) t nc ca hh lv jj G := by
  obtain ⟨⟨-, -, hn⟩, wr, un, bl, m, d, ph, bg, pa, cb, ⟨a1, a2, a3, a4⟩, bb, cc, dd, ⟨e1, e2, e3⟩, ⟨⟨g1, g2, g3⟩, ⟨g4, g5, g6⟩, g7, g8⟩, f1, f2, f3, f4⟩ := hN.1.2.1 c hcn
  have p0 : ph = 0 := (nI_eq (by omega) (by omega)).mp (by rw [← e2]; exact hph)
  have n0 : h_tg M (ca c) ≠ 0 := by rw [a1]; decide
  have F1 : ∀ k a', k ≠ 9 ∨ a' ≠ ca c → h_fi (h_pi M 9 (ca c) v) k a' = h_fi M k a' := fun k a' q => by
    rcases q with q | q
    · rw [fi_ne q]
    · by_cases z : k = 9
      · subst z; rw [fi_eq, u1_ne q]
      · rw [fi_ne z]
  have S1 : ∀ k c', k ≠ 60 ∨ c' ≠ c → (s_u S 60 c v).1 k c' = S.1 k c' := fun k c' q => by
    rcases q with q | q
    · rw [su_ne q]
    · by_cases z : k = 60
      · subst z; rw [su_eq, u1_ne q]
      · rw [su_ne z]
  refine ⟨h.c1 n0 (by omega) (by omega), hN.cm hcn (fun k a' q => F1 k a' ?_) ⟨rfl, rfl, rfl, rfl, rfl, rfl⟩ (fun _ _ => rfl) (fun k c' q => S1 k c' ?_) (fun _ _ _ => rfl) ?_ (fun q => by rw [S1 59 c (by omega)] at q; exact q)⟩
  · rcases q with q | q
    · exact Or.inl (fun z => q (by rw [z]; decide))
    · exact Or.inr q
  · rcases q with q | q
    · exact Or.inl (fun z => q (by rw [z]; decide))
    · exact Or.inr q
  · refine ⟨wr, un, bl, m, d, ph, bg, pa, cb, ⟨a1, a2, a3, a4⟩, ?_, ?_, ?_, ?_, ⟨?_, ?_, ?_, ?_⟩, fun _ _ => by omega, ?_, f3, f4⟩
    · rw [F1 0 _ (by omega), S1 50 _ (by omega)]; exact bb
    · rw [F1 1 _ (by omega), F1 2 _ (by omega), F1 3 _ (by omega), S1 51 _ (by omega), S1 52 _ (by omega), S1 53 _ (by omega)]; exact cc
    · rw [F1 7 _ (by omega), F1 8 _ (by omega), S1 48 _ (by omega), S1 49 _ (by omega)]; exact dd
    · rw [F1 10 _ (by omega), S1 56 _ (by omega)]; exact ⟨e1, e2, e3⟩
    · rw [F1 11 _ (by omega), S1 58 _ (by omega)]; exact ⟨g1, g2, g3⟩
    · rw [F1 12 _ (by omega), S1 57 _ (by omega)]; exact ⟨g4, g5, g6⟩
    · rw [F1 13 _ (by omega), S1 59 _ (by omega)]; exact g7
    · rw [S1 59 _ (by omega)]; exact g8
    · rw [F1 6 _ (by omega), S1 55 _ (by omega)]; exact f2
/-- takeTold -/
theorem P_told {g : Int32} (h : HB sw nd rm M S ia w pe wo t zb sb fl [(a, g, L)] [(f, L)] kR ka tog) (hN : NR nd M S t nc ca hh lv jj G) (hn : n < nd) (hG : G n = .inl R) (hlv : lv n = false) (h21 : L.length = 21) (hd : bn L 13 < nd) : ∃ M' S' ib fm, f91 [.inr (.inr (some (150 + n))), .inr (.inr (some a))] M = some (none, M') ∧ (if num L 4 3 = 16777212 then (if num L 14 3 = 0 then some S else sdrive kS211 xF 49 [.inl (nI n), .inl (nI f), .inl (num L 14 3), .inl (nI 0)] S) else some S) = some S' ∧ HB sw nd rm M' S' ib w pe wo t zb sb fm [(a, g, L)] [(f, L)] kR ka tog ∧ NR nd M' S' t nc ca hh lv jj G := by
  have hI := h.I
  have hnd := hI.bs.2.1.2
  have nc3 := hN.1.1.2.2
  have hX : rd M a L := h.rd (u := (a, g, L)) List.mem_cons_self
  have o2 : g_o M 2 (some a) = some a := g_o_t (ci := 2) hX.1.1
  have e58 : f58 [.inr (.inr (some a)), .inl 0] M = some (some (.inl (nI (bn L 13))), M) := f58_eq (i := 0) hX (by omega)
  have e56 : c_L (f56 [.inr (.inr (some a)), .inl 14, .inl 3] M) = some (num8 L 14 3, M) := by
    have : f56 [.inr (.inr (some a)), .inl 14, .inl 3] M = some (some (.inr (.inl (num8 L 14 3))), M) := f56_eq (i := 14) (n := 3) hX (by omega)
    rw [this]; rfl
  have n32 : (num8 L 14 3).toInt32 = num L 14 3 := num8_32
  have e65 := f65_eq hX (by omega)
  have fdef : f91 [.inr (.inr (some (150 + n))), .inr (.inr (some a))] M = x_go k91 (b91_0 (150 + n) (some a) M) := rfl
  have g403 : ∀ N, cI sw nd rm N → g_r N 4 3 (some (150 + n)) = some (some (160 + n)) := fun N q => (g_r_t (ci := 4) (q.ho0 hn)).trans (congrArg some (q.ho3 hn))
  have gln : a_ln M 20 (some (160 + n)) = some (nI nd) := by rw [a_ln_t (hI.ho5 hn), hI.ho6 hn]
  rw [fdef]
  unfold b91_0
  rw [bd_s o2, bd_s (c_I_of e58), bd_s o2, bd_s e56, bd_s o2, bd_s (c_I_of e65), n32]
  show ∃ M' S' ib fm, x_go k91 (if num L 4 3 = 16777212 then (if num L 14 3 = 0 then _ else _) else _) = _ ∧ _
  by_cases z1 : ¬ num L 4 3 = 16777212
  · rw [if_neg z1, if_neg z1]
    exact ⟨M, S, ia, fl, rfl, rfl, h, hN⟩
  have z1 : num L 4 3 = 16777212 := Classical.byContradiction z1
  rw [if_pos z1, if_pos z1]
  by_cases z2 : num L 14 3 = 0
  · rw [if_pos z2, if_pos z2]
    exact ⟨M, S, ia, fl, rfl, rfl, h, hN⟩
  rw [if_neg z2, if_neg z2, bd_s (g403 M hI), bd_s gln, if_pos (show nI (bn L 13) < nI nd from nI_lt hd (by omega))]
  have hRp := (hN.ho hn hG).2.2.2.1.2.2.2.1
  have hRn : ∀ c, c ∈ R → c < nc := fun c hc => ((hN.ho hn hG).2.2.2.1.2.2.2.2.1 c hc).1
  have hRl := (hN.ho hn hG).2.2.2.1.2.1
  obtain ⟨M', S', f', r0, r1, r2, ib, fm, r3, r4⟩ := merge (ρ := sT) (kk := k91) (kS := kS211) (H := 41) (H' := 49) (ar := fun i => [.inr (.inr (some (150 + n))), .inl (nI (bn L 13)), .inl (num L 14 3), .inl (nI i)]) (as := fun c => [.inl (nI n), .inl (nI f), .inl (num L 14 3), .inl (nI c)]) (J := fun _ N T => ∃ ib fm, HB sw nd rm N T ib w pe wo t zb sb fm [(a, g, L)] [(f, L)] kR ka tog ∧ NR nd N T t nc ca hh lv jj G) (nc := nc) (R := R)
    (fun c N T hJ hcn hcR => by
      refine ⟨?_, hJ⟩
      obtain ⟨ib, fm, j1, j2⟩ := hJ
      obtain ⟨ph, p1, p2, p3, p4, p5, p6, p7⟩ := ph_e j2 hcn
      have s47 : s_g T 47 = nI nc := j2.1.1.2.1
      have n47 : ¬ nI nc ≤ nI c := nI_ge hcn (by omega)
      have s48 : s_a T 48 (nI c) = some (nI (hh c)) := by rw [ga48 (by omega), p6]
      have s56 : s_a T 56 (nI c) = some (nI ph) := by rw [ga56 (by omega), p4]
      show c211_49 (nI n) (nI f) (num L 14 3) (nI c) T = _
      unfold c211_49
      rw [s47, if_neg n47, bd_s s48]
      by_cases z : hh c = n
      · have n0 : ¬ nI ph = 0 := fun q => by
          have : ph = 0 := (nI_eq (b := 0) (by omega) (by omega)).mp q
          exact hcR ((j2.ho hn hG).2.2.2.1.2.2.2.2.2 c hcn z (p5.mp (by omega)))
        rw [if_pos (by rw [z]), bd_s s56, if_neg n0]
        unfold c211_141
        rw [nI_1]
      · rw [if_neg (fun q => z ((nI_eq (by omega) (by omega)).mp q))]
        unfold c211_141
        rw [nI_1])
    (fun i c N T hJ hcn hi hRi => by
      obtain ⟨ib, fm, j1, j2⟩ := hJ
      have hIN := j1.I
      obtain ⟨y1, y2, y3, y4, y5, y6⟩ := rec_i hIN j2 hn hG hi
      rw [hRi] at y2 y3 y4
      obtain ⟨ph, p1, p2, p3, p4, p5, p6, p7⟩ := ph_e j2 hcn
      obtain ⟨-, wr, un, bl, m, d, ph', bg, pa, cb, -, -, -, ⟨-, -, d3, d4, d5⟩, -⟩ := j2.1.2.1 c hcn
      have s47 : s_g T 47 = nI nc := j2.1.1.2.1
      have n47 : ¬ nI nc ≤ nI c := nI_ge hcn (by omega)
      have s48 : s_a T 48 (nI c) = some (nI n) := by rw [ga48 (by omega), p6, y4]
      have s56 : s_a T 56 (nI c) = some (nI ph) := by rw [ga56 (by omega), p4]
      have s49 : s_a T 49 (nI c) = some (nI d) := by rw [ga49 (by omega), d4]
      have q10 : g_i N 0 10 (some (ca c)) = some (nI ph) := (g_i_t (ci := 0) p2).trans (congrArg some p3)
      have q8 : g_i N 0 8 (some (ca c)) = some (nI d) := (g_i_t (ci := 0) p2).trans (congrArg some d3)
      have e165' : e165 (nI f) 13 T = some (nI (bn L 13), T) := r165 (i := 13) (j1.rdS (u := (f, L)) List.mem_cons_self) (by show 13 < L.length; omega)
      have skip : b91_41 (150 + n) (nI (bn L 13)) (num L 14 3) (nI i) N = b91_114 (150 + n) (nI (bn L 13)) (num L 14 3) (nI i) N → c211_49 (nI n) (nI f) (num L 14 3) (nI c) T = c211_141 (nI n) (nI f) (num L 14 3) (nI c) T → ∃ M' S', k91 41 [.inr (.inr (some (150 + n))), .inl (nI (bn L 13)), .inl (num L 14 3), .inl (nI i)] N = some (.inr (41, [.inr (.inr (some (150 + n))), .inl (nI (bn L 13)), .inl (num L 14 3), .inl (nI (i + 1))], M')) ∧ kS211 49 [.inl (nI n), .inl (nI f), .inl (num L 14 3), .inl (nI c)] T = some (.inr (49, [.inl (nI n), .inl (nI f), .inl (num L 14 3), .inl (nI (c + 1))], S')) ∧ ∃ ib fm, HB sw nd rm M' S' ib w pe wo t zb sb fm [(a, g, L)] [(f, L)] kR ka tog ∧ NR nd M' S' t nc ca hh lv jj G := fun q1 q2 => by
        refine ⟨N, T, ?_, ?_, ib, fm, j1, j2⟩
        · show b91_41 (150 + n) (nI (bn L 13)) (num L 14 3) (nI i) N = _
          rw [q1]; unfold b91_114; rw [nI_1]
        · show c211_49 (nI n) (nI f) (num L 14 3) (nI c) T = _
          rw [q2]; unfold c211_141; rw [nI_1]
      by_cases z : ph = 0
      · subst z
        by_cases zd : d = bn L 13
        · obtain ⟨k1, k2⟩ := P_goal (v := num L 14 3) j1 j2 hcn p4
          have hI38 := k1.I
          have g9 : h_fi (h_pi N 9 (ca c) (num L 14 3)) 9 (ca c) = (s_u T 60 c (num L 14 3)).1 60 c := by rw [fi_eq, u1_eq, su_eq, u1_eq]
          have q59 : (s_u T 60 c (num L 14 3)).1 59 c = -1 := by rw [su_ne (by decide)]; exact p5.mp (by omega)
          have q56 : (s_u T 60 c (num L 14 3)).1 56 c = nI 0 := by rw [su_ne (by decide)]; exact p4
          have q38 : p_i N 0 9 (some (ca c)) (num L 14 3) = some (h_pi N 9 (ca c) (num L 14 3)) := p_i_t (ci := 0) p2
          obtain ⟨y1', y2', -⟩ := rec_i hI38 k2 hn hG hi
          rw [hRi] at y2'
          have qlg : al_i (h_pi N 9 (ca c) (num L 14 3)) 20 (some (160 + n)) (nI (bn L 13)) = some (T.1 39 (8 * n + d)) := by
            rw [← zd, al_i_t (hI38.ho5 hn) (by rw [hI38.ho6 hn]; exact d5) (by omega), (k2.ho hn hG).2.2.1 d d5, su_ne (by decide)]
          have s60 : s_s T 60 (nI c) (num L 14 3) = some (s_u T 60 c (num L 14 3)) := gs60 (by omega)
          have s49' : s_a (s_u T 60 c (num L 14 3)) 49 (nI c) = some (nI d) := by rw [ga49 (by omega), su_ne (by decide), d4]
          have s39' : s_a (s_u T 60 c (num L 14 3)) 39 ((8 : Int32) * nI n + nI d) = some (T.1 39 (8 * n + d)) := by rw [ixl8, nI_add, ga39 (by omega), su_ne (by decide)]
          have go : ∀ ph', 1 ≤ ph' ∧ ph' ≤ 3 → (b91_41 (150 + n) (nI (bn L 13)) (num L 14 3) (nI i) N = b91_111 (150 + n) (nI (bn L 13)) (num L 14 3) (nI i) (nI ph') (some (ca c)) (some (150 + n)) (h_pi N 9 (ca c) (num L 14 3))) → c211_49 (nI n) (nI f) (num L 14 3) (nI c) T = c211_138 (nI n) (nI f) (num L 14 3) (nI c) (nI ph') (nI c) (s_u T 60 c (num L 14 3)) → ∃ M' S', k91 41 [.inr (.inr (some (150 + n))), .inl (nI (bn L 13)), .inl (num L 14 3), .inl (nI i)] N = some (.inr (41, [.inr (.inr (some (150 + n))), .inl (nI (bn L 13)), .inl (num L 14 3), .inl (nI (i + 1))], M')) ∧ kS211 49 [.inl (nI n), .inl (nI f), .inl (num L 14 3), .inl (nI c)] T = some (.inr (49, [.inl (nI n), .inl (nI f), .inl (num L 14 3), .inl (nI (c + 1))], S')) ∧ ∃ ib fm, HB sw nd rm M' S' ib w pe wo t zb sb fm [(a, g, L)] [(f, L)] kR ka tog ∧ NR nd M' S' t nc ca hh lv jj G := fun ph' hp' q1 q2 => by
            obtain ⟨M1, S1, ib1, fm1, r1, r2, r3, r4, -⟩ := P_enter (ph' := ph') k1 k2 hcn (by show 1 ≤ 3; omega) (by show 1 ≤ 3; omega) q59 q56 (by omega) hp' g9 (by rw [y4]; exact hlv)
            rw [y4] at r1
            refine ⟨M1, S1, ?_, ?_, ib1, fm1, r3, r4⟩
            · show b91_41 (150 + n) (nI (bn L 13)) (num L 14 3) (nI i) N = _
              rw [q1]
              unfold b91_111
              rw [bd_s (g_o_t (ci := 4) (hI38.ho0 hn)), bd_s (c_V_of r1)]
              unfold b91_114
              rw [nI_1]
            · show c211_49 (nI n) (nI f) (num L 14 3) (nI c) T = _
              rw [q2]
              unfold c211_138
              rw [bd_s r2]
              unfold c211_141
              rw [nI_1]
          by_cases zl : T.1 39 (8 * n + d) = num L 14 3
          · refine go 2 (by omega) ?_ ?_
            · unfold b91_41
              rw [bd_s y5, if_neg y6, bd_s y1, bd_s y2, bd_s q10, if_pos (show nI 0 = 0 from rfl), bd_s y1, bd_s y2, bd_s q8, if_pos (by rw [zd]), bd_s y1, bd_s y2, bd_s q38, bd_s y1', bd_s y2', bd_s (g403 _ hI38), bd_s qlg, if_pos zl]
              rfl
            · unfold c211_49
              rw [s47, if_neg n47, bd_s s48, if_pos rfl, bd_s s56, if_pos (show nI 0 = 0 from rfl), bd_s s49, bd_s e165', if_pos (by rw [zd]), bd_s s60, bd_s s49', bd_s s39', if_pos zl]
              rfl
          · refine go 1 (by omega) ?_ ?_
            · unfold b91_41
              rw [bd_s y5, if_neg y6, bd_s y1, bd_s y2, bd_s q10, if_pos (show nI 0 = 0 from rfl), bd_s y1, bd_s y2, bd_s q8, if_pos (by rw [zd]), bd_s y1, bd_s y2, bd_s q38, bd_s y1', bd_s y2', bd_s (g403 _ hI38), bd_s qlg, if_neg zl]
              rfl
            · unfold c211_49
              rw [s47, if_neg n47, bd_s s48, if_pos rfl, bd_s s56, if_pos (show nI 0 = 0 from rfl), bd_s s49, bd_s e165', if_pos (by rw [zd]), bd_s s60, bd_s s49', bd_s s39', if_neg zl]
              rfl
        · have nd' : ¬ nI d = nI (bn L 13) := fun q => zd ((nI_eq (by omega) (by omega)).mp q)
          refine skip ?_ ?_
          · unfold b91_41
            rw [bd_s y5, if_neg y6, bd_s y1, bd_s y2, bd_s q10, if_pos (show nI 0 = 0 from rfl), bd_s y1, bd_s y2, bd_s q8, if_neg nd']
          · unfold c211_49
            rw [s47, if_neg n47, bd_s s48, if_pos rfl, bd_s s56, if_pos (show nI 0 = 0 from rfl), bd_s s49, bd_s e165', if_neg nd']
      · have n0 : ¬ nI ph = 0 := fun q => z ((nI_eq (b := 0) (by omega) (by omega)).mp q)
        refine skip ?_ ?_
        · unfold b91_41
          rw [bd_s y5, if_neg y6, bd_s y1, bd_s y2, bd_s q10, if_neg n0]
        · unfold c211_49
          rw [s47, if_neg n47, bd_s s48, if_pos rfl, bd_s s56, if_neg n0]) hRp hRn nc 0 [] R M S xF xF rfl (fun x hx => by cases hx) (fun x _ => by omega) (by omega) ⟨ia, fl, h, hN⟩ (by unfold xF; omega) (by unfold xF; omega)
  obtain ⟨z1', z2'⟩ := rec_e r3.I r4 hn hG
  refine ⟨M', S', ib, fm, ?_, ?_, r3, r4⟩
  · show drive k91 xF 41 [.inr (.inr (some (150 + n))), .inl (nI (bn L 13)), .inl (num L 14 3), .inl (nI 0)] M = _
    refine Eq.trans r1 ?_
    obtain ⟨g', rfl⟩ : ∃ g, f' = g + 1 := ⟨f' - 1, by unfold xF at r0; omega⟩
    refine dr_end ?_
    show b91_41 (150 + n) (nI (bn L 13)) (num L 14 3) (nI R.length) M' = _
    unfold b91_41
    rw [bd_s z1', if_pos z2']
  · refine Eq.trans r2 ?_
    obtain ⟨g', hg'⟩ : ∃ g, xF - nc = g + 1 := ⟨xF - nc - 1, by unfold xF; omega⟩
    rw [hg']
    refine sd_end ?_
    show c211_49 (nI n) (nI f) (num L 14 3) (nI nc) S' = _
    have s47 : s_g S' 47 = nI nc := r4.1.1.2.1
    unfold c211_49
    rw [s47, if_pos (show nI nc ≤ nI nc from nI_le (by omega) (by omega))]
    rfl
end TD
