/-! ===== what a host gets of its commands ===== -/
section HG
variable {sw nd rm : Nat} {M M' N : hM} {S S' T : sT} {ia ib : Nat → Nat → Int32} {w t x y zb sb a f n c nc fus : Nat} {pe : Nat → Option Nat} {wo : Nat → Nat} {fl fm : Nat → List (List Int32)} {hc hc' : List (Nat × Int32 × List Int32)} {hs hs' : List (Nat × List Int32)} {L : List Int32} {kR : Nat → rK} {ka : Nat → Nat → Nat} {tog : Nat → Bool} {ca hh : Nat → Nat} {lv : Nat → Bool} {jj : Nat → Nat} {G : Nat → nG} {R : List Nat} {g : Int32}
/-- the reference's road to ofCommand -/
theorem ref273 {k p : Nat} (h : HB sw nd rm M S ia w pe wo t zb sb fl hc hs kR ka tog) (hN : NR nd M S t nc ca hh lv jj G) (hn : n < nd) (hX : rdS S f L) (h13 : 13 ≤ L.length) (hk : (k = 14 ∧ p = 3) ∨ ((k = 10 ∨ k = 11 ∨ k = 12) ∧ p = 2)) : ((numN L 7 2 < nc ∧ hh (numN L 7 2) = n ∧ S.1 56 (numN L 7 2) = nI p ∧ S.1 60 (numN L 7 2) = num L 4 3) → c211_273 (nI n) (nI f) (nI k) (num L 4 3) S = Option.bind (e210 (nI (numN L 7 2)) (nI f) (nI k) S) fun q => c211_344 q) ∧ (¬ (numN L 7 2 < nc ∧ hh (numN L 7 2) = n ∧ S.1 56 (numN L 7 2) = nI p ∧ S.1 60 (numN L 7 2) = num L 4 3) → c211_273 (nI n) (nI f) (nI k) (num L 4 3) S = c211_344 S) := by
  have hnd := h.I.bs.2.1.2
  have nc3 := hN.1.1.2.2
  have e166' : e166 (nI f) 7 2 S = some (nI (numN L 7 2), S) := by
    have : e166 (nI f) 7 2 S = some (num L 7 2, S) := r166 (i := 7) (n := 2) hX (by omega)
    rw [this, num_N L 7 2 (by omega)]
  have hb : numN L 7 2 < 65536 := numN_lt L 7 2
  have s47 : s_g S 47 = nI nc := hN.1.1.2.1
  generalize numN L 7 2 = c at *
  have ki : ∀ S' : sT, ∀ v : Int32, (if nI k = 14 then c211_333 (nI f) (nI k) (nI c) 3 v S' else c211_333 (nI f) (nI k) (nI c) 2 v S') = c211_333 (nI f) (nI k) (nI c) (nI p) v S' := fun S' v => by
    rcases hk with ⟨rfl, rfl⟩ | ⟨rfl | rfl | rfl, rfl⟩
    · rw [if_pos (show nI 14 = 14 from rfl)]; rfl
    · rw [if_neg (show ¬ nI 10 = 14 by decide)]; rfl
    · rw [if_neg (show ¬ nI 11 = 14 by decide)]; rfl
    · rw [if_neg (show ¬ nI 12 = 14 by decide)]; rfl
  have out : nc ≤ c → c211_273 (nI n) (nI f) (nI k) (num L 4 3) S = c211_344 S := fun q => by
    unfold c211_273
    rw [bd_s e166', s47, if_pos (show nI nc ≤ nI c from nI_le q (by omega))]
  have ins : c < nc → c211_273 (nI n) (nI f) (nI k) (num L 4 3) S = (if nI (hh c) = nI n then (if S.1 60 c = num L 4 3 then c211_333 (nI f) (nI k) (nI c) (nI p) (S.1 56 c) S else c211_344 S) else c211_344 S) := fun q => by
    obtain ⟨ph, p1, p2, p3, p4, p5, p6, p7⟩ := ph_e hN q
    have s48 : s_a S 48 (nI c) = some (nI (hh c)) := by rw [ga48 (by omega), p6]
    have s60 : s_a S 60 (nI c) = some (S.1 60 c) := ga60 (by omega)
    have s56 : s_a S 56 (nI c) = some (S.1 56 c) := ga56 (by omega)
    unfold c211_273
    rw [bd_s e166', s47, if_neg (show ¬ nI nc ≤ nI c from nI_ge q (by omega)), bd_s s48, bd_s s60, bd_s s56, ki]
  constructor
  · rintro ⟨q1, q2, q3, q4⟩
    rw [ins q1, if_pos (by rw [q2]), if_pos q4]
    unfold c211_333
    rw [if_pos q3]
  · intro q
    by_cases z1 : c < nc
    · obtain ⟨ph, p1, p2, p3, p4, p5, p6, p7⟩ := ph_e hN z1
      rw [ins z1]
      by_cases z2 : hh c = n
      · rw [if_pos (by rw [z2])]
        by_cases z3 : S.1 60 c = num L 4 3
        · rw [if_pos z3]
          unfold c211_333
          rw [if_neg (fun z4 => q ⟨z1, z2, z4, z3⟩)]
        · rw [if_neg z3]
      · rw [if_neg (fun y => z2 ((nI_eq (by omega) (by omega)).mp y))]
    · exact out (by omega)
/-- takeAborted -/
theorem P_ab (h : HB sw nd rm M S ia w pe wo t zb sb fl [(a, g, L)] [(f, L)] kR ka tog) (hN : NR nd M S t nc ca hh lv jj G) (hn : n < nd) (hG : G n = .inl R) (h13 : 13 ≤ L.length) : ∃ M' S' ib fm, f84 [.inr (.inr (some (150 + n))), .inr (.inr (some a))] M = some (none, M') ∧ s_out (c211_273 (nI n) (nI f) (nI 14) (num L 4 3) S) = some S' ∧ HB sw nd rm M' S' ib w pe wo t zb sb fm [(a, g, L)] [(f, L)] kR ka tog ∧ NR nd M' S' t nc ca hh lv jj G := by
  have hI := h.I
  have hnd := hI.bs.2.1.2
  have nc3 := hN.1.1.2.2
  have hX : rd M a L := h.rd (u := (a, g, L)) List.mem_cons_self
  have hXs : rdS S f L := h.rdS (u := (f, L)) List.mem_cons_self
  obtain ⟨R1, R2⟩ := ref273 (k := 14) (p := 3) h hN hn hXs h13 (by omega)
  obtain ⟨o, o1, o2⟩ := P_cof (p := 3) h hN hn hG hX h13 (by omega)
  have o1' : c_R (f83 [.inr (.inr (some (150 + n))), .inr (.inr (some a)), .inl 3] M) = some (o, M) := by
    have : f83 [.inr (.inr (some (150 + n))), .inr (.inr (some a)), .inl 3] M = some (some (.inr (.inr o)), M) := o1
    rw [this]; rfl
  show ∃ M' S' ib fm, x_out (b84_0 (150 + n) (some a) M) = _ ∧ _
  unfold b84_0
  rw [bd_s (g_o_t (ci := 4) (hI.ho0 hn)), bd_s o1']
  rcases o2 with ⟨rfl, q⟩ | ⟨rfl, q⟩
  · rw [R2 q, if_pos rfl]
    exact ⟨M, S, ia, fl, rfl, rfl, h, hN⟩
  · rw [R1 q, if_neg (by simp)]
    obtain ⟨q1, q2, q3, q4⟩ := q
    generalize numN L 7 2 = c at *
    obtain ⟨ph, p1, p2, p3, p4, p5, p6, p7⟩ := ph_e hN q1
    obtain ⟨M1, S1, ib, r1, r2, r3, r4, -⟩ := P_end (how := 12) h hN q1 (by omega)
    have r1' : f50 [.inr (.inr (some (ca c))), .inl 12, .inl (nI t)] M = some (none, M1) := r1
    have r2' : e205 (nI c) 12 S = some S1 := r2
    refine ⟨M1, S1, ib, fl, ?_, ?_, r3, r4⟩
    · rw [bd_s ((g_r_t (ci := 4) (hI.ho0 hn)).trans (congrArg some (hI.ho1 hn))), bd_s ((g_i_t (ci := 9) hI.sh0).trans (congrArg some h.t1)), bd_s (g_o_t (ci := 0) p2), bd_s (c_V_of r1')]
      rfl
    · have e210' : e210 (nI c) (nI f) (nI 14) S = some S1 := by
        show s_go kS210 (c210_0 (nI c) (nI f) (nI 14) S) = _
        have e165' : e165 (nI f) 11 S = some (nI (bn L 11), S) := r165 (i := 11) hXs (by omega)
        unfold c210_0
        rw [bd_s e165', bd_s (show s_a S 48 (nI c) = some (nI (hh c)) by rw [ga48 (by omega), p6]), bd_s e176_v, if_pos (show nI 14 = 14 from rfl), bd_s r2']
        rfl
      rw [bd_s e210']
      rfl
/-- takeDone -/
theorem P_dn (h : HB sw nd rm M S ia w pe wo t zb sb fl [(a, g, L)] [(f, L)] kR ka tog) (hN : NR nd M S t nc ca hh lv jj G) (hn : n < nd) (hG : G n = .inl R) (hlv : lv n = false) (h18 : L.length = 18) (h2 : bn L 13 < 2) : ∃ M' S' ib fm, f86 [.inr (.inr (some (150 + n))), .inr (.inr (some a))] M = some (none, M') ∧ s_out (c211_273 (nI n) (nI f) (nI 12) (num L 4 3) S) = some S' ∧ HB sw nd rm M' S' ib w pe wo t zb sb fm [(a, g, L)] [(f, L)] kR ka tog ∧ NR nd M' S' t nc ca hh lv jj G := by
  have hI := h.I
  have hnd := hI.bs.2.1.2
  have nc3 := hN.1.1.2.2
  have hX : rd M a L := h.rd (u := (a, g, L)) List.mem_cons_self
  have hXs : rdS S f L := h.rdS (u := (f, L)) List.mem_cons_self
  obtain ⟨R1, R2⟩ := ref273 (k := 12) (p := 2) h hN hn hXs (by omega) (by omega)
  obtain ⟨o, o1, o2⟩ := P_cof (p := 2) h hN hn hG hX (by omega) (by omega)
  have o1' : c_R (f83 [.inr (.inr (some (150 + n))), .inr (.inr (some a)), .inl 2] M) = some (o, M) := by
    have : f83 [.inr (.inr (some (150 + n))), .inr (.inr (some a)), .inl 2] M = some (some (.inr (.inr o)), M) := o1
    rw [this]; rfl
  show ∃ M' S' ib fm, x_out (b86_0 (150 + n) (some a) M) = _ ∧ _
  unfold b86_0
  rw [bd_s (g_o_t (ci := 4) (hI.ho0 hn)), bd_s o1']
  rcases o2 with ⟨rfl, q⟩ | ⟨rfl, q⟩
  · rw [R2 q, if_pos rfl]
    exact ⟨M, S, ia, fl, rfl, rfl, h, hN⟩
  rw [R1 q, if_neg (by simp)]
  obtain ⟨q1, q2, q3, q4⟩ := q
  generalize numN L 7 2 = c at *
  obtain ⟨-, wr, un, bl, m, d, ph, bg, pa, cb, ⟨p2, -⟩, ⟨w1, w2, w3⟩, ⟨-, -, ⟨m1, m2, m3, m4, -⟩⟩, ⟨-, p6, d3, d4, d5⟩, ⟨e1, e2, e3⟩, ⟨-, -, -, g8⟩, f1, ⟨b1, b2', b3⟩, -⟩ := hN.1.2.1 c q1
  have hph : ph = 2 := (nI_eq (by omega) (by omega)).mp (by rw [← e2]; exact q3)
  subst hph
  have e58 : f58 [.inr (.inr (some a)), .inl 0] M = some (some (.inl (nI (bn L 13))), M) := f58_eq (i := 0) hX (by omega)
  have e165' : e165 (nI f) 13 S = some (nI (bn L 13), S) := r165 (i := 13) hXs (by omega)
  have e165'' : e165 (nI f) 11 S = some (nI (bn L 11), S) := r165 (i := 11) hXs (by omega)
  have s48 : s_a S 48 (nI c) = some (nI n) := by rw [ga48 (by omega), p6, q2]
  have s49 : s_a S 49 (nI c) = some (nI d) := by rw [ga49 (by omega), d4]
  have s50 : s_a S 50 (nI c) = some (nI wr) := by rw [ga50 (by omega), w2]
  have s55 : s_a S 55 (nI c) = some (nI cb) := by rw [ga55 (by omega), b2']
  have s53 : s_a S 53 (nI c) = some (nI m) := by rw [ga53 (by omega), m2]
  have g400 : g_r M 4 0 (some (150 + n)) = some (some 2) := (g_r_t (ci := 4) (hI.ho0 hn)).trans (congrArg some (hI.ho1 hn))
  have g903 : g_i M 9 3 (some 2) = some (nI t) := (g_i_t (ci := 9) hI.sh0).trans (congrArg some h.t1)
  have oa : g_o M 0 (some (ca c)) = some (ca c) := g_o_t (ci := 0) p2
  rw [bd_s (g_o_t (ci := 2) hX.1.1), bd_s (c_I_of e58)]
  have e210d : e210 (nI c) (nI f) (nI 12) S = s_go kS210 (c210_196 (nI c) (nI f) (nI 12) S) := by
    show s_go kS210 (c210_0 (nI c) (nI f) (nI 12) S) = _
    unfold c210_0
    rw [bd_s e165'', bd_s s48, bd_s e176_v, if_neg (show ¬ nI 12 = 14 by decide), if_neg (show ¬ nI 12 = 10 by decide)]
    unfold c210_138
    rw [if_neg (show ¬ nI 12 = 11 by decide)]
  by_cases zb0 : bn L 13 = 0
  · -- good, or not all came
    rw [zb0] at e165'
    rw [zb0]
    have r196 : c210_196 (nI c) (nI f) (nI 12) S = (if nI wr = 0 then (if nI cb = (((1 : Int32) <<< (nI m &&& 31)) - 1) then c210_273 (nI c) S else Option.bind (e206 (nI c) 3 S) fun q_100 => c210_289 q_100) else c210_273 (nI c) S) := by
      unfold c210_196
      rw [if_pos (show nI 12 = 12 from rfl), bd_s e165', if_neg (show ¬ nI 0 = 1 by decide), bd_s s50, bd_s s55, bd_s s53]
    have good : ∃ M' S' ib fm, x_out (b86_72 (150 + n) (some (ca c)) M) = some (none, M') ∧ s_go kS210 (c210_273 (nI c) S) = some S' ∧ HB sw nd rm M' S' ib w pe wo t zb sb fm [(a, g, L)] [(f, L)] kR ka tog ∧ NR nd M' S' t nc ca hh lv jj G := by
      obtain ⟨M1, S1, ib, r1, r2, r3, r4, -⟩ := P_end (how := 10) h hN q1 (by omega)
      have r1' : f50 [.inr (.inr (some (ca c))), .inl 10, .inl (nI t)] M = some (none, M1) := r1
      have r2' : e205 (nI c) 10 S = some S1 := r2
      refine ⟨M1, S1, ib, fl, ?_, ?_, r3, r4⟩
      · unfold b86_72
        rw [bd_s g400, bd_s g903, bd_s oa, bd_s (c_V_of r1')]
        rfl
      · unfold c210_273
        rw [bd_s r2']
        rfl
    rw [e210d, r196, if_pos (show nI 0 = 0 from rfl), bd_s ((g_i_t (ci := 0) p2).trans (congrArg some w1))]
    have wrc : wr = 0 ∨ wr = 1 := by omega
    rcases wrc with rfl | rfl
    · rw [if_pos (show nI 0 = 0 from rfl), if_pos (show nI 0 = 0 from rfl), bd_s oa]
      have e85 : f85 [.inr (.inr (some (ca c)))] M = some (some (.inl (b2 (decide (nI cb = (((1 : Int32) <<< (nI m &&& 31)) - 1))))), M) := by
        show x_out (b85_0 (ca c) M) = _
        unfold b85_0
        rw [bd_s ((g_i_t (ci := 0) p2).trans (congrArg some b1)), bd_s ((g_i_t (ci := 0) p2).trans (congrArg some m1))]
        by_cases z : nI cb = (((1 : Int32) <<< (nI m &&& 31)) - 1)
        · rw [if_pos z, decide_eq_true z]; rfl
        · rw [if_neg z, decide_eq_false z]; rfl
      rw [bd_s (c_I_of e85)]
      by_cases z : nI cb = (((1 : Int32) <<< (nI m &&& 31)) - 1)
      · rw [if_pos z, decide_eq_true z, if_neg (show ¬ b2 true = 0 by decide)]
        obtain ⟨M1, S1, ib, fm, r1, r2, r3, r4⟩ := good
        rw [r2]
        exact ⟨M1, S1, ib, fm, r1, rfl, r3, r4⟩
      · rw [if_neg z, decide_eq_false z, if_pos (show b2 false = 0 from rfl)]
        obtain ⟨M1, S1, ib, fm, r1, r2, r3, r4, -⟩ := P_enter (ph' := 3) h hN q1 (by show 1 ≤ 3; omega) (by show 1 ≤ 3; omega) (g8.mp (by omega)) e2 (by omega) (by omega) (f1 (by omega) (by omega)) (by rw [q2]; exact hlv)
        rw [q2] at r1
        have r1' : f51 [.inr (.inr (some (150 + n))), .inr (.inr (some (ca c))), .inl 3] M = some (none, M1) := r1
        have r2' : e206 (nI c) 3 S = some S1 := r2
        rw [bd_s (g_o_t (ci := 4) (hI.ho0 hn)), bd_s (c_V_of r1'), bd_s r2']
        exact ⟨M1, S1, ib, fm, rfl, rfl, r3, r4⟩
    · rw [if_neg (show ¬ nI 1 = 0 by decide), if_neg (show ¬ nI 1 = 0 by decide)]
      obtain ⟨M1, S1, ib, fm, r1, r2, r3, r4⟩ := good
      rw [r2]
      exact ⟨M1, S1, ib, fm, r1, rfl, r3, r4⟩
  · -- bad
    have zb1 : bn L 13 = 1 := by omega
    rw [zb1] at e165'
    rw [zb1]
    obtain ⟨k1, k2⟩ := P_lgset (v := 0) h hN hn hG d5
    obtain ⟨M1, S1, ib, r1, r2, r3, r4, -⟩ := P_end (how := 11) k1 k2 q1 (by omega)
    have hM1 : M1 = h_qi (h_pi (h_pi M 10 (ca c) 11) 13 (ca c) (nI t)) (160 + n) d 0 := by
      have := f50_eq (M := h_qi M (160 + n) d 0) (a := ca c) (v1 := nI 11) (v2 := nI t) p2
      rw [r1] at this
      have := (Prod.mk.inj (Option.some.inj this)).2
      rw [this]; rfl
    have e50 : f50 [.inr (.inr (some (ca c))), .inl 11, .inl (nI t)] M = some (none, h_pi (h_pi M 10 (ca c) 11) 13 (ca c) (nI t)) := f50_eq p2
    let M2 := h_pi (h_pi M 10 (ca c) 11) 13 (ca c) (nI t)
    have q8 : g_i M2 0 8 (some (ca c)) = some (nI d) := (g_i_t (ci := 0) (M := M2) p2).trans (congrArg some (by show h_fi (h_pi (h_pi M 10 (ca c) 11) 13 (ca c) (nI t)) 8 (ca c) = _; rw [fi_ne (by decide), fi_ne (by decide)]; exact d3))
    have g403 : g_r M2 4 3 (some (150 + n)) = some (some (160 + n)) := (g_r_t (ci := 4) (M := M2) (hI.ho0 hn)).trans (congrArg some (hI.ho3 hn))
    have gln : a_ln M2 20 (some (160 + n)) = some (nI nd) := by rw [a_ln_t (M := M2) (hI.ho5 hn)]; exact congrArg (fun z => some (nI z)) (hI.ho6 hn)
    have q20 : as_i M2 20 (some (160 + n)) (nI d) 0 = some M1 := by
      rw [hM1]
      exact as_i_t (M := M2) (hI.ho5 hn) (show d < h_ln M (160 + n) by rw [hI.ho6 hn]; exact d5) (by omega)
    refine ⟨M1, S1, ib, fl, ?_, ?_, r3, r4⟩
    · rw [if_neg (show ¬ nI 1 = 0 by decide), bd_s g400, bd_s g903, bd_s oa, bd_s (c_V_of e50), bd_s q8, bd_s g403, bd_s gln, if_neg (show ¬ nI nd ≤ nI d from nI_ge d5 (by omega)), bd_s g403, bd_s q8, bd_s q20]
      rfl
    · have q39 : s_s S 39 (((8 : Int32) * nI n) + nI d) 0 = some (s_u S 39 (8 * n + d) 0) := by rw [ixl8, nI_add]; exact gs39 (by omega)
      have r2' : e205 (nI c) 11 (s_u S 39 (8 * n + d) 0) = some S1 := r2
      have : e210 (nI c) (nI f) (nI 12) S = some S1 := by
        rw [e210d]
        unfold c210_196
        rw [if_pos (show nI 12 = 12 from rfl), bd_s e165', if_pos (show nI 1 = 1 from rfl), bd_s s48, bd_s s49, bd_s q39, bd_s r2']
        rfl
      rw [bd_s this]
      rfl
end HG
