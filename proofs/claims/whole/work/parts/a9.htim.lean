/-! ===== a host's timers; which command a frame is of ===== -/
section HT
variable {sw nd rm : Nat} {M M' N : hM} {S S' T : sT} {ia ib : Nat → Nat → Int32} {w t x y zb sb a f n c nc fus : Nat} {pe : Nat → Option Nat} {wo : Nat → Nat} {fl fm : Nat → List (List Int32)} {hc hc' : List (Nat × Int32 × List Int32)} {hs hs' : List (Nat × List Int32)} {L : List Int32} {kR : Nat → rK} {ka : Nat → Nat → Nat} {tog : Nat → Bool} {ca hh : Nat → Nat} {lv : Nat → Bool} {jj : Nat → Nat} {G : Nat → nG} {R : List Nat}
theorem NR.lvl (h : NR nd M S t nc ca hh lv jj G) (ht : t ≤ 200000) (hs : ∀ c, c < nc → hh c = n → sgS S t c) : NR nd M S t nc ca hh (u1 lv n true) jj G := by
  obtain ⟨⟨h1, h2, h3, h4⟩, h5, h6, h7⟩ := h
  refine ⟨⟨h1, fun c hc => ?_, h3, h4⟩, h5, h6, h7⟩
  obtain ⟨a1, a2⟩ := h2 c hc
  refine ⟨a1, ?_⟩
  by_cases q : hh c = n
  · obtain ⟨wr, un, bl, m, d, ph, bg, pa, cb, b1, b2, b3, b4, ⟨b5, b5', b5''⟩, ⟨⟨b6, b7, b8⟩, ⟨b9, b10, b11⟩, b12, b13⟩, b14, b15, b16, b17⟩ := a2
    refine ⟨wr, un, bl, m, d, ph, bg, pa, cb, b1, b2, b3, b4, ⟨b5, b5', b5''⟩, ⟨⟨b6, b7, b8⟩, ⟨b9, b10, b11⟩, b12, b13⟩, b14, b15, b16, fun p3 => ?_⟩
    obtain ⟨y1, y2, y3⟩ := b17 p3
    exact ⟨y1, fun _ => hs c hc q (b13.mp p3) ph bg pa p3 (by omega) (by omega) b5' b7 b10, y3⟩
  · rw [u1_ne q]; exact a2
theorem NR.ho (h : NR nd M S t nc ca hh lv jj G) (hn : n < nd) (hG : G n = .inl R) : hoR nd M S nc ca hh n R := by
  have := h.2.2.1 n hn
  rw [hG] at this; exact this
/-- the entry i of a host's recent commands -/
theorem rec_i {i : Nat} (hI : cI sw nd rm M) (hN : NR nd M S t nc ca hh lv jj G) (hn : n < nd) (hG : G n = .inl R) (hi : i < R.length) : g_r M 4 4 (some (150 + n)) = some (some (170 + n)) ∧ al_r M 30 (some (170 + n)) (nI i) = some (some (ca (R.getD i 0))) ∧ R.getD i 0 < nc ∧ hh (R.getD i 0) = n ∧ g_i M 4 5 (some (150 + n)) = some (nI R.length) ∧ ¬ nI R.length ≤ nI i := by
  have ho := hN.ho hn hG
  obtain ⟨q4, q5, q6, q7, q8, q9⟩ := ho.2.2.2.1
  have hm : R.getD i 0 ∈ R := by
    rw [List.getD_eq_getElem?_getD, List.getElem?_eq_getElem hi]
    exact List.getElem_mem hi
  refine ⟨(g_r_t (ci := 4) (hI.ho0 hn)).trans (congrArg some (hI.ho4 hn)), (al_r_t (hI.ho7 hn) (by rw [hI.ho8 hn]; omega) (by omega)).trans (congrArg some (q6 i hi)), (q8 _ hm).1, (q8 _ hm).2, (g_i_t (ci := 4) (hI.ho0 hn)).trans (congrArg some q4), nI_ge hi (by omega)⟩
theorem rec_e (hI : cI sw nd rm M) (hN : NR nd M S t nc ca hh lv jj G) (hn : n < nd) (hG : G n = .inl R) : g_i M 4 5 (some (150 + n)) = some (nI R.length) ∧ nI R.length ≤ nI R.length := by
  have ho := hN.ho hn hG
  obtain ⟨q4, q5, q6, q7, q8, q9⟩ := ho.2.2.2.1
  exact ⟨(g_i_t (ci := 4) (hI.ho0 hn)).trans (congrArg some q4), nI_le (by omega) (by omega)⟩
theorem ph_e (hN : NR nd M S t nc ca hh lv jj G) (hcn : c < nc) : ∃ ph, ph ≤ 13 ∧ h_tg M (ca c) = 1 ∧ h_fi M 10 (ca c) = nI ph ∧ S.1 56 c = nI ph ∧ (ph ≤ 3 ↔ S.1 59 c = -1) ∧ S.1 48 c = nI (hh c) ∧ hh c < nd := by
  obtain ⟨⟨-, -, hn⟩, wr, un, bl, m, d, ph, bg, pa, cb, ⟨a1, -⟩, -, -, ⟨-, d2, -⟩, ⟨e1, e2, e3⟩, ⟨-, -, -, g8⟩, -⟩ := hN.1.2.1 c hcn
  exact ⟨ph, by omega, a1, e1, e2, g8, d2, hn⟩
theorem k208_88 (hnc : S.1 47 0 = nI nc) (hn300 : nc ≤ 300) (hf : 0 < fus) : sdrive kS208 fus 88 [.inl (nI n), .inl (nI nc)] S = sdrive kS208 (fus - 1) 129 [.inl (nI n), .inl (nI 0)] S := by
  obtain ⟨g, rfl⟩ : ∃ g, fus = g + 1 := ⟨fus - 1, by omega⟩
  have : kS208 88 [.inl (nI n), .inl (nI nc)] S = some (.inr (129, [.inl (nI n), .inl (nI 0)], S)) := by
    show c208_88 (nI n) (nI nc) S = _
    unfold c208_88
    have s47 : s_g S 47 = nI nc := hnc
    rw [s47, if_pos (show nI nc ≤ nI nc from nI_le (by omega) (by omega))]
    rfl
  rw [sd_go this]; rfl
theorem P_htim (h : HB sw nd rm M S ia w pe wo t zb sb fl hc hs kR ka tog) (hN : NR nd M S t nc ca hh lv jj G) (hn : n < nd) (hG : G n = .inl R) (hlv : lv n = false) (hh1 : hc.length ≤ 3) (hh2 : hs.length ≤ 3) (hfus : nc + 1 < fus) : ∃ M' S' ib fm, f53 [.inr (.inr (some (150 + n)))] M = some (none, M') ∧ sdrive kS208 fus 88 [.inl (nI n), .inl (nI 0)] S = sdrive kS208 (fus - nc - 1) 129 [.inl (nI n), .inl (nI 0)] S' ∧ HB sw nd rm M' S' ib w pe wo t zb sb fm hc hs kR ka tog ∧ NR nd M' S' t nc ca hh (u1 lv n true) jj G ∧ i20 M M' := by
  have hnd := h.I.bs.2.1.2
  have nc3 := hN.1.1.2.2
  have hRp := (hN.ho hn hG).2.2.2.1.2.2.2.1
  have hRn : ∀ c, c ∈ R → c < nc := fun c hc => ((hN.ho hn hG).2.2.2.1.2.2.2.2.1 c hc).1
  have hRl := (hN.ho hn hG).2.2.2.1.2.1
  obtain ⟨M', S', f', r0, r1, r2, ib, fm, r3, r4, r5, r6⟩ := merge (ρ := sT) (kk := k53) (kS := kS208) (H := 2) (H' := 88) (ar := fun i => [.inr (.inr (some (150 + n))), .inl (nI i)]) (as := fun c => [.inl (nI n), .inl (nI c)]) (J := fun c N T => ∃ ib fm, HB sw nd rm N T ib w pe wo t zb sb fm hc hs kR ka tog ∧ NR nd N T t nc ca hh lv jj G ∧ (∀ c', c' < c → hh c' = n → sgS T t c') ∧ i20 M N) (nc := nc) (R := R)
    (fun c N T hJ hcn hcR => by
      obtain ⟨ib, fm, j1, j2, j3, j4⟩ := hJ
      obtain ⟨ph, p1, p2, p3, p4, p5, p6, p7⟩ := ph_e j2 hcn
      have s47 : s_g T 47 = nI nc := j2.1.1.2.1
      have n47 : ¬ nI nc ≤ nI c := nI_ge hcn (by omega)
      have s48 : s_a T 48 (nI c) = some (nI (hh c)) := by rw [ga48 (by omega), p6]
      have hq : kS208 88 [.inl (nI n), .inl (nI c)] T = some (.inr (88, [.inl (nI n), .inl (nI (c + 1))], T)) := by
        show c208_88 (nI n) (nI c) T = _
        unfold c208_88
        rw [s47, if_neg n47, bd_s s48]
        by_cases z : hh c = n
        · have s59 : s_a T 59 (nI c) = some (T.1 59 c) := ga59 (by omega)
          have n59 : ¬ T.1 59 c = -1 := fun q => hcR ((j2.ho hn hG).2.2.2.1.2.2.2.2.2 c hcn z q)
          rw [if_pos (by rw [z]), bd_s s59, if_neg n59]
          unfold c208_121
          rw [nI_1]
        · rw [if_neg (fun q => z ((nI_eq (by omega) (by omega)).mp q))]
          unfold c208_121
          rw [nI_1]
      refine ⟨hq, ib, fm, j1, j2, fun c' h1 h2 => ?_, j4⟩
      by_cases z : c' = c
      · subst z
        exact fun q => absurd ((j2.ho hn hG).2.2.2.1.2.2.2.2.2 c' hcn h2 q) hcR
      · exact j3 c' (by omega) h2)
    (fun i c N T hJ hcn hi hRi => by
      obtain ⟨ib, fm, j1, j2, j3, j4⟩ := hJ
      obtain ⟨y1, y2, y3, y4, y5, y6⟩ := rec_i j1.I j2 hn hG hi
      rw [hRi] at y2 y3 y4
      obtain ⟨ph, p1, p2, p3, p4, p5, p6, p7⟩ := ph_e j2 hcn
      have s47 : s_g T 47 = nI nc := j2.1.1.2.1
      have n47 : ¬ nI nc ≤ nI c := nI_ge hcn (by omega)
      have s48 : s_a T 48 (nI c) = some (nI n) := by rw [ga48 (by omega), p6, y4]
      have s59 : s_a T 59 (nI c) = some (T.1 59 c) := ga59 (by omega)
      have e47 := f47_eq p2 p3 p1
      by_cases z : T.1 59 c = -1
      · have ef : decide (3 < ph) = false := by
          have := p5.mpr z
          simp; omega
        rw [ef] at e47
        obtain ⟨M2, S2, ib2, fm2, r1, r2, r3, r4, r5, r6, r7⟩ := P_timer j1 j2 hcn hh1 hh2 z (by rw [y4]; exact hlv)
        rw [y4] at r1
        refine ⟨M2, S2, ?_, ?_, ib2, fm2, r3, r4, fun c' h1 h2 => ?_, i20_tr j4 r7⟩
        · show b53_2 (150 + n) (nI i) N = _
          unfold b53_2
          rw [bd_s y5, if_neg y6, bd_s y1, bd_s y2, bd_s (g_o_t (ci := 0) p2), bd_s (c_I_of e47), if_pos (show b2 false = 0 from rfl), bd_s (g_o_t (ci := 4) (j1.I.ho0 hn)), bd_s (c_V_of r1)]
          unfold b53_29
          rw [nI_1]
        · show c208_88 (nI n) (nI c) T = _
          unfold c208_88
          rw [s47, if_neg n47, bd_s s48, if_pos rfl, bd_s s59, if_pos z, bd_s r2]
          unfold c208_121
          rw [nI_1]
        · by_cases q : c' = c
          · subst q; exact r6
          · exact cU_sg r5 q (j3 c' (by omega) h2)
      · have ef : decide (3 < ph) = true := by
          have : ¬ ph ≤ 3 := fun q => z (p5.mp q)
          simp; omega
        rw [ef] at e47
        refine ⟨N, T, ?_, ?_, ib, fm, j1, j2, fun c' h1 h2 => ?_, j4⟩
        · show b53_2 (150 + n) (nI i) N = _
          unfold b53_2
          rw [bd_s y5, if_neg y6, bd_s y1, bd_s y2, bd_s (g_o_t (ci := 0) p2), bd_s (c_I_of e47), if_neg (show ¬ b2 true = 0 by decide)]
          unfold b53_29
          rw [nI_1]
        · show c208_88 (nI n) (nI c) T = _
          unfold c208_88
          rw [s47, if_neg n47, bd_s s48, if_pos rfl, bd_s s59, if_neg z]
          unfold c208_121
          rw [nI_1]
        · by_cases q : c' = c
          · subst q; exact fun q => absurd q z
          · exact j3 c' (by omega) h2) hRp hRn nc 0 [] R M S xF fus rfl (fun x hx => by cases hx) (fun x _ => by omega) (by omega) ⟨ia, fl, h, hN, fun c' h1 _ => by omega, i20_rf⟩ (by unfold xF; omega) (by omega)
  obtain ⟨z1, z2⟩ := rec_e r3.I r4 hn hG
  refine ⟨M', S', ib, fm, ?_, ?_, r3, r4.lvl h.t3 (fun c h1 h2 => r5 c h1 h2), r6⟩
  · show drive k53 xF 2 [.inr (.inr (some (150 + n))), .inl (nI 0)] M = _
    have r1 : drive k53 xF 2 [.inr (.inr (some (150 + n))), .inl (nI 0)] M = drive k53 f' 2 [.inr (.inr (some (150 + n))), .inl (nI R.length)] M' := r1
    rw [r1]
    obtain ⟨g, rfl⟩ : ∃ g, f' = g + 1 := ⟨f' - 1, by unfold xF at r0; omega⟩
    refine dr_end ?_
    show b53_2 (150 + n) (nI R.length) M' = _
    unfold b53_2
    rw [bd_s z1, if_pos z2]
  · have r2 : sdrive kS208 fus 88 [.inl (nI n), .inl (nI 0)] S = sdrive kS208 (fus - nc) 88 [.inl (nI n), .inl (nI nc)] S' := r2
    rw [r2, k208_88 r4.1.1.2.1 nc3 (by omega)]
/-- no command is of a disc -/
theorem P_dtim (hN : NR nd M S t nc ca hh lv jj G) (hno : ∀ c, c < nc → hh c ≠ n) (hnd : nd ≤ 8) (hn : n < nd) : ∀ d c fus, c + d = nc → d + 1 < fus → sdrive kS208 fus 88 [.inl (nI n), .inl (nI c)] S = sdrive kS208 (fus - d - 1) 129 [.inl (nI n), .inl (nI 0)] S
  | 0, c, fus, hd, hf => by
    have : c = nc := by omega
    subst this
    rw [k208_88 hN.1.1.2.1 hN.1.1.2.2 (by omega)]
    rfl
  | d + 1, c, fus, hd, hf => by
    obtain ⟨g, rfl⟩ : ∃ g, fus = g + 1 := ⟨fus - 1, by omega⟩
    have nc3 := hN.1.1.2.2
    have hcn : c < nc := by omega
    obtain ⟨ph, p1, p2, p3, p4, p5, p6, p7⟩ := ph_e hN hcn
    have hq : kS208 88 [.inl (nI n), .inl (nI c)] S = some (.inr (88, [.inl (nI n), .inl (nI (c + 1))], S)) := by
      have s47 : s_g S 47 = nI nc := hN.1.1.2.1
      have s48 : s_a S 48 (nI c) = some (nI (hh c)) := by rw [ga48 (by omega), p6]
      show c208_88 (nI n) (nI c) S = _
      unfold c208_88
      rw [s47, if_neg (show ¬ nI nc ≤ nI c from nI_ge hcn (by omega)), bd_s s48, if_neg (fun q => hno c hcn ((nI_eq (by omega) (by omega)).mp q))]
      unfold c208_121
      rw [nI_1]
    rw [sd_go hq, show g + 1 - (d + 1) - 1 = g - d - 1 by omega]
    exact P_dtim hN hno hnd hn d (c + 1) g (by omega) (by omega)
/-- which command a frame is of -/
theorem P_cof {p : Nat} (h : HB sw nd rm M S ia w pe wo t zb sb fl hc hs kR ka tog) (hN : NR nd M S t nc ca hh lv jj G) (hn : n < nd) (hG : G n = .inl R) (hX : rd M a L) (h13 : 13 ≤ L.length) (hp : p = 2 ∨ p = 3) : ∃ o, f83 [.inr (.inr (some (150 + n))), .inr (.inr (some a)), .inl (nI p)] M = some (some (.inr (.inr o)), M) ∧ ((o = none ∧ ¬ (numN L 7 2 < nc ∧ hh (numN L 7 2) = n ∧ S.1 56 (numN L 7 2) = nI p ∧ S.1 60 (numN L 7 2) = num L 4 3)) ∨ (o = some (ca (numN L 7 2)) ∧ numN L 7 2 < nc ∧ hh (numN L 7 2) = n ∧ S.1 56 (numN L 7 2) = nI p ∧ S.1 60 (numN L 7 2) = num L 4 3)) := by
  have hI := h.I
  have nc3 := hN.1.1.2.2
  have ho := hN.ho hn hG
  have hRl := ho.2.2.2.1.2.1
  have e66 := f66_eq hX h13
  have e65 := f65_eq hX h13
  have hb := numN_lt L 7 2
  have hb : numN L 7 2 < 65536 := hb
  rw [num_N L 7 2 (by omega)] at e66
  have goal : ∀ c, c < nc → S.1 56 c = nI p → h_fi M 9 (ca c) = S.1 60 c ∧ h_fi M 7 (ca c) = nI c := fun c hcn hpc => by
    obtain ⟨-, wr, un, bl, m, d, ph, bg, pa, cb, -, -, -, ⟨d1, -⟩, ⟨e1, e2, e3⟩, -, f1, -⟩ := hN.1.2.1 c hcn
    have : ph = p := (nI_eq (by omega) (by omega)).mp (by rw [← e2]; exact hpc)
    exact ⟨f1 (by omega) (by omega), d1⟩
  have loop : ∀ d i fuel, i + d = R.length → d < fuel → (∀ j, j < i → ¬ (R.getD j 0 = numN L 7 2 ∧ S.1 56 (numN L 7 2) = nI p ∧ S.1 60 (numN L 7 2) = num L 4 3)) → ∃ o, drive k83 fuel 2 [.inr (.inr (some (150 + n))), .inr (.inr (some a)), .inl (nI p), .inl (nI i)] M = some (some (.inr (.inr o)), M) ∧ ((o = none ∧ ¬ (numN L 7 2 < nc ∧ hh (numN L 7 2) = n ∧ S.1 56 (numN L 7 2) = nI p ∧ S.1 60 (numN L 7 2) = num L 4 3)) ∨ (o = some (ca (numN L 7 2)) ∧ numN L 7 2 < nc ∧ hh (numN L 7 2) = n ∧ S.1 56 (numN L 7 2) = nI p ∧ S.1 60 (numN L 7 2) = num L 4 3)) := by
    intro d
    induction d with
    | zero =>
      intro i fuel hi hf hno
      obtain ⟨g, rfl⟩ : ∃ g, fuel = g + 1 := ⟨fuel - 1, by omega⟩
      obtain ⟨z1, z2⟩ := rec_e hI hN hn hG
      have hiR : i = R.length := by omega
      subst hiR
      refine ⟨none, dr_end ?_, Or.inl ⟨rfl, fun q => ?_⟩⟩
      · show b83_2 (150 + n) (some a) (nI p) (nI R.length) M = _
        unfold b83_2
        rw [bd_s z1, if_pos z2]
      · obtain ⟨q1, q2, q3, q4⟩ := q
        obtain ⟨ph, p1, p2, p3, p4, p5, p6, p7⟩ := ph_e hN q1
        have : ph = p := (nI_eq (by omega) (by omega)).mp (by rw [← p4]; exact q3)
        have hm := ho.2.2.2.1.2.2.2.2.2 _ q1 q2 (p5.mp (by omega))
        obtain ⟨j, hj, hj2⟩ := List.getElem_of_mem hm
        refine hno j hj ⟨?_, q3, q4⟩
        rw [List.getD_eq_getElem?_getD, List.getElem?_eq_getElem hj]
        exact hj2
    | succ d ih =>
      intro i fuel hi hf hno
      obtain ⟨g, rfl⟩ : ∃ g, fuel = g + 1 := ⟨fuel - 1, by omega⟩
      obtain ⟨y1, y2, y3, y4, y5, y6⟩ := rec_i hI hN hn hG (show i < R.length by omega)
      obtain ⟨ph, p1, p2, p3, p4, p5, p6, p7⟩ := ph_e hN y3
      generalize hci : R.getD i 0 = c at *
      have q10 : g_i M 0 10 (some (ca c)) = some (nI ph) := (g_i_t (ci := 0) p2).trans (congrArg some p3)
      have o2 : g_o M 2 (some a) = some a := g_o_t (ci := 2) hX.1.1
      have next : (¬ (c = numN L 7 2 ∧ S.1 56 (numN L 7 2) = nI p ∧ S.1 60 (numN L 7 2) = num L 4 3)) → b83_2 (150 + n) (some a) (nI p) (nI i) M = b83_54 (150 + n) (some a) (nI p) (nI i) M → ∃ o, drive k83 (g + 1) 2 [.inr (.inr (some (150 + n))), .inr (.inr (some a)), .inl (nI p), .inl (nI i)] M = some (some (.inr (.inr o)), M) ∧ ((o = none ∧ ¬ (numN L 7 2 < nc ∧ hh (numN L 7 2) = n ∧ S.1 56 (numN L 7 2) = nI p ∧ S.1 60 (numN L 7 2) = num L 4 3)) ∨ (o = some (ca (numN L 7 2)) ∧ numN L 7 2 < nc ∧ hh (numN L 7 2) = n ∧ S.1 56 (numN L 7 2) = nI p ∧ S.1 60 (numN L 7 2) = num L 4 3)) := fun q1 q2 => by
        obtain ⟨o, r1, r2⟩ := ih (i + 1) g (by omega) (by omega) (fun j hj => by
          by_cases z : j = i
          · subst z; rw [hci]; exact q1
          · exact hno j (by omega))
        refine ⟨o, ?_, r2⟩
        have : k83 2 [.inr (.inr (some (150 + n))), .inr (.inr (some a)), .inl (nI p), .inl (nI i)] M = some (.inr (2, [.inr (.inr (some (150 + n))), .inr (.inr (some a)), .inl (nI p), .inl (nI (i + 1))], M)) := by
          show b83_2 (150 + n) (some a) (nI p) (nI i) M = _
          rw [q2]
          unfold b83_54
          rw [nI_1]
        rw [dr_go this]; exact r1
      by_cases z1 : ph = p
      · subst z1
        obtain ⟨g9, g7⟩ := goal c y3 p4
        have q7 : g_i M 0 7 (some (ca c)) = some (nI c) := (g_i_t (ci := 0) p2).trans (congrArg some g7)
        have q9 : g_i M 0 9 (some (ca c)) = some (S.1 60 c) := (g_i_t (ci := 0) p2).trans (congrArg some g9)
        by_cases z2 : c = numN L 7 2
        · by_cases z3 : S.1 60 c = num L 4 3
          · refine ⟨some (ca c), dr_end ?_, Or.inr ?_⟩
            · show b83_2 (150 + n) (some a) (nI ph) (nI i) M = _
              unfold b83_2
              rw [bd_s y5, if_neg y6, bd_s y1, bd_s y2, bd_s q10, if_pos rfl, bd_s q7, bd_s o2, bd_s (c_I_of e66), if_pos (by rw [z2]), bd_s q9, bd_s o2, bd_s (c_I_of e65), if_pos z3]
            · rw [← z2]
              exact ⟨rfl, y3, y4, p4, z3⟩
          · refine next (fun q => z3 (by rw [z2]; exact q.2.2)) ?_
            unfold b83_2
            rw [bd_s y5, if_neg y6, bd_s y1, bd_s y2, bd_s q10, if_pos rfl, bd_s q7, bd_s o2, bd_s (c_I_of e66), if_pos (by rw [z2]), bd_s q9, bd_s o2, bd_s (c_I_of e65), if_neg z3]
        · refine next (fun q => z2 q.1) ?_
          unfold b83_2
          rw [bd_s y5, if_neg y6, bd_s y1, bd_s y2, bd_s q10, if_pos rfl, bd_s q7, bd_s o2, bd_s (c_I_of e66), if_neg (fun q => z2 ((nI_eq (by omega) (by omega)).mp q))]
      · refine next (fun q => z1 ((nI_eq (by omega) (by omega)).mp (by rw [← p4, q.1]; exact q.2.1))) ?_
        unfold b83_2
        rw [bd_s y5, if_neg y6, bd_s y1, bd_s y2, bd_s q10, if_neg (fun q => z1 ((nI_eq (by omega) (by omega)).mp q))]
  exact loop R.length 0 xF (by omega) (by unfold xF; omega) (fun j hj => by omega)
end HT
