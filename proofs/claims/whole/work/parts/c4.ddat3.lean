/-! ===== a WRITE is stored; all that a disc gets ===== -/
section DF
variable {sw nd rm : Nat} {M M' N : hM} {S S' T : sT} {ia ib : Nat → Nat → Int32} {w t x y zb sb a f n nc fus dk j lm s k0 : Nat} {pe : Nat → Option Nat} {wo : Nat → Nat} {fl fm : Nat → List (List Int32)} {hc hc' : List (Nat × Int32 × List Int32)} {hs hs' : List (Nat × List Int32)} {L Lr : List Int32} {kR : Nat → rK} {ka : Nat → Nat → Nat} {tog : Nat → Bool} {ca hh : Nat → Nat} {lv : Nat → Bool} {jj : Nat → Nat} {G : Nat → nG} {R : List Nat} {g : Int32} {OL : List oE}
theorem P_sto {m bits : Nat} (h : HB sw nd rm M S ia w pe wo t zb sb fl [(a, g, L)] [(f, L)] kR ka tog) (hN : NR nd M S t nc ca hh lv jj G) (hn : n < nd) (hG : G n = .inr (dk, OL)) (hk : k0 < OL.length) (h13 : 13 ≤ L.length) (h6 : (OL.getD k0 oE0).2.1 6 = nI bits) (b16 : bits < 16) (h5 : (OL.getD k0 oE0).2.1 5 = nI m) (m4 : m < 5) (hfull : nI bits = ((1 : Int32) <<< (nI m &&& 31)) - 1) (hf : 10 < fus) : ∃ M' S' ib fm N2, f74 [.inr (.inr (some dk)), .inr (.inr (some (dk + 4 + 2 * (OL.getD k0 oE0).1)))] M = some (none, N2) ∧ f67 [.inr (.inr (some dk)), .inl 12, .inr (.inr (some a)), .inl ((OL.getD k0 oE0).2.1 2), .inl 1, .inr (.inl 0)] N2 = some (none, M') ∧ h_fi N2 703 (dk + 4 + 2 * (OL.getD k0 oE0).1) = (OL.getD k0 oE0).2.1 2 ∧ dkR N2 n dk ∧ sdrive kS214 fus 173 [.inl (nI n), .inl (nI f), .inl (nI k0), .inl (nI (48 * n + 8 * k0)), .inl (nI 0)] S = some S' ∧ HB sw nd rm M' S' ib w pe wo t zb sb fm [(a, g, L)] [(f, L)] kR ka tog ∧ NR nd M' S' t nc ca hh lv jj (u1 G n (.inr (dk, OL.eraseIdx k0))) ∧ dkR M' n dk ∧ (∀ i, i < 6 → i ≠ (OL.getD k0 oE0).1 → ∀ k, 700 ≤ k → k ≤ 707 → h_fi M' k (dk + 4 + 2 * i) = h_fi M k (dk + 4 + 2 * i)) := by
  have hI := h.I
  have hnd := hI.bs.2.1.2
  obtain ⟨h1, h2, h3, ⟨lm, l1, l2, l3, l4⟩, lr, r1, r2, r3, hol⟩ := hN.dd hn hG
  have hol' := hol
  obtain ⟨⟨o1, o1'⟩, o2, o3, o4, o5, o6⟩ := hol
  have he := mem_D (d := oE0) hk
  obtain ⟨u, b, m', bt, o, r, a1, a2, ⟨a3, a3', a3'', a3a, a3b, a3c, a3d⟩, ⟨a4, a4', a4''⟩, a5, a6, a7, a8⟩ := o4 _ he
  have hbt : bt = bits := (nI_eq (by omega) (by omega)).mp (by rw [← a4, h6])
  have hmm : m' = m := (nI_eq (by omega) (by omega)).mp (by rw [← a3'', h5])
  subst hbt; subst hmm
  obtain ⟨t1, t2', t3, t4, t5⟩ := h2.2.2.2 _ a1
  obtain ⟨yS1, yS2⟩ := o2 k0 hk
  have fl4 := full4 m' m4 bt b16 hfull
  generalize he0 : OL.getD k0 oE0 = e at *
  -- the class stores
  obtain ⟨N, n1, ⟨n2, n2b, n2c, n2d, n2e, n2f⟩, n3, n4, n5, n6⟩ := f74_eq (S := S) (at' := 16 * u + b) (m := m') (vA := dk + 5 + 2 * e.1) h.bk h2 (show dk ≤ dk + 4 + 2 * e.1 ∧ dk + 4 + 2 * e.1 < dk + 16 by omega) (by omega) t2' t3 t4 t5 a2.2.2.2.2.1 (by rw [a2.2.2.2.2.2.1]; exact a3'') (by omega) (by omega)
  have t8N : h_tg N (dk + 4 + 2 * e.1) = 8 := by rw [n2e]; exact t2'
  have kN2 := k_hpi (f := 700) (a := dk + 4 + 2 * e.1) (v := 0) n5.1 (by rw [t8N]; decide)
  have kk : kp [700] [23] M (h_pi N 700 (dk + 4 + 2 * e.1) 0) := ((kp.rf h.bk : kp [700] [23] M M).tr n5 rfl rfl).tr kN2 rfl rfl
  have w1 : dW n dk M (h_pi N 700 (dk + 4 + 2 * e.1) 0) S S := dW_tr n6 (dW_pi (Or.inr (Or.inr (by omega))) (by omega))
  have dN2 := h2.kp kk (by decide) (by decide)
  have F : ∀ k a', (k ≠ 700 ∨ a' ≠ dk + 4 + 2 * e.1) → h_fi (h_pi N 700 (dk + 4 + 2 * e.1) 0) k a' = h_fi M k a' := fun k a' q => by rw [h_pi_o (by omega), n2]
  have F0 : h_fi (h_pi N 700 (dk + 4 + 2 * e.1) 0) 700 (dk + 4 + 2 * e.1) = 0 := by rw [fi_eq, u1_eq]
  have AL : ∀ b, b ≠ dk + 1 → h_al (h_pi N 700 (dk + 4 + 2 * e.1) 0) b = h_al M b := n3
  have AB : ∀ x, h_al (h_pi N 700 (dk + 4 + 2 * e.1) 0) (dk + 1) x = if 16 * u + b ≤ x ∧ x < 16 * u + b + m' then h_al M (dk + 5 + 2 * e.1) (x - (16 * u + b)) else h_al M (dk + 1) x := n4
  have fai : h_ai (h_pi N 700 (dk + 4 + 2 * e.1) 0) = h_ai M := n2c
  have far : h_ar (h_pi N 700 (dk + 4 + 2 * e.1) 0) = h_ar M := n2d
  have ffr : h_fr (h_pi N 700 (dk + 4 + 2 * e.1) 0) = h_fr M := n2b
  generalize hN2 : h_pi N 700 (dk + 4 + 2 * e.1) 0 = N2 at *
  -- the reference's blocks
  obtain ⟨U, u1', u2', u3', u4', u5'⟩ := k214_173 (f := f) (M := N2) (dk := dk) (S := S) (show n < 8 by omega) (show k0 < 6 by omega) a3a (show m' ≤ 4 ∧ b + m' ≤ 16 by omega) (by rw [yS1 5 (by omega)]; exact a3'') (by rw [yS1 3 (by omega)]; exact a3) (by rw [yS1 4 (by omega)]; exact a3') m' 0 S fus (by omega) (by omega) rfl rfl
  have hbU := h.cw kk (by decide) (by decide) (fun a _ => by rw [fai]) u3' (by decide)
  have hSU : olS U n OL := by
    refine ⟨⟨by rw [u2']; exact o1, o1'⟩, fun k hk' => ?_⟩
    rw [u2', (u3' 45 (by decide)).2]; exact o2 k hk'
  have had : h_fi N2 503 (140 + n) = U.1 35 n := by rw [F 503 _ (by omega), u2']; exact hN.2.1 n hn
  obtain ⟨M3, S3, fm, x1, x2, x3, x4⟩ := P_done (rx := e.2.1 2) (v := 0) hbU hn dN2 had h13 (by omega)
  have hS3 : olS S3 n OL := by
    obtain ⟨⟨c1, c2⟩, c3⟩ := hSU
    refine ⟨⟨by rw [x4.2.2.i (by decide)]; exact c1, c2⟩, fun k hk' => ?_⟩
    rw [x4.2.2.i (by decide), (x4.2.2 45 (by decide)).2]; exact c3 k hk'
  obtain ⟨T, v1, v2, v3, v4⟩ := e203_eq (M := M3) (dk := dk) (show n < 8 by omega) hS3 hk
  have hbT := x3.cw (kp.rf x3.bk : kp [] [] M3 M3) (by decide) (by decide) (fun _ _ => rfl) v3 (by decide)
  have d3 := dN2.kp x4.1 (by decide) (by decide)
  -- the relation
  have hsub : ∀ x, x ∈ OL.eraseIdx k0 → x ∈ OL ∧ x.1 ≠ e.1 := fun x hx => by
    obtain ⟨q, hq, e'⟩ := D_mem (d := oE0) hx
    have hl : (OL.eraseIdx k0).length = OL.length - 1 := by rw [List.length_eraseIdx_of_lt hk]
    rw [hl] at hq
    rw [getD_era hq hk] at e'
    have hsq : shk k0 q < OL.length := by unfold shk; split <;> omega
    have hne : shk k0 q ≠ k0 := by unfold shk; split <;> omega
    refine ⟨by rw [← e']; exact mem_D hsq, fun zz => ?_⟩
    have nd' := o3
    rw [List.nodup_iff_pairwise_ne, List.pairwise_map] at nd'
    rcases pw_ne (d := oE0) nd' hsq hk hne with y | y
    · exact y (by rw [he0, e']; exact zz)
    · exact y (by rw [he0, e']; exact zz.symm)
  have hd2 : diR N2 T t n dk (OL.eraseIdx k0) (jj n) := by
    refine ⟨?_, dN2, fun i hi => ?_, ⟨lm, l1, ?_, ?_, fun i hi => ?_⟩, lr, r1, ?_, ?_, v4.1, v4.2, ?_, fun x hx => ?_, fun i hi q => ?_, o6.sublist (List.eraseIdx_sublist _ _)⟩
    · rw [ffr, v3.i (by decide), x4.2.2.i (by decide), u2']; exact h1
    · rw [AB i, (v3 42 (by decide)).2, (x4.2.2 42 (by decide)).2, u5' i]
      by_cases z : 16 * u + b ≤ i ∧ i < 16 * u + b + m'
      · rw [if_pos z, if_pos (by omega), a4'' _ (by omega) (fl4 _ (by omega)), yS2 _ (by omega)]
      · rw [if_neg z, if_neg (by omega)]; exact h3 i hi
    · rw [F 104 _ (by omega)]; exact l2
    · rw [v3.i (by decide), x4.2.2.i (by decide), u2']; exact l3
    · rw [fai, v3.i (by decide), x4.2.2.i (by decide), u2']; exact l4 i hi
    · rw [F 106 _ (by omega)]; exact r2
    · rw [v3.i (by decide), x4.2.2.i (by decide), u2']; exact r3
    · exact o3.sublist (List.Sublist.map _ (List.eraseIdx_sublist _ _))
    · obtain ⟨hx1, hx2⟩ := hsub x hx
      exact (o4 x hx1).cg (fun k k1 k2 => F k _ (Or.inr (by omega))) (AL _ (by omega))
    · by_cases z : i = e.1
      · subst z; exact F0
      · rw [F 700 _ (by omega)]
        refine o5 i hi (fun y => q ?_)
        obtain ⟨x, x1', x2'⟩ := List.mem_map.mp y
        obtain ⟨q', hq', e'⟩ := D_mem (d := oE0) x1'
        have hne : q' ≠ k0 := fun zz => z (by rw [← x2', ← e', zz, he0])
        refine List.mem_map.mpr ⟨x, ?_, x2'⟩
        have hl : (OL.eraseIdx k0).length = OL.length - 1 := by rw [List.length_eraseIdx_of_lt hk]
        have : x = (OL.eraseIdx k0).getD (if q' < k0 then q' else q' - 1) oE0 := by
          rw [getD_era (by split <;> omega) hk]
          unfold shk
          rw [← e']
          by_cases qq : q' < k0
          · rw [if_pos qq, if_pos qq]
          · rw [if_neg qq, if_neg (show ¬ q' - 1 < k0 by omega), show q' - 1 + 1 = q' by omega]
        rw [this]
        exact mem_D (by rw [hl]; split <;> omega)
  have hd3 : diR M3 T t n dk (OL.eraseIdx k0) (jj n) := by
    have qf : ∀ x, x ∈ nrF → x ∉ fsF := by decide
    refine hd2.cg x4.1.2.1 (fun x hx => x4.1.fr ?_) ⟨by rw [x4.1.fr (by decide)], by rw [x4.1.fr (by decide)]⟩ (fun x a' hx _ _ => ?_) ((x4.1.2.2.2.1 _ (by rw [dN2.2.2.1.1]; decide)).2.1) (x4.2.1 _ (by have := dN2.1; omega) dN2.2.2.1.2.2.1).2 (x4.1.ar dN2.2.2.1.2.2.2.2.1 (by decide)) (fun i hi => (x4.1.2.2.2.1 _ (by rw [(dN2.2.2.2 i hi).2.2.2.1]; decide)).2.1) ⟨rfl, rfl, rfl, rfl⟩ (fun _ _ => rfl) (fun _ _ => rfl) (fun _ _ => rfl) (fun _ _ => rfl)
    · have : x = 100 ∨ x = 101 ∨ x = 102 ∨ x = 103 ∨ x = 105 ∨ x = 708 := by simpa using hx
      rcases this with rfl | rfl | rfl | rfl | rfl | rfl <;> decide
    · have : x = 104 ∨ x = 106 ∨ x = 700 ∨ x = 701 ∨ x = 702 ∨ x = 703 ∨ x = 704 ∨ x = 705 ∨ x = 706 ∨ x = 707 := by omega
      rw [x4.1.fi (by rcases this with rfl | rfl | rfl | rfl | rfl | rfl | rfl | rfl | rfl | rfl <;> decide)]
  have hwAll : dW n dk M M3 S T := dW_tr (dW_tr (dW_tr w1 u4') (dW_fst x4)) v2
  have hNT := hN.di hI hn hG hwAll hd3
  rw [u1_id] at hNT
  refine ⟨M3, T, _, fm, N2, n1, x1, by rw [F 703 _ (by omega)]; exact a2.2.2.2.1, dN2, ?_, hbT, hNT, d3, fun i hi hne k k1 k2 => ?_⟩
  · rw [u1']
    obtain ⟨g', hg'⟩ : ∃ g, fus - m' = g + 1 := ⟨fus - m' - 1, by omega⟩
    rw [hg']
    refine sd_end ?_
    have s5 : s_a U 44 (nI (48 * n + 8 * k0) + 5) = some (nI m') := by rw [show (5 : Int32) = nI 5 from rfl, nI_add, ga44 (by omega), u2', yS1 5 (by omega), a3'']
    have s2 : s_a U 44 (nI (48 * n + 8 * k0) + 2) = some (e.2.1 2) := by rw [show (2 : Int32) = nI 2 from rfl, nI_add, ga44 (by omega), u2', yS1 2 (by omega)]
    have x2' : e213 (nI n) (nI f) (e.2.1 2) 0 U = some S3 := x2
    show c214_173 (nI n) (nI f) (nI k0) (nI (48 * n + 8 * k0)) (nI m') U = _
    unfold c214_173
    rw [bd_s s5, if_pos (nI_le (Nat.le_refl _) (by omega)), bd_s s2, bd_s x2', bd_s v1]
  · have : k = 700 ∨ k = 701 ∨ k = 702 ∨ k = 703 ∨ k = 704 ∨ k = 705 ∨ k = 706 ∨ k = 707 := by omega
    rw [x4.1.fi (by rcases this with rfl | rfl | rfl | rfl | rfl | rfl | rfl | rfl <;> decide)]
    exact F k _ (Or.inr (by omega))
/-- takeData -/
theorem P_dat (h : HB sw nd rm M S ia w pe wo t zb sb fl [(a, g, L)] [(f, L)] kR ka tog) (hN : NR nd M S t nc ca hh lv jj G) (hn : n < nd) (hG : G n = .inr (dk, OL)) (h25 : L.length = 25) : ∃ M' S' ib fm OL', f75 [.inr (.inr (some dk)), .inr (.inr (some a))] M = some (none, M') ∧ e214 (nI n) (nI f) (num L 4 3) S = some S' ∧ HB sw nd rm M' S' ib w pe wo t zb sb fm [(a, g, L)] [(f, L)] kR ka tog ∧ NR nd M' S' t nc ca hh lv jj (u1 G n (.inr (dk, OL'))) := by
  have hI := h.I
  have hnd := hI.bs.2.1.2
  have hX : rd M a L := h.rd (u := (a, g, L)) List.mem_cons_self
  have hXs : rdS S f L := h.rdS (u := (f, L)) List.mem_cons_self
  obtain ⟨h1, h2, h3, -, lr, r1, r2, r3, hol⟩ := hN.dd hn hG
  have hol' := hol
  obtain ⟨⟨o1, o1'⟩, o2, o3, o4, o5, o6⟩ := hol
  have same : u1 G n (Sum.inr (dk, OL)) = G := by rw [← hG]; exact u1_id
  have fdef : f75 [.inr (.inr (some dk)), .inr (.inr (some a))] M = drive k75 xF 2 [.inr (.inr (some dk)), .inr (.inr (some a)), .inl (nI 0)] M := rfl
  have r11 : e165 (nI f) 11 S = some (nI (bn L 11), S) := r165 (i := 11) hXs (by omega)
  have edef : e214 (nI n) (nI f) (num L 4 3) S = sdrive kS214 xF 12 [.inl (nI n), .inl (nI f), .inl (num L 4 3), .inl (nI (bn L 11)), .inl (nI 0)] S := by
    show s_go kS214 (c214_0 (nI n) (nI f) (num L 4 3) S) = _
    unfold c214_0
    rw [bd_s r11]
    rfl
  rw [fdef, edef]
  by_cases hex : ¬ ∃ k, k < OL.length ∧ mtE (OL.getD k oE0) L
  · -- of none
    refine ⟨M, S, ia, fl, OL, ?_, ?_, h, by rw [same]; exact hN⟩
    · rw [k75_nos h2 hX (by omega) 6 0 xF (by omega) (by unfold xF; omega) (fun q _ hq hm => by
        obtain ⟨k, y1, -, y2⟩ := slot_mt hol' (show q < 6 by omega) hm
        exact hex ⟨k, y1, y2⟩)]
      exact k75_end (by unfold xF; omega)
    · rw [k214_nos (show n < 8 by omega) hol'.s hXs (by omega) OL.length 0 xF (by omega) (by unfold xF; omega) (fun q _ hq hm => hex ⟨q, by omega, hm⟩)]
      obtain ⟨g', hg'⟩ : ∃ g, xF - OL.length = g + 1 := ⟨xF - OL.length - 1, by unfold xF; omega⟩
      rw [hg', Nat.zero_add]
      refine sd_end ?_
      have s46 : s_a S 46 (nI n) = some (nI OL.length) := by rw [ga46 (by omega), o1]
      show c214_12 (nI n) (nI f) (num L 4 3) (nI (bn L 11)) (nI OL.length) S = _
      unfold c214_12
      rw [bd_s s46, if_pos (nI_le (Nat.le_refl _) (by omega))]
  obtain ⟨k0, hk, hm⟩ := Classical.byContradiction hex
  have he := mem_D (d := oE0) hk
  obtain ⟨u, b, m, bits, o, r, a1, a2, ⟨a3, a3', a3'', a3a, a3b, a3c, a3d⟩, ⟨a4, a4', a4''⟩, a5, a6, a7, a8⟩ := o4 _ he
  obtain ⟨yS1, yS2⟩ := o2 k0 hk
  have one : ∀ q, q < 6 → q ≠ (OL.getD k0 oE0).1 → ¬ mtS M dk q L := fun q hq hne hmq => by
    obtain ⟨k, y1, y2, y3⟩ := slot_mt hol' hq hmq
    have : k = k0 := rx_one hol' y1 hk (by rw [y3.2.2, hm.2.2])
    exact hne (by rw [← y2, this])
  have oneE : ∀ q, q < OL.length → q ≠ k0 → ¬ mtE (OL.getD q oE0) L := fun q hq hne hmq => hne (rx_one hol' hq hk (by rw [hmq.2.2, hm.2.2]))
  have hsl : h_fi M 700 (dk + 4 + 2 * (OL.getD k0 oE0).1) ≠ 0 ∧ h_fi M 701 (dk + 4 + 2 * (OL.getD k0 oE0).1) = num L 7 2 ∧ h_fi M 702 (dk + 4 + 2 * (OL.getD k0 oE0).1) = num L 4 3 := ⟨by rw [a2.1]; decide, by rw [a2.2.1]; exact hm.2.1, by rw [a2.2.2.1]; exact hm.1⟩
  obtain ⟨z1, z2, z3⟩ := slot_i h2 a1
  obtain ⟨t1, t2', t3, t4, t5⟩ := h2.2.2.2 _ a1
  have e68 := f68_eq (v0 := h_fi M 700 (dk + 4 + 2 * (OL.getD k0 oE0).1)) (v1 := h_fi M 701 (dk + 4 + 2 * (OL.getD k0 oE0).1)) (v2 := h_fi M 702 (dk + 4 + 2 * (OL.getD k0 oE0).1)) z3 rfl rfl rfl hX (by omega)
  rw [decide_eq_true hsl] at e68
  have q3 : g_i M 7 3 (some (dk + 4 + 2 * (OL.getD k0 oE0).1)) = some (num L 9 2) := (g_i_t (ci := 7) z3).trans (congrArg some (by show h_fi M 703 _ = _; rw [a2.2.2.2.1]; exact hm.2.2))
  have q5 : g_i M 7 5 (some (dk + 4 + 2 * (OL.getD k0 oE0).1)) = some (nI m) := (g_i_t (ci := 7) z3).trans (congrArg some (by show h_fi M 705 _ = _; rw [a2.2.2.2.2.2.1]; exact a3''))
  have g2 : g_o M 2 (some a) = some a := g_o_t (ci := 2) hX.1.1
  have e70 := f70_eq hX (show 13 ≤ L.length by omega)
  have e71 := f71_eq hX (show 11 < L.length by omega)
  have hp := bn_lt L 11
  have i0 : ((48 : Int32) * nI n) + ((8 : Int32) * nI k0) = nI (48 * n + 8 * k0) := by rw [ixl48, ixl8, nI_add]
  have s46 : s_a S 46 (nI n) = some (nI OL.length) := by rw [ga46 (by omega), o1]
  have s0 : s_a S 44 (nI (48 * n + 8 * k0)) = some ((OL.getD k0 oE0).2.1 0) := (ga44 (by omega)).trans (congrArg some (yS1 0 (by omega)))
  have s1 : s_a S 44 (nI (48 * n + 8 * k0) + 1) = some ((OL.getD k0 oE0).2.1 1) := by rw [nI_1, ga44 (by omega), yS1 1 (by omega)]
  have s2 : s_a S 44 (nI (48 * n + 8 * k0) + 2) = some ((OL.getD k0 oE0).2.1 2) := by rw [show (2 : Int32) = nI 2 from rfl, nI_add, ga44 (by omega), yS1 2 (by omega)]
  have s5 : s_a S 44 (nI (48 * n + 8 * k0) + 5) = some (nI m) := by rw [show (5 : Int32) = nI 5 from rfl, nI_add, ga44 (by omega), yS1 5 (by omega), a3'']
  have r7 : e166 (nI f) 7 2 S = some (num L 7 2, S) := r166 (i := 7) (n := 2) hXs (by omega)
  have r9 : e166 (nI f) 9 2 S = some (num L 9 2, S) := r166 (i := 9) (n := 2) hXs (by omega)
  -- the way there
  rw [k75_nos h2 hX (by omega) (OL.getD k0 oE0).1 0 xF (by omega) (by unfold xF; omega) (fun q _ hq => one q (by omega) (by omega)), k214_nos (show n < 8 by omega) hol'.s hXs (by omega) k0 0 xF (by omega) (by unfold xF; omega) (fun q _ hq => oneE q (by omega) (by omega)), Nat.zero_add, Nat.zero_add]
  obtain ⟨fu, hfu⟩ : ∃ g, xF - (OL.getD k0 oE0).1 = g + 1 := ⟨xF - (OL.getD k0 oE0).1 - 1, by unfold xF; omega⟩
  obtain ⟨gu, hgu⟩ : ∃ g, xF - k0 = g + 1 := ⟨xF - k0 - 1, by unfold xF; omega⟩
  have hfb : 900000 < fu := by unfold xF at hfu; omega
  have hgb : 900000 < gu := by unfold xF at hgu; omega
  rw [hfu, hgu]
  -- the way on
  have on : ∀ N, dkR N n dk → rd N a L → (∀ q, q < 6 → q ≠ (OL.getD k0 oE0).1 → ¬ mtS N dk q L) → drive k75 fu 2 [.inr (.inr (some dk)), .inr (.inr (some a)), .inl (nI ((OL.getD k0 oE0).1 + 1))] N = some (none, N) := fun N dN hXN hno => by
    rw [k75_nos dN hXN (by omega) (6 - ((OL.getD k0 oE0).1 + 1)) ((OL.getD k0 oE0).1 + 1) fu (by omega) (by omega) (fun q q1 q2 => hno q (by omega) (by omega)), show (OL.getD k0 oE0).1 + 1 + (6 - ((OL.getD k0 oE0).1 + 1)) = 6 by omega]
    exact k75_end (by omega)
  have body1 : True → b75_2 dk (some a) (nI (OL.getD k0 oE0).1) M = (if nI m ≤ nI (bn L 11) then b75_86 dk (some a) (nI (OL.getD k0 oE0).1) M else _) := fun _ => by
    unfold b75_2
    rw [if_neg (show ¬ (6 : Int32) ≤ nI (OL.getD k0 oE0).1 from nI_ge (b := 6) (by omega) (by omega)), bd_s z1, bd_s z2, bd_s (g_o_t (ci := 7) z3), bd_s (c_I_of e68), if_neg (show ¬ b2 true = 0 by decide), bd_s q3, bd_s g2, bd_s (c_I_of e70), if_pos rfl, bd_s g2, bd_s (c_I_of e71), bd_s q5]
  have body2 : True → c214_12 (nI n) (nI f) (num L 4 3) (nI (bn L 11)) (nI k0) S = (if nI (bn L 11) < nI m then _ else some (.inl S)) := fun _ => by
    unfold c214_12
    rw [bd_s s46, if_neg (show ¬ nI OL.length ≤ nI k0 from nI_ge hk (by omega)), i0, bd_s s0, if_pos hm.1, bd_s s1, bd_s r7, if_pos hm.2.1, bd_s s2, bd_s r9, if_pos hm.2.2, bd_s s5]
  have body1 := body1 trivial
  have body2 := body2 trivial
  by_cases zp : m ≤ bn L 11
  · rw [if_pos (nI_le zp (by omega))] at body1
    rw [if_neg (nI_nlt zp (by omega))] at body2
    refine ⟨M, S, ia, fl, OL, ?_, sd_end body2, h, by rw [same]; exact hN⟩
    have : k75 2 [.inr (.inr (some dk)), .inr (.inr (some a)), .inl (nI (OL.getD k0 oE0).1)] M = some (.inr (2, [.inr (.inr (some dk)), .inr (.inr (some a)), .inl (nI ((OL.getD k0 oE0).1 + 1))], M)) := by
      show b75_2 dk (some a) (nI (OL.getD k0 oE0).1) M = _
      rw [body1]; unfold b75_86; rw [nI_1]
    rw [dr_go this]
    exact on M h2 hX one
  rw [if_neg (nI_ge (by omega) (by omega))] at body1
  rw [if_pos (nI_lt (by omega) (by omega))] at body2
  obtain ⟨y1, y2, y3⟩ := or4 bits a4' (bn L 11) (by omega)
  obtain ⟨ib, OL1, k1, k2, hOL1⟩ := P_kv (v := num8 L 13 8) h hN hn hG hk (show bn L 11 < 4 by omega) a4 a4'
  have e56 : c_L (f56 [.inr (.inr (some a)), .inl 13, .inl 8] M) = some (num8 L 13 8, M) := by
    have : f56 [.inr (.inr (some a)), .inl 13, .inl 8] M = some (some (.inr (.inl (num8 L 13 8))), M) := f56_eq (i := 13) (n := 8) hX (by omega)
    rw [this]; rfl
  have e72 := f72_eq (v := num8 L 13 8) z3 t3 t4 t5 (by rw [a2.2.2.2.2.2.2.2]; exact a4) a4' (show bn L 11 < 4 by omega)
  have s45 : s_sl S 45 ((((24 : Int32) * nI n) + ((4 : Int32) * nI k0)) + nI (bn L 11)) (num8 L 13 8) = some (s_ul S 45 (24 * n + 4 * k0 + bn L 11) (num8 L 13 8)) := by rw [ixl24, ixl4, nI_add, nI_add]; exact gs45 (by omega)
  have s6 : s_a (s_ul S 45 (24 * n + 4 * k0 + bn L 11) (num8 L 13 8)) 44 (nI (48 * n + 8 * k0) + 6) = some (nI bits) := by
    rw [show (6 : Int32) = nI 6 from rfl, nI_add, ga44 (by omega)]
    exact congrArg some (by show S.1 44 _ = _; rw [yS1 6 (by omega)]; exact a4)
  have s6' : s_s (s_ul S 45 (24 * n + 4 * k0 + bn L 11) (num8 L 13 8)) 44 (nI (48 * n + 8 * k0) + 6) (nI (bits ||| (1 <<< bn L 11))) = some (s_u (s_ul S 45 (24 * n + 4 * k0 + bn L 11) (num8 L 13 8)) 44 (48 * n + 8 * k0 + 6) (nI (bits ||| (1 <<< bn L 11)))) := by
    rw [show (6 : Int32) = nI 6 from rfl, nI_add]; exact gs44 (by omega)
  have v6 : (s_u (s_ul S 45 (24 * n + 4 * k0 + bn L 11) (num8 L 13 8)) 44 (48 * n + 8 * k0 + 6) (nI (bits ||| (1 <<< bn L 11)))).1 44 (48 * n + 8 * k0 + 6) = nI (bits ||| (1 <<< bn L 11)) := s_u_at
  have v5 : (s_u (s_ul S 45 (24 * n + 4 * k0 + bn L 11) (num8 L 13 8)) 44 (48 * n + 8 * k0 + 6) (nI (bits ||| (1 <<< bn L 11)))).1 44 (48 * n + 8 * k0 + 5) = nI m := by
    rw [s_u_o (by omega)]
    show S.1 44 _ = _
    rw [yS1 5 (by omega)]; exact a3''
  have w7 : h_fi (h_pi (h_ql M (dk + 5 + 2 * (OL.getD k0 oE0).1) (bn L 11) (num8 L 13 8)) 707 (dk + 4 + 2 * (OL.getD k0 oE0).1) (nI (bits ||| (1 <<< bn L 11)))) 707 (dk + 4 + 2 * (OL.getD k0 oE0).1) = nI (bits ||| (1 <<< bn L 11)) := by rw [fi_eq, u1_eq]
  have w5 : h_fi (h_pi (h_ql M (dk + 5 + 2 * (OL.getD k0 oE0).1) (bn L 11) (num8 L 13 8)) 707 (dk + 4 + 2 * (OL.getD k0 oE0).1) (nI (bits ||| (1 <<< bn L 11)))) 705 (dk + 4 + 2 * (OL.getD k0 oE0).1) = nI m := by
    rw [fi_ne (by decide)]
    show h_fi M 705 _ = _
    rw [a2.2.2.2.2.2.1]; exact a3''
  have wo' : ∀ q, q < 6 → q ≠ (OL.getD k0 oE0).1 → ∀ k, 700 ≤ k → k ≤ 707 → h_fi (h_pi (h_ql M (dk + 5 + 2 * (OL.getD k0 oE0).1) (bn L 11) (num8 L 13 8)) 707 (dk + 4 + 2 * (OL.getD k0 oE0).1) (nI (bits ||| (1 <<< bn L 11)))) k (dk + 4 + 2 * q) = h_fi M k (dk + 4 + 2 * q) := fun q hq hne k _ _ => by
    rw [h_pi_o (by omega)]; rfl
  have tw : h_tg (h_pi (h_ql M (dk + 5 + 2 * (OL.getD k0 oE0).1) (bn L 11) (num8 L 13 8)) 707 (dk + 4 + 2 * (OL.getD k0 oE0).1) (nI (bits ||| (1 <<< bn L 11)))) (dk + 4 + 2 * (OL.getD k0 oE0).1) = 8 := z3
  generalize hbb : bits ||| (1 <<< bn L 11) = bb at *
  generalize h_pi (h_ql M (dk + 5 + 2 * (OL.getD k0 oE0).1) (bn L 11) (num8 L 13 8)) 707 (dk + 4 + 2 * (OL.getD k0 oE0).1) (nI bb) = M1 at *
  generalize s_u (s_ul S 45 (24 * n + 4 * k0 + bn L 11) (num8 L 13 8)) 44 (48 * n + 8 * k0 + 6) (nI bb) = S1 at *
  have hX1 : rd M1 a L := k1.rd (u := (a, g, L)) List.mem_cons_self
  have hG1 : u1 G n (Sum.inr (dk, OL1)) n = Sum.inr (dk, OL1) := u1_eq
  have dM1 := (k2.dd hn hG1).2.1
  have e73 := f73_eq tw w7 w5
  have t44 : s_a S1 44 (nI (48 * n + 8 * k0) + 6) = some (nI bb) := by rw [show (6 : Int32) = nI 6 from rfl, nI_add, ga44 (by omega), v6]
  have t44' : s_a S1 44 (nI (48 * n + 8 * k0) + 5) = some (nI m) := by rw [show (5 : Int32) = nI 5 from rfl, nI_add, ga44 (by omega), v5]
  by_cases zf : nI bb = ((1 : Int32) <<< (nI m &&& 31)) - 1
  · -- all came
    have hl1 : k0 < OL1.length := by rw [hOL1, List.length_set]; exact hk
    have g1 : OL1.getD k0 oE0 = ((OL.getD k0 oE0).1, u1 (OL.getD k0 oE0).2.1 6 (nI bb), u1 (OL.getD k0 oE0).2.2 (bn L 11) (num8 L 13 8)) := by rw [hOL1, getD_set hk, if_pos rfl]
    have g16 : (OL1.getD k0 oE0).2.1 6 = nI bb := by
      rw [g1]
      show u1 (OL.getD k0 oE0).2.1 6 (nI bb) 6 = _
      rw [u1_eq]
    have g15 : (OL1.getD k0 oE0).2.1 5 = nI m := by
      rw [g1]
      show u1 (OL.getD k0 oE0).2.1 6 (nI bb) 5 = _
      rw [u1_ne (by decide)]; exact a3''
    have g12 : (OL1.getD k0 oE0).2.1 2 = num L 9 2 := by
      rw [g1]
      show u1 (OL.getD k0 oE0).2.1 6 (nI bb) 2 = _
      rw [u1_ne (by decide)]; exact hm.2.2
    have g11 : (OL1.getD k0 oE0).1 = (OL.getD k0 oE0).1 := by rw [g1]
    obtain ⟨M3, S3, ib3, fm3, N2, x1, x2, x3, x4, x5, x6, x7, x8, x9⟩ := P_sto (fus := gu) k1 k2 hn hG1 hl1 (by omega) g16 y2 g15 (by omega) zf (by omega)
    rw [g11] at x1 x3 x9
    rw [g12] at x2 x3
    have e74 : u1 (u1 G n (Sum.inr (dk, OL1))) n (Sum.inr (dk, OL1.eraseIdx k0)) = u1 G n (Sum.inr (dk, OL1.eraseIdx k0)) := funext fun q => by
      by_cases z : q = n
      · subst z; rw [u1_eq, u1_eq]
      · rw [u1_ne z, u1_ne z, u1_ne z]
    rw [e74] at x7
    refine ⟨M3, S3, ib3, fm3, OL1.eraseIdx k0, ?_, ?_, x6, x7⟩
    · have st : k75 2 [.inr (.inr (some dk)), .inr (.inr (some a)), .inl (nI (OL.getD k0 oE0).1)] M = some (.inr (2, [.inr (.inr (some dk)), .inr (.inr (some a)), .inl (nI ((OL.getD k0 oE0).1 + 1))], M3)) := by
        show b75_2 dk (some a) (nI (OL.getD k0 oE0).1) M = _
        rw [body1, bd_s g2, bd_s (c_I_of e71), bd_s g2, bd_s e56, bd_s (g_o_t (ci := 7) z3), bd_s (c_V_of e72), bd_s (g_o_t (ci := 7) tw), bd_s (c_I_of e73), decide_eq_true zf, if_neg (show ¬ b2 true = 0 by decide), bd_s (g_o_t (ci := 1) dM1.2.1.1), bd_s (c_V_of x1), bd_s ((g_i_t (ci := 7) (x4.2.2.2 _ a1).2.1).trans (congrArg some x3)), bd_s (g_o_t (ci := 1) x4.2.1.1), bd_s (c_V_of x2)]
        unfold b75_86
        rw [nI_1]
      rw [dr_go st]
      refine on M3 x8 (x6.rd (u := (a, g, L)) List.mem_cons_self) (fun q hq hne hmq => one q hq hne ?_)
      unfold mtS at hmq ⊢
      rw [x9 q hq hne 700 (by omega) (by omega), x9 q hq hne 701 (by omega) (by omega), x9 q hq hne 702 (by omega) (by omega), x9 q hq hne 703 (by omega) (by omega), wo' q hq hne 700 (by omega) (by omega), wo' q hq hne 701 (by omega) (by omega), wo' q hq hne 702 (by omega) (by omega), wo' q hq hne 703 (by omega) (by omega)] at hmq
      exact hmq
    · have st : kS214 12 [.inl (nI n), .inl (nI f), .inl (num L 4 3), .inl (nI (bn L 11)), .inl (nI k0)] S = some (.inr (173, [.inl (nI n), .inl (nI f), .inl (nI k0), .inl (nI (48 * n + 8 * k0)), .inl (nI 0)], S1)) := by
        show c214_12 (nI n) (nI f) (num L 4 3) (nI (bn L 11)) (nI k0) S = _
        rw [body2, bd_s (e209_eq hXs (by omega)), bd_s s45, bd_s s6, y1, bd_s s6', bd_s t44, bd_s t44', if_pos zf]
        rfl
      rw [sd_go st]
      exact x5
  · -- not yet
    refine ⟨M1, S1, ib, fl, OL1, ?_, ?_, k1, k2⟩
    · have st : k75 2 [.inr (.inr (some dk)), .inr (.inr (some a)), .inl (nI (OL.getD k0 oE0).1)] M = some (.inr (2, [.inr (.inr (some dk)), .inr (.inr (some a)), .inl (nI ((OL.getD k0 oE0).1 + 1))], M1)) := by
        show b75_2 dk (some a) (nI (OL.getD k0 oE0).1) M = _
        rw [body1, bd_s g2, bd_s (c_I_of e71), bd_s g2, bd_s e56, bd_s (g_o_t (ci := 7) z3), bd_s (c_V_of e72), bd_s (g_o_t (ci := 7) tw), bd_s (c_I_of e73), decide_eq_false zf, if_pos (show b2 false = 0 from rfl)]
        unfold b75_86
        rw [nI_1]
      rw [dr_go st]
      refine on M1 dM1 hX1 (fun q hq hne hmq => one q hq hne ?_)
      unfold mtS at hmq ⊢
      rw [wo' q hq hne 700 (by omega) (by omega), wo' q hq hne 701 (by omega) (by omega), wo' q hq hne 702 (by omega) (by omega), wo' q hq hne 703 (by omega) (by omega)] at hmq
      exact hmq
    · refine sd_end ?_
      show c214_12 (nI n) (nI f) (num L 4 3) (nI (bn L 11)) (nI k0) S = _
      rw [body2, bd_s (e209_eq hXs (by omega)), bd_s s45, bd_s s6, y1, bd_s s6', bd_s t44, bd_s t44', if_neg zf]
end DF
