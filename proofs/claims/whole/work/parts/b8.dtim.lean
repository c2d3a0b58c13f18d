/-! ===== a disc's timers, and ABORT ===== -/
section DT
variable {sw nd rm : Nat} {M M' N : hM} {S S' T : sT} {ia ib : Nat → Nat → Int32} {w t x y zb sb a f n nc fus dk j : Nat} {pe : Nat → Option Nat} {wo : Nat → Nat} {fl fm : Nat → List (List Int32)} {hc hc' : List (Nat × Int32 × List Int32)} {hs hs' : List (Nat × List Int32)} {L Lr : List Int32} {kR : Nat → rK} {ka : Nat → Nat → Nat} {tog : Nat → Bool} {ca hh : Nat → Nat} {lv : Nat → Bool} {jj : Nat → Nat} {G : Nat → nG} {R : List Nat} {g : Int32} {OL : List oE} {c : Nat → Bool}
theorem czlp {kk : Nat → List aV → hM → Option xRes} {H : Nat} {ar : Nat → List aV} (hst : ∀ i, i < 6 → kk H (ar i) (cz M dk c i) = some (.inr (H, ar (i + 1), cz M dk c (i + 1)))) : ∀ d i fuel, i + d = 6 → d ≤ fuel → drive kk fuel H (ar i) (cz M dk c i) = drive kk (fuel - d) H (ar 6) (cz M dk c 6)
  | 0, i, fuel, hi, hf => by
    have : i = 6 := by omega
    subst this
    rfl
  | d + 1, i, fuel, hi, hf => by
    obtain ⟨g, rfl⟩ : ∃ g, fuel = g + 1 := ⟨fuel - 1, by omega⟩
    rw [dr_go (hst i (by omega)), show g + 1 - (d + 1) = g - d by omega]
    exact czlp hst d (i + 1) g (by omega) (by omega)
/-- a slot is closed, or not -/
theorem cz_st {i : Nat} (hd : dkR M n dk) (hb : bk M) (hi : i < 6) (b : Bool) (hc : c i = b) : (b = true → p_z (cz M dk c i) 7 0 (some (dk + 4 + 2 * i)) 0 = some (cz M dk c (i + 1))) ∧ (b = false → cz M dk c (i + 1) = cz M dk c i) := by
  have e : cz M dk c (i + 1) = (if c i = true then h_pi (cz M dk c i) 700 (dk + 4 + 2 * i) 0 else cz M dk c i) := rfl
  have t8 : h_tg (cz M dk c i) (dk + 4 + 2 * i) = 8 := by rw [(cz_s c i).2.2.1.1]; exact (hd.2.2.2 i hi).2.1
  refine ⟨fun q => ?_, fun q => ?_⟩
  · rw [e, if_pos (by rw [hc]; exact q)]
    exact p_z_t (ci := 7) t8 (Or.inl rfl)
  · rw [e, if_neg (by rw [hc, q]; decide)]
theorem filter_cg {P Q : oE → Bool} {l : List oE} (h : ∀ e, e ∈ l → P e = Q e) : l.filter P = l.filter Q := List.filter_congr h
/-- the timers of a disc -/
theorem P_dtm (h : HB sw nd rm M S ia w pe wo t zb sb fl hc hs kR ka tog) (hN : NR nd M S t nc ca hh lv jj G) (hn : n < nd) (hG : G n = .inr (dk, OL)) (hf : 10 < fus) : ∃ M' S' ib OL', f46 [.inr (.inr (some dk))] M = some (none, M') ∧ sdrive kS208 fus 129 [.inl (nI n), .inl (nI 0)] S = some S' ∧ HB sw nd rm M' S' ib w pe wo t zb sb fl hc hs kR ka tog ∧ NR nd M' S' t nc ca hh lv jj (u1 G n (.inr (dk, OL'))) ∧ (∀ e, e ∈ OL' → ∀ o, o ≤ 200000 → e.2.1 7 = nI o → t < o + 120) := by
  have hI := h.I
  have hnd := hI.bs.2.1.2
  have ht3 := h.t3
  have hdd := hN.dd hn hG
  obtain ⟨h1, h2, h3, -, lr, r1, r2, r3, r4⟩ := hdd
  let c : Nat → Bool := fun i => ! decide (nI t - h_fi M 706 (dk + 4 + 2 * i) < 120)
  let P : oE → Bool := fun e => ! decide (nI t - e.2.1 7 < 120)
  have hcP : ∀ e, e ∈ OL → c e.1 = P e := fun e he => by
    obtain ⟨u, b, m, bits, o, r, a1, ⟨-, -, -, -, -, -, a2, -⟩, -⟩ := r4.2.2.2.1 e he
    show (! decide (nI t - h_fi M 706 (dk + 4 + 2 * e.1) < 120)) = _
    rw [a2]
  obtain ⟨T, t1, t2, t3, t4⟩ := rfil (M := M) (dk := dk) (ρ := sT) (kS := kS208) (H := 129) (as := fun k => [.inl (nI n), .inl (nI k)]) (P := P) (K := fun T => T.1 3 0 = nI t) (show n < 8 by omega) (fun T U q1 q2 => by rw [q2.i (by decide)]; exact q1) (fun T k OL q1 q2 q3 => by
    have hl := q1.1.2
    have s46 : s_a T 46 (nI n) = some (nI OL.length) := by rw [ga46 (by omega), q1.1.1]
    have s44 : s_a T 44 ((((48 : Int32) * nI n) + ((8 : Int32) * nI k)) + (7 : Int32)) = some ((OL.getD k oE0).2.1 7) := by
      rw [ixl48, ixl8, nI_add, show (7 : Int32) = nI 7 from rfl, nI_add, ga44 (by omega), (q1.2 k q3).1 7 (by omega)]
    have sg : s_g T 3 = nI t := q2
    show c208_129 (nI n) (nI k) T = _
    unfold c208_129
    rw [bd_s s46, if_neg (show ¬ nI OL.length ≤ nI k from nI_ge q3 (by omega)), bd_s s44, sg]
    by_cases z : nI t - (OL.getD k oE0).2.1 7 < 120
    · have : P (OL.getD k oE0) = false := by show (! decide _) = false; rw [decide_eq_true z]; rfl
      rw [if_pos z, this, if_neg (by decide), nI_1]
    · have : P (OL.getD k oE0) = true := by show (! decide _) = true; rw [decide_eq_false z]; rfl
      rw [if_neg z, this, if_pos rfl]) OL [] S fus r4.s h.t2 (by have := r4.1.2; omega)
  rw [List.nil_append] at t1 t4
  have ef : OL.filter (fun e => ! c e.1) = OL.filter (fun e => ! P e) := filter_cg (fun e he => by rw [hcP e he])
  rw [← ef] at t1 t4
  have hNT := NR_cz hN hI h.bk hn hG c t4 t2 t3
  have hl6 : (OL.filter (fun e => ! c e.1)).length ≤ 6 := t4.1.2
  refine ⟨cz M dk c 6, T, h_ai M, OL.filter (fun e => ! c e.1), ?_, ?_, HB_cz h h2 c (ks.rf.tr t3 rfl), hNT, fun e he o o1 o2 => ?_⟩
  · show drive k46 xF 2 [.inr (.inr (some dk)), .inl (nI 0)] (cz M dk c 0) = _
    have lp := czlp (M := M) (dk := dk) (c := c) (kk := k46) (H := 2) (ar := fun i => [.inr (.inr (some dk)), .inl (nI i)]) (fun i hi => by
      have kz := cz_kp h.bk h2 c i (by omega)
      have dz := h2.kp kz (by decide) (by decide)
      obtain ⟨y1, y2, y3⟩ := slot_i dz hi
      have g0 : g_r (cz M dk c i) 1 0 (some dk) = some (some 2) := (g_r_t (ci := 1) dz.2.1.1).trans (congrArg some dz.2.1.2.1)
      have g9 : g_i (cz M dk c i) 9 3 (some 2) = some (nI t) := (g_i_t (ci := 9) (kz.t0 hI.sh0)).trans (congrArg some (by show h_fi (cz M dk c i) 903 2 = _; rw [kz.fi (by decide)]; exact h.t1))
      have g6 : g_i (cz M dk c i) 7 6 (some (dk + 4 + 2 * i)) = some (h_fi M 706 (dk + 4 + 2 * i)) := (g_i_t (ci := 7) y3).trans (congrArg some (by show h_fi (cz M dk c i) 706 _ = _; rw [kz.fi (by decide)]))
      obtain ⟨w1, w2⟩ := cz_st h2 h.bk hi (c i) rfl
      show b46_2 dk (nI i) (cz M dk c i) = _
      unfold b46_2
      rw [if_neg (show ¬ (6 : Int32) ≤ nI i from nI_ge (b := 6) (by omega) (by omega)), bd_s g0, bd_s g9, bd_s y1, bd_s y2, bd_s g6]
      by_cases z : nI t - h_fi M 706 (dk + 4 + 2 * i) < 120
      · have : c i = false := by show (! decide _) = false; rw [decide_eq_true z]; rfl
        rw [if_pos z, w2 this]
        unfold b46_40
        rw [nI_1]
      · have : c i = true := by show (! decide _) = true; rw [decide_eq_false z]; rfl
        rw [if_neg z, bd_s y1, bd_s y2, bd_s (w1 this)]
        unfold b46_40
        rw [nI_1]) 6 0 xF (by omega) (by unfold xF; omega)
    refine Eq.trans lp ?_
    obtain ⟨g', hg'⟩ : ∃ g, xF - 6 = g + 1 := ⟨xF - 7, by unfold xF; omega⟩
    rw [hg']
    refine dr_end ?_
    show b46_2 dk (nI 6) (cz M dk c 6) = _
    unfold b46_2
    rw [if_pos (by decide)]
  · refine Eq.trans t1 ?_
    obtain ⟨g', hg'⟩ : ∃ g, fus - OL.length = g + 1 := ⟨fus - OL.length - 1, by have := r4.1.2; omega⟩
    rw [hg']
    refine sd_end ?_
    have s46 : s_a T 46 (nI n) = some (nI (OL.filter (fun e => ! c e.1)).length) := by rw [ga46 (by omega), t4.1.1]
    show c208_129 (nI n) (nI (OL.filter (fun e => ! c e.1)).length) T = _
    unfold c208_129
    rw [bd_s s46, if_pos (nI_le (by omega) (by omega))]
  · obtain ⟨he1, he2⟩ := List.mem_filter.mp he
    rw [hcP e he1] at he2
    have he2 : (! (! decide (nI t - e.2.1 7 < 120))) = true := he2
    rw [Bool.not_not] at he2
    have he3 := of_decide_eq_true he2
    obtain ⟨u, b, m, bits, o', r, a1, a2, a3, a4, ⟨a5, a6, a7⟩, -⟩ := r4.2.2.2.1 e he1
    have : o = o' := (nI_eq (by omega) (by omega)).mp (by rw [← o2, ← a5])
    subst this
    rw [o2, pk_sub a6] at he3
    have := (nI_ltI (b := 120) (by omega) (by omega)).mp he3
    omega
/-- isOf -/
theorem f68_eq {s : Nat} {v0 v1 v2 : Int32} (hs : h_tg M s = 8) (h0 : h_fi M 700 s = v0) (h1 : h_fi M 701 s = v1) (h2 : h_fi M 702 s = v2) (hX : rd M a L) (h13 : 13 ≤ L.length) : f68 [.inr (.inr (some s)), .inr (.inr (some a))] M = some (some (.inl (b2 (decide (v0 ≠ 0 ∧ v1 = num L 7 2 ∧ v2 = num L 4 3)))), M) := by
  show x_out (b68_0 s (some a) M) = _
  have e65 := f65_eq hX h13
  have e66 := f66_eq hX h13
  have o2 : g_o M 2 (some a) = some a := g_o_t (ci := 2) hX.1.1
  unfold b68_0 b68_33 b68_34
  rw [bd_s ((g_i_t (ci := 7) hs).trans (congrArg some h0))]
  by_cases z0 : v0 = 0
  · rw [if_pos z0, decide_eq_false (fun q => q.1 z0)]; rfl
  rw [if_neg z0, bd_s ((g_i_t (ci := 7) hs).trans (congrArg some h1)), bd_s o2, bd_s (c_I_of e66)]
  by_cases z1 : v1 = num L 7 2
  · rw [if_pos z1, bd_s ((g_i_t (ci := 7) hs).trans (congrArg some h2)), bd_s o2, bd_s (c_I_of e65)]
    by_cases z2 : v2 = num L 4 3
    · rw [if_pos z2, decide_eq_true ⟨z0, z1, z2⟩]; rfl
    · rw [if_neg z2, decide_eq_false (fun q => z2 q.2.2)]; rfl
  · rw [if_neg z1, decide_eq_false (fun q => z1 q.2.1)]; rfl
/-- takeAbort -/
theorem P_abt (h : HB sw nd rm M S ia w pe wo t zb sb fl [(a, g, L)] [(f, L)] kR ka tog) (hN : NR nd M S t nc ca hh lv jj G) (hn : n < nd) (hG : G n = .inr (dk, OL)) (h13 : 13 ≤ L.length) : ∃ M' S' ib fm OL', f69 [.inr (.inr (some dk)), .inr (.inr (some a))] M = some (none, M') ∧ sdrive kS218 xF 107 [.inl (nI n), .inl (nI f), .inl (num L 4 3), .inl (nI 0)] S = some S' ∧ HB sw nd rm M' S' ib w pe wo t zb sb fm [(a, g, L)] [(f, L)] kR ka tog ∧ NR nd M' S' t nc ca hh lv jj (u1 G n (.inr (dk, OL'))) := by
  have hI := h.I
  have hnd := hI.bs.2.1.2
  have hX : rd M a L := h.rd (u := (a, g, L)) List.mem_cons_self
  have hXs : rdS S f L := h.rdS (u := (f, L)) List.mem_cons_self
  have hdd := hN.dd hn hG
  obtain ⟨h1, h2, h3, -, lr, r1, r2, r3, r4⟩ := hdd
  let c : Nat → Bool := fun i => decide (h_fi M 700 (dk + 4 + 2 * i) ≠ 0 ∧ h_fi M 701 (dk + 4 + 2 * i) = num L 7 2 ∧ h_fi M 702 (dk + 4 + 2 * i) = num L 4 3)
  let P : oE → Bool := fun e => decide (e.2.1 0 = num L 4 3 ∧ e.2.1 1 = num L 7 2)
  have hcP : ∀ e, e ∈ OL → c e.1 = P e := fun e he => by
    obtain ⟨u, b, m, bits, o, r, a1, ⟨a2, a3, a4, -⟩, -⟩ := r4.2.2.2.1 e he
    show decide (h_fi M 700 (dk + 4 + 2 * e.1) ≠ 0 ∧ h_fi M 701 (dk + 4 + 2 * e.1) = num L 7 2 ∧ h_fi M 702 (dk + 4 + 2 * e.1) = num L 4 3) = decide (e.2.1 0 = num L 4 3 ∧ e.2.1 1 = num L 7 2)
    rw [a2, a3, a4]
    exact decide_eq_decide.mpr ⟨fun q => ⟨q.2.2, q.2.1⟩, fun q => ⟨by decide, q.2, q.1⟩⟩
  obtain ⟨T, t1, t2, t3, t4⟩ := rfil (M := M) (dk := dk) (ρ := sT) (kS := kS218) (H := 107) (as := fun k => [.inl (nI n), .inl (nI f), .inl (num L 4 3), .inl (nI k)]) (P := P) (K := fun T => rdS T f L) (show n < 8 by omega) (fun T U q1 q2 => rdS_ks q1 q2 (by decide) (by decide)) (fun T k OL q1 q2 q3 => by
    have hl := q1.1.2
    have s46 : s_a T 46 (nI n) = some (nI OL.length) := by rw [ga46 (by omega), q1.1.1]
    have s44 : s_a T 44 (((48 : Int32) * nI n) + ((8 : Int32) * nI k)) = some ((OL.getD k oE0).2.1 0) := by
      rw [ixl48, ixl8, nI_add, ga44 (by omega)]
      have := (q1.2 k q3).1 0 (by omega)
      exact congrArg some this
    have s45 : s_a T 44 ((((48 : Int32) * nI n) + ((8 : Int32) * nI k)) + (1 : Int32)) = some ((OL.getD k oE0).2.1 1) := by
      rw [ixl48, ixl8, nI_add, nI_1, ga44 (by omega), (q1.2 k q3).1 1 (by omega)]
    have e7 : e166 (nI f) 7 2 T = some (num L 7 2, T) := r166 (i := 7) (n := 2) q2 (by omega)
    show c218_107 (nI n) (nI f) (num L 4 3) (nI k) T = _
    unfold c218_107
    rw [bd_s s46, if_neg (show ¬ nI OL.length ≤ nI k from nI_ge q3 (by omega)), bd_s s44]
    by_cases z : (OL.getD k oE0).2.1 0 = num L 4 3
    · rw [if_pos z, bd_s s45, bd_s e7]
      by_cases z2 : (OL.getD k oE0).2.1 1 = num L 7 2
      · have : P (OL.getD k oE0) = true := decide_eq_true ⟨z, z2⟩
        rw [if_pos z2, this, if_pos rfl]
      · have : P (OL.getD k oE0) = false := decide_eq_false (fun q => z2 q.2)
        rw [if_neg z2, this, if_neg (by decide)]
        unfold c218_175
        rw [nI_1]
    · have : P (OL.getD k oE0) = false := decide_eq_false (fun q => z q.1)
      rw [if_neg z, this, if_neg (by decide)]
      unfold c218_175
      rw [nI_1]) OL [] S xF r4.s hXs (by have := r4.1.2; unfold xF; omega)
  rw [List.nil_append] at t1 t4
  have ef : OL.filter (fun e => ! c e.1) = OL.filter (fun e => ! P e) := filter_cg (fun e he => by rw [hcP e he])
  rw [← ef] at t1 t4
  have hNT := NR_cz hN hI h.bk hn hG c t4 t2 t3
  have hl6 : (OL.filter (fun e => ! c e.1)).length ≤ 6 := t4.1.2
  have hbZ := HB_cz h h2 c (ks.rf.tr t3 rfl)
  have k6 := cz_kp h.bk h2 c 6 (by omega)
  have dk6 := h2.kp k6 (by decide) (by decide)
  obtain ⟨M1, S1, S2, S3, f1, fm, x1, x2, x3, x4, x5, x6, x7⟩ := P_ans (k := 14) (wd := 0) (rx := 0) (v := 0) hbZ hn dk6 (hNT.2.1 n hn) h13 (Or.inl ⟨rfl, by omega⟩) (by omega)
  have x4' := x4 rfl
  subst x4'
  refine ⟨M1, S3, h_ai M, fm, OL.filter (fun e => ! c e.1), ?_, ?_, x6, hNT.fst hbZ.I x7⟩
  · show drive k69 xF 2 [.inr (.inr (some dk)), .inr (.inr (some a)), .inl (nI 0)] (cz M dk c 0) = _
    have lp := czlp (M := M) (dk := dk) (c := c) (kk := k69) (H := 2) (ar := fun i => [.inr (.inr (some dk)), .inr (.inr (some a)), .inl (nI i)]) (fun i hi => by
      have kz := cz_kp h.bk h2 c i (by omega)
      have dz := h2.kp kz (by decide) (by decide)
      obtain ⟨y1, y2, y3⟩ := slot_i dz hi
      have hXz : rd (cz M dk c i) a L := by
        obtain ⟨⟨q1, q2, q3, q4⟩, q5, q6, q7⟩ := hX
        refine ⟨⟨kz.t0 q1, by rw [kz.fr (by decide)]; exact q2, kz.t0 q3, by rw [(cz_s c i).2.2.1.2]; exact q4⟩, by rw [kz.fi (by decide)]; exact q5, q6, ?_⟩
        unfold fbl at q7 ⊢
        rw [(cz_s c i).2.1.1]; exact q7
      have e68 := f68_eq (v0 := h_fi M 700 (dk + 4 + 2 * i)) (v1 := h_fi M 701 (dk + 4 + 2 * i)) (v2 := h_fi M 702 (dk + 4 + 2 * i)) y3 ((cz_s c i).2.2.2.2.2 _ (fun j hj => by omega)) (by rw [kz.fi (by decide)]) (by rw [kz.fi (by decide)]) hXz h13
      obtain ⟨w1, w2⟩ := cz_st h2 h.bk hi (c i) rfl
      show b69_2 dk (some a) (nI i) (cz M dk c i) = _
      unfold b69_2
      rw [if_neg (show ¬ (6 : Int32) ≤ nI i from nI_ge (b := 6) (by omega) (by omega)), bd_s y1, bd_s y2, bd_s (g_o_t (ci := 7) y3), bd_s (c_I_of e68)]
      show (if b2 (c i) = 0 then _ else _) = _
      cases z : c i with
      | false =>
        rw [if_pos (show b2 false = 0 from rfl), w2 z]
        unfold b69_31
        rw [nI_1]
      | true =>
        rw [if_neg (show ¬ b2 true = 0 by decide), bd_s y1, bd_s y2, bd_s (w1 z)]
        unfold b69_31
        rw [nI_1]) 6 0 xF (by omega) (by unfold xF; omega)
    refine Eq.trans lp ?_
    obtain ⟨g', hg'⟩ : ∃ g, xF - 6 = g + 1 := ⟨xF - 7, by unfold xF; omega⟩
    rw [hg']
    refine dr_end ?_
    have x1' : f67 [.inr (.inr (some dk)), .inl 14, .inr (.inr (some a)), .inl 0, .inl 0, .inr (.inl 0)] (cz M dk c 6) = some (none, M1) := x1
    show b69_2 dk (some a) (nI 6) (cz M dk c 6) = _
    unfold b69_2
    rw [if_pos (by decide), bd_s (g_o_t (ci := 1) dk6.2.1.1), bd_s (c_V_of x1')]
  · refine Eq.trans t1 ?_
    obtain ⟨g', hg'⟩ : ∃ g, xF - OL.length = g + 1 := ⟨xF - OL.length - 1, by have := r4.1.2; unfold xF; omega⟩
    rw [hg']
    refine sd_end ?_
    have s46 : s_a T 46 (nI n) = some (nI (OL.filter (fun e => ! c e.1)).length) := by rw [ga46 (by omega), t4.1.1]
    have x2' : e212 (nI n) (nI f) 14 0 0 T = some (nI f1, S2) := x2
    show c218_107 (nI n) (nI f) (num L 4 3) (nI (OL.filter (fun e => ! c e.1)).length) T = _
    unfold c218_107
    rw [bd_s s46, if_pos (nI_le (by omega) (by omega)), bd_s e176_v, bd_s x2', bd_s x5]
    rfl
end DT
