section SV
variable {sw nd rm : Nat} {M M1 M' : hM} {S S0 S1 T : sT} {ia ib : Nat → Nat → Int32} {w t x y z zb sb s p a f τ : Nat} {pe : Nat → Option Nat} {wo : Nat → Nat} {fl fm fmc fmr : Nat → List (List Int32)} {L X : List Int32} {r : List (List Int32)} {F A G : List Nat} {kR kR' : Nat → rK} {ka ka' : Nat → Nat → Nat} {tog : Nat → Bool}
/-- the class's frame leaves last, the reference's first -/
theorem P_fin (h : TB sw nd rm M S ia w pe wo t zb sb fl kR ka tog) (hx : sd sw nd x) (hf : fl (48 + x) = L :: r) (k0 : ks [16, 17, 20, 21] S S0) (e20 : S0.1 20 = u1 (S.1 20) x (S.1 20 x + 1)) (e21 : S0.1 21 = u1 (S.1 21) x 0) (hB : SB sw nd rm M1 S1 ib w pe wo t zb sb fmc fmr [] [(f, L)] kR' ka' tog) (q1 : qx S0 fl fmc) (q2 : qx S0 (u1 fl (48 + x) r) fmr) (kM : kp F A M M1) (hF : [806, 807, 813].all (fun x => ! F.contains x) = true) (kS : ks G S0 S1) (hG : [5, 12, 14, 20, 21, 22].all (fun x => ! G.contains x) = true) (hown : OWN sw pe kR') : ∃ a' M2 M3 S2 fm, f54 [.inr (.inr (some (200 + x)))] M1 = some (some (.inr (.inr (some a'))), M2) ∧ f17 [.inr (.inr (some 2)), .inr (.inr (some a'))] M2 = some (none, M3) ∧ cI sw nd rm M2 ∧ e171 (nI f) S1 = some S2 ∧ TB sw nd rm M3 S2 ib w pe wo t zb sb fm kR' ka' tog ∧ i20 M1 M3 := by
  have qF : ∀ x, x ∈ [806, 807, 813] → F.contains x = false := fun x hx => by have := List.all_eq_true.mp hF x hx; simpa using this
  have qG : ∀ x, x ∈ [5, 12, 14, 20, 21, 22] → S1.1 x = S0.1 x := fun x hx => kS.i (by have := List.all_eq_true.mp hG x hx; simpa using this)
  have hI1 := hB.st.I
  have hW1 := hB.st.W
  have hx8 := hI1.x8 hx
  obtain ⟨-, y, e⟩ := h.wr hx (by rw [hf]; exact fun q => nomatch q)
  have hy := (hW1.sds e).2.1
  have hfc : fmc (48 + x) = L :: r := by rw [q1.1 _ (by omega)]; exact hf
  obtain ⟨ct, c1, c2, c3, c4, c5, c6, c7⟩ := hB.pb
  have hr : r.length ≤ 4 := by have := (c3 x hx8).2.1; rw [hfc, List.length_cons] at this; omega
  obtain ⟨a', g, M2, m1, m2, m3, m4, m5, -⟩ := FC_leave hI1 c1 hx hy (hW1.pr e) hfc hr
  have kM2 := kf54 m1 hB.pb.bk
  have hI2 := hI1.keep kM2 (by decide) (by decide)
  obtain ⟨M3, n1, n2⟩ := FC_rel hI2 m2
  have kM3 := kf17 n1 kM2.1
  obtain ⟨S2, s1, s2⟩ := FR_drop c2
  have kS2 := ke171 s1
  have eq : ∀ p, p < 144 → u1 fmc (48 + x) r p = fmr p := fun p hp => by
    by_cases q : p = 48 + x
    · subst q; rw [u1_eq, q2.1 _ (by omega), u1_eq]
    · rw [u1_ne q]
      by_cases q' : p < 96
      · rw [q1.1 p q', q2.1 p q', u1_ne q]
      · exact c5 p (by omega) hp
  have hP : PB sw nd M3 S2 ib zb sb (u1 fmc (48 + x) r) (u1 fmc (48 + x) r) [] [] := by
    have : PB sw nd M3 S2 ib zb sb (u1 fmc (48 + x) r) fmr [] [] := ⟨ct, n2, s2, FLb_u c3 hx8 hfc, c4, fun p p1 p2 => eq p p2, by rw [kS2.i (by decide)]; exact c6, c7⟩
    exact this.fls (fun _ _ => rfl) (fun p hp => eq p hp)
  have kM' : kp [203, 300, 301, 302, 807, 813, 907] [] M1 M3 := ((kp.rf hB.pb.bk : kp [203, 300, 301, 302, 807, 813, 907] [] M1 M1).tr kM2 rfl rfl).tr kM3 rfl rfl
  have eu : ∀ z, upS S2 z = upS S z := fun z => by
    rw [upS_ks kS2 (by decide) (by decide)]
    have : upS S1 z = upS S0 z := by unfold upS; rw [qG 14 (by decide), qG 12 (by decide)]
    rw [this, upS_ks k0 (by decide) (by decide)]
  have eu0 : ∀ z, upS S0 z = upS S z := fun z => upS_ks k0 (by decide) (by decide)
  refine ⟨a', M2, M3, S2, u1 fmc (48 + x) r, m1, n1, hI2, s1, ⟨hB.keep kM' (by decide) (by decide) kS2 (by decide) hP, ?_, hown⟩, PB_i20 hB.pb hP kM'⟩
  refine h.2.1.lv h.I h.W e hf ?_ ?_ ?_ eu ?_ ?_ ?_ ?_ u1_eq (fun p hp q => by rw [u1_ne q]; exact q1.1 p hp) (fun z hz hu => ?_) ?_
  · rw [kM3.fi (by decide), kM2.fi (by decide), kM.fi (qF 806 (by decide))]
  · rw [kM3.fi (by decide), m5, kM.fi (qF 807 (by decide))]
  · rw [kM3.fi (by decide), m4, kM.fi (qF 813 (by decide))]
  · rw [kS2.i (by decide), qG 5 (by decide), k0.i (by decide)]
  · rw [kS2.i (by decide), qG 20 (by decide), e20]
  · rw [kS2.i (by decide), qG 21 (by decide), e21]
  · rw [kS2.i (by decide), qG 22 (by decide), k0.i (by decide)]
  · rw [u1_ne (by omega)]
    exact (q1.2 z hz).1 (by rw [eu0]; exact hu)
  · exact FLl_u (q1.l h.2.1.1) hfc
theorem P_serve (h : TB sw nd rm M S ia w pe wo t zb sb fl kR ka tog) (hss : s < sw) (hp : p < 8) : ∃ M' S' ib fm kR' ka', f137 [.inr (.inr (some (10 + s))), .inr (.inr (some (200 + (8 * s + p))))] M = some (none, M') ∧ e229 (nI s) (nI (8 * s + p)) S = some S' ∧ TB sw nd rm M' S' ib w pe wo t zb sb fm kR' ka' tog ∧ i20 M M' ∧ ∀ s', kR' s' s' = kR s' s' ∧ ka' s' s' = ka s' s' := by
  have hI := h.I
  have hW := h.W
  have hsw := hI.bs.1.2
  have hnd := hI.bs.2.1.2
  have hx : sd sw nd (8 * s + p) := sd_sp hss hp
  have hx8 := hI.x8 hx
  have tp := hI.po0 hx
  have ts := hI.si0 hss
  have gb : g_r M 8 10 (some (200 + (8 * s + p))) = some (some (300 + (8 * s + p))) := (g_r_t (ci := 8) tp).trans (congrArg some (hI.po5 hx))
  have gf : g_r M 3 0 (some (300 + (8 * s + p))) = some (h_fr M 300 (300 + (8 * s + p))) := g_r_t (ci := 3) (hI.po7 hx)
  show ∃ M' S' ib fm kR' ka', x_out (b137_0 (10 + s) (some (200 + (8 * s + p))) M) = _ ∧ s_out (c229_0 (nI s) (nI (8 * s + p)) S) = _ ∧ _
  unfold b137_0 c229_0
  rw [bd_s gb, bd_s gf]
  cases hf : fl (48 + (8 * s + p)) with
  | nil =>
    obtain ⟨ct, c1, c2, -⟩ := h.1.pb
    have n1 := FC_tno (p := 48 + (8 * s + p)) c1 (by omega) (by omega) (by rw [md_b hx8]; exact hx) hf
    rw [lq_b hx8] at n1
    have n2 := (c2.bl hx8).1
    rw [hf] at n2
    have n2 : S.1 17 (8 * s + p) = 0 := n2
    rw [bd_s (ga17 hx8), if_pos n1, if_pos n2]
    exact ⟨M, S, ia, fl, kR, ka, rfl, rfl, h, i20_rf, fun _ => ⟨rfl, rfl⟩⟩
  | cons L r =>
    have hpb := h.1.pb
    obtain ⟨a, a1, a2, hX, a4⟩ := PB_pk hI hpb hx hf
    obtain ⟨f, f1, hXs, f2⟩ := PB_pkS hpb hx8 hf
    have hLl := (h.2.1.1 (48 + (8 * s + p)) (by omega) L (by rw [hf]; exact List.mem_cons_self)).1 (by omega)
    have hr : r.length ≤ 4 := by have := (hpb.b.1 (8 * s + p) hx8).2.1; rw [hf, List.length_cons] at this; omega
    have n2 : ¬ S.1 17 (8 * s + p) = 0 := by
      rw [f2]
      exact fun q => absurd ((nI_eq (b := 0) (by omega) (by omega)).mp q) (by omega)
    have gx : s_a S 16 (nI (8 * s + p) * 4) = some (nI f) := by
      have : nI (8 * s + p) * 4 = nI ((8 * s + p) * 4) := ixr4
      rw [this, ga16 (by omega), f1]
    have gsh : g_r M 10 0 (some (10 + s)) = some (some 2) := (g_r_t (ci := 10) ts).trans (congrArg some (hI.si1 hss))
    have e63 := f63_eq hX hI.sh0 hI.sh1 hI.sh2 (by omega) (by omega) hLl.1 a4
    have g166 : e166 (nI f) 1 3 S = some (num L 1 3, S) := r166 (i := 1) (n := 3) hXs (by omega)
    have g174 := e174_eq hXs h.1.st.2.2.1.1 h.1.st.2.2.1.2.1 (by omega) (by omega) hLl.1
    have e1 : num L 1 3 = nI (numN L 1 3) := num_N L 1 3 (by omega)
    have hτ : numN L 1 3 < 16777216 := numN_lt L 1 3
    rw [a1, if_neg (fun q => nomatch q), bd_s gsh, bd_s (g_o_t (ci := 2) hX.1.1), bd_s (c_I_of e63), bd_s (ga17 hx8), if_neg n2, bd_s gx, bd_s g166, bd_s g174]
    show ∃ M' S' ib fm kR' ka', x_out (if b2 (tru sw nd L) = 0 then _ else _) = _ ∧ s_out (if b2 (tru sw nd L) = 0 then _ else _) = _ ∧ _
    by_cases ct : b2 (tru sw nd L) = 0
    · rw [if_pos ct, if_pos ct]
      obtain ⟨M', S1, S2, f', d1, d2, d3, d4, d5⟩ := P_drop (k := 1) h hx hf (by omega) (by omega)
      refine ⟨M', S2, ia, _, kR, ka, ?_, ?_, d4, d5, fun _ => ⟨rfl, rfl⟩⟩
      · rw [bd_s (g_o_t (ci := 8) tp)]
        show x_out (Option.bind (c_V (f134 [.inr (.inr (some (200 + (8 * s + p)))), .inl (nI 1)] M)) _) = _
        rw [bd_s (c_V_of d1)]
        rfl
      · show s_out (Option.bind (s_a S 4 (nI 1)) fun v_37 => Option.bind (s_s S 4 (nI 1) (v_37 + (1 : Int32))) _) = _
        rw [bd_s (ga4 (by omega)), bd_s (gs4 (by omega)), bd_s d2, bd_s d3]
        rfl
    · rw [if_neg ct, if_neg ct]
      have ht : tru sw nd L = true := by
        cases q : tru sw nd L with
        | true => rfl
        | false => rw [q] at ct; exact absurd rfl ct
      have e64 := f64_eq hX (by omega)
      have e57 := f57_eq hX (by omega)
      rw [e1] at e64
      rw [bd_s (g_o_t (ci := 2) hX.1.1), bd_s (c_I_of e64), bd_s (g_o_t (ci := 2) hX.1.1), bd_s (c_I_of e57), e1]
      show ∃ M' S' ib fm kR' ka', x_out (if nI (numN L 1 3) = 16777214 then b137_66 (10 + s) (some (200 + (8 * s + p))) (some a) (nI (numN L 1 3)) (nI (bn L 0)) M else if nI (numN L 1 3) = 16777212 then b137_66 (10 + s) (some (200 + (8 * s + p))) (some a) (nI (numN L 1 3)) (nI (bn L 0)) M else if nI (numN L 1 3) = 16777213 then b137_66 (10 + s) (some (200 + (8 * s + p))) (some a) (nI (numN L 1 3)) (nI (bn L 0)) M else _) = _ ∧ s_out (if nI (numN L 1 3) < 16777212 then c229_97 (nI s) (nI (8 * s + p)) (nI f) (nI (numN L 1 3)) S else if 16777214 < nI (numN L 1 3) then c229_97 (nI s) (nI (8 * s + p)) (nI f) (nI (numN L 1 3)) S else _) = _ ∧ _
      have z1 : (nI (numN L 1 3) = 16777214) ↔ numN L 1 3 = 16777214 := nI_eq (b := 16777214) (by omega) (by omega)
      have z2 : (nI (numN L 1 3) = 16777212) ↔ numN L 1 3 = 16777212 := nI_eq (b := 16777212) (by omega) (by omega)
      have z3 : (nI (numN L 1 3) = 16777213) ↔ numN L 1 3 = 16777213 := nI_eq (b := 16777213) (by omega) (by omega)
      have z4 : (nI (numN L 1 3) < 16777212) ↔ numN L 1 3 < 16777212 := nI_ltI (b := 16777212) (by omega) (by omega)
      have z5 : (16777214 < nI (numN L 1 3)) ↔ 16777214 < numN L 1 3 := nI_ltI (a := 16777214) (by omega) (by omega)
      by_cases csp : numN L 1 3 = 16777212 ∨ numN L 1 3 = 16777213 ∨ numN L 1 3 = 16777214
      · have hy' := h.wr hx (by rw [hf]; exact fun q => nomatch q)
        obtain ⟨-, y, e⟩ := hy'
        -- the reference's frame leaves
        have hpb' := hpb
        obtain ⟨ct', c1, c2, c3, c4, c5, c6, c7⟩ := hpb'
        obtain ⟨f', S0, s1, s2, s3, s4, s5, s6, -⟩ := FR_lea c2 hx8 c4 hf
        have hff : f' = f := (nI_eq (by omega) (by have := hXs.1; omega)).mp (by rw [← s6, f1])
        subst hff
        have k0 := ke185 s1
        have hP0 : PB sw nd M S0 ia zb sb fl (u1 fl (48 + (8 * s + p)) r) [] [(f', L)] := ⟨ct', c1, s3, c3, FLb_u c4 hx8 hf, fun p p1 p2 => by rw [u1_ne (by omega)], by rw [k0.i (by decide)]; exact c6, c7⟩
        have hS0 := h.1.keep (kp.rf hpb.bk : kp [] [] M M) (by decide) (by decide) k0 (by decide) hP0
        obtain ⟨M1, S1, ib, fmc, fmr, kR', ka', j1, j2, j3, ⟨j4, j5⟩, j6, j7, j8⟩ := P_taken hS0 hss hp e hX a2 (hP0.rdS List.mem_cons_self) hLl.1 ht csp
        have hown : OWN sw pe kR' := fun s' L' hs' hL' => h.2.2 s' L' hs' (by rw [← (j8 s').1]; exact hL')
        obtain ⟨a', M2, M3, S2, fm, d1, d2, d3, d4, d5, d6⟩ := P_fin h hx hf k0 s4 s5 j3 j4 j5 j7 (by decide) (ke228 j2) (by decide) hown
        have hI1 := j3.st.I
        have g54 : c_R (f54 [.inr (.inr (some (200 + (8 * s + p))))] M1) = some (some a', M2) := by rw [d1]; rfl
        have fin : x_out (b137_66 (10 + s) (some (200 + (8 * s + p))) (some a) (nI (numN L 1 3)) (nI (bn L 0)) M) = some (none, M3) := by
          rw [j1]
          unfold b137_174
          rw [bd_s ((g_r_t (ci := 10) (hI1.si0 hss)).trans (congrArg some (hI1.si1 hss))), bd_s (g_o_t (ci := 8) (hI1.po0 hx)), bd_s g54]
          show x_out (Option.bind (g_o M2 9 (some 2)) _) = _
          rw [bd_s (g_o_t (ci := 9) d3.sh0)]
          show x_out (Option.bind (c_V (f17 [.inr (.inr (some 2)), .inr (.inr (some a'))] M2)) _) = _
          rw [bd_s (c_V_of d2)]
          rfl
        refine ⟨M3, S2, ib, fm, kR', ka', ?_, ?_, d5, i20_tr j6 d6, j8⟩
        · rcases csp with q | q | q
          · rw [if_neg (fun c => by have := z1.mp c; omega), if_pos (z2.mpr q)]; exact fin
          · rw [if_neg (fun c => by have := z1.mp c; omega), if_neg (fun c => by have := z2.mp c; omega), if_pos (z3.mpr q)]; exact fin
          · rw [if_pos (z1.mpr q)]; exact fin
        · rw [if_neg (fun c => by have := z4.mp c; omega), if_neg (fun c => by have := z5.mp c; omega), bd_s s1]
          show s_out (Option.bind (e228 (nI s) (nI (8 * s + p)) (nI f') (nI (numN L 1 3)) S0) _) = _
          rw [bd_s j2, bd_s d4]
          rfl
      · obtain ⟨M', S', fm, d1, d2, d3, d4⟩ := P_passOn h hss hp hf hX hXs f1 (by omega)
        rw [e1] at d2
        refine ⟨M', S', ia, fm, kR, ka, ?_, ?_, d3, d4, fun _ => ⟨rfl, rfl⟩⟩
        · rw [if_neg (fun c => csp (Or.inr (Or.inr (z1.mp c)))), if_neg (fun c => csp (Or.inl (z2.mp c))), if_neg (fun c => csp (Or.inr (Or.inl (z3.mp c)))), bd_s (g_o_t (ci := 10) ts), bd_s (c_V_of d1)]
          rfl
        · have hc : c229_97 (nI s) (nI (8 * s + p)) (nI f) (nI (numN L 1 3)) S = some (.inl S') := by
            unfold c229_97
            rw [bd_s d2]
            rfl
          by_cases q : numN L 1 3 < 16777212
          · rw [if_pos (z4.mpr q), hc]; rfl
          · rw [if_neg (fun c => q (z4.mp c)), if_pos (z5.mpr (by omega)), hc]; rfl
end SV
