/-! ===== zoning, domain, zone, join ===== -/
def twF : List Nat := [200, 201, 202, 203, 300, 301, 302, 808, 907, 811, 812, 814, 600, 601, 602, 1005, 1010, 806, 807, 813]
def twS : List Nat := [4, 6, 7, 8, 9, 15, 16, 17, 18, 19, 5, 12, 14, 20, 21, 23, 24, 25, 36, 27, 28, 29, 30]
theorem zn_or : ∀ k, k < 256 → ∀ n, n < 8 → nI k ||| ((1 : Int32) <<< (nI n &&& 31)) = nI (k ||| (1 <<< n)) ∧ (k ||| (1 <<< n)) < 256 := by decide +kernel
theorem zn_an : ∀ k, k < 256 → ∀ n, n < 8 → nI k &&& (((1 : Int32) <<< (nI n &&& 31)) ^^^ (-1 : Int32)) = nI (k &&& (255 ^^^ (1 <<< n))) ∧ (k &&& (255 ^^^ (1 <<< n))) < 256 := by decide +kernel
section MU
variable {sw nd rm : Nat} {M N M' : hM} {S T : sT} {ia : Nat → Nat → Int32} {w t x y zb sb nc c s p n i a f j : Nat} {pe : Nat → Option Nat} {wo : Nat → Nat} {fl : Nat → List (List Int32)} {kR : Nat → rK} {ka : Nat → Nat → Nat} {tog : Nat → Bool} {ca hh : Nat → Nat} {lv : Nat → Bool} {jj : Nat → Nat} {G : Nat → nG} {v v1 v2 v3 : Int32} {F A H : List Nat} {K : rK} {kas : Nat → Nat} {tg : Bool}
theorem i20_0 (k : kp F [] M M') : i20 M M' := fun a _ q => ⟨k.t0 q, (k.2.2.2.1 a (by intro z; cases z)).1⟩
theorem WI.keep (h : WI sw nd M S w pe wo) (hI : cI sw nd rm M) (k : kp F A M M') (hF : [1105, 803, 804, 805].all (fun x => ! F.contains x) = true) (hA : A.contains 38 = false) (l : ks H S T) (hG : [10, 11, 12, 13, 14].all (fun x => ! H.contains x) = true) : WI sw nd M' T w pe wo := by
  have qF : ∀ x, x ∈ [1105, 803, 804, 805] → F.contains x = false := fun x hx => by have := List.all_eq_true.mp hF x hx; simpa using this
  have qS : ∀ x, x ∈ [10, 11, 12, 13, 14] → T.1 x = S.1 x := fun x hx => l.i (by have := List.all_eq_true.mp hG x hx; simpa using this)
  have eu : ∀ x, upS T x = upS S x := fun x => by unfold upS; rw [qS 14 (by decide), qS 12 (by decide)]
  obtain ⟨a1, a2, a3, a4, a5, a6⟩ := h
  refine ⟨?_, ?_, ?_, ?_, ?_, ?_⟩
  · rw [k.fi (qF 1105 (by decide)), qS 13 (by decide)]; exact a1
  · rw [qS 14 (by decide)]; exact a2
  · rw [k.fr (qF 803 (by decide))]; exact a3
  · rw [k.fr (qF 803 (by decide)), k.fi (qF 804 (by decide)), qS 14 (by decide), qS 10 (by decide), qS 11 (by decide)]; exact a4
  · rw [qS 11 (by decide), qS 12 (by decide), qS 10 (by decide), k.ar hI.ar4 hA, k.ar hI.ar6 hA]; exact a5
  · intro x hx
    rw [eu, k.fi (qF 805 (by decide))]; exact a6 x hx
theorem TW.st' (h : TW sw nd rm M S ia w pe wo t zb sb fl kR ka tog) (k : kp F [] M M') (hF : twF.all (fun x => ! F.contains x) = true) (l : ks H S T) (hG : twS.all (fun x => ! H.contains x) = true) (st : ST sw nd rm M' T ia w pe wo t) : TW sw nd rm M' T ia w pe wo t zb sb fl kR ka tog := by
  have ha : ∀ a, h_ai M' a = h_ai M a := fun a => (k.2.2.2.1 a (by intro q; cases q)).1
  exact ⟨⟨st, (h.1.pb.kp k (all_sub hF (by decide))).ks l (all_sub hG (by decide)), h.1.px.keep k (all_sub hF (by decide)) l (all_sub hG (by decide)), fun s hs => (h.1.rc hs).keep h.I hs k (all_sub hF (by decide)) rfl (fun a _ _ => ha a) l (all_sub hG (by decide))⟩, h.2.1.keep k (all_sub hF (by decide)) l (all_sub hG (by decide)) qx.rf h.x48, h.2.2⟩
theorem C_zoning (h : AX sw nd rm t zb sb M S) (hv : v = 0 ∨ v = 1) : ∃ M' S', f27 [.inr (.inr (some 1)), .inl v] M = some (none, M') ∧ e238 v S = some S' ∧ CR sw nd rm t zb sb M' S' := by
  obtain ⟨ia, w, pe, wo, fl, kR, ka, tog, nc, ca, hh, lv, jj, G, ⟨hT, ha, hN, hin⟩, qz⟩ := h
  have hI := hT.I
  have k : kp [906] [] M (h_pi M 906 2 v) := k_hpi hT.1.pb.bk (by rw [hI.sh0]; decide)
  have l : ks [38] S (s_u S 38 0 v) := k_su
  obtain ⟨s1, s2, s3, s4, ⟨s5, s6, s7⟩, s8⟩ := hT.1.st
  have st : ST sw nd rm (h_pi M 906 2 v) (s_u S 38 0 v) ia w pe wo t := by
    refine ⟨s1.keep k (by decide) (by decide), s2.keep s1 k (by decide) rfl l (by decide), ?_, ?_, ⟨?_, ?_, ?_⟩, ?_⟩
    · rw [l.i (j := 0) (by decide), l.i (j := 1) (by decide), l.i (j := 2) (by decide)]; exact s3
    · rw [k.fi (j := 903) (by decide), l.i (j := 3) (by decide)]; exact s4
    · rw [l.i (j := 37) (by decide)]; exact s5
    · rw [fi_eq, su_eq, u1_eq, u1_eq]
    · rw [su_eq, u1_eq]; exact hv
    · rw [k.fi (j := 1003) (by decide), l.i (j := 26) (by decide)]; exact s8
  refine ⟨h_pi M 906 2 v, s_u S 38 0 v, ?_, ?_, t, zb, sb, ⟨ia, w, pe, wo, fl, kR, ka, tog, nc, ca, hh, lv, jj, G, ⟨hT.st' k (by decide) l (by decide) st, ha, hN.kp hI k (by decide) (by decide) (i20_0 k) l (by decide), hin⟩, qz.ks l (by decide)⟩, by omega, by omega, by omega⟩
  · show x_out (b27_0 1 v M) = _
    unfold b27_0
    rw [bd_s ((g_r_t (ci := 11) hI.fab0).trans (congrArg some hI.fab1)), bd_s (p_z_t (ci := 9) hI.sh0 hv)]; rfl
  · show s_out (c238_0 v S) = _
    unfold c238_0
    rw [bd_s (show s_pz S 38 v = some (s_u S 38 0 v) from if_pos hv)]; rfl
theorem C_domain (h : AX sw nd rm t zb sb M S) : ∃ r M' S', f28 [.inr (.inr (some 1)), .inl v1, .inl v2] M = some (some (.inl r), M') ∧ e239 v1 v2 S = some (r, S') ∧ CR sw nd rm t zb sb M' S' := by
  have h0 := h
  obtain ⟨ia, w, pe, wo, fl, kR, ka, tog, nc, ca, hh, lv, jj, G, ⟨hT, ha, hN, hin⟩, qz⟩ := h
  have hI := hT.I
  have h5 := hI.bs.1.2
  have s0 : s_g S 0 = nI sw := hT.1.st.2.2.1.1
  have n1 : ¬ (1 : Int32) = 0 := by decide
  have fd : f28 [.inr (.inr (some 1)), .inl v1, .inl v2] M = x_out (b28_0 1 v1 v2 M) := rfl
  have ed : e239 v1 v2 S = s_out (c239_0 v1 v2 S) := rfl
  rw [fd, ed]
  unfold b28_0 c239_0
  rw [bd_s (o11 hI), s0]
  rcases px2 v1 (n := sw) (by omega) with z | ⟨s, hs, rfl⟩
  · rw [bd_s (c_I_of (f12_no hI z)), if_pos rfl]
    by_cases q : v1 < 0
    · rw [if_pos q]; exact ⟨_, M, S, rfl, rfl, h0.cr⟩
    · rw [if_neg q, if_pos (z.resolve_left q)]; exact ⟨_, M, S, rfl, rfl, h0.cr⟩
  rw [bd_s (c_I_of (f12_yes hI hs)), if_neg n1, if_neg (nI_pos (by omega)), if_neg (nI_ge hs (by omega))]
  by_cases q1 : v2 < 1
  · rw [if_pos q1, if_pos q1]; exact ⟨_, M, S, rfl, rfl, h0.cr⟩
  rw [if_neg q1, if_neg q1]
  by_cases q2 : 15 < v2
  · rw [if_pos q2, if_pos q2]; exact ⟨_, M, S, rfl, rfl, h0.cr⟩
  rw [if_neg q2, if_neg q2]
  obtain ⟨s1, s2, s3, s4, s5, s8⟩ := hT.1.st
  obtain ⟨d, d1, d2, d3, d4⟩ := s8 s hs
  have g1 : g_r M 11 1 (some 1) = some (some 8) := (g_r_t (ci := 11) hI.fab0).trans (congrArg some hI.fab2)
  have g2 : al_r M 40 (some 8) (nI s) = some (some (10 + s)) := (al_r_t hI.ar10 (by rw [hI.ar11]; exact hs) (by omega)).trans (congrArg some (hI.si9 hs))
  rw [bd_s g1, bd_s g2, bd_s ((g_i_t (ci := 10) (hI.si0 hs)).trans (congrArg some d3)), bd_s ((ga26 (by omega)).trans (congrArg some d4))]
  by_cases q3 : nI d = v2
  · rw [if_pos q3, if_pos q3]; exact ⟨_, M, S, rfl, rfl, h0.cr⟩
  rw [if_neg q3, if_neg q3, bd_s g1, bd_s g2, bd_s (p_i_t (ci := 10) (hI.si0 hs)), bd_s (gs26 (by omega))]
  have k : kp [1003] [] M (h_pi M 1003 (10 + s) v2) := k_hpi hT.1.pb.bk (by rw [hI.si0 hs]; decide)
  have l : ks [26] S (s_u S 26 s v2) := k_su
  have qn : ¬ v2 < 0 := fun q => q1 (Int32.lt_iff_toInt_lt.mpr (by
    have h := Int32.lt_iff_toInt_lt.mp q
    have e0 : (0 : Int32).toInt = 0 := rfl
    have e1 : (1 : Int32).toInt = 1 := rfl
    omega))
  obtain ⟨e, e15, rfl⟩ := nI_of2 (M := 15) (n := 15) (by decide) qn (Int32.not_lt.mp q2)
  have e1 : 1 ≤ e := by
    by_cases z : e = 0
    · subst z; exact absurd (by decide) q1
    · omega
  have st : ST sw nd rm (h_pi M 1003 (10 + s) (nI e)) (s_u S 26 s (nI e)) ia w pe wo t := by
    refine ⟨s1.keep k (by decide) (by decide), s2.keep s1 k (by decide) rfl l (by decide), ?_, ?_, ?_, fun s' hs' => ?_⟩
    · rw [l.i (j := 0) (by decide), l.i (j := 1) (by decide), l.i (j := 2) (by decide)]; exact s3
    · rw [k.fi (j := 903) (by decide), l.i (j := 3) (by decide)]; exact s4
    · rw [k.fi (j := 906) (by decide), l.i (j := 37) (by decide), l.i (j := 38) (by decide)]; exact s5
    · rw [fi_eq, su_eq]
      by_cases z : s' = s
      · subst z
        rw [u1_eq, u1_eq]
        exact ⟨e, e1, e15, rfl, rfl⟩
      · rw [u1_ne (by omega), u1_ne z]
        exact s8 s' hs'
  exact ⟨1, _, _, rfl, rfl, t, zb, sb, ⟨ia, w, pe, wo, fl, kR, ka, tog, nc, ca, hh, lv, jj, G, ⟨hT.st' k (by decide) l (by decide) st, ha, hN.kp hI k (by decide) (by decide) (i20_0 k) l (by decide), hin⟩, qz.ks l (by decide)⟩, by omega, by omega, by omega⟩
theorem RC1.keep' (hI : cI sw nd rm M) (hs : s < sw) (h : RC1 sw nd M S s K kas tg) (k : kp F A M M') (hF : [600, 601, 602, 1005, 1010].all (fun x => ! F.contains x) = true) (hA : A.contains 36 = false) (ha : ∀ a, 10 ≤ a → a < 1000 → h_ai M' a = h_ai M a) (l : ks H S T) (hG : [27, 28, 29, 30].all (fun x => ! H.contains x) = true) : RC1 sw nd M' T s K kas tg := by
  have qF : ∀ x, x ∈ [600, 601, 602, 1005, 1010] → F.contains x = false := fun x hx => by have := List.all_eq_true.mp hF x hx; simpa using this
  have qG : ∀ x, x ∈ [27, 28, 29, 30] → H.contains x = false := fun x hx => by have := List.all_eq_true.mp hG x hx; simpa using this
  have h5 := hI.bs.1.2
  obtain ⟨h1, h2, h3, h4, h6, h7, h8⟩ := h
  refine ⟨fun r hr => ?_, by rw [k.fr (qF 1005 (by decide))]; exact h2, h3.ks l (qG 27 (by decide)) (qG 30 (by decide)) (qG 29 (by decide)), h4, fun t ht => ?_, fun d hd => ?_, by rw [k.fi (qF 1010 (by decide))]; exact h8⟩
  · obtain ⟨a1, a2, a3⟩ := h1 r hr
    have hj := nJ_lt (tg := tg) (s := s) hr h5
    refine ⟨by rw [k.ar (hI.sa2 hs) hA]; exact a1, a2.keep k (qF 600 (by decide)) (qF 601 (by decide)) (ha _ (by omega) (by omega)), fun q => ?_⟩
    rw [k.fi (qF 602 (by decide)), l.i (qG 28 (by decide))]
    exact a3 q
  · rw [ha _ (by omega) (by omega)]; exact h6 t ht
  · rw [ha _ (by omega) (by omega)]; exact h7 d hd
/-- a zone's bits anew -/
theorem AX.zn {kz : Nat} (h : AX sw nd rm t zb sb M S) (hz : p < 8) (hk : kz < 256) : AX sw nd rm t zb sb (h_qi M 4 p (nI kz)) (s_u S 37 p (nI kz)) := by
  obtain ⟨ia, w, pe, wo, fl, kR, ka, tog, nc, ca, hh, lv, jj, G, ⟨hT, ha, hN, hin⟩, qz⟩ := h
  have hI := hT.I
  have k : kp [] [20] M (h_qi M 4 p (nI kz)) := k_hqi hT.1.pb.bk hI.ar2 (by decide)
  have l : ks [37] S (s_u S 37 p (nI kz)) := k_su
  have hai : ∀ a, a ≠ 4 → h_ai (h_qi M 4 p (nI kz)) a = h_ai M a := fun a q => funext fun _ => u2_nk q
  obtain ⟨s1, s2, s3, s4, ⟨s5, s6⟩, s8⟩ := hT.1.st
  obtain ⟨ct, d1, d2, d3, d4, d5, d6, d7⟩ := hT.1.pb
  have e4 : h_ai M 4 = ia 4 := d1.1.1 4 (Or.inl (by omega)) (by omega)
  have pb : PB sw nd (h_qi M 4 p (nI kz)) (s_u S 37 p (nI kz)) (h_ai (h_qi M 4 p (nI kz))) zb sb fl fl [] [] := by
    refine ⟨ct, d1.cw k (by decide) (by decide) (by decide) (hai 3 (by omega)), d2.cg l (by decide), d3, d4, d5, ?_, d7⟩
    rw [l.i (j := 4) (by decide)]; exact d6
  have st : ST sw nd rm (h_qi M 4 p (nI kz)) (s_u S 37 p (nI kz)) (h_ai (h_qi M 4 p (nI kz))) w pe wo t := by
    refine ⟨s1.keep k (by decide) (by decide), s2.keep s1 k (by decide) (by decide) l (by decide), ?_, ?_, ⟨fun z hz => ?_, ?_⟩, ?_⟩
    · rw [l.i (j := 0) (by decide), l.i (j := 1) (by decide), l.i (j := 2) (by decide)]; exact s3
    · rw [k.fi (j := 903) (by decide), l.i (j := 3) (by decide)]; exact s4
    · by_cases q : z = p
      · subst q
        exact ⟨kz, hk, qi_eq, by rw [su_eq, u1_eq]⟩
      · obtain ⟨kk, k1, k2, k3⟩ := s5 z hz
        refine ⟨kk, k1, ?_, by rw [su_eq, u1_ne q]; exact k3⟩
        rw [qi_ne q, e4]; exact k2
    · rw [k.fi (j := 906) (by decide), l.i (j := 38) (by decide)]; exact s6
    · rw [k.fi (j := 1003) (by decide), l.i (j := 26) (by decide)]; exact s8
  refine ⟨_, w, pe, wo, fl, kR, ka, tog, nc, ca, hh, lv, jj, G, ⟨⟨⟨st, pb, hT.1.px.keep k (by decide) l (by decide), fun s hs => (hT.1.rc hs).keep' hI hs k (by decide) (by decide) (fun a q _ => hai a (by omega)) l (by decide)⟩, hT.2.1.keep k (by decide) l (by decide) qx.rf hT.x48, hT.2.2⟩, ha, hN.kp hI k (by decide) (by decide) (fun a q1 q2 => ⟨q2, hai a (by omega)⟩) l (by decide), hin⟩, qz.ks l (by decide)⟩
theorem C_zone (h : AX sw nd rm t zb sb M S) : ∃ r M' S', f26 [.inr (.inr (some 1)), .inl v1, .inl v2, .inl v3] M = some (some (.inl r), M') ∧ e237 v1 v2 v3 S = some (r, S') ∧ CR sw nd rm t zb sb M' S' := by
  have h0 := h
  obtain ⟨ia, w, pe, wo, fl, kR, ka, tog, nc, ca, hh, lv, jj, G, ⟨hT, ha, hN, hin⟩, qz⟩ := h
  have hI := hT.I
  have h8 := hI.bs.2.1.2
  have s1 : s_g S 1 = nI nd := hT.1.st.2.2.1.2.1
  have n1 : ¬ (1 : Int32) = 0 := by decide
  have fd : f26 [.inr (.inr (some 1)), .inl v1, .inl v2, .inl v3] M = x_out (b26_0 1 v1 v2 v3 M) := rfl
  have ed : e237 v1 v2 v3 S = s_out (c237_0 v1 v2 v3 S) := rfl
  rw [fd, ed]
  unfold b26_0 c237_0
  rw [s1]
  rcases pk_ix v1 (n := 8) (by omega) with z | z | ⟨p, hp, rfl⟩
  · rw [if_pos z, if_pos z]; exact ⟨_, M, S, rfl, rfl, h0.cr⟩
  · by_cases q : v1 < 0
    · rw [if_pos q, if_pos q]; exact ⟨_, M, S, rfl, rfl, h0.cr⟩
    · obtain ⟨j, j1, rfl⟩ := nI_of q
      have j2 : 8 ≤ j := (nI_leI (by omega) j1).mp z
      rw [if_neg q, if_neg q, if_pos (show (8 : Int32) ≤ nI j from z), if_pos (show (7 : Int32) < nI j from nI_lt (a := 7) (by omega) j1)]; exact ⟨_, M, S, rfl, rfl, h0.cr⟩
  have g1 : g_r M 11 0 (some 1) = some (some 2) := (g_r_t (ci := 11) hI.fab0).trans (congrArg some hI.fab1)
  have g2 : g_r M 9 5 (some 2) = some (some 4) := (g_r_t (ci := 9) hI.sh0).trans (congrArg some hI.sh5)
  rw [if_neg (nI_pos (by omega)), if_neg (nI_pos (by omega)), if_neg (show ¬ (8 : Int32) ≤ nI p from nI_ge (b := 8) hp (by omega)), if_neg (show ¬ (7 : Int32) < nI p from nI_nlt (a := 7) (by omega) (by omega)), bd_s g1, bd_s (g_o_t (ci := 9) hI.sh0)]
  rcases px2 v2 (n := nd) (by omega) with z | ⟨n, hn, rfl⟩
  · rw [bd_s (c_I_of (f8_no hI z)), if_pos rfl]
    by_cases q : v2 < 0
    · rw [if_pos q]; exact ⟨_, M, S, rfl, rfl, h0.cr⟩
    · rw [if_neg q, if_neg (Int32.not_lt.mpr (z.resolve_left q))]; exact ⟨_, M, S, rfl, rfl, h0.cr⟩
  obtain ⟨kk, k1, k2, k3⟩ := hT.1.st.2.2.2.2.1.1 p hp
  obtain ⟨ct, d1, -⟩ := hT.1.pb
  have e4 : h_ai M 4 = ia 4 := d1.1.1 4 (Or.inl (by omega)) (by omega)
  have ga : al_i M 20 (some 4) (nI p) = some (nI kk) := (al_i_t hI.ar2 (by rw [hI.ar3]; exact hp) (by omega)).trans (congrArg some (by rw [e4]; exact k2))
  have gr : s_a S 37 (nI p) = some (nI kk) := (ga37 hp).trans (congrArg some k3)
  rw [bd_s (c_I_of (f8_yes hI hn)), if_neg n1, if_neg (nI_pos (by omega)), if_pos (nI_lt hn (by omega)), bd_s g1, bd_s g2]
  have fin : ∀ kz, kz < 256 → ∃ r M' S', x_out (b26_69 (nI kz) (nI p) (some 4) M) = some (some (.inl r), M') ∧ s_out (c237_58 (nI kz) (nI p) S) = some (r, S') ∧ CR sw nd rm t zb sb M' S' := fun kz hkz => by
    unfold b26_69 c237_58
    rw [bd_s (as_i_t hI.ar2 (by rw [hI.ar3]; exact hp) (by omega)), bd_s (gs37 hp)]
    exact ⟨1, _, _, rfl, rfl, (h0.zn hp hkz).cr⟩
  by_cases z3 : v3 = 0
  · obtain ⟨o1, o2⟩ := zn_an kk k1 n (by omega)
    rw [if_pos z3, if_pos z3, bd_s g1, bd_s g2, bd_s ga, bd_s gr, o1]
    exact fin _ o2
  · obtain ⟨o1, o2⟩ := zn_or kk k1 n (by omega)
    rw [if_neg z3, if_neg z3, bd_s g1, bd_s g2, bd_s ga, bd_s gr, o1]
    exact fin _ o2
end MU
