/-! ===== join, flip ===== -/
def cuM (rm : Nat) (M : hM) (x : Nat) : hM := h_pi (h_pi (h_pi M 805 (200 + x) 1) 806 (200 + x) (nI rm)) 814 (200 + x) (-1000)
section JN
variable {sw nd rm : Nat} {M N M' : hM} {S T : sT} {ia : Nat → Nat → Int32} {w t x y zb sb nc c s p n i a f j : Nat} {pe : Nat → Option Nat} {wo : Nat → Nat} {fl : Nat → List (List Int32)} {kR : Nat → rK} {ka : Nat → Nat → Nat} {tog : Nat → Bool} {ca hh : Nat → Nat} {lv : Nat → Bool} {jj : Nat → Nat} {G : Nat → nG} {v v1 v2 v3 : Int32} {L : List Int32}
theorem cu_805 : h_fi (cuM rm M x) 805 = u1 (h_fi M 805) (200 + x) 1 := by
  unfold cuM
  rw [fi_ne (by decide), fi_ne (by decide), fi_eq]
theorem cu_806 : h_fi (cuM rm M x) 806 = u1 (h_fi M 806) (200 + x) (nI rm) := by
  unfold cuM
  rw [fi_ne (by decide), fi_eq, fi_ne (by decide)]
theorem cu_814 : h_fi (cuM rm M x) 814 = u1 (h_fi M 814) (200 + x) (-1000) := by
  unfold cuM
  rw [fi_eq, fi_ne (by decide), fi_ne (by decide)]
theorem cu_kp (hb : bk M) (ht : h_tg M (200 + x) = 9) : kp [805, 806, 814] [] M (cuM rm M x) := by
  have k1 := k_hpi (f := 805) (a := 200 + x) (v := 1) hb (by rw [ht]; decide)
  have k2 := k_hpi (f := 806) (a := 200 + x) (v := nI rm) k1.1 (show h_tg M (200 + x) ≠ 0 by rw [ht]; decide)
  have k3 := k_hpi (f := 814) (a := 200 + x) (v := -1000) k2.1 (show h_tg M (200 + x) ≠ 0 by rw [ht]; decide)
  exact (((kp.rf hb : kp [805, 806, 814] [] M M).tr k1 rfl rfl).tr k2 rfl rfl).tr k3 rfl rfl
theorem f14_eq (hI : cI sw nd rm M) (hx : sd sw nd x) : f14 [.inr (.inr (some (200 + x)))] M = some (none, cuM rm M x) := by
  have t9 := hI.po0 hx
  have t10 := hI.sh0
  show x_out (b14_0 (200 + x) M) = _
  unfold b14_0
  rw [bd_s (p_z_t (ci := 8) t9 (Or.inr rfl))]
  have g0 : g_r (h_pi M (100 * 8 + 5) (200 + x) 1) 8 0 (some (200 + x)) = some (some 2) := (g_r_t (M := h_pi M (100 * 8 + 5) (200 + x) 1) (ci := 8) t9).trans (congrArg some (hI.po1 hx))
  have g1 : g_i (h_pi M (100 * 8 + 5) (200 + x) 1) 9 2 (some 2) = some (nI rm) := (g_i_t (M := h_pi M (100 * 8 + 5) (200 + x) 1) (ci := 9) t10).trans (congrArg some ((congrFun (fi_ne (show 902 ≠ 805 by decide)) 2).trans hI.sh3))
  rw [bd_s g0, bd_s g1, bd_s (p_i_t (M := h_pi M (100 * 8 + 5) (200 + x) 1) (ci := 8) t9), bd_s (p_i_t (M := h_pi (h_pi M (100 * 8 + 5) (200 + x) 1) (100 * 8 + 6) (200 + x) (nI rm)) (ci := 8) t9)]
  rfl
theorem WI.end2 (hI : cI sw nd rm M) (hW : WI sw nd M S w pe wo) (hi : i < w) : ∃ x y, pe x = some y ∧ (wo x = i ∧ wo y = i ∧ x < 40) ∧ (S.1 10 (2 * i) = nI x ∧ S.1 10 (2 * i + 1) = nI y) ∧ (h_ar M 5 i = some (200 + x) ∧ h_ar M 6 i = some (200 + y)) ∧ ∀ z z', pe z = some z' → wo z = i → z = x ∨ z = y := by
  obtain ⟨-, -, x, y, e1, e2, e3, e4, e5, e6, e7⟩ := hW.2.2.2.2.1 i hi
  obtain ⟨sx, sy, -⟩ := hW.sds e1
  have x8 := hI.x8 sx
  have y8 := hI.x8 sy
  obtain ⟨-, ⟨w1, -, -⟩, -⟩ := hW.2.2.2.1 x y e1
  refine ⟨x, y, e1, ⟨e2, by rw [← w1]; exact e2, e3⟩, ⟨e4, e5⟩, ⟨e6, e7⟩, fun z z' q1 q2 => ?_⟩
  obtain ⟨sz, -, -⟩ := hW.sds q1
  have z8 := hI.x8 sz
  obtain ⟨-, -, -, q3, -⟩ := hW.2.2.2.1 z z' q1
  rw [q2, e4, e5] at q3
  rcases q3 with ⟨q, -⟩ | ⟨-, q⟩
  · exact Or.inl ((nI_eq (by omega) (by omega)).mp q).symm
  · exact Or.inr ((nI_eq (by omega) (by omega)).mp q).symm
theorem upS_w (hW : WI sw nd M S w pe wo) (e : pe x = some y) : upS S x = if S.1 12 (wo x) = 0 then 0 else 1 := by
  obtain ⟨-, ⟨-, w2, w3⟩, -⟩ := hW.2.2.2.1 x y e
  have := hW.1.2.2
  unfold upS
  rw [w3, if_neg (nI_m1 (by omega)), nI_clamp (by omega)]
theorem upS_12 {u : Int32} (hI : cI sw nd rm M) (hW : WI sw nd M S w pe wo) (hx : x < 48) : upS (s_u S 12 i u) x = if pe x ≠ none ∧ wo x = i then (if u = 0 then 0 else 1) else upS S x := by
  have e14 : (s_u S 12 i u).1 14 = S.1 14 := su_ne (by decide)
  have e12 : (s_u S 12 i u).1 12 = u1 (S.1 12) i u := su_eq
  cases e : pe x with
  | none =>
    rw [if_neg (fun q => q.1 rfl)]
    unfold upS
    rw [e14, hW.2.1 x hx e, if_pos rfl, if_pos rfl]
  | some y =>
    obtain ⟨-, ⟨-, w2, w3⟩, -⟩ := hW.2.2.2.1 x y e
    have := hW.1.2.2
    rw [upS_w hW e]
    unfold upS
    rw [e14, e12, w3, if_neg (nI_m1 (by omega)), nI_clamp (by omega)]
    by_cases q : wo x = i
    · rw [q, u1_eq, if_pos (show some y ≠ none ∧ i = i from ⟨(fun z => by cases z), rfl⟩)]
    · rw [u1_ne q, if_neg (show ¬ (some y ≠ none ∧ wo x = i) from fun z => q z.2)]
theorem C_join (h : AX sw nd rm t zb sb M S) : ∃ r M' S', f25 [.inr (.inr (some 1)), .inl v] M = some (some (.inl r), M') ∧ e236 v S = some (r, S') ∧ CR sw nd rm t zb sb M' S' := by
  have h0 := h
  obtain ⟨ia, w, pe, wo, fl, kR, ka, tog, nc, ca, hh, lv, jj, G, ⟨hT, ha, hN, hin⟩, qz⟩ := h
  have hI := hT.I
  have hW := hT.W
  obtain ⟨w1, w2, w3⟩ := hW.1
  have n1 : ¬ (1 : Int32) = 0 := by decide
  have fd : f25 [.inr (.inr (some 1)), .inl v] M = x_out (b25_0 1 v M) := rfl
  have ed : e236 v S = s_out (c236_0 v S) := rfl
  rw [fd, ed]
  unfold b25_0 c236_0
  rw [bd_s (o11 hI)]
  rcases px2 v (n := w) (by omega) with z | ⟨i, hi, rfl⟩
  · rw [bd_s (c_I_of (f16_no hI w1 z)), bd_s (e234_no w2 z), if_pos rfl, if_pos rfl]
    exact ⟨_, M, S, rfl, rfl, h0.cr⟩
  obtain ⟨x, y, e1, ⟨wx, wy, x40⟩, -, ⟨e6, e7⟩, huq⟩ := hW.end2 hI hi
  obtain ⟨sx, sy, e1'⟩ := hW.sds e1
  have x8 := hI.x8 sx
  have y8 := hI.x8 sy
  have ux := upS_w hW e1
  rw [wx] at ux
  have g3 : ∀ N : hM, cI sw nd rm N → h_ar N 5 = h_ar M 5 → g_r N 11 3 (some 1) = some (some 5) ∧ al_r N 38 (some 5) (nI i) = some (some (200 + x)) := fun N hN e => ⟨(g_r_t (ci := 11) hN.fab0).trans (congrArg some hN.fab4), (al_r_t hN.ar4 (by rw [hN.ar5]; omega) (by omega)).trans (congrArg some (by rw [e]; exact e6))⟩
  have g4 : ∀ N : hM, cI sw nd rm N → h_ar N 6 = h_ar M 6 → g_r N 11 4 (some 1) = some (some 6) ∧ al_r N 38 (some 6) (nI i) = some (some (200 + y)) := fun N hN e => ⟨(g_r_t (ci := 11) hN.fab0).trans (congrArg some hN.fab5), (al_r_t hN.ar6 (by rw [hN.ar7]; omega) (by omega)).trans (congrArg some (by rw [e]; exact e7))⟩
  rw [bd_s (c_I_of (f16_yes hI w1 hi w3)), bd_s (e234_yes w2 hi w3), if_neg n1, if_neg n1, bd_s (g3 M hI rfl).1, bd_s (g3 M hI rfl).2, bd_s ((g_i_t (ci := 8) (hI.po0 sx)).trans (congrArg some ((hW.up sx).trans ux))), bd_s (ga12 (show i < 16 by omega))]
  by_cases u : S.1 12 i = 0
  · have k1 := cu_kp (rm := rm) hT.1.pb.bk (hI.po0 sx)
    have hI1 := hI.keep k1 (by decide) (by decide)
    have k2 := cu_kp (rm := rm) k1.1 (hI1.po0 sy)
    have k : kp [805, 806, 814] [] M (cuM rm (cuM rm M x) y) := k1.tr k2 rfl rfl
    rw [if_pos u] at ux
    have uy : upS S y = 0 := (hW.both e1).trans ux
    rw [if_pos u, if_pos (show (0 : Int32) = 0 from rfl), if_pos u, bd_s (g3 M hI rfl).1, bd_s (g3 M hI rfl).2, bd_s (g_o_t (ci := 8) (hI.po0 sx)), bd_s (c_V_of (f14_eq hI sx)), bd_s (g4 _ hI1 rfl).1, bd_s (g4 _ hI1 rfl).2, bd_s (g_o_t (ci := 8) (hI1.po0 sy)), bd_s (c_V_of (f14_eq hI1 sy)), bd_s (gs12_1 (show i < 16 by omega))]
    have l : ks [12] S (s_u S 12 i 1) := k_su
    have hne : x ≠ y := (hW.2.2.2.1 x y e1).1.2.1
    have i805 : ∀ z, z < 48 → h_fi (cuM rm (cuM rm M x) y) 805 (200 + z) = if z = x ∨ z = y then 1 else h_fi M 805 (200 + z) := fun z hz => by
      rw [cu_805, cu_805]
      by_cases q : z = y
      · subst q; rw [u1_eq, if_pos (Or.inr rfl)]
      · rw [u1_ne (by omega)]
        by_cases q2 : z = x
        · subst q2; rw [u1_eq, if_pos (Or.inl rfl)]
        · rw [u1_ne (by omega), if_neg (fun z => z.elim q2 q)]
    have i806 : ∀ z, z < 48 → h_fi (cuM rm (cuM rm M x) y) 806 (200 + z) = if z = x ∨ z = y then nI rm else h_fi M 806 (200 + z) := fun z hz => by
      rw [cu_806, cu_806]
      by_cases q : z = y
      · subst q; rw [u1_eq, if_pos (Or.inr rfl)]
      · rw [u1_ne (by omega)]
        by_cases q2 : z = x
        · subst q2; rw [u1_eq, if_pos (Or.inl rfl)]
        · rw [u1_ne (by omega), if_neg (fun z => z.elim q2 q)]
    have i814 : ∀ z, z < 48 → h_fi (cuM rm (cuM rm M x) y) 814 (200 + z) = if z = x ∨ z = y then -1000 else h_fi M 814 (200 + z) := fun z hz => by
      rw [cu_814, cu_814]
      by_cases q : z = y
      · subst q; rw [u1_eq, if_pos (Or.inr rfl)]
      · rw [u1_ne (by omega)]
        by_cases q2 : z = x
        · subst q2; rw [u1_eq, if_pos (Or.inl rfl)]
        · rw [u1_ne (by omega), if_neg (fun z => z.elim q2 q)]
    have us : ∀ z, z < 48 → upS (s_u S 12 i 1) z = if z = x ∨ z = y then 1 else upS S z := fun z hz => by
      rw [upS_12 hI hW hz, if_neg n1]
      by_cases q : z = x ∨ z = y
      · rw [if_pos q, if_pos]
        rcases q with q | q
        · subst q; exact ⟨by rw [e1]; exact (fun z => by cases z), wx⟩
        · subst q; exact ⟨by rw [e1']; exact (fun z => by cases z), wy⟩
      · rw [if_neg q, if_neg]
        intro ⟨z1, z2⟩
        cases ez : pe z with
        | none => exact z1 ez
        | some z' => exact q (huq z z' ez z2)
    obtain ⟨s1, s2, s3, s4, s5, s8⟩ := hT.1.st
    have st : ST sw nd rm (cuM rm (cuM rm M x) y) (s_u S 12 i 1) ia w pe wo t := by
      refine ⟨s1.keep k (by decide) (by decide), ?_, ?_, ?_, ?_, ?_⟩
      · obtain ⟨b1, b2, b3, b4, b5, b6⟩ := s2
        refine ⟨?_, ?_, ?_, ?_, fun q hq => ?_, fun z hz => ?_⟩
        · rw [k.fi (j := 1105) (by decide), l.i (j := 13) (by decide)]; exact b1
        · rw [l.i (j := 14) (by decide)]; exact b2
        · rw [k.fr (j := 803) (by decide)]; exact b3
        · rw [k.fr (j := 803) (by decide), k.fi (j := 804) (by decide), l.i (j := 14) (by decide), l.i (j := 10) (by decide), l.i (j := 11) (by decide)]; exact b4
        · rw [l.i (j := 11) (by decide), l.i (j := 10) (by decide), k.ar s1.ar4 rfl, k.ar s1.ar6 rfl, su_eq]
          obtain ⟨c1, c2, c3⟩ := b5 q hq
          refine ⟨c1, ?_, c3⟩
          by_cases qi : q = i
          · subst qi; rw [u1_eq]; exact Or.inr rfl
          · rw [u1_ne qi]; exact c2
        · have z8 := s1.x8 hz
          rw [i805 z z8, us z z8, b6 z hz]
      · rw [l.i (j := 0) (by decide), l.i (j := 1) (by decide), l.i (j := 2) (by decide)]; exact s3
      · rw [k.fi (j := 903) (by decide), l.i (j := 3) (by decide)]; exact s4
      · rw [k.fi (j := 906) (by decide), l.i (j := 37) (by decide), l.i (j := 38) (by decide)]; exact s5
      · rw [k.fi (j := 1003) (by decide), l.i (j := 26) (by decide)]; exact s8
    have nex : pe x ≠ none := by rw [e1]; exact (fun z => by cases z)
    have ney : pe y ≠ none := by rw [e1']; exact (fun z => by cases z)
    have px : PX sw nd (cuM rm (cuM rm M x) y) (s_u S 12 i 1) pe := fun z hz => by
      have z8 := hI.x8 hz
      obtain ⟨p1, p2, p3, ⟨p4, p5⟩, p6, p7⟩ := hT.1.px z hz
      rw [k.fi (j := 811) (by decide), k.fi (j := 812) (by decide), l.i (j := 23) (by decide), l.i (j := 24) (by decide), l.i (j := 25) (by decide), l.i (j := 36) (by decide), i814 z z8, us z z8]
      by_cases q : z = x ∨ z = y
      · have uz : upS S z = 0 := by rcases q with q | q <;> rw [q] <;> assumption
        have nez : pe z ≠ none := by rcases q with q | q <;> rw [q] <;> assumption
        rw [if_pos q, if_pos q]
        exact ⟨p1, p2, p3, ⟨fun _ z40 => (p6 uz nez z40).symm, fun _ z40 => (p7 uz nez z40).symm⟩, fun z1 => absurd z1 n1, fun z1 => absurd z1 n1⟩
      · rw [if_neg q, if_neg q]
        exact ⟨p1, p2, p3, ⟨p4, p5⟩, p6, p7⟩
    have fe : FEw sw nd rm pe (cuM rm (cuM rm M x) y) (s_u S 12 i 1) fl := by
      obtain ⟨f1, f2, f3, f4, f5, f6⟩ := hT.2.1
      refine ⟨f1, by rw [l.i (j := 5) (by decide)]; exact f2, fun z hz hu => ?_, fun z z' ez hu => ?_, trivial, fun z hz => ?_⟩
      · rw [us z hz] at hu
        by_cases q : z = x ∨ z = y
        · rw [if_pos q] at hu; exact absurd hu n1
        · rw [if_neg q] at hu
          rw [i806 z hz, if_neg q, l.i (j := 20) (by decide), k.fi (j := 807) (by decide)]
          exact f3 z hz hu
      · obtain ⟨sz, sz', ez'⟩ := hW.sds ez
        have z8 := hI.x8 sz
        have z8' := hI.x8 sz'
        rw [us z z8] at hu
        rw [i806 z z8, l.i (j := 20) (by decide), k.fi (j := 807) (by decide)]
        by_cases q : z = x ∨ z = y
        · have uz : upS S z = 0 := by rcases q with q | q <;> rw [q] <;> assumption
          have uz' : upS S z' = 0 := (hW.both ez).trans uz
          obtain ⟨⟨r1, r2, r3⟩, r4, r5⟩ := f3 z z8 uz
          obtain ⟨⟨r1', r2', r3'⟩, r4', r5'⟩ := f3 z' z8' uz'
          rw [if_pos q]
          exact ⟨rm, 0, rfl, (r5 sz).2, r4', by rw [r1, r2']; rfl⟩
        · rw [if_neg q] at hu
          rw [if_neg q]
          exact f4 z z' ez hu
      · rw [k.fi (j := 813) (by decide), l.i (j := 21) (by decide)]; exact f6 z hz
    have hai : ∀ a, h_ai (cuM rm (cuM rm M x) y) a = h_ai M a := fun a => rfl
    refine ⟨1, cuM rm (cuM rm M x) y, s_u S 12 i 1, rfl, rfl, t, zb, sb, ⟨ia, w, pe, wo, fl, kR, ka, tog, nc, ca, hh, lv, jj, G, ⟨⟨⟨st, (hT.1.pb.kp k (by decide)).ks l (by decide), px, fun s hs => (hT.1.rc hs).keep hI hs k (by decide) rfl (fun a _ _ => hai a) l (by decide)⟩, fe, hT.2.2⟩, ha, hN.kp hI k (by decide) (by decide) (i20_0 k) l (by decide), hin⟩, qz.ks l (by decide)⟩, by omega, by omega, by omega⟩
  · rw [if_neg u, if_neg n1, if_neg u]
    exact ⟨_, M, S, rfl, rfl, h0.cr⟩
end JN
