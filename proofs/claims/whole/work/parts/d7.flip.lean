/-! ===== flip ===== -/
/-- a byte with a bit turned over -/
def flV (b : Int32) (k : Nat) : Int32 := ((Int32.toInt8 (b ^^^ (Int32.toInt8 ((1 : Int32) <<< (nI k &&& 31))).toInt32)).toInt32).toInt8.toInt32
section FLs
variable {sw nd rm : Nat} {M N M' : hM} {S T : sT} {ia : Nat → Nat → Int32} {w t x y zb sb nc c s p n i a f j : Nat} {pe : Nat → Option Nat} {wo : Nat → Nat} {fl : Nat → List (List Int32)} {kR : Nat → rK} {ka : Nat → Nat → Nat} {tog : Nat → Bool} {ca hh : Nat → Nat} {lv : Nat → Bool} {jj : Nat → Nat} {G : Nat → nG} {v v1 v2 v3 : Int32} {L : List Int32}
theorem map_one {cB : Nat → List Int32} {a : Nat} {l : List Nat} (h : (a :: l).map cB = [L]) : l = [] ∧ cB a = L := by
  have := List.cons.inj (show cB a :: l.map cB = [L] from h)
  exact ⟨List.map_eq_nil_iff.mp this.2, this.1⟩
theorem FC_flp {tr : List Int32 → Bool} {ct : Nat → Int32} {val : Int32} (hI : cI sw nd rm M) (hF : FC tr sw nd M ia ct zb sb fl []) (hx : sd sw nd x) (hw : fl x = [L]) (ha : h_fr M 808 (200 + x) = some a) : FC tr sw nd (h_pi (h_qi M (a + 1) i val) 202 a 1) ia ct zb sb (u1 fl x [L.set i val]) [] ∧ kp [202] [21] M (h_pi (h_qi M (a + 1) i val) 202 a 1) ∧ i20 M (h_pi (h_qi M (a + 1) i val) 202 a 1) := by
  obtain ⟨⟨g1, g2, g3⟩, cl, c1, c2, c3, c4, c5, c6⟩ := hF
  have x8 := hI.x8 hx
  obtain ⟨b, l, hc, hL, -⟩ := fT_at c4 (p := x) (by omega) hw
  have hl : l = [] := by
    have := c4.2.1 x (by omega)
    rw [hc, hw] at this
    exact (map_one this).1
  subst hl
  have e := c3.1 x hx
  rw [hc, ha] at e
  cases e
  obtain ⟨⟨i1, i2, i3, i4⟩, b2, z, b3, b4⟩ := c2 x a (by rw [hc]; exact List.mem_cons_self)
  have ez := fcC_z b3 b4
  rw [hL] at ez
  have k1 : kp [] [21] M (h_qi M (a + 1) i val) := k_hqi g3 i3 (by decide)
  have k2 : kp [202] [] (h_qi M (a + 1) i val) (h_pi (h_qi M (a + 1) i val) 202 a 1) := k_hpi k1.1 (show h_tg M a ≠ 0 by rw [i1]; decide)
  have k : kp [202] [21] M (h_pi (h_qi M (a + 1) i val) 202 a 1) := ((kp.rf g3 : kp [202] [21] M M).tr k1 rfl rfl).tr k2 rfl rfl
  have ai : ∀ q, q ≠ a + 1 → h_ai (h_pi (h_qi M (a + 1) i val) 202 a 1) q = h_ai M q := fun q hq => funext fun _ => u2_nk hq
  have f1 : h_fi (h_pi (h_qi M (a + 1) i val) 202 a 1) 201 = h_fi M 201 := fi_ne (by decide)
  have f2 : h_fi (h_pi (h_qi M (a + 1) i val) 202 a 1) 302 = h_fi M 302 := fi_ne (by decide)
  have f3 : h_fi (h_pi (h_qi M (a + 1) i val) 202 a 1) 202 = u1 (h_fi M 202) a 1 := fi_eq
  refine ⟨⟨⟨fun q hq h3 => ?_, ?_, k.1⟩, cl, c1, fun p q hq => ?_, ?_, ?_, c5, c6⟩, k, fun q _ hq => ⟨hq, ai q (fun z => ?_)⟩⟩
  · rw [ai q (fun z => ?_)]
    · exact g1 q hq h3
    · rcases hq with hq | hq
      · omega
      · have hq : h_tg M q = 20 := hq
        rw [z, i3] at hq
        cases hq
  · rw [ai 3 (by omega)]; exact g2
  · obtain ⟨d1, d2, d3⟩ := c2 p q hq
    refine ⟨d1, d2, ?_⟩
    rw [f1]; exact d3
  · rw [f2]; exact c3
  · refine fT_flp c1 c4 (by omega) hc (fun b hb => ⟨?_, ?_⟩) ?_ ?_
    · unfold fcC fbl
      rw [f1, ai (b + 1) (by omega)]
    · rw [f3, u1_ne hb]
    · have : fcC (h_pi (h_qi M (a + 1) i val) 202 a 1) a = fbl (h_pi (h_qi M (a + 1) i val) 202 a 1) (a + 1) z := fcC_z (by rw [f1]; exact b3) b4
      rw [this, ez]
      exact fbl_set (fun j hj => qi_ne hj) qi_eq
    · rw [f3, u1_eq]; decide
  · rw [z, i3] at hq
    cases hq
theorem FR_flp {val : Int32} (h : FR S fl []) (hx : x < 48) (hw : fl x = [L]) (hf : S.1 15 x = nI f) (hX : rdS S f L) (hi : i < 80) : FR (s_u S 6 (80 * f + i) val) (u1 fl x [L.set i val]) [] := by
  obtain ⟨rl, c1, c2, c3, c4, c5⟩ := h
  obtain ⟨g, l, hc, hL, -⟩ := rT_at c4 (p := x) (by omega) hw
  have hl : l = [] := by
    have := c4.2.1 x (by omega)
    rw [hc, hw] at this
    exact (map_one this).1
  subst hl
  have f18 := hX.1
  obtain ⟨g18, -⟩ := c2 x g (by rw [hc]; exact List.mem_cons_self)
  have e := (c3.1 x hx).1
  rw [hc, hf] at e
  have e : nI f = nI g := e
  have e := (nI_eq (by omega) (by omega)).mp e
  subst e
  obtain ⟨o1, o2, o3⟩ := set_fr (S := S) (f := f) (i := i) (b := val) hX.2.1 hX.2.2.1 hi
  refine ⟨rl, c1, fun p q hq => ?_, ?_, ⟨⟨c4.1.1, fun t ht => (by cases ht)⟩, fun p hp => ?_, fun p h1 h2 => ?_⟩, c5⟩
  · rw [su_ne (show 7 ≠ 6 by decide)]; exact c2 p q hq
  · rw [su_ne (show 8 ≠ 6 by decide), su_ne (show 15 ≠ 6 by decide), su_ne (show 16 ≠ 6 by decide), su_ne (show 17 ≠ 6 by decide), su_ne (show 18 ≠ 6 by decide), su_ne (show 19 ≠ 6 by decide), su_ne (show 9 ≠ 6 by decide)]
    exact c3
  · by_cases q : p = x
    · subst q
      rw [u1_eq, hc]
      show [frl _ f] = _
      rw [o3, hX.2.2.2]
    · rw [u1_ne q, ← c4.2.1 p hp]
      refine List.map_congr_left (fun b hb => ?_)
      obtain ⟨-, z, z1, z2⟩ := c2 p b hb
      exact o1.frl (fun y => q (c1.1 _ _ _ (y ▸ hb) (by rw [hc]; exact List.mem_cons_self))) z1 z2
  · rw [u1_ne (by omega), ← c4.2.2 p h1 h2]
    refine List.map_congr_left (fun b hb => ?_)
    obtain ⟨-, z, z1, z2⟩ := c2 p b hb
    exact o1.frl (fun y => absurd (c1.1 _ _ _ (y ▸ hb) (show f ∈ rl x by rw [hc]; exact List.mem_cons_self)) (by omega)) z1 z2
theorem dv8 (hj : j < 2 ^ 31) : d_v (nI j) 8 = some (nI (j / 8)) := by
  unfold d_v
  rw [if_neg (show ¬ (8 : Int32) = 0 by decide)]
  exact congrArg some (pk_div (d := 8) hj (by omega) (by omega))
theorem dmm8 (hj : j < 2 ^ 31) : d_m (nI j) 8 = some (nI (j % 8)) := by
  unfold d_m
  rw [if_neg (show ¬ (8 : Int32) = 0 by decide)]
  exact congrArg some (pk_rem (d := 8) hj (by omega) (by omega))
theorem f30_eq (h : rd M a L) (hj : j < 8 * L.length) : f30 [.inr (.inr (some a)), .inl (nI j)] M = some (none, h_pi (h_qi M (a + 1) (j / 8) (flV (L.getD (j / 8) 0) (j % 8))) 202 a 1) := by
  have h48 := h.2.2.1
  obtain ⟨i1, i2, i3, i4⟩ := h.1
  have g0 : g_r M 2 0 (some a) = some (some (a + 1)) := (g_r_t (ci := 2) i1).trans (congrArg some i2)
  show x_out (b30_0 a (nI j) M) = _
  unfold b30_0
  rw [bd_s (dv8 (by omega)), if_neg (nI_pos (by omega)), bd_s g0, bd_s (by rw [a_ln_t i3, i4] : a_ln M 21 (some (a + 1)) = some (nI 48)), if_neg (show ¬ nI 48 ≤ nI (j / 8) from nI_ge (by omega) (by omega)), bd_s g0, bd_s ((al_i_t i3 (by rw [i4]; omega) (by omega)).trans (congrArg some (rd_get h (show j / 8 < L.length by omega)))), bd_s (dmm8 (by omega)), bd_s (as_b_t i3 (by rw [i4]; omega) (by omega)), bd_s (p_z_t (ci := 2) (M := h_qi M (a + 1) (j / 8) _) i1 (Or.inr rfl))]
  rfl
theorem C_flip (h : AX sw nd rm t zb sb M S) : ∃ r M' S', f31 [.inr (.inr (some 1)), .inl v1, .inl v2, .inl v3] M = some (some (.inl r), M') ∧ e241 v1 v2 v3 S = some (r, S') ∧ CR sw nd rm t zb sb M' S' := by
  have h0 := h
  obtain ⟨ia, w, pe, wo, fl, kR, ka, tog, nc, ca, hh, lv, jj, G, ⟨hT, ha, hN, hin⟩, qz⟩ := h
  have hI := hT.I
  have hW := hT.W
  have fd : f31 [.inr (.inr (some 1)), .inl v1, .inl v2, .inl v3] M = x_out (b31_0 1 v1 v2 v3 M) := rfl
  have ed : e241 v1 v2 v3 S = s_out (c241_0 v1 v2 v3 S) := rfl
  rw [fd, ed]
  unfold b31_0 c241_0
  rw [bd_s (o11 hI)]
  obtain ⟨ct, d1, d2, d3, d4, d5, d6, d7⟩ := hT.1.pb
  rcases W_way (v1 := v1) (v2 := v2) hI hT.W with ⟨q1, q2⟩ | ⟨x, hx, -, q1, q2⟩
  · rw [bd_s (c_R_of q1), bd_s q2, if_pos rfl, if_pos rfl]
    exact ⟨0, M, S, rfl, rfl, h0.cr⟩
  have hx8 := hI.x8 hx
  obtain ⟨y1, y2⟩ := FC_wy hI d1 hx
  cases hf : fl x with
  | nil =>
    rw [y1 hf] at q1
    rw [(d2.way0 hx8).mpr hf] at q2
    rw [bd_s (c_R_of q1), bd_s q2, if_pos rfl, if_pos rfl]
    exact ⟨0, M, S, rfl, rfl, h0.cr⟩
  | cons L r =>
    have hr : r = [] := by
      have := (d3 x hx8).1
      rw [hf, List.length_cons] at this
      exact List.eq_nil_of_length_eq_zero (by omega)
    subst hr
    obtain ⟨a, a1, a2⟩ := y2 L hf
    obtain ⟨f, f1, f2⟩ := FR_way d2 hx8 hf
    have hl := (hT.2.1.1 x (by omega) L (by rw [hf]; exact List.mem_cons_self)).1 (by omega)
    have f18 := f2.1
    rw [a1] at q1
    rw [f1] at q2
    have nn : ¬ (some a = none) := fun q => by cases q
    have nm : ¬ nI f = -1 := nI_m1 (by omega)
    have e8 : (8 : Int32) * nI L.length = nI (8 * L.length) := pk_mul 8 _
    rw [bd_s (c_R_of q1), bd_s q2, if_neg nn, if_neg nm]
    by_cases z : v3 < 0
    · rw [if_pos z, if_pos z]
      exact ⟨0, M, S, rfl, rfl, h0.cr⟩
    rw [if_neg z, if_neg z, bd_s ((g_i_t (ci := 2) a2.1.1).trans (congrArg some a2.2.1)), bd_s ((ga7 f18).trans (congrArg some f2.2.1)), e8]
    obtain ⟨j, j1, rfl⟩ := nI_of z
    by_cases c : j < 8 * L.length
    · have lt : nI j < nI (8 * L.length) := nI_lt c (by omega)
      have ix : nI f * (80 : Int32) + nI (j / 8) = nI (80 * f + j / 8) := by rw [show nI f * (80 : Int32) = nI (f * 80) from pk_mul f 80, nI_add, Nat.mul_comm]
      have gv : s_a S 6 (nI (80 * f + j / 8)) = some (L.getD (j / 8) 0) := (ga6 (by omega)).trans (congrArg some (rdS_get f2 (show j / 8 < L.length by omega)))
      rw [if_pos lt, if_pos lt, bd_s (g_o_t (ci := 2) a2.1.1), bd_s (c_V_of (f30_eq a2 c)), bd_s (dv8 j1), ix, bd_s gv, bd_s (dmm8 j1), bd_s (s_sb_t (S := S) (k := 6) (i := 80 * f + j / 8) (show 80 * f + j / 8 < 144000 by omega) (by omega))]
      obtain ⟨m1, k, m3⟩ := FC_flp (i := j / 8) (val := flV (L.getD (j / 8) 0) (j % 8)) hI d1 hx hf a1
      have m2 := FR_flp (i := j / 8) (val := flV (L.getD (j / 8) 0) (j % 8)) d2 hx8 hf f1 f2 (by omega)
      have l : ks [6] S (s_u S 6 (80 * f + j / 8) (flV (L.getD (j / 8) 0) (j % 8))) := k_su
      have hfm : ∀ p, p ≠ x → u1 fl x [L.set (j / 8) (flV (L.getD (j / 8) 0) (j % 8))] p = fl p := fun p hp => u1_ne hp
      have hB : FLb (u1 fl x [L.set (j / 8) (flV (L.getD (j / 8) 0) (j % 8))]) := fun z hz => by
        rw [hfm (48 + z) (by omega), hfm (96 + z) (by omega)]
        refine ⟨?_, (d3 z hz).2⟩
        by_cases q : z = x
        · subst q; rw [u1_eq]; exact Nat.le_refl _
        · rw [hfm z q]; exact (d3 z hz).1
      have pb : PB sw nd (h_pi (h_qi M (a + 1) (j / 8) (flV (L.getD (j / 8) 0) (j % 8))) 202 a 1) (s_u S 6 (80 * f + j / 8) (flV (L.getD (j / 8) 0) (j % 8))) ia zb sb (u1 fl x [L.set (j / 8) (flV (L.getD (j / 8) 0) (j % 8))]) (u1 fl x [L.set (j / 8) (flV (L.getD (j / 8) 0) (j % 8))]) [] [] := ⟨ct, m1, m2, hB, hB, fun _ _ _ => rfl, by rw [l.i (j := 4) (by decide)]; exact d6, d7⟩
      have fe : FEw sw nd rm pe (h_pi (h_qi M (a + 1) (j / 8) (flV (L.getD (j / 8) 0) (j % 8))) 202 a 1) (s_u S 6 (80 * f + j / 8) (flV (L.getD (j / 8) 0) (j % 8))) (u1 fl x [L.set (j / 8) (flV (L.getD (j / 8) 0) (j % 8))]) := by
        obtain ⟨f1, f2, f3, f4, f5, f6⟩ := hT.2.1
        have eu : ∀ z, upS (s_u S 6 (80 * f + j / 8) (flV (L.getD (j / 8) 0) (j % 8))) z = upS S z := fun z => upS_ks l (by decide) (by decide)
        refine ⟨fun p hp K hK => ?_, by rw [l.i (j := 5) (by decide)]; exact f2, fun z hz hu => ?_, fun z z' ez hu => ?_, trivial, fun z hz => ?_⟩
        · by_cases q : p = x
          · subst q
            rw [u1_eq] at hK
            rw [List.mem_singleton.mp hK, List.length_set]
            exact ⟨fun _ => hl, fun q => by omega⟩
          · rw [hfm p q] at hK
            exact f1 p hp K hK
        · rw [eu] at hu
          have nx : z ≠ x := fun q => by
            have := (f3 z hz hu).1.1
            rw [q, hf] at this
            cases this
          rw [hfm z nx, hfm (48 + z) (by omega), hfm (96 + z) (by omega), l.i (j := 20) (by decide), k.fi (j := 806) (by decide), k.fi (j := 807) (by decide)]
          exact f3 z hz hu
        · rw [eu] at hu
          obtain ⟨z8, z8'⟩ := hT.x48 z z' ez
          rw [hfm (48 + z') (by omega), l.i (j := 20) (by decide), k.fi (j := 806) (by decide), k.fi (j := 807) (by decide)]
          have hlen : (u1 fl x [L.set (j / 8) (flV (L.getD (j / 8) 0) (j % 8))] z).length = (fl z).length := by
            by_cases q : z = x
            · subst q; rw [u1_eq, hf]; rfl
            · rw [hfm z q]
          rw [hlen]
          exact f4 z z' ez hu
        · rw [k.fi (j := 813) (by decide), l.i (j := 21) (by decide)]; exact f6 z hz
      exact ⟨1, _, _, rfl, rfl, t, zb, sb, ⟨ia, w, pe, wo, u1 fl x [L.set (j / 8) (flV (L.getD (j / 8) 0) (j % 8))], kR, ka, tog, nc, ca, hh, lv, jj, G, ⟨⟨hT.1.keep k (by decide) (by decide) l (by decide) pb, fe, hT.2.2⟩, ha, hN.kp hI k (by decide) (by decide) m3 l (by decide), hin⟩, qz.ks l (by decide)⟩, by omega, by omega, by omega⟩
    · have lt : ¬ nI j < nI (8 * L.length) := nI_nlt (by omega) j1
      rw [if_neg lt, if_neg lt]
      exact ⟨0, M, S, rfl, rfl, h0.cr⟩
end FLs
