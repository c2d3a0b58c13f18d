/-! ===== the reference: empties, arrivals ===== -/
def rlA (rl : Nat → List Nat) (p : Nat) : Nat → List Nat := u1 (u1 rl p []) 144 ((rl p).reverse ++ rl 144)
theorem rlA_ne {rl : Nat → List Nat} {p r : Nat} (h1 : r ≠ 144) (h2 : r ≠ p) : rlA rl p r = rl r := by unfold rlA; rw [u1_ne h1, u1_ne h2]
theorem rlA_p {rl : Nat → List Nat} {p : Nat} (h1 : p ≠ 144) : rlA rl p p = [] := by unfold rlA; rw [u1_ne h1, u1_eq]
theorem rlA_f {rl : Nat → List Nat} {p : Nat} : rlA rl p 144 = (rl p).reverse ++ rl 144 := u1_eq
section FRo
variable {S : sT} {fl : Nat → List (List Int32)} {hl : List (Nat × List Int32)} {f p x y : Nat} {L : List Int32}
/-- empties -/
theorem FR_emp (h : FR S fl hl) (hx : x < 48) (hB : FLb fl) : ∃ T, FR (emS T x) (u1 (u1 (u1 fl x []) (96 + x) []) (48 + x) []) hl ∧ ks [8, 9, 15] S T ∧ T.1 15 = u1 (S.1 15) x (-1) ∧ (x < 40 → e187 (nI x) S = some (emS T x)) ∧ (∀ U, 40 ≤ x → e186 (nI (x - 40)) (s_u (s_u (emS T x) 36 (x - 40) (-1000)) 35 (x - 40) 0) = some U → e187 (nI x) S = some U) := by
  obtain ⟨rl, c1, c2, c3, c4, c5⟩ := h
  obtain ⟨hB1, hB2, hB3⟩ := hB x hx
  have hl1 : (rl x).length ≤ 1 := by rw [rT_len c4 (by omega)]; exact hB1
  have hl2 : (rl (48 + x)).length ≤ 4 := by rw [rT_len c4 (by omega)]; exact hB2
  have hl3 : (rl (96 + x)).length ≤ 32 := by rw [rT_len c4 (by omega)]; exact hB3
  obtain ⟨g1, ⟨g2, g3⟩, g4, g5⟩ := c3.1 x hx
  have htot : (rl 144).length + (rl x).length + (rl (48 + x)).length + (rl (96 + x)).length ≤ 1800 := by
    have e1 := sumL_all (rl := rl) (p := x) (by omega) (by omega)
    have e2 := sumL_all (rl := rlA rl x) (p := 48 + x) (by omega) (by omega)
    have e3 := sumL_all (rl := rlA (rlA rl x) (48 + x)) (p := 96 + x) (by omega) (by omega)
    have e4 : sumL (rlA (rlA (rlA rl x) (48 + x)) (96 + x)) 146 = sumL (rlA (rlA (rlA rl x) (48 + x)) (96 + x)) 144 + (rlA (rlA (rlA rl x) (48 + x)) (96 + x) 144).length + (rlA (rlA (rlA rl x) (48 + x)) (96 + x) 145).length := rfl
    rw [rlA_f, rlA_f, rlA_f, rlA_ne (by omega) (by omega), rlA_ne (by omega) (by omega), rlA_ne (by omega) (by omega)] at e4
    simp only [List.length_append, List.length_reverse] at e4
    unfold rlA at e4
    unfold rlA at e2 e3
    omega
  have hd : dpS S (rl 144).reverse := ⟨by rw [List.length_reverse]; exact c3.2.1, c3.2.2⟩
  have hrl : (rl 144).reverse.length = (rl 144).length := List.length_reverse
  -- the way
  have st1 : ∃ S1, dpS S1 ((rl 144).reverse ++ rl x) ∧ ks [8, 9] S S1 ∧ c187_0 (nI x) S = c187_20 (nI x) S1 := by
    cases hw : rl x with
    | nil =>
      rw [hw] at g1
      have g1 : S.1 15 x = -1 := g1
      refine ⟨S, by rw [List.append_nil]; exact hd, ks.rf, ?_⟩
      simp [c187_0, hx, g1, ga4, gs4, ga5, gs5, ga6, gs6, ga7, gs7, ga8, gs8, ga10, gs10, ga11, gs11, ga12, gs12_0, gs12_1, gs12, ga14, gs14, ga15, gs15, ga16, gs16, ga17, gs17, ga18, gs18, ga19, gs19, ga20, gs20, ga21, gs21, ga22, gs22_0, gs22_1, gs22, ga23, gs23, ga24, gs24, ga25, gs25, ga26, gs26, ga27, gs27_0, gs27_1, gs27, ga28, gs28, ga29, gs29, ga30, gs30, ga31, gs31, ga32, gs32, ga33, gs33_0, gs33_1, gs33, ga34, gs34_0, gs34_1, gs34, ga35, gs35, ga36, gs36, ga37, gs37, ga39, gs39, ga40, gs40, ga41, gs41, ga42, gs42, ga43, gs43, ga44, gs44, ga45, gs45, ga46, gs46, ga48, gs48, ga49, gs49, ga50, gs50_0, gs50_1, gs50, ga51, gs51, ga52, gs52, ga53, gs53, ga54, gs54, ga55, gs55, ga56, gs56, ga57, gs57, ga58, gs58, ga59, gs59, ga60, gs60, ixr2, ixl2, ixr3, ixl3, ixr4, ixl4, ixr5, ixl5, ixr8, ixl8, ixr16, ixl16, ixr24, ixl24, ixr32, ixl32, ixr48, ixl48, ixr64, ixl64, ixr80, ixl80, ixa2, ixa3, ixa4, ixa5, ixa6, ixa7, ixa8, ixa13, ixa40, ixb4, ixb6, ixb7, ixb40, ixb13, ixb19, ixb14, y_su, y_sul, y_tu, y_tul, nI_add, nI_1, s_g, s_p, s_out]
    | cons f l =>
      have hl0 : l = [] := by rw [hw, List.length_cons] at hl1; exact List.length_eq_zero_iff.mp (by omega)
      subst hl0
      rw [hw] at g1
      have g1 : S.1 15 x = nI f := g1
      have hf := (c2 x f (by rw [hw]; exact List.mem_cons_self)).1
      rw [hw] at htot
      simp only [List.length_cons, List.length_nil] at htot
      obtain ⟨T1, t1, t2, t3⟩ := dp_push (f := f) hd (by omega)
      refine ⟨T1, t2, t3, ?_⟩
      have h1 := nI_m1 (n := f) (by omega)
      simp [c187_0, hx, g1, h1, t1, ga4, gs4, ga5, gs5, ga6, gs6, ga7, gs7, ga8, gs8, ga10, gs10, ga11, gs11, ga12, gs12_0, gs12_1, gs12, ga14, gs14, ga15, gs15, ga16, gs16, ga17, gs17, ga18, gs18, ga19, gs19, ga20, gs20, ga21, gs21, ga22, gs22_0, gs22_1, gs22, ga23, gs23, ga24, gs24, ga25, gs25, ga26, gs26, ga27, gs27_0, gs27_1, gs27, ga28, gs28, ga29, gs29, ga30, gs30, ga31, gs31, ga32, gs32, ga33, gs33_0, gs33_1, gs33, ga34, gs34_0, gs34_1, gs34, ga35, gs35, ga36, gs36, ga37, gs37, ga39, gs39, ga40, gs40, ga41, gs41, ga42, gs42, ga43, gs43, ga44, gs44, ga45, gs45, ga46, gs46, ga48, gs48, ga49, gs49, ga50, gs50_0, gs50_1, gs50, ga51, gs51, ga52, gs52, ga53, gs53, ga54, gs54, ga55, gs55, ga56, gs56, ga57, gs57, ga58, gs58, ga59, gs59, ga60, gs60, ixr2, ixl2, ixr3, ixl3, ixr4, ixl4, ixr5, ixl5, ixr8, ixl8, ixr16, ixl16, ixr24, ixl24, ixr32, ixl32, ixr48, ixl48, ixr64, ixl64, ixr80, ixl80, ixa2, ixa3, ixa4, ixa5, ixa6, ixa7, ixa8, ixa13, ixa40, ixb4, ixb6, ixb7, ixb40, ixb13, ixb19, ixb14, y_su, y_sul, y_tu, y_tul, nI_add, nI_1, s_g, s_p, s_out]
  obtain ⟨S1, s1, s2, s3⟩ := st1
  have s4 : c187_20 (nI x) S1 = some (.inr (29, [.inl (nI x), .inl (nI 0)], s_u S1 15 x (-1))) := by
    have e0 : nI 0 = 0 := rfl
    simp [c187_20, hx, e0, ga4, gs4, ga5, gs5, ga6, gs6, ga7, gs7, ga8, gs8, ga10, gs10, ga11, gs11, ga12, gs12_0, gs12_1, gs12, ga14, gs14, ga15, gs15, ga16, gs16, ga17, gs17, ga18, gs18, ga19, gs19, ga20, gs20, ga21, gs21, ga22, gs22_0, gs22_1, gs22, ga23, gs23, ga24, gs24, ga25, gs25, ga26, gs26, ga27, gs27_0, gs27_1, gs27, ga28, gs28, ga29, gs29, ga30, gs30, ga31, gs31, ga32, gs32, ga33, gs33_0, gs33_1, gs33, ga34, gs34_0, gs34_1, gs34, ga35, gs35, ga36, gs36, ga37, gs37, ga39, gs39, ga40, gs40, ga41, gs41, ga42, gs42, ga43, gs43, ga44, gs44, ga45, gs45, ga46, gs46, ga48, gs48, ga49, gs49, ga50, gs50_0, gs50_1, gs50, ga51, gs51, ga52, gs52, ga53, gs53, ga54, gs54, ga55, gs55, ga56, gs56, ga57, gs57, ga58, gs58, ga59, gs59, ga60, gs60, ixr2, ixl2, ixr3, ixl3, ixr4, ixl4, ixr5, ixl5, ixr8, ixl8, ixr16, ixl16, ixr24, ixl24, ixr32, ixl32, ixr48, ixl48, ixr64, ixl64, ixr80, ixl80, ixa2, ixa3, ixa4, ixa5, ixa6, ixa7, ixa8, ixa13, ixa40, ixb4, ixb6, ixb7, ixb40, ixb13, ixb19, ixb14, y_su, y_sul, y_tu, y_tul, nI_add, nI_1, s_g, s_p, s_out]
  have k2 : ks [8, 9, 15] S (s_u S1 15 x (-1)) := ((ks.rf.tr s2 rfl : ks [8, 9, 15] S S1)).tr k_su rfl
  have dp2 : dpS (s_u S1 15 x (-1)) ((rl 144).reverse ++ rl x) := ⟨by rw [su_ne (by decide)]; exact s1.1, by rw [su_ne (by decide)]; exact s1.2⟩
  obtain ⟨T1, a1, a2, a3⟩ := k187_b hx hl2 (rl (48 + x)) 0 (s_u S1 15 x (-1)) _ xF rfl (by omega) (by rw [k2.i (by decide)]; exact g2) (by rw [k2.i (by decide)]; exact g3) dp2 (by rw [List.length_append]; omega) (by unfold xF; omega)
  have k3 : ks [8, 9, 15] S T1 := k2.tr a3 rfl
  obtain ⟨T, b0, b1, b2, b3⟩ := k187_q hx hl3 (rl (96 + x)) 0 T1 _ (xF - (rl (48 + x)).length - 1) rfl (by omega) (by rw [k3.i (by decide)]; exact g4) (by rw [k3.i (by decide)]; exact g5) a2 (by rw [List.length_append, List.length_append]; omega) (by unfold xF; omega)
  have k4 : ks [8, 9, 15] S T := k3.tr b3 rfl
  have e15 : T.1 15 = u1 (S.1 15) x (-1) := by
    rw [b3.i (by decide), a3.i (by decide), su_eq, s2.i (by decide)]
  have em : ∀ k, k ≠ 17 → k ≠ 19 → k ≠ 20 → k ≠ 21 → k ≠ 23 → k ≠ 24 → k ≠ 25 → (emS T x).1 k = T.1 k := fun k q1 q2 q3 q4 q5 q6 q7 => by
    unfold emS
    rw [su_ne q7, su_ne q6, su_ne q5, su_ne q4, su_ne q3, su_ne q2, su_ne q1]
  have em17 : (emS T x).1 17 = u1 (S.1 17) x 0 := by
    unfold emS
    rw [su_ne (by decide), su_ne (by decide), su_ne (by decide), su_ne (by decide), su_ne (by decide), su_ne (by decide), su_eq, k4.i (by decide)]
  have em19 : (emS T x).1 19 = u1 (S.1 19) x 0 := by
    unfold emS
    rw [su_ne (by decide), su_ne (by decide), su_ne (by decide), su_ne (by decide), su_ne (by decide), su_eq, su_ne (by decide), k4.i (by decide)]
  have emk : ∀ k, k ≠ 17 → k ≠ 19 → k ≠ 20 → k ≠ 21 → k ≠ 23 → k ≠ 24 → k ≠ 25 → k ≠ 8 → k ≠ 9 → k ≠ 15 → (emS T x).1 k = S.1 k := fun k q1 q2 q3 q4 q5 q6 q7 q8 q9 q10 => by
    rw [em k q1 q2 q3 q4 q5 q6 q7]
    exact (k4 k (by simp [q8, q9, q10])).1
  have hD : fD (rlA (rlA (rlA rl x) (48 + x)) (96 + x)) := fD_all (fD_all (fD_all c1 (by omega)) (by omega)) (by omega)
  have h144 : rlA (rlA (rlA rl x) (48 + x)) (96 + x) 144 = (rl (96 + x)).reverse ++ ((rl (48 + x)).reverse ++ ((rl x).reverse ++ rl 144)) := by
    rw [rlA_f, rlA_f, rlA_f, rlA_ne (by omega) (by omega), rlA_ne (by omega) (by omega), rlA_ne (by omega) (by omega)]
  have hoth : ∀ r, r ≠ 144 → r ≠ x → r ≠ 48 + x → r ≠ 96 + x → rlA (rlA (rlA rl x) (48 + x)) (96 + x) r = rl r := fun r q1 q2 q3 q4 => by
    rw [rlA_ne q1 q4, rlA_ne q1 q3, rlA_ne q1 q2]
  have hx0 : rlA (rlA (rlA rl x) (48 + x)) (96 + x) x = [] := by rw [rlA_ne (by omega) (by omega), rlA_ne (by omega) (by omega), rlA_p (by omega)]
  have hx1 : rlA (rlA (rlA rl x) (48 + x)) (96 + x) (48 + x) = [] := by rw [rlA_ne (by omega) (by omega), rlA_p (by omega)]
  have hx2 : rlA (rlA (rlA rl x) (48 + x)) (96 + x) (96 + x) = [] := rlA_p (by omega)
  refine ⟨T, FR_frs (rl := rl) (rl' := rlA (rlA (rlA rl x) (48 + x)) (96 + x)) c2 c5 (emk 6 (by decide) (by decide) (by decide) (by decide) (by decide) (by decide) (by decide) (by decide) (by decide) (by decide)) (emk 7 (by decide) (by decide) (by decide) (by decide) (by decide) (by decide) (by decide) (by decide) (by decide) (by decide)) ?_ hD ?_ ?_ ?_, k4, e15, ?_, ?_⟩
  · intro r b hb
    by_cases q1 : r = 144
    · subst q1
      rw [h144] at hb
      rcases List.mem_append.mp hb with hb | hb
      · exact ⟨_, List.mem_reverse.mp hb⟩
      · rcases List.mem_append.mp hb with hb | hb
        · exact ⟨_, List.mem_reverse.mp hb⟩
        · rcases List.mem_append.mp hb with hb | hb
          · exact ⟨_, List.mem_reverse.mp hb⟩
          · exact ⟨_, hb⟩
    · by_cases q2 : r = x
      · subst q2; rw [hx0] at hb; cases hb
      · by_cases q3 : r = 48 + x
        · subst q3; rw [hx1] at hb; cases hb
        · by_cases q4 : r = 96 + x
          · subst q4; rw [hx2] at hb; cases hb
          · rw [hoth r q1 q2 q3 q4] at hb; exact ⟨r, hb⟩
  · have e1 : sumL (rlA rl x) 146 = sumL rl 146 := sumL_all (by omega) (by omega)
    have e2 : sumL (rlA (rlA rl x) (48 + x)) 146 = sumL (rlA rl x) 146 := sumL_all (by omega) (by omega)
    have e3 : sumL (rlA (rlA (rlA rl x) (48 + x)) (96 + x)) 146 = sumL (rlA (rlA rl x) (48 + x)) 146 := sumL_all (by omega) (by omega)
    omega
  · refine ⟨fun y hy => ?_, ?_, ?_⟩
    · rw [em 15 (by decide) (by decide) (by decide) (by decide) (by decide) (by decide) (by decide), e15, em17, em19, emk 16 (by decide) (by decide) (by decide) (by decide) (by decide) (by decide) (by decide) (by decide) (by decide) (by decide), emk 18 (by decide) (by decide) (by decide) (by decide) (by decide) (by decide) (by decide) (by decide) (by decide) (by decide)]
      by_cases e : y = x
      · subst e
        rw [u1_eq, u1_eq, u1_eq, hx0, hx1, hx2]
        exact ⟨rfl, ⟨rfl, fun i g hi => by cases hi⟩, rfl, fun i g hi => by cases hi⟩
      · rw [u1_ne e, u1_ne e, u1_ne e, hoth y (by omega) e (by omega) (by omega), hoth (48 + y) (by omega) (by omega) (by omega) (by omega), hoth (96 + y) (by omega) (by omega) (by omega) (by omega)]
        exact c3.1 y hy
    · rw [em 9 (by decide) (by decide) (by decide) (by decide) (by decide) (by decide) (by decide), b2.1, h144]
      congr 1
      simp only [List.length_append, List.length_reverse]
      omega
    · rw [em 8 (by decide) (by decide) (by decide) (by decide) (by decide) (by decide) (by decide), h144]
      have : ((rl (96 + x)).reverse ++ ((rl (48 + x)).reverse ++ ((rl x).reverse ++ rl 144))).reverse = (rl 144).reverse ++ rl x ++ rl (48 + x) ++ rl (96 + x) := by
        simp only [List.reverse_append, List.reverse_reverse]
      rw [this]
      exact b2.2
  · obtain ⟨⟨h1, h2⟩, h3, h4⟩ := c4
    refine ⟨⟨by rw [hoth 145 (by omega) (by omega) (by omega) (by omega)]; exact h1, h2⟩, fun q hq => ?_, fun q hq hr => ?_⟩
    · by_cases e1 : q = x
      · subst e1; rw [hx0, u1_ne (by omega), u1_ne (by omega), u1_eq]; rfl
      · by_cases e2 : q = 48 + x
        · subst e2; rw [hx1, u1_eq]; rfl
        · rw [hoth q (by omega) e1 e2 (by omega), u1_ne e2, u1_ne (by omega), u1_ne e1]; exact h3 q hq
    · by_cases e1 : q = 96 + x
      · subst e1; rw [hx2, u1_ne (by omega), u1_eq]; rfl
      · rw [hoth q (by omega) (by omega) (by omega) e1, u1_ne (by omega), u1_ne e1, u1_ne (by omega)]; exact h4 q hq hr
  · intro h40
    show s_go kS187 (c187_0 (nI x) S) = _
    rw [s3, s4]
    show sdrive kS187 xF 29 _ _ = _
    rw [a1]
    exact b0 h40
  · intro U h40 hU
    show s_go kS187 (c187_0 (nI x) S) = _
    rw [s3, s4]
    show sdrive kS187 xF 29 _ _ = _
    rw [a1]
    exact b1 U h40 hU
/-- a frame comes from the way into the buffers of y -/
theorem FR_arr (h : FR S fl hl) (hx : x < 48) (hy : y < 48) (hB : FLb fl) (hw : fl x = [L]) (h4 : (fl (48 + y)).length < 4) : ∃ f, S.1 15 x = nI f ∧ f < 1800 ∧ S.1 17 y = nI (fl (48 + y)).length ∧ FR (s_u (s_u (s_u S 16 (y * 4 + (fl (48 + y)).length) (nI f)) 17 y (nI ((fl (48 + y)).length + 1))) 15 x (-1)) (u1 (u1 fl x []) (48 + y) (fl (48 + y) ++ [L])) hl := by
  obtain ⟨rl, c1, c2, c3, c4, c5⟩ := h
  obtain ⟨f, l, hcl, hcf, hrest⟩ := rT_at c4 (p := x) (by omega) hw
  have hl0 : l = [] := List.map_eq_nil_iff.mp hrest
  subst hl0
  have hlen := rT_len c4 (p := 48 + y) (by omega)
  obtain ⟨s1, s2, s3⟩ := rS_arr c3 hx hy hcl (by omega) (fun y hy => by rw [rT_len c4 (by omega)]; exact (hB y hy).2.1)
  have mS := mv_snoc c1 hcl (q := 48 + y) (by omega)
  refine ⟨f, s1, (c2 x f (by rw [hcl]; exact List.mem_cons_self)).1, by rw [s2, hlen], FR_frs c2 c5 ?_ ?_ (mv_exr c1 hcl (by omega) mS.1) (fD_mv c1 hcl (by omega) mS.1 mS.2) (sumL_mv (by omega) (by omega) (by omega) (by rw [hcl]; rfl) (by rw [List.length_append]; rfl)) ?_ (rT_arr c4 hx hy hw hcl)⟩
  · rw [su_ne (by decide), su_ne (by decide), su_ne (by decide)]
  · rw [su_ne (by decide), su_ne (by decide), su_ne (by decide)]
  · rw [hlen] at s3
    rw [su_ne (show 8 ≠ 15 by decide), su_ne (show 8 ≠ 17 by decide), su_ne (show 8 ≠ 16 by decide), su_eq, su_ne (show 15 ≠ 17 by decide), su_ne (show 15 ≠ 16 by decide), su_ne (show 16 ≠ 15 by decide), su_ne (show 16 ≠ 17 by decide), su_eq, su_ne (show 17 ≠ 15 by decide), su_eq, su_ne (show 17 ≠ 16 by decide), su_ne (show 18 ≠ 15 by decide), su_ne (show 18 ≠ 17 by decide), su_ne (show 18 ≠ 16 by decide), su_ne (show 19 ≠ 15 by decide), su_ne (show 19 ≠ 17 by decide), su_ne (show 19 ≠ 16 by decide), su_ne (show 9 ≠ 15 by decide), su_ne (show 9 ≠ 17 by decide), su_ne (show 9 ≠ 16 by decide)]
    exact s3
theorem FR.way0 (h : FR S fl hl) (hx : x < 48) : S.1 15 x = -1 ↔ fl x = [] := by
  obtain ⟨rl, c1, c2, c3, c4, c5⟩ := h
  have hlen := rT_len c4 (p := x) (by omega)
  rw [(c3.1 x hx).1]
  cases hc : rl x with
  | nil => rw [hc] at hlen; exact ⟨fun _ => List.length_eq_zero_iff.mp hlen.symm, fun _ => rfl⟩
  | cons f l =>
    have := (c2 x f (by rw [hc]; exact List.mem_cons_self)).1
    refine ⟨fun q => absurd q (nI_m1 (by omega)), fun q => ?_⟩
    rw [q, hc] at hlen
    cases hlen
theorem FR.bl (h : FR S fl hl) (hx : x < 48) : S.1 17 x = nI (fl (48 + x)).length ∧ S.1 19 x = nI (fl (96 + x)).length := by
  obtain ⟨rl, c1, c2, c3, c4, c5⟩ := h
  obtain ⟨-, ⟨g2, -⟩, g4, -⟩ := c3.1 x hx
  rw [rT_len c4 (by omega)] at g2 g4
  exact ⟨g2, g4⟩
end FRo
