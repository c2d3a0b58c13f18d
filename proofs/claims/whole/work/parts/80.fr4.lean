/-! ===== the reference: leaves, sends, empties, arrivals ===== -/
section FRo
variable {S : sT} {fl : Nat → List (List Int32)} {hl : List (Nat × List Int32)} {f p x y : Nat} {L : List Int32}
theorem k185_loop (hx : x < 48) {m : Nat} (hm : m < 4) {v : Int32} : ∀ d k S fuel, k + d = m → S.1 17 x = nI m → d < fuel → ∃ T, sdrive kS185 fuel 21 [.inl (nI x), .inl v, .inl (nI k)] S = some (v, s_u (s_u T 20 x (T.1 20 x + 1)) 21 x 0) ∧ ks [16] S T ∧ (∀ i, k ≤ i → i < m → T.1 16 (x * 4 + i) = S.1 16 (x * 4 + i + 1)) ∧ ∀ j, (j < x * 4 + k ∨ x * 4 + m ≤ j) → T.1 16 j = S.1 16 j
  | 0, k, S, fuel, hk, h17, hf => by
    obtain ⟨n, rfl⟩ : ∃ n, fuel = n + 1 := ⟨fuel - 1, by omega⟩
    refine ⟨S, sd_end ?_, ks.rf, fun i h1 h2 => by omega, fun _ _ => rfl⟩
    have h2 : nI m ≤ nI k := nI_le (by omega) (by omega)
    have e0 : (0 : Int32) = nI 0 := rfl
    simp [kS185, c185_21, hx, h17, h2, ga4, gs4, ga5, gs5, ga6, gs6, ga7, gs7, ga8, gs8, ga10, gs10, ga11, gs11, ga12, gs12_0, gs12_1, gs12, ga14, gs14, ga15, gs15, ga16, gs16, ga17, gs17, ga18, gs18, ga19, gs19, ga20, gs20, ga21, gs21, ga22, gs22_0, gs22_1, gs22, ga23, gs23, ga24, gs24, ga25, gs25, ga26, gs26, ga27, gs27_0, gs27_1, gs27, ga28, gs28, ga29, gs29, ga30, gs30, ga31, gs31, ga32, gs32, ga33, gs33_0, gs33_1, gs33, ga34, gs34_0, gs34_1, gs34, ga35, gs35, ga36, gs36, ga37, gs37, ga39, gs39, ga40, gs40, ga41, gs41, ga42, gs42, ga43, gs43, ga44, gs44, ga45, gs45, ga46, gs46, ga48, gs48, ga49, gs49, ga50, gs50_0, gs50_1, gs50, ga51, gs51, ga52, gs52, ga53, gs53, ga54, gs54, ga55, gs55, ga56, gs56, ga57, gs57, ga58, gs58, ga59, gs59, ga60, gs60, ixr2, ixl2, ixr3, ixl3, ixr4, ixl4, ixr5, ixl5, ixr8, ixl8, ixr16, ixl16, ixr24, ixl24, ixr32, ixl32, ixr48, ixl48, ixr64, ixl64, ixr80, ixl80, ixa2, ixa3, ixa4, ixa5, ixa6, ixa7, ixa8, ixa13, ixa40, ixb4, ixb6, ixb7, ixb40, ixb13, ixb19, ixb14, y_su, y_sul, y_tu, y_tul, nI_add, nI_1, s_g, s_p, s_out]
  | d + 1, k, S, fuel, hk, h17, hf => by
    obtain ⟨n, rfl⟩ : ∃ n, fuel = n + 1 := ⟨fuel - 1, by omega⟩
    have h2 : ¬ nI m ≤ nI k := nI_ge (by omega) (by omega)
    have i1 : x * 4 + k + 1 < 192 := by omega
    have i2 : x * 4 + k < 192 := by omega
    have hb : kS185 21 [.inl (nI x), .inl v, .inl (nI k)] S = some (.inr (21, [.inl (nI x), .inl v, .inl (nI (k + 1))], s_u S 16 (x * 4 + k) (S.1 16 (x * 4 + k + 1)))) := by
      simp [kS185, c185_21, hx, h17, h2, i1, i2, ga4, gs4, ga5, gs5, ga6, gs6, ga7, gs7, ga8, gs8, ga10, gs10, ga11, gs11, ga12, gs12_0, gs12_1, gs12, ga14, gs14, ga15, gs15, ga16, gs16, ga17, gs17, ga18, gs18, ga19, gs19, ga20, gs20, ga21, gs21, ga22, gs22_0, gs22_1, gs22, ga23, gs23, ga24, gs24, ga25, gs25, ga26, gs26, ga27, gs27_0, gs27_1, gs27, ga28, gs28, ga29, gs29, ga30, gs30, ga31, gs31, ga32, gs32, ga33, gs33_0, gs33_1, gs33, ga34, gs34_0, gs34_1, gs34, ga35, gs35, ga36, gs36, ga37, gs37, ga39, gs39, ga40, gs40, ga41, gs41, ga42, gs42, ga43, gs43, ga44, gs44, ga45, gs45, ga46, gs46, ga48, gs48, ga49, gs49, ga50, gs50_0, gs50_1, gs50, ga51, gs51, ga52, gs52, ga53, gs53, ga54, gs54, ga55, gs55, ga56, gs56, ga57, gs57, ga58, gs58, ga59, gs59, ga60, gs60, ixr2, ixl2, ixr3, ixl3, ixr4, ixl4, ixr5, ixl5, ixr8, ixl8, ixr16, ixl16, ixr24, ixl24, ixr32, ixl32, ixr48, ixl48, ixr64, ixl64, ixr80, ixl80, ixa2, ixa3, ixa4, ixa5, ixa6, ixa7, ixa8, ixa13, ixa40, ixb4, ixb6, ixb7, ixb40, ixb13, ixb19, ixb14, y_su, y_sul, y_tu, y_tul, nI_add, nI_1, s_g, s_p, s_out]
    obtain ⟨T, t1, t2, t3, t4⟩ := k185_loop hx hm (v := v) d (k + 1) (s_u S 16 (x * 4 + k) (S.1 16 (x * 4 + k + 1))) n (by omega) (by rw [su_ne (by decide)]; exact h17) (by omega)
    refine ⟨T, by rw [sd_go hb]; exact t1, (ks.rf.tr k_su rfl : ks [16] S _).tt t2 (fun _ q => q), fun i h3 h4 => ?_, fun j hj => ?_⟩
    · by_cases e : i = k
      · subst e
        rw [t4 _ (by omega), su_eq, u1_eq]
      · rw [t3 i (by omega) h4, su_eq, u1_ne (by omega)]
    · rw [t4 j (by omega), su_eq, u1_ne (by omega)]
/-- leaves -/
theorem FR_lea {r : List (List Int32)} (h : FR S fl hl) (hx : x < 48) (hB : FLb fl) (hq : fl (48 + x) = L :: r) : ∃ f T, e185 (nI x) S = some (nI f, T) ∧ f < 1800 ∧ FR T (u1 fl (48 + x) r) ((f, L) :: hl) ∧ T.1 20 = u1 (S.1 20) x (S.1 20 x + 1) ∧ T.1 21 = u1 (S.1 21) x 0 ∧ S.1 16 (x * 4) = nI f ∧ frl S f = L ∧ S.1 7 f = nI L.length ∧ L.length ≤ 80 := by
  obtain ⟨rl, c1, c2, c3, c4, c5⟩ := h
  have hle := (hB x hx).2.1
  obtain ⟨f, l, hcl, hcf, hrest⟩ := rT_at c4 (p := 48 + x) (by omega) hq
  have hll : l.length = r.length := by have := congrArg List.length hrest; rwa [List.length_map] at this
  rw [hq, List.length_cons] at hle
  have h17 : S.1 17 x = nI (l.length + 1) := by rw [(c3.1 x hx).2.1.1, hcl]; rfl
  have h16 : S.1 16 (x * 4) = nI f := by
    have := (c3.1 x hx).2.1.2
    rw [hcl] at this
    have := this 0 f rfl
    rwa [Nat.add_zero] at this
  obtain ⟨hf8, z, hz, hz8⟩ := c2 (48 + x) f (by rw [hcl]; exact List.mem_cons_self)
  have hzL : L.length = z := by rw [← hcf, frl_len hz hz8]
  let S2 := s_u S 17 x (nI l.length)
  have hc0 : c185_0 (nI x) S = some (.inr (21, [.inl (nI x), .inl (nI f), .inl (nI 0)], S2)) := by
    have i1 : x * 4 < 192 := by omega
    have e0 : nI 0 = 0 := rfl
    simp [c185_0, hx, h17, i1, h16, nI_pred, S2, e0, ga4, gs4, ga5, gs5, ga6, gs6, ga7, gs7, ga8, gs8, ga10, gs10, ga11, gs11, ga12, gs12_0, gs12_1, gs12, ga14, gs14, ga15, gs15, ga16, gs16, ga17, gs17, ga18, gs18, ga19, gs19, ga20, gs20, ga21, gs21, ga22, gs22_0, gs22_1, gs22, ga23, gs23, ga24, gs24, ga25, gs25, ga26, gs26, ga27, gs27_0, gs27_1, gs27, ga28, gs28, ga29, gs29, ga30, gs30, ga31, gs31, ga32, gs32, ga33, gs33_0, gs33_1, gs33, ga34, gs34_0, gs34_1, gs34, ga35, gs35, ga36, gs36, ga37, gs37, ga39, gs39, ga40, gs40, ga41, gs41, ga42, gs42, ga43, gs43, ga44, gs44, ga45, gs45, ga46, gs46, ga48, gs48, ga49, gs49, ga50, gs50_0, gs50_1, gs50, ga51, gs51, ga52, gs52, ga53, gs53, ga54, gs54, ga55, gs55, ga56, gs56, ga57, gs57, ga58, gs58, ga59, gs59, ga60, gs60, ixr2, ixl2, ixr3, ixl3, ixr4, ixl4, ixr5, ixl5, ixr8, ixl8, ixr16, ixl16, ixr24, ixl24, ixr32, ixl32, ixr48, ixl48, ixr64, ixl64, ixr80, ixl80, ixa2, ixa3, ixa4, ixa5, ixa6, ixa7, ixa8, ixa13, ixa40, ixb4, ixb6, ixb7, ixb40, ixb13, ixb19, ixb14, y_su, y_sul, y_tu, y_tul, nI_add, nI_1, s_g, s_p, s_out]
  obtain ⟨T, t1, t2, t3, t4⟩ := k185_loop hx (m := l.length) (v := nI f) (by omega) l.length 0 S2 xF (by omega) (by show (s_u S 17 x (nI l.length)).1 17 x = _; rw [su_eq, u1_eq]) (by unfold xF; omega)
  have ek : ∀ k, k ≠ 17 → S2.1 k = S.1 k := fun k q1 => su_ne q1
  obtain ⟨-, -, s3⟩ := rS_lea (b16' := T.1 16) c3 hx hcl (fun j hj => by rw [t4 j (by omega), ek 16 (by decide)]) (fun i hi => by rw [t3 i (by omega) hi, ek 16 (by decide)]) (fun y hy => by rw [rT_len c4 (by omega)]; exact (hB y hy).2.1)
  have mC := mv_cons c1 hcl (q := 145) (by omega)
  have et : ∀ k, k ≠ 20 → k ≠ 21 → (s_u (s_u T 20 x (T.1 20 x + 1)) 21 x 0).1 k = T.1 k := fun k q1 q2 => by rw [su_ne q2, su_ne q1]
  refine ⟨f, s_u (s_u T 20 x (T.1 20 x + 1)) 21 x 0, ?_, hf8, FR_frs c2 c5 ?_ ?_ (mv_exr c1 hcl (by omega) mC.1) (fD_mv c1 hcl (by omega) mC.1 mC.2) (sumL_mv (by omega) (by omega) (by omega) (by rw [hcl]; rfl) rfl) ?_ (rT_tak c4 (by omega) hq hcl), ?_, ?_, h16, hcf, by rw [hzL]; exact hz, by omega⟩
  · show s_go kS185 (c185_0 (nI x) S) = _
    rw [hc0]
    exact t1
  · rw [et 6 (by decide) (by decide), t2.i (by decide), ek 6 (by decide)]
  · rw [et 7 (by decide) (by decide), t2.i (by decide), ek 7 (by decide)]
  · have e17 : T.1 17 = u1 (S.1 17) x (nI l.length) := by
      rw [t2.i (by decide)]
      exact su_eq
    rw [et 8 (by decide) (by decide), et 15 (by decide) (by decide), et 16 (by decide) (by decide), et 17 (by decide) (by decide), et 18 (by decide) (by decide), et 19 (by decide) (by decide), et 9 (by decide) (by decide), e17, t2.i (show [16].contains 8 = false from by decide), ek 8 (by decide), t2.i (show [16].contains 15 = false from by decide), ek 15 (by decide), t2.i (show [16].contains 18 = false from by decide), ek 18 (by decide), t2.i (show [16].contains 19 = false from by decide), ek 19 (by decide), t2.i (show [16].contains 9 = false from by decide), ek 9 (by decide)]
    exact s3
  · rw [su_ne (by decide), su_eq, t2.i (by decide), ek 20 (by decide)]
  · rw [su_eq, su_ne (by decide), t2.i (by decide), ek 21 (by decide)]
/-- sends, of a held frame -/
theorem FR_snd {c : Int32} (h : FR S fl ((f, L) :: hl)) (hx : x < 48) (hw : fl x = []) (h180 : e180 (nI x) S = some (c, S)) (hc : 1 ≤ c) : ∃ T, e182 (nI x) (nI f) S = some T ∧ FR T (u1 fl x [L]) hl ∧ T.1 4 = u1 (S.1 4) 6 (S.1 4 6 + 1) ∧ T.1 5 = S.1 5 ∧ T.1 22 = u1 (S.1 22) x 1 := by
  obtain ⟨rl, c1, c2, c3, c4, c5⟩ := h
  obtain ⟨l, hl1, hT⟩ := rT_way c4 hx
  have hw0 : rl x = [] := by
    have := rT_len c4 (p := x) (by omega)
    rw [hw] at this
    exact List.length_eq_zero_iff.mp this
  have mS := mv_snoc c1 hl1 (q := x) (by omega)
  rw [hw0] at mS
  have e6 : (6 : Int32) = nI 6 := rfl
  have g4 : ∀ T : sT, s_a T 4 6 = some (T.1 4 6) := fun T => by rw [e6, ga4 (by omega)]
  have g4s : ∀ (T : sT) v, s_s T 4 6 v = some (s_u T 4 6 v) := fun T v => by rw [e6, gs4 (by omega)]
  have ek : ∀ k, k ≠ 15 → k ≠ 22 → k ≠ 4 → (s_u (s_u (s_u S 15 x (nI f)) 22 x 1) 4 6 (S.1 4 6 + 1)).1 k = S.1 k := fun k q1 q2 q3 => by rw [su_ne q3, su_ne q2, su_ne q1]
  refine ⟨s_u (s_u (s_u S 15 x (nI f)) 22 x 1) 4 6 (S.1 4 6 + 1), ?_, FR_frs c2 c5 (ek 6 (by decide) (by decide) (by decide)) (ek 7 (by decide) (by decide) (by decide)) (mv_exr c1 hl1 (by omega) (by rw [hw0]; exact mS.1)) (fD_mv c1 hl1 (by omega) (by rw [hw0]; exact mS.1) mS.2) (sumL_mv (by omega) (by omega) (by omega) (by rw [hl1]; rfl) (by rw [hw0]; rfl)) ?_ hT, ?_, ek 5 (by decide) (by decide) (by decide), ?_⟩
  · simp [e182, c182_0, c182_19, h180, hc, hx, g4, g4s, ga4, gs4, ga5, gs5, ga6, gs6, ga7, gs7, ga8, gs8, ga10, gs10, ga11, gs11, ga12, gs12_0, gs12_1, gs12, ga14, gs14, ga15, gs15, ga16, gs16, ga17, gs17, ga18, gs18, ga19, gs19, ga20, gs20, ga21, gs21, ga22, gs22_0, gs22_1, gs22, ga23, gs23, ga24, gs24, ga25, gs25, ga26, gs26, ga27, gs27_0, gs27_1, gs27, ga28, gs28, ga29, gs29, ga30, gs30, ga31, gs31, ga32, gs32, ga33, gs33_0, gs33_1, gs33, ga34, gs34_0, gs34_1, gs34, ga35, gs35, ga36, gs36, ga37, gs37, ga39, gs39, ga40, gs40, ga41, gs41, ga42, gs42, ga43, gs43, ga44, gs44, ga45, gs45, ga46, gs46, ga48, gs48, ga49, gs49, ga50, gs50_0, gs50_1, gs50, ga51, gs51, ga52, gs52, ga53, gs53, ga54, gs54, ga55, gs55, ga56, gs56, ga57, gs57, ga58, gs58, ga59, gs59, ga60, gs60, ixr2, ixl2, ixr3, ixl3, ixr4, ixl4, ixr5, ixl5, ixr8, ixl8, ixr16, ixl16, ixr24, ixl24, ixr32, ixl32, ixr48, ixl48, ixr64, ixl64, ixr80, ixl80, ixa2, ixa3, ixa4, ixa5, ixa6, ixa7, ixa8, ixa13, ixa40, ixb4, ixb6, ixb7, ixb40, ixb13, ixb19, ixb14, y_su, y_sul, y_tu, y_tul, nI_add, nI_1, s_g, s_p, s_out]
  · have e15 : (s_u (s_u (s_u S 15 x (nI f)) 22 x 1) 4 6 (S.1 4 6 + 1)).1 15 = u1 (S.1 15) x (nI f) := by rw [su_ne (by decide), su_ne (by decide), su_eq]
    rw [e15, ek 8 (by decide) (by decide) (by decide), ek 16 (by decide) (by decide) (by decide), ek 17 (by decide) (by decide) (by decide), ek 18 (by decide) (by decide) (by decide), ek 19 (by decide) (by decide) (by decide), ek 9 (by decide) (by decide) (by decide)]
    exact rS_way c3 hx hw0
  · rw [su_eq, su_ne (by decide), su_ne (by decide)]
  · rw [su_ne (by decide), su_eq, su_ne (by decide)]
/-- all of a place, free -/
theorem al_mem {rl : Nat → List Nat} {r b : Nat} (hp : p ≠ 144) (hb : b ∈ u1 (u1 rl p []) 144 ((rl p).reverse ++ rl 144) r) : (r ≠ p ∧ b ∈ rl r) ∨ (r = 144 ∧ b ∈ rl p) := by
  by_cases e : r = 144
  · subst e
    rw [u1_eq] at hb
    rcases List.mem_append.mp hb with hb | hb
    · exact Or.inr ⟨rfl, List.mem_reverse.mp hb⟩
    · exact Or.inl ⟨Ne.symm hp, hb⟩
  · rw [u1_ne e] at hb
    by_cases e2 : r = p
    · subst e2; rw [u1_eq] at hb; cases hb
    · rw [u1_ne e2] at hb; exact Or.inl ⟨e2, hb⟩
theorem fD_all {rl : Nat → List Nat} (h : fD rl) (hp : p ≠ 144) : fD (u1 (u1 rl p []) 144 ((rl p).reverse ++ rl 144)) := by
  refine ⟨fun r s b hr hs => ?_, fun r => ?_⟩
  · rcases al_mem hp hr with ⟨h1, h2⟩ | ⟨h1, h2⟩
    · rcases al_mem hp hs with ⟨h3, h4⟩ | ⟨h3, h4⟩
      · exact h.1 _ _ _ h2 h4
      · exact absurd (h.1 _ _ _ h2 h4) h1
    · rcases al_mem hp hs with ⟨h3, h4⟩ | ⟨h3, h4⟩
      · exact absurd (h.1 _ _ _ h4 h2) h3
      · rw [h1, h3]
  · by_cases e : r = 144
    · subst e
      rw [u1_eq, List.nodup_append]
      refine ⟨List.pairwise_reverse.mpr ((h.2 p).imp (fun z => Ne.symm z)), h.2 144, fun a ha b hb q => ?_⟩
      subst q
      exact hp (h.1 _ _ _ (List.mem_reverse.mp ha) hb)
    · rw [u1_ne e]
      by_cases e2 : r = p
      · subst e2; rw [u1_eq]; exact List.nodup_nil
      · rw [u1_ne e2]; exact h.2 r
theorem sumL_all {rl : Nat → List Nat} (hp : p ≠ 144) (hp2 : p < 146) : sumL (u1 (u1 rl p []) 144 ((rl p).reverse ++ rl 144)) 146 = sumL rl 146 := by
  have a := sumL_u1 (f := rl) (p := p) (l := []) 146
  have b := sumL_u1 (f := u1 rl p []) (p := 144) (l := (rl p).reverse ++ rl 144) 146
  rw [if_pos hp2, if_pos hp2, List.length_nil] at a
  rw [if_pos (by omega), if_pos (by omega), u1_ne (Ne.symm hp), List.length_append, List.length_reverse] at b
  omega
/-- the stack of the free ones, with those that were thrown on it -/
def dpS (S : sT) (l : List Nat) : Prop := S.1 9 0 = nI l.length ∧ arL (S.1 8) 0 l
theorem dp_push {l : List Nat} (h : dpS S l) (hl : l.length < 1800) : ∃ T, e171 (nI f) S = some T ∧ dpS T (l ++ [f]) ∧ ks [8, 9] S T := by
  refine ⟨_, e171_eq h.1 hl, ⟨?_, ?_⟩, (ks.rf.tr k_su rfl : ks [8, 9] S _).tr k_su rfl⟩
  · rw [su_eq, u1_eq, List.length_append]; rfl
  · rw [su_ne (by decide), su_eq]
    refine arL_ap h.2 (fun i hi => u1_ne (by omega)) ?_
    rw [Nat.zero_add, u1_eq]
theorem k187_b (hx : x < 48) {bs : List Nat} (hb4 : bs.length ≤ 4) : ∀ (r : List Nat) (k : Nat) (S : sT) (l : List Nat) (fuel : Nat), bs.drop k = r → k ≤ bs.length → S.1 17 x = nI bs.length → arL (S.1 16) (x * 4) bs → dpS S l → l.length + r.length ≤ 1800 → r.length < fuel → ∃ T, sdrive kS187 fuel 29 [.inl (nI x), .inl (nI k)] S = sdrive kS187 (fuel - r.length - 1) 61 [.inl (nI x), .inl 0] T ∧ dpS T (l ++ r) ∧ ks [8, 9] S T
  | [], k, S, l, fuel, hr, hk, h17, h16, hd, hll, hf => by
    obtain ⟨n, rfl⟩ : ∃ n, fuel = n + 1 := ⟨fuel - 1, by simp at hf; omega⟩
    have hk2 : k = bs.length := by
      have := congrArg List.length hr
      rw [List.length_drop, List.length_nil] at this
      omega
    have h2 : nI bs.length ≤ nI k := nI_le (by omega) (by omega)
    have hb : kS187 29 [.inl (nI x), .inl (nI k)] S = some (.inr (61, [.inl (nI x), .inl 0], S)) := by
      simp [kS187, c187_29, hx, h17, h2, ga4, gs4, ga5, gs5, ga6, gs6, ga7, gs7, ga8, gs8, ga10, gs10, ga11, gs11, ga12, gs12_0, gs12_1, gs12, ga14, gs14, ga15, gs15, ga16, gs16, ga17, gs17, ga18, gs18, ga19, gs19, ga20, gs20, ga21, gs21, ga22, gs22_0, gs22_1, gs22, ga23, gs23, ga24, gs24, ga25, gs25, ga26, gs26, ga27, gs27_0, gs27_1, gs27, ga28, gs28, ga29, gs29, ga30, gs30, ga31, gs31, ga32, gs32, ga33, gs33_0, gs33_1, gs33, ga34, gs34_0, gs34_1, gs34, ga35, gs35, ga36, gs36, ga37, gs37, ga39, gs39, ga40, gs40, ga41, gs41, ga42, gs42, ga43, gs43, ga44, gs44, ga45, gs45, ga46, gs46, ga48, gs48, ga49, gs49, ga50, gs50_0, gs50_1, gs50, ga51, gs51, ga52, gs52, ga53, gs53, ga54, gs54, ga55, gs55, ga56, gs56, ga57, gs57, ga58, gs58, ga59, gs59, ga60, gs60, ixr2, ixl2, ixr3, ixl3, ixr4, ixl4, ixr5, ixl5, ixr8, ixl8, ixr16, ixl16, ixr24, ixl24, ixr32, ixl32, ixr48, ixl48, ixr64, ixl64, ixr80, ixl80, ixa2, ixa3, ixa4, ixa5, ixa6, ixa7, ixa8, ixa13, ixa40, ixb4, ixb6, ixb7, ixb40, ixb13, ixb19, ixb14, y_su, y_sul, y_tu, y_tul, nI_add, nI_1, s_g, s_p, s_out]
    exact ⟨S, by rw [sd_go hb]; rfl, by rw [List.append_nil]; exact hd, ks.rf⟩
  | f :: r, k, S, l, fuel, hr, hk, h17, h16, hd, hll, hf => by
    obtain ⟨n, rfl⟩ : ∃ n, fuel = n + 1 := ⟨fuel - 1, by simp at hf; omega⟩
    have hk2 : k < bs.length := by
      have := congrArg List.length hr
      rw [List.length_drop, List.length_cons] at this
      omega
    have hget : bs[k]? = some f := by
      have := List.getElem?_drop (xs := bs) (i := k) (j := 0)
      rw [hr] at this
      simpa using this.symm
    have h2 : ¬ nI bs.length ≤ nI k := nI_ge (by omega) (by omega)
    have i2 : x * 4 + k < 192 := by omega
    have hv : S.1 16 (x * 4 + k) = nI f := h16 k f hget
    rw [List.length_cons] at hll hf
    obtain ⟨T1, t1, t2, t3⟩ := dp_push (f := f) hd (by omega)
    have hb : kS187 29 [.inl (nI x), .inl (nI k)] S = some (.inr (29, [.inl (nI x), .inl (nI (k + 1))], T1)) := by
      simp [kS187, c187_29, hx, h17, h2, i2, hv, t1, ga4, gs4, ga5, gs5, ga6, gs6, ga7, gs7, ga8, gs8, ga10, gs10, ga11, gs11, ga12, gs12_0, gs12_1, gs12, ga14, gs14, ga15, gs15, ga16, gs16, ga17, gs17, ga18, gs18, ga19, gs19, ga20, gs20, ga21, gs21, ga22, gs22_0, gs22_1, gs22, ga23, gs23, ga24, gs24, ga25, gs25, ga26, gs26, ga27, gs27_0, gs27_1, gs27, ga28, gs28, ga29, gs29, ga30, gs30, ga31, gs31, ga32, gs32, ga33, gs33_0, gs33_1, gs33, ga34, gs34_0, gs34_1, gs34, ga35, gs35, ga36, gs36, ga37, gs37, ga39, gs39, ga40, gs40, ga41, gs41, ga42, gs42, ga43, gs43, ga44, gs44, ga45, gs45, ga46, gs46, ga48, gs48, ga49, gs49, ga50, gs50_0, gs50_1, gs50, ga51, gs51, ga52, gs52, ga53, gs53, ga54, gs54, ga55, gs55, ga56, gs56, ga57, gs57, ga58, gs58, ga59, gs59, ga60, gs60, ixr2, ixl2, ixr3, ixl3, ixr4, ixl4, ixr5, ixl5, ixr8, ixl8, ixr16, ixl16, ixr24, ixl24, ixr32, ixl32, ixr48, ixl48, ixr64, ixl64, ixr80, ixl80, ixa2, ixa3, ixa4, ixa5, ixa6, ixa7, ixa8, ixa13, ixa40, ixb4, ixb6, ixb7, ixb40, ixb13, ixb19, ixb14, y_su, y_sul, y_tu, y_tul, nI_add, nI_1, s_g, s_p, s_out]
    have hdr : bs.drop (k + 1) = r := by
      rw [← List.drop_drop, Nat.add_comm] at *
      have := List.drop_drop (i := 1) (j := k) (l := bs)
      rw [hr] at this
      simpa using this.symm
    obtain ⟨T, j1, j2, j3⟩ := k187_b hx hb4 r (k + 1) T1 (l ++ [f]) n hdr (by omega) (by rw [t3.i (by decide)]; exact h17) (by rw [t3.i (by decide)]; exact h16) t2 (by rw [List.length_append]; show l.length + 1 + r.length ≤ 1800; omega) (by omega)
    refine ⟨T, ?_, by rw [List.append_assoc] at j2; exact j2, t3.tt j3 (fun _ q => q)⟩
    rw [sd_go hb]
    show sdrive kS187 n 29 _ T1 = _
    rw [j1, show n + 1 - (f :: r).length - 1 = n - r.length - 1 by rw [List.length_cons]; omega]
/-- what empties sets besides -/
def emS (S : sT) (x : Nat) : sT := s_u (s_u (s_u (s_u (s_u (s_u (s_u S 17 x 0) 19 x 0) 20 x 0) 21 x 0) 23 x (-1)) 24 x (-1000)) 25 x 0
theorem k187_q (hx : x < 48) {bs : List Nat} (hb4 : bs.length ≤ 32) : ∀ (r : List Nat) (k : Nat) (S : sT) (l : List Nat) (fuel : Nat), bs.drop k = r → k ≤ bs.length → S.1 19 x = nI bs.length → arL (S.1 18) (x * 32) bs → dpS S l → l.length + r.length ≤ 1800 → r.length < fuel → ∃ T, (x < 40 → sdrive kS187 fuel 61 [.inl (nI x), .inl (nI k)] S = some (emS T x)) ∧ (∀ U, 40 ≤ x → e186 (nI (x - 40)) (s_u (s_u (emS T x) 36 (x - 40) (-1000)) 35 (x - 40) 0) = some U → sdrive kS187 fuel 61 [.inl (nI x), .inl (nI k)] S = some U) ∧ dpS T (l ++ r) ∧ ks [8, 9] S T
  | [], k, S, l, fuel, hr, hk, h17, h16, hd, hll, hf => by
    obtain ⟨n, rfl⟩ : ∃ n, fuel = n + 1 := ⟨fuel - 1, by simp at hf; omega⟩
    have hk2 : k = bs.length := by
      have := congrArg List.length hr
      rw [List.length_drop, List.length_nil] at this
      omega
    have h2 : nI bs.length ≤ nI k := nI_le (by omega) (by omega)
    refine ⟨S, fun h40 => sd_end ?_, fun U h40 hU => sd_end ?_, by rw [List.append_nil]; exact hd, ks.rf⟩
    · have h3 : ¬ (40 : Int32) ≤ nI x := nI_ge (b := 40) h40 (by omega)
      simp [kS187, c187_61, hx, h17, h2, h3, emS, ga4, gs4, ga5, gs5, ga6, gs6, ga7, gs7, ga8, gs8, ga10, gs10, ga11, gs11, ga12, gs12_0, gs12_1, gs12, ga14, gs14, ga15, gs15, ga16, gs16, ga17, gs17, ga18, gs18, ga19, gs19, ga20, gs20, ga21, gs21, ga22, gs22_0, gs22_1, gs22, ga23, gs23, ga24, gs24, ga25, gs25, ga26, gs26, ga27, gs27_0, gs27_1, gs27, ga28, gs28, ga29, gs29, ga30, gs30, ga31, gs31, ga32, gs32, ga33, gs33_0, gs33_1, gs33, ga34, gs34_0, gs34_1, gs34, ga35, gs35, ga36, gs36, ga37, gs37, ga39, gs39, ga40, gs40, ga41, gs41, ga42, gs42, ga43, gs43, ga44, gs44, ga45, gs45, ga46, gs46, ga48, gs48, ga49, gs49, ga50, gs50_0, gs50_1, gs50, ga51, gs51, ga52, gs52, ga53, gs53, ga54, gs54, ga55, gs55, ga56, gs56, ga57, gs57, ga58, gs58, ga59, gs59, ga60, gs60, ixr2, ixl2, ixr3, ixl3, ixr4, ixl4, ixr5, ixl5, ixr8, ixl8, ixr16, ixl16, ixr24, ixl24, ixr32, ixl32, ixr48, ixl48, ixr64, ixl64, ixr80, ixl80, ixa2, ixa3, ixa4, ixa5, ixa6, ixa7, ixa8, ixa13, ixa40, ixb4, ixb6, ixb7, ixb40, ixb13, ixb19, ixb14, y_su, y_sul, y_tu, y_tul, nI_add, nI_1, s_g, s_p, s_out]
    · have h3 : (40 : Int32) ≤ nI x := nI_le (a := 40) h40 (by omega)
      have h4 : nI x - 40 = nI (x - 40) := pk_sub (a := x) (b := 40) h40
      have h5 : x - 40 < 8 := by omega
      unfold emS at hU
      simp [kS187, c187_61, hx, h17, h2, h3, h4, h5, hU, ga4, gs4, ga5, gs5, ga6, gs6, ga7, gs7, ga8, gs8, ga10, gs10, ga11, gs11, ga12, gs12_0, gs12_1, gs12, ga14, gs14, ga15, gs15, ga16, gs16, ga17, gs17, ga18, gs18, ga19, gs19, ga20, gs20, ga21, gs21, ga22, gs22_0, gs22_1, gs22, ga23, gs23, ga24, gs24, ga25, gs25, ga26, gs26, ga27, gs27_0, gs27_1, gs27, ga28, gs28, ga29, gs29, ga30, gs30, ga31, gs31, ga32, gs32, ga33, gs33_0, gs33_1, gs33, ga34, gs34_0, gs34_1, gs34, ga35, gs35, ga36, gs36, ga37, gs37, ga39, gs39, ga40, gs40, ga41, gs41, ga42, gs42, ga43, gs43, ga44, gs44, ga45, gs45, ga46, gs46, ga48, gs48, ga49, gs49, ga50, gs50_0, gs50_1, gs50, ga51, gs51, ga52, gs52, ga53, gs53, ga54, gs54, ga55, gs55, ga56, gs56, ga57, gs57, ga58, gs58, ga59, gs59, ga60, gs60, ixr2, ixl2, ixr3, ixl3, ixr4, ixl4, ixr5, ixl5, ixr8, ixl8, ixr16, ixl16, ixr24, ixl24, ixr32, ixl32, ixr48, ixl48, ixr64, ixl64, ixr80, ixl80, ixa2, ixa3, ixa4, ixa5, ixa6, ixa7, ixa8, ixa13, ixa40, ixb4, ixb6, ixb7, ixb40, ixb13, ixb19, ixb14, y_su, y_sul, y_tu, y_tul, nI_add, nI_1, s_g, s_p, s_out]
  | f :: r, k, S, l, fuel, hr, hk, h17, h16, hd, hll, hf => by
    obtain ⟨n, rfl⟩ : ∃ n, fuel = n + 1 := ⟨fuel - 1, by simp at hf; omega⟩
    have hk2 : k < bs.length := by
      have := congrArg List.length hr
      rw [List.length_drop, List.length_cons] at this
      omega
    have hget : bs[k]? = some f := by
      have := List.getElem?_drop (xs := bs) (i := k) (j := 0)
      rw [hr] at this
      simpa using this.symm
    have h2 : ¬ nI bs.length ≤ nI k := nI_ge (by omega) (by omega)
    have i2 : x * 32 + k < 1536 := by omega
    have hv : S.1 18 (x * 32 + k) = nI f := h16 k f hget
    rw [List.length_cons] at hll hf
    obtain ⟨T1, t1, t2, t3⟩ := dp_push (f := f) hd (by omega)
    have hb : kS187 61 [.inl (nI x), .inl (nI k)] S = some (.inr (61, [.inl (nI x), .inl (nI (k + 1))], T1)) := by
      simp [kS187, c187_61, hx, h17, h2, i2, hv, t1, ga4, gs4, ga5, gs5, ga6, gs6, ga7, gs7, ga8, gs8, ga10, gs10, ga11, gs11, ga12, gs12_0, gs12_1, gs12, ga14, gs14, ga15, gs15, ga16, gs16, ga17, gs17, ga18, gs18, ga19, gs19, ga20, gs20, ga21, gs21, ga22, gs22_0, gs22_1, gs22, ga23, gs23, ga24, gs24, ga25, gs25, ga26, gs26, ga27, gs27_0, gs27_1, gs27, ga28, gs28, ga29, gs29, ga30, gs30, ga31, gs31, ga32, gs32, ga33, gs33_0, gs33_1, gs33, ga34, gs34_0, gs34_1, gs34, ga35, gs35, ga36, gs36, ga37, gs37, ga39, gs39, ga40, gs40, ga41, gs41, ga42, gs42, ga43, gs43, ga44, gs44, ga45, gs45, ga46, gs46, ga48, gs48, ga49, gs49, ga50, gs50_0, gs50_1, gs50, ga51, gs51, ga52, gs52, ga53, gs53, ga54, gs54, ga55, gs55, ga56, gs56, ga57, gs57, ga58, gs58, ga59, gs59, ga60, gs60, ixr2, ixl2, ixr3, ixl3, ixr4, ixl4, ixr5, ixl5, ixr8, ixl8, ixr16, ixl16, ixr24, ixl24, ixr32, ixl32, ixr48, ixl48, ixr64, ixl64, ixr80, ixl80, ixa2, ixa3, ixa4, ixa5, ixa6, ixa7, ixa8, ixa13, ixa40, ixb4, ixb6, ixb7, ixb40, ixb13, ixb19, ixb14, y_su, y_sul, y_tu, y_tul, nI_add, nI_1, s_g, s_p, s_out]
    have hdr : bs.drop (k + 1) = r := by
      have := List.drop_drop (i := 1) (j := k) (l := bs)
      rw [hr] at this
      simpa using this.symm
    obtain ⟨T, j0, j1, j2, j3⟩ := k187_q hx hb4 r (k + 1) T1 (l ++ [f]) n hdr (by omega) (by rw [t3.i (by decide)]; exact h17) (by rw [t3.i (by decide)]; exact h16) t2 (by rw [List.length_append]; show l.length + 1 + r.length ≤ 1800; omega) (by omega)
    refine ⟨T, fun h40 => ?_, fun U h40 hU => ?_, by rw [List.append_assoc] at j2; exact j2, t3.tt j3 (fun _ q => q)⟩
    · rw [sd_go hb]; exact j0 h40
    · rw [sd_go hb]; exact j1 U h40 hU
end FRo
