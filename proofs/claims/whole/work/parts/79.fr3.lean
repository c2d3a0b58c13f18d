/-! ===== the reference: queues, sends, leaves ===== -/
/-- the wires' numbers are good -/
def wO (S : sT) : Prop := ∀ x, x < 48 → S.1 14 x = -1 ∨ ∃ w, w < 16 ∧ S.1 14 x = nI w
def upS (S : sT) (x : Nat) : Int32 := if S.1 14 x = -1 then 0 else if S.1 12 (S.1 14 x).toNatClampNeg = 0 then 0 else 1
theorem nI_m1 {n : Nat} (h : n < 2 ^ 31) : ¬ nI n = -1 := fun q => by
  have := nI_pos h
  rw [q] at this
  exact this (by decide)
section FRo
variable {S : sT} {fl : Nat → List (List Int32)} {hl : List (Nat × List Int32)} {f p x y : Nat} {L : List Int32}
theorem e177_eq (hO : wO S) (hx : x < 48) : e177 (nI x) S = some (upS S x, S) := by
  unfold upS
  rcases hO x hx with h | ⟨w, hw, h⟩
  · simp [e177, c177_0, c177_28, c177_29, hx, h, ga4, gs4, ga5, gs5, ga6, gs6, ga7, gs7, ga8, gs8, ga10, gs10, ga11, gs11, ga12, gs12_0, gs12_1, gs12, ga14, gs14, ga15, gs15, ga16, gs16, ga17, gs17, ga18, gs18, ga19, gs19, ga20, gs20, ga21, gs21, ga22, gs22_0, gs22_1, gs22, ga23, gs23, ga24, gs24, ga25, gs25, ga26, gs26, ga27, gs27_0, gs27_1, gs27, ga28, gs28, ga29, gs29, ga30, gs30, ga31, gs31, ga32, gs32, ga33, gs33_0, gs33_1, gs33, ga34, gs34_0, gs34_1, gs34, ga35, gs35, ga36, gs36, ga37, gs37, ga39, gs39, ga40, gs40, ga41, gs41, ga42, gs42, ga43, gs43, ga44, gs44, ga45, gs45, ga46, gs46, ga48, gs48, ga49, gs49, ga50, gs50_0, gs50_1, gs50, ga51, gs51, ga52, gs52, ga53, gs53, ga54, gs54, ga55, gs55, ga56, gs56, ga57, gs57, ga58, gs58, ga59, gs59, ga60, gs60, ixr2, ixl2, ixr3, ixl3, ixr4, ixl4, ixr5, ixl5, ixr8, ixl8, ixr16, ixl16, ixr24, ixl24, ixr32, ixl32, ixr48, ixl48, ixr64, ixl64, ixr80, ixl80, ixa2, ixa3, ixa4, ixa5, ixa6, ixa7, ixa8, ixa13, ixa40, ixb4, ixb6, ixb7, ixb40, ixb13, ixb19, ixb14, y_su, y_sul, y_tu, y_tul, nI_add, nI_1, s_g, s_p, s_out]
  · have h1 := nI_m1 (n := w) (by omega)
    have h2 := nI_clamp (n := w) (by omega)
    by_cases c : S.1 12 w = 0
    · simp [e177, c177_0, c177_28, c177_29, hx, h, h1, h2, hw, c, ga4, gs4, ga5, gs5, ga6, gs6, ga7, gs7, ga8, gs8, ga10, gs10, ga11, gs11, ga12, gs12_0, gs12_1, gs12, ga14, gs14, ga15, gs15, ga16, gs16, ga17, gs17, ga18, gs18, ga19, gs19, ga20, gs20, ga21, gs21, ga22, gs22_0, gs22_1, gs22, ga23, gs23, ga24, gs24, ga25, gs25, ga26, gs26, ga27, gs27_0, gs27_1, gs27, ga28, gs28, ga29, gs29, ga30, gs30, ga31, gs31, ga32, gs32, ga33, gs33_0, gs33_1, gs33, ga34, gs34_0, gs34_1, gs34, ga35, gs35, ga36, gs36, ga37, gs37, ga39, gs39, ga40, gs40, ga41, gs41, ga42, gs42, ga43, gs43, ga44, gs44, ga45, gs45, ga46, gs46, ga48, gs48, ga49, gs49, ga50, gs50_0, gs50_1, gs50, ga51, gs51, ga52, gs52, ga53, gs53, ga54, gs54, ga55, gs55, ga56, gs56, ga57, gs57, ga58, gs58, ga59, gs59, ga60, gs60, ixr2, ixl2, ixr3, ixl3, ixr4, ixl4, ixr5, ixl5, ixr8, ixl8, ixr16, ixl16, ixr24, ixl24, ixr32, ixl32, ixr48, ixl48, ixr64, ixl64, ixr80, ixl80, ixa2, ixa3, ixa4, ixa5, ixa6, ixa7, ixa8, ixa13, ixa40, ixb4, ixb6, ixb7, ixb40, ixb13, ixb19, ixb14, y_su, y_sul, y_tu, y_tul, nI_add, nI_1, s_g, s_p, s_out]
    · simp [e177, c177_0, c177_28, c177_29, hx, h, h1, h2, hw, c, ga4, gs4, ga5, gs5, ga6, gs6, ga7, gs7, ga8, gs8, ga10, gs10, ga11, gs11, ga12, gs12_0, gs12_1, gs12, ga14, gs14, ga15, gs15, ga16, gs16, ga17, gs17, ga18, gs18, ga19, gs19, ga20, gs20, ga21, gs21, ga22, gs22_0, gs22_1, gs22, ga23, gs23, ga24, gs24, ga25, gs25, ga26, gs26, ga27, gs27_0, gs27_1, gs27, ga28, gs28, ga29, gs29, ga30, gs30, ga31, gs31, ga32, gs32, ga33, gs33_0, gs33_1, gs33, ga34, gs34_0, gs34_1, gs34, ga35, gs35, ga36, gs36, ga37, gs37, ga39, gs39, ga40, gs40, ga41, gs41, ga42, gs42, ga43, gs43, ga44, gs44, ga45, gs45, ga46, gs46, ga48, gs48, ga49, gs49, ga50, gs50_0, gs50_1, gs50, ga51, gs51, ga52, gs52, ga53, gs53, ga54, gs54, ga55, gs55, ga56, gs56, ga57, gs57, ga58, gs58, ga59, gs59, ga60, gs60, ixr2, ixl2, ixr3, ixl3, ixr4, ixl4, ixr5, ixl5, ixr8, ixl8, ixr16, ixl16, ixr24, ixl24, ixr32, ixl32, ixr48, ixl48, ixr64, ixl64, ixr80, ixl80, ixa2, ixa3, ixa4, ixa5, ixa6, ixa7, ixa8, ixa13, ixa40, ixb4, ixb6, ixb7, ixb40, ixb13, ixb19, ixb14, y_su, y_sul, y_tu, y_tul, nI_add, nI_1, s_g, s_p, s_out]
theorem wO.ks {T : sT} {F : List Nat} (h : wO S) (k : ks F S T) (hF : F.contains 14 = false) : wO T := by
  unfold wO
  rw [(k 14 (fun q => by rw [List.contains_iff_mem.mpr q] at hF; cases hF)).1]
  exact h
theorem ks.i {T : sT} {F : List Nat} {j : Nat} (k : ks F S T) (hF : F.contains j = false) : T.1 j = S.1 j := (k j (fun q => by rw [List.contains_iff_mem.mpr q] at hF; cases hF)).1
theorem ks.l {T : sT} {F : List Nat} {j : Nat} (k : ks F S T) (hF : F.contains j = false) : T.2 j = S.2 j := (k j (fun q => by rw [List.contains_iff_mem.mpr q] at hF; cases hF)).2
theorem upS_ks {T : sT} {F : List Nat} (k : ks F S T) (h1 : F.contains 14 = false) (h2 : F.contains 12 = false) : upS T x = upS S x := by
  unfold upS
  rw [k.i h1, k.i h2]
theorem upS_01 : upS S x = 0 ∨ upS S x = 1 := by
  unfold upS
  split
  · exact Or.inl rfl
  · split
    · exact Or.inl rfl
    · exact Or.inr rfl
/-- what the frames rest on -/
def frF : List Nat := [6, 7, 8, 9, 15, 16, 17, 18, 19]
theorem FR.cg {T : sT} {F : List Nat} (h : FR S fl hl) (k : ks F S T) (hF : frF.all (fun x => ! F.contains x) = true) : FR T fl hl := by
  have qF : ∀ x, x ∈ frF → T.1 x = S.1 x := fun x hx => by
    have := List.all_eq_true.mp hF x hx
    exact k.i (by simpa using this)
  obtain ⟨rl, c1, c2, c3, c4, c5⟩ := h
  refine FR_frs c2 c5 (qF 6 (by decide)) (qF 7 (by decide)) (fun p a ha => ⟨p, ha⟩) c1 rfl ?_ c4
  rw [qF 8 (by decide), qF 15 (by decide), qF 16 (by decide), qF 17 (by decide), qF 18 (by decide), qF 19 (by decide), qF 9 (by decide)]
  exact c3
/-- queues -/
theorem FR_que (h : FR S fl ((f, L) :: hl)) (hO : wO S) (hx : x < 48) (hn : L.length + 4 ≤ 80) (hB : FLb fl) : ∃ T, e183 (nI x) (nI f) S = some T ∧ FR T (pqF (upS S x) fl x L) hl ∧ T.1 4 = pqC (upS S x) fl x (S.1 4) := by
  obtain ⟨T1, t1, t2⟩ := FR_cls h hn
  have k1 := ke170 t1
  have hO1 := hO.ks k1 (by decide)
  have hu := e177_eq hO1 hx
  rw [upS_ks k1 (by decide) (by decide)] at hu
  have e4 : T1.1 4 = S.1 4 := k1.i (by decide)
  unfold pqF pqC
  by_cases c : upS S x = 0
  · rw [if_pos c, if_pos c]
    obtain ⟨T2, t3, t4⟩ := FR_drop t2
    refine ⟨T2, ?_, t4, by rw [(ke171 t3).i (by decide), e4]⟩
    simp [e183, c183_0, c183_77, t1, hu, c, t3, ga4, gs4, ga5, gs5, ga6, gs6, ga7, gs7, ga8, gs8, ga10, gs10, ga11, gs11, ga12, gs12_0, gs12_1, gs12, ga14, gs14, ga15, gs15, ga16, gs16, ga17, gs17, ga18, gs18, ga19, gs19, ga20, gs20, ga21, gs21, ga22, gs22_0, gs22_1, gs22, ga23, gs23, ga24, gs24, ga25, gs25, ga26, gs26, ga27, gs27_0, gs27_1, gs27, ga28, gs28, ga29, gs29, ga30, gs30, ga31, gs31, ga32, gs32, ga33, gs33_0, gs33_1, gs33, ga34, gs34_0, gs34_1, gs34, ga35, gs35, ga36, gs36, ga37, gs37, ga39, gs39, ga40, gs40, ga41, gs41, ga42, gs42, ga43, gs43, ga44, gs44, ga45, gs45, ga46, gs46, ga48, gs48, ga49, gs49, ga50, gs50_0, gs50_1, gs50, ga51, gs51, ga52, gs52, ga53, gs53, ga54, gs54, ga55, gs55, ga56, gs56, ga57, gs57, ga58, gs58, ga59, gs59, ga60, gs60, ixr2, ixl2, ixr3, ixl3, ixr4, ixl4, ixr5, ixl5, ixr8, ixl8, ixr16, ixl16, ixr24, ixl24, ixr32, ixl32, ixr48, ixl48, ixr64, ixl64, ixr80, ixl80, ixa2, ixa3, ixa4, ixa5, ixa6, ixa7, ixa8, ixa13, ixa40, ixb4, ixb6, ixb7, ixb40, ixb13, ixb19, ixb14, y_su, y_sul, y_tu, y_tul, nI_add, nI_1, s_g, s_p, s_out]
  · rw [if_neg c, if_neg c]
    obtain ⟨rl, c1, c2, c3, c4, c5⟩ := t2
    have hlen := rT_len c4 (p := 96 + x) (by omega)
    have h19 : T1.1 19 x = nI (fl (96 + x)).length := by rw [(c3.1 x hx).2.2.1, hlen]
    have hle := (hB x hx).2.2
    by_cases q : (fl (96 + x)).length < 32
    · rw [if_pos q, if_pos q]
      obtain ⟨l, hl1, hT⟩ := rT_que c4 hx
      have mS := mv_snoc c1 hl1 (q := 96 + x) (by omega)
      have h32 : ¬ nI (fl (96 + x)).length = 32 := by
        intro z
        have := congrArg Int32.toNatClampNeg z
        rw [nI_clamp (by omega)] at this
        have h3 : (32 : Int32).toNatClampNeg = 32 := by decide
        omega
      have hix : x * 32 + (fl (96 + x)).length < 1536 := by omega
      refine ⟨s_u (s_u T1 18 (x * 32 + (fl (96 + x)).length) (nI f)) 19 x (nI ((fl (96 + x)).length + 1)), ?_, FR_frs c2 c5 ?_ ?_ (mv_exr c1 hl1 (by omega) mS.1) (fD_mv c1 hl1 (by omega) mS.1 mS.2) (sumL_mv (by omega) (by omega) (by omega) (by rw [hl1]; rfl) (by rw [List.length_append]; rfl)) ?_ hT, ?_⟩
      · simp [e183, c183_0, c183_77, t1, hu, c, hx, h19, h32, hix, ga4, gs4, ga5, gs5, ga6, gs6, ga7, gs7, ga8, gs8, ga10, gs10, ga11, gs11, ga12, gs12_0, gs12_1, gs12, ga14, gs14, ga15, gs15, ga16, gs16, ga17, gs17, ga18, gs18, ga19, gs19, ga20, gs20, ga21, gs21, ga22, gs22_0, gs22_1, gs22, ga23, gs23, ga24, gs24, ga25, gs25, ga26, gs26, ga27, gs27_0, gs27_1, gs27, ga28, gs28, ga29, gs29, ga30, gs30, ga31, gs31, ga32, gs32, ga33, gs33_0, gs33_1, gs33, ga34, gs34_0, gs34_1, gs34, ga35, gs35, ga36, gs36, ga37, gs37, ga39, gs39, ga40, gs40, ga41, gs41, ga42, gs42, ga43, gs43, ga44, gs44, ga45, gs45, ga46, gs46, ga48, gs48, ga49, gs49, ga50, gs50_0, gs50_1, gs50, ga51, gs51, ga52, gs52, ga53, gs53, ga54, gs54, ga55, gs55, ga56, gs56, ga57, gs57, ga58, gs58, ga59, gs59, ga60, gs60, ixr2, ixl2, ixr3, ixl3, ixr4, ixl4, ixr5, ixl5, ixr8, ixl8, ixr16, ixl16, ixr24, ixl24, ixr32, ixl32, ixr48, ixl48, ixr64, ixl64, ixr80, ixl80, ixa2, ixa3, ixa4, ixa5, ixa6, ixa7, ixa8, ixa13, ixa40, ixb4, ixb6, ixb7, ixb40, ixb13, ixb19, ixb14, y_su, y_sul, y_tu, y_tul, nI_add, nI_1, s_g, s_p, s_out]
      · rw [su_ne (by decide), su_ne (by decide)]
      · rw [su_ne (by decide), su_ne (by decide)]
      · rw [su_ne (show 8 ≠ 19 by decide), su_ne (show 8 ≠ 18 by decide), su_ne (show 15 ≠ 19 by decide), su_ne (show 15 ≠ 18 by decide), su_ne (show 16 ≠ 19 by decide), su_ne (show 16 ≠ 18 by decide), su_ne (show 17 ≠ 19 by decide), su_ne (show 17 ≠ 18 by decide), su_ne (show 18 ≠ 19 by decide), su_eq, su_eq, su_ne (show 19 ≠ 18 by decide), su_ne (show 9 ≠ 19 by decide), su_ne (show 9 ≠ 18 by decide)]
        have := rS_que (f := f) (l := l) (x := x) (b18' := u1 (T1.1 18) (x * 32 + (fl (96 + x)).length) (nI f)) c3 hx (fun j hj => u1_ne (by rw [hlen] at hj; exact hj)) (by rw [hlen, u1_eq]) (by omega) (fun y hy => by rw [rT_len c4 (by omega)]; exact (hB y hy).2.2)
        rw [hlen] at this
        exact this
      · rw [su_ne (by decide), su_ne (by decide), e4]
    · rw [if_neg q, if_neg q]
      have h32 : nI (fl (96 + x)).length = 32 := by
        rw [show (fl (96 + x)).length = 32 by omega]
        rfl
      have t2 : FR T1 fl ((f, clL L) :: hl) := ⟨rl, c1, c2, c3, c4, c5⟩
      have t2' : FR (s_u T1 4 5 (S.1 4 5 + 1)) fl ((f, clL L) :: hl) := t2.cg (k_su (S := T1) (k := 4) (i := 5) (v := S.1 4 5 + 1)) (by decide)
      obtain ⟨T2, t3, t4⟩ := FR_drop t2'
      refine ⟨T2, ?_, t4, by rw [(ke171 t3).i (by decide), su_eq, e4]⟩
      have e5 : (5 : Int32) = nI 5 := rfl
      have g5 : T1.1 4 5 = S.1 4 5 := by rw [e4]
      have g4a : s_a T1 4 5 = some (S.1 4 5) := by rw [e5, ga4 (by omega), g5]
      have g4s : ∀ v, s_s T1 4 5 v = some (s_u T1 4 5 v) := fun v => by rw [e5, gs4 (by omega)]
      simp [e183, c183_0, c183_77, t1, hu, c, hx, h19, h32, g4a, g4s, t3, ga4, gs4, ga5, gs5, ga6, gs6, ga7, gs7, ga8, gs8, ga10, gs10, ga11, gs11, ga12, gs12_0, gs12_1, gs12, ga14, gs14, ga15, gs15, ga16, gs16, ga17, gs17, ga18, gs18, ga19, gs19, ga20, gs20, ga21, gs21, ga22, gs22_0, gs22_1, gs22, ga23, gs23, ga24, gs24, ga25, gs25, ga26, gs26, ga27, gs27_0, gs27_1, gs27, ga28, gs28, ga29, gs29, ga30, gs30, ga31, gs31, ga32, gs32, ga33, gs33_0, gs33_1, gs33, ga34, gs34_0, gs34_1, gs34, ga35, gs35, ga36, gs36, ga37, gs37, ga39, gs39, ga40, gs40, ga41, gs41, ga42, gs42, ga43, gs43, ga44, gs44, ga45, gs45, ga46, gs46, ga48, gs48, ga49, gs49, ga50, gs50_0, gs50_1, gs50, ga51, gs51, ga52, gs52, ga53, gs53, ga54, gs54, ga55, gs55, ga56, gs56, ga57, gs57, ga58, gs58, ga59, gs59, ga60, gs60, ixr2, ixl2, ixr3, ixl3, ixr4, ixl4, ixr5, ixl5, ixr8, ixl8, ixr16, ixl16, ixr24, ixl24, ixr32, ixl32, ixr48, ixl48, ixr64, ixl64, ixr80, ixl80, ixa2, ixa3, ixa4, ixa5, ixa6, ixa7, ixa8, ixa13, ixa40, ixb4, ixb6, ixb7, ixb40, ixb13, ixb19, ixb14, y_su, y_sul, y_tu, y_tul, nI_add, nI_1, s_g, s_p, s_out]
theorem k184_loop (hx : x < 48) {m : Nat} (hm : m < 32) : ∀ d k S fuel, k + d = m → S.1 19 x = nI m → d < fuel → ∃ T, sdrive kS184 fuel 44 [.inl (nI x), .inl (nI k)] S = some T ∧ ks [18] S T ∧ (∀ i, k ≤ i → i < m → T.1 18 (x * 32 + i) = S.1 18 (x * 32 + i + 1)) ∧ ∀ j, (j < x * 32 + k ∨ x * 32 + m ≤ j) → T.1 18 j = S.1 18 j
  | 0, k, S, fuel, hk, h19, hf => by
    obtain ⟨n, rfl⟩ : ∃ n, fuel = n + 1 := ⟨fuel - 1, by omega⟩
    refine ⟨S, sd_end ?_, ks.rf, fun i h1 h2 => by omega, fun _ _ => rfl⟩
    have h2 : nI m ≤ nI k := nI_le (by omega) (by omega)
    simp [kS184, c184_44, hx, h19, h2, ga4, gs4, ga5, gs5, ga6, gs6, ga7, gs7, ga8, gs8, ga10, gs10, ga11, gs11, ga12, gs12_0, gs12_1, gs12, ga14, gs14, ga15, gs15, ga16, gs16, ga17, gs17, ga18, gs18, ga19, gs19, ga20, gs20, ga21, gs21, ga22, gs22_0, gs22_1, gs22, ga23, gs23, ga24, gs24, ga25, gs25, ga26, gs26, ga27, gs27_0, gs27_1, gs27, ga28, gs28, ga29, gs29, ga30, gs30, ga31, gs31, ga32, gs32, ga33, gs33_0, gs33_1, gs33, ga34, gs34_0, gs34_1, gs34, ga35, gs35, ga36, gs36, ga37, gs37, ga39, gs39, ga40, gs40, ga41, gs41, ga42, gs42, ga43, gs43, ga44, gs44, ga45, gs45, ga46, gs46, ga48, gs48, ga49, gs49, ga50, gs50_0, gs50_1, gs50, ga51, gs51, ga52, gs52, ga53, gs53, ga54, gs54, ga55, gs55, ga56, gs56, ga57, gs57, ga58, gs58, ga59, gs59, ga60, gs60, ixr2, ixl2, ixr3, ixl3, ixr4, ixl4, ixr5, ixl5, ixr8, ixl8, ixr16, ixl16, ixr24, ixl24, ixr32, ixl32, ixr48, ixl48, ixr64, ixl64, ixr80, ixl80, ixa2, ixa3, ixa4, ixa5, ixa6, ixa7, ixa8, ixa13, ixa40, ixb4, ixb6, ixb7, ixb40, ixb13, ixb19, ixb14, y_su, y_sul, y_tu, y_tul, nI_add, nI_1, s_g, s_p, s_out]
  | d + 1, k, S, fuel, hk, h19, hf => by
    obtain ⟨n, rfl⟩ : ∃ n, fuel = n + 1 := ⟨fuel - 1, by omega⟩
    have h2 : ¬ nI m ≤ nI k := nI_ge (by omega) (by omega)
    have i1 : x * 32 + k + 1 < 1536 := by omega
    have i2 : x * 32 + k < 1536 := by omega
    have hb : kS184 44 [.inl (nI x), .inl (nI k)] S = some (.inr (44, [.inl (nI x), .inl (nI (k + 1))], s_u S 18 (x * 32 + k) (S.1 18 (x * 32 + k + 1)))) := by
      simp [kS184, c184_44, hx, h19, h2, i1, i2, ga4, gs4, ga5, gs5, ga6, gs6, ga7, gs7, ga8, gs8, ga10, gs10, ga11, gs11, ga12, gs12_0, gs12_1, gs12, ga14, gs14, ga15, gs15, ga16, gs16, ga17, gs17, ga18, gs18, ga19, gs19, ga20, gs20, ga21, gs21, ga22, gs22_0, gs22_1, gs22, ga23, gs23, ga24, gs24, ga25, gs25, ga26, gs26, ga27, gs27_0, gs27_1, gs27, ga28, gs28, ga29, gs29, ga30, gs30, ga31, gs31, ga32, gs32, ga33, gs33_0, gs33_1, gs33, ga34, gs34_0, gs34_1, gs34, ga35, gs35, ga36, gs36, ga37, gs37, ga39, gs39, ga40, gs40, ga41, gs41, ga42, gs42, ga43, gs43, ga44, gs44, ga45, gs45, ga46, gs46, ga48, gs48, ga49, gs49, ga50, gs50_0, gs50_1, gs50, ga51, gs51, ga52, gs52, ga53, gs53, ga54, gs54, ga55, gs55, ga56, gs56, ga57, gs57, ga58, gs58, ga59, gs59, ga60, gs60, ixr2, ixl2, ixr3, ixl3, ixr4, ixl4, ixr5, ixl5, ixr8, ixl8, ixr16, ixl16, ixr24, ixl24, ixr32, ixl32, ixr48, ixl48, ixr64, ixl64, ixr80, ixl80, ixa2, ixa3, ixa4, ixa5, ixa6, ixa7, ixa8, ixa13, ixa40, ixb4, ixb6, ixb7, ixb40, ixb13, ixb19, ixb14, y_su, y_sul, y_tu, y_tul, nI_add, nI_1, s_g, s_p, s_out]
    obtain ⟨T, t1, t2, t3, t4⟩ := k184_loop hx hm d (k + 1) (s_u S 18 (x * 32 + k) (S.1 18 (x * 32 + k + 1))) n (by omega) (by rw [su_ne (by decide)]; exact h19) (by omega)
    refine ⟨T, by rw [sd_go hb]; exact t1, (ks.rf.tr k_su rfl : ks [18] S _).tt t2 (fun _ q => q), fun i h3 h4 => ?_, fun j hj => ?_⟩
    · by_cases e : i = k
      · subst e
        rw [t4 _ (by omega), su_eq, u1_eq]
      · rw [t3 i (by omega) h4, su_eq, u1_ne (by omega)]
    · rw [t4 j (by omega), su_eq, u1_ne (by omega)]
/-- sendsQueued, where nothing is sent -/
theorem FR_sq0 (h : FR S fl hl) (hx : x < 48) (hB : FLb fl) (hc : fl (96 + x) = [] ∨ e181 (nI x) S = some (0, S)) : e184 (nI x) S = some S := by
  obtain ⟨rl, c1, c2, c3, c4, c5⟩ := h
  have h19 : S.1 19 x = nI (fl (96 + x)).length := by rw [(c3.1 x hx).2.2.1, rT_len c4 (by omega)]
  have hle := (hB x hx).2.2
  show s_go kS184 (c184_0 (nI x) S) = _
  by_cases q : fl (96 + x) = []
  · rw [q] at h19
    have h19 : S.1 19 x = 0 := h19
    have : c184_0 (nI x) S = some (.inl S) := by simp [c184_0, c184_17, hx, h19, ga4, gs4, ga5, gs5, ga6, gs6, ga7, gs7, ga8, gs8, ga10, gs10, ga11, gs11, ga12, gs12_0, gs12_1, gs12, ga14, gs14, ga15, gs15, ga16, gs16, ga17, gs17, ga18, gs18, ga19, gs19, ga20, gs20, ga21, gs21, ga22, gs22_0, gs22_1, gs22, ga23, gs23, ga24, gs24, ga25, gs25, ga26, gs26, ga27, gs27_0, gs27_1, gs27, ga28, gs28, ga29, gs29, ga30, gs30, ga31, gs31, ga32, gs32, ga33, gs33_0, gs33_1, gs33, ga34, gs34_0, gs34_1, gs34, ga35, gs35, ga36, gs36, ga37, gs37, ga39, gs39, ga40, gs40, ga41, gs41, ga42, gs42, ga43, gs43, ga44, gs44, ga45, gs45, ga46, gs46, ga48, gs48, ga49, gs49, ga50, gs50_0, gs50_1, gs50, ga51, gs51, ga52, gs52, ga53, gs53, ga54, gs54, ga55, gs55, ga56, gs56, ga57, gs57, ga58, gs58, ga59, gs59, ga60, gs60, ixr2, ixl2, ixr3, ixl3, ixr4, ixl4, ixr5, ixl5, ixr8, ixl8, ixr16, ixl16, ixr24, ixl24, ixr32, ixl32, ixr48, ixl48, ixr64, ixl64, ixr80, ixl80, ixa2, ixa3, ixa4, ixa5, ixa6, ixa7, ixa8, ixa13, ixa40, ixb4, ixb6, ixb7, ixb40, ixb13, ixb19, ixb14, y_su, y_sul, y_tu, y_tul, nI_add, nI_1, s_g, s_p, s_out]
    rw [this]; rfl
  · have h0 : ¬ nI (fl (96 + x)).length = 0 := nI_ne0 (List.length_pos_iff.mpr q) (by omega)
    have h181 : e181 (nI x) S = some (0, S) := hc.resolve_left q
    have : c184_0 (nI x) S = some (.inl S) := by simp [c184_0, c184_17, hx, h19, h0, h181, ga4, gs4, ga5, gs5, ga6, gs6, ga7, gs7, ga8, gs8, ga10, gs10, ga11, gs11, ga12, gs12_0, gs12_1, gs12, ga14, gs14, ga15, gs15, ga16, gs16, ga17, gs17, ga18, gs18, ga19, gs19, ga20, gs20, ga21, gs21, ga22, gs22_0, gs22_1, gs22, ga23, gs23, ga24, gs24, ga25, gs25, ga26, gs26, ga27, gs27_0, gs27_1, gs27, ga28, gs28, ga29, gs29, ga30, gs30, ga31, gs31, ga32, gs32, ga33, gs33_0, gs33_1, gs33, ga34, gs34_0, gs34_1, gs34, ga35, gs35, ga36, gs36, ga37, gs37, ga39, gs39, ga40, gs40, ga41, gs41, ga42, gs42, ga43, gs43, ga44, gs44, ga45, gs45, ga46, gs46, ga48, gs48, ga49, gs49, ga50, gs50_0, gs50_1, gs50, ga51, gs51, ga52, gs52, ga53, gs53, ga54, gs54, ga55, gs55, ga56, gs56, ga57, gs57, ga58, gs58, ga59, gs59, ga60, gs60, ixr2, ixl2, ixr3, ixl3, ixr4, ixl4, ixr5, ixl5, ixr8, ixl8, ixr16, ixl16, ixr24, ixl24, ixr32, ixl32, ixr48, ixl48, ixr64, ixl64, ixr80, ixl80, ixa2, ixa3, ixa4, ixa5, ixa6, ixa7, ixa8, ixa13, ixa40, ixb4, ixb6, ixb7, ixb40, ixb13, ixb19, ixb14, y_su, y_sul, y_tu, y_tul, nI_add, nI_1, s_g, s_p, s_out]
    rw [this]; rfl
/-- sendsQueued -/
theorem FR_sq {c : Int32} {r : List (List Int32)} (h : FR S fl hl) (hx : x < 48) (hB : FLb fl) (hq : fl (96 + x) = L :: r) (hw : fl x = []) (h181 : e181 (nI x) S = some (1, S)) (h180 : e180 (nI x) S = some (c, S)) (hc : 1 ≤ c) : ∃ T, e184 (nI x) S = some T ∧ FR T (u1 (u1 fl (96 + x) r) x [clL L]) hl ∧ T.1 4 = u1 (S.1 4) 6 (S.1 4 6 + 1) ∧ T.1 5 = S.1 5 ∧ T.1 22 = u1 (S.1 22) x 1 := by
  obtain ⟨rl, c1, c2, c3, c4, c5⟩ := h
  have hle := (hB x hx).2.2
  obtain ⟨f, l, hcl, hcf, hrest⟩ := rT_aq c4 (p := 96 + x) (by omega) (by omega) hq
  have hll : l.length = r.length := by have := congrArg List.length hrest; rwa [List.length_map, List.length_map] at this
  have hw0 : rl x = [] := by
    have := rT_len c4 (p := x) (by omega)
    rw [hw] at this
    exact List.length_eq_zero_iff.mp this
  rw [hq, List.length_cons] at hle
  have h19 : S.1 19 x = nI (l.length + 1) := by rw [(c3.1 x hx).2.2.1, hcl]; rfl
  have h18 : S.1 18 (x * 32) = nI f := by
    have := (c3.1 x hx).2.2.2
    rw [hcl] at this
    have := this 0 f rfl
    rwa [Nat.add_zero] at this
  let S1 := s_u (s_u (s_u S 15 x (nI f)) 22 x 1) 4 6 (S.1 4 6 + 1)
  have e6 : (6 : Int32) = nI 6 := rfl
  have h182 : e182 (nI x) (nI f) S = some S1 := by
    have g4 : ∀ T : sT, s_a T 4 6 = some (T.1 4 6) := fun T => by rw [e6, ga4 (by omega)]
    have g4s : ∀ (T : sT) v, s_s T 4 6 v = some (s_u T 4 6 v) := fun T v => by rw [e6, gs4 (by omega)]
    simp [e182, c182_0, c182_19, h180, hc, hx, g4, g4s, S1, ga4, gs4, ga5, gs5, ga6, gs6, ga7, gs7, ga8, gs8, ga10, gs10, ga11, gs11, ga12, gs12_0, gs12_1, gs12, ga14, gs14, ga15, gs15, ga16, gs16, ga17, gs17, ga18, gs18, ga19, gs19, ga20, gs20, ga21, gs21, ga22, gs22_0, gs22_1, gs22, ga23, gs23, ga24, gs24, ga25, gs25, ga26, gs26, ga27, gs27_0, gs27_1, gs27, ga28, gs28, ga29, gs29, ga30, gs30, ga31, gs31, ga32, gs32, ga33, gs33_0, gs33_1, gs33, ga34, gs34_0, gs34_1, gs34, ga35, gs35, ga36, gs36, ga37, gs37, ga39, gs39, ga40, gs40, ga41, gs41, ga42, gs42, ga43, gs43, ga44, gs44, ga45, gs45, ga46, gs46, ga48, gs48, ga49, gs49, ga50, gs50_0, gs50_1, gs50, ga51, gs51, ga52, gs52, ga53, gs53, ga54, gs54, ga55, gs55, ga56, gs56, ga57, gs57, ga58, gs58, ga59, gs59, ga60, gs60, ixr2, ixl2, ixr3, ixl3, ixr4, ixl4, ixr5, ixl5, ixr8, ixl8, ixr16, ixl16, ixr24, ixl24, ixr32, ixl32, ixr48, ixl48, ixr64, ixl64, ixr80, ixl80, ixa2, ixa3, ixa4, ixa5, ixa6, ixa7, ixa8, ixa13, ixa40, ixb4, ixb6, ixb7, ixb40, ixb13, ixb19, ixb14, y_su, y_sul, y_tu, y_tul, nI_add, nI_1, s_g, s_p, s_out]
  have h19' : S1.1 19 x = nI (l.length + 1) := by
    show (s_u (s_u (s_u S 15 x (nI f)) 22 x 1) 4 6 (S.1 4 6 + 1)).1 19 x = _
    rw [su_ne (by decide), su_ne (by decide), su_ne (by decide)]; exact h19
  have h0 : ¬ nI (l.length + 1) = 0 := nI_ne0 (by omega) (by omega)
  let S2 := s_u S1 19 x (nI l.length)
  have hc0 : c184_0 (nI x) S = some (.inr (44, [.inl (nI x), .inl (nI 0)], S2)) := by
    have i1 : x * 32 < 1536 := by omega
    have e0 : nI 0 = 0 := rfl
    simp [c184_0, hx, h19, h0, h181, i1, h18, h182, h19', nI_pred, S2, e0, ga4, gs4, ga5, gs5, ga6, gs6, ga7, gs7, ga8, gs8, ga10, gs10, ga11, gs11, ga12, gs12_0, gs12_1, gs12, ga14, gs14, ga15, gs15, ga16, gs16, ga17, gs17, ga18, gs18, ga19, gs19, ga20, gs20, ga21, gs21, ga22, gs22_0, gs22_1, gs22, ga23, gs23, ga24, gs24, ga25, gs25, ga26, gs26, ga27, gs27_0, gs27_1, gs27, ga28, gs28, ga29, gs29, ga30, gs30, ga31, gs31, ga32, gs32, ga33, gs33_0, gs33_1, gs33, ga34, gs34_0, gs34_1, gs34, ga35, gs35, ga36, gs36, ga37, gs37, ga39, gs39, ga40, gs40, ga41, gs41, ga42, gs42, ga43, gs43, ga44, gs44, ga45, gs45, ga46, gs46, ga48, gs48, ga49, gs49, ga50, gs50_0, gs50_1, gs50, ga51, gs51, ga52, gs52, ga53, gs53, ga54, gs54, ga55, gs55, ga56, gs56, ga57, gs57, ga58, gs58, ga59, gs59, ga60, gs60, ixr2, ixl2, ixr3, ixl3, ixr4, ixl4, ixr5, ixl5, ixr8, ixl8, ixr16, ixl16, ixr24, ixl24, ixr32, ixl32, ixr48, ixl48, ixr64, ixl64, ixr80, ixl80, ixa2, ixa3, ixa4, ixa5, ixa6, ixa7, ixa8, ixa13, ixa40, ixb4, ixb6, ixb7, ixb40, ixb13, ixb19, ixb14, y_su, y_sul, y_tu, y_tul, nI_add, nI_1, s_g, s_p, s_out]
  obtain ⟨T, t1, t2, t3, t4⟩ := k184_loop hx (m := l.length) (by omega) l.length 0 S2 xF (by omega) (by show (s_u S1 19 x (nI l.length)).1 19 x = _; rw [su_eq, u1_eq]) (by unfold xF; omega)
  have eq18 : S2.1 18 = S.1 18 := by
    show (s_u (s_u (s_u (s_u S 15 x (nI f)) 22 x 1) 4 6 (S.1 4 6 + 1)) 19 x (nI l.length)).1 18 = _
    rw [su_ne (by decide), su_ne (by decide), su_ne (by decide), su_ne (by decide)]
  have ek : ∀ k, k ≠ 15 → k ≠ 22 → k ≠ 4 → k ≠ 19 → S2.1 k = S.1 k := fun k q1 q2 q3 q4 => by
    show (s_u (s_u (s_u (s_u S 15 x (nI f)) 22 x 1) 4 6 (S.1 4 6 + 1)) 19 x (nI l.length)).1 k = _
    rw [su_ne q4, su_ne q3, su_ne q2, su_ne q1]
  obtain ⟨-, -, s3⟩ := rS_snd (b18' := T.1 18) c3 hx hw0 hcl (fun j hj => by rw [t4 j (by omega), eq18]) (fun i hi => by rw [t3 i (by omega) hi, eq18]) (fun y hy => by rw [rT_len c4 (by omega)]; exact (hB y hy).2.2)
  have mS := mv_snoc c1 hcl (q := x) (by omega)
  rw [hw0] at mS
  refine ⟨T, ?_, FR_frs c2 c5 ?_ ?_ (mv_exr c1 hcl (by omega) (by rw [hw0]; exact mS.1)) (fD_mv c1 hcl (by omega) (by rw [hw0]; exact mS.1) mS.2) (sumL_mv (by omega) (by omega) (by omega) (by rw [hcl]; rfl) (by rw [hw0]; rfl)) ?_ (rT_snd c4 hx hq hcl), ?_, ?_, ?_⟩
  · show s_go kS184 (c184_0 (nI x) S) = _
    rw [hc0]
    exact t1
  · rw [t2.i (by decide), ek 6 (by decide) (by decide) (by decide) (by decide)]
  · rw [t2.i (by decide), ek 7 (by decide) (by decide) (by decide) (by decide)]
  · have e15 : T.1 15 = u1 (S.1 15) x (nI f) := by
      rw [t2.i (by decide)]
      show (s_u (s_u (s_u (s_u S 15 x (nI f)) 22 x 1) 4 6 (S.1 4 6 + 1)) 19 x (nI l.length)).1 15 = _
      rw [su_ne (by decide), su_ne (by decide), su_ne (by decide), su_eq]
    have e19 : T.1 19 = u1 (S.1 19) x (nI l.length) := by
      rw [t2.i (by decide)]
      show (s_u (s_u (s_u (s_u S 15 x (nI f)) 22 x 1) 4 6 (S.1 4 6 + 1)) 19 x (nI l.length)).1 19 = _
      rw [su_eq, su_ne (by decide), su_ne (by decide), su_ne (by decide)]
    rw [e15, e19, t2.i (show [18].contains 8 = false from by decide), ek 8 (by decide) (by decide) (by decide) (by decide), t2.i (show [18].contains 16 = false from by decide), ek 16 (by decide) (by decide) (by decide) (by decide), t2.i (show [18].contains 17 = false from by decide), ek 17 (by decide) (by decide) (by decide) (by decide), t2.i (show [18].contains 9 = false from by decide), ek 9 (by decide) (by decide) (by decide) (by decide)]
    exact s3
  · rw [t2.i (by decide)]
    show (s_u (s_u (s_u (s_u S 15 x (nI f)) 22 x 1) 4 6 (S.1 4 6 + 1)) 19 x (nI l.length)).1 4 = _
    rw [su_ne (by decide), su_eq, su_ne (by decide), su_ne (by decide)]
  · rw [t2.i (by decide), ek 5 (by decide) (by decide) (by decide) (by decide)]
  · rw [t2.i (by decide)]
    show (s_u (s_u (s_u (s_u S 15 x (nI f)) 22 x 1) 4 6 (S.1 4 6 + 1)) 19 x (nI l.length)).1 22 = _
    rw [su_ne (by decide), su_ne (by decide), su_eq, su_ne (by decide)]
end FRo
