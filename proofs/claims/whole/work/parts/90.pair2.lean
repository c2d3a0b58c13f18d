/-! ===== both sides: credits, sending ===== -/
def FLl (fl : Nat → List (List Int32)) : Prop := ∀ p, p < 144 → ∀ L, L ∈ fl p → (p < 96 → 17 ≤ L.length ∧ L.length ≤ 48) ∧ (96 ≤ p → 13 ≤ L.length ∧ L.length ≤ 44)
/-- a side that is down has nothing -/
def CRd (sw nd : Nat) (M : hM) (S : sT) (fl : Nat → List (List Int32)) : Prop := ∀ x, x < 48 → upS S x = 0 → (fl x = [] ∧ fl (48 + x) = [] ∧ fl (96 + x) = []) ∧ S.1 20 x = 0 ∧ (sd sw nd x → h_fi M 806 (200 + x) = 0 ∧ h_fi M 807 (200 + x) = 0)
/-- the credits of a side that is up -/
def CRu (rm : Nat) (M : hM) (S : sT) (pe : Nat → Option Nat) (fl : Nat → List (List Int32)) : Prop := ∀ x y, pe x = some y → upS S x ≠ 0 → ∃ c l, h_fi M 806 (200 + x) = nI c ∧ h_fi M 807 (200 + x) = nI l ∧ S.1 20 y = nI l ∧ c + (fl x).length + (fl (48 + y)).length + l = rm
def FB (sw nd rm : Nat) (pe : Nat → Option Nat) (M : hM) (S : sT) (ia : Nat → Nat → Int32) (zb sb : Nat) (fl : Nat → List (List Int32)) (hc : List (Nat × Int32 × List Int32)) (hs : List (Nat × List Int32)) : Prop :=
  PB sw nd M S ia zb sb fl fl hc hs ∧ FLl fl ∧ (∀ k, k < 3 → S.1 5 k = 0) ∧ CRd sw nd M S fl ∧ CRu rm M S pe fl ∧ (∀ x, x < 48 → S.1 22 x = if fl x = [] then 0 else 1) ∧ ∀ x, sd sw nd x → h_fi M 813 (200 + x) = S.1 21 x
/-- only queues have grown, and only of sides that are up -/
def qx (S : sT) (fl fm : Nat → List (List Int32)) : Prop := (∀ p, p < 96 → fm p = fl p) ∧ ∀ x, x < 48 → (upS S x = 0 → fm (96 + x) = fl (96 + x)) ∧ ∀ L, L ∈ fm (96 + x) → L ∈ fl (96 + x) ∨ (13 ≤ L.length ∧ L.length ≤ 44)
section QX
variable {S T : sT} {fl fm fn : Nat → List (List Int32)} {x : Nat} {L : List Int32}
theorem qx.rf : qx S fl fl := ⟨fun _ _ => rfl, fun _ _ => ⟨fun _ => rfl, fun _ h => Or.inl h⟩⟩
theorem qx.tr (h : qx S fl fm) (g : qx S fm fn) : qx S fl fn := by
  refine ⟨fun p hp => (g.1 p hp).trans (h.1 p hp), fun x hx => ⟨fun u => ((g.2 x hx).1 u).trans ((h.2 x hx).1 u), fun L hL => ?_⟩⟩
  rcases (g.2 x hx).2 L hL with q | q
  · exact (h.2 x hx).2 L q
  · exact Or.inr q
theorem qx.up (h : qx S fl fm) (e : ∀ x, upS T x = upS S x) : qx T fl fm := ⟨h.1, fun x hx => ⟨fun u => (h.2 x hx).1 (by rw [← e]; exact u), (h.2 x hx).2⟩⟩
theorem qx_pq (h1 : 13 ≤ L.length) (h2 : L.length ≤ 44) : qx S fl (pqF (upS S x) fl x L) := by
  refine ⟨fun p hp => ?_, fun y hy => ⟨fun u => ?_, fun K hK => ?_⟩⟩
  · exact pqF_oth (by omega)
  · by_cases q : y = x
    · subst q
      unfold pqF
      rw [if_pos u]
    · exact pqF_oth (by omega)
  · by_cases q : y = x
    · subst q
      unfold pqF at hK
      split at hK
      · exact Or.inl hK
      · split at hK
        · rw [u1_eq] at hK
          rcases List.mem_append.mp hK with hK | hK
          · exact Or.inl hK
          · rw [List.mem_singleton.mp hK]; exact Or.inr ⟨h1, h2⟩
        · exact Or.inl hK
    · rw [pqF_oth (by omega)] at hK; exact Or.inl hK
theorem qx.l (h : qx S fl fm) (g : FLl fl) : FLl fm := fun p hp K hK => by
  by_cases q : p < 96
  · rw [h.1 p q] at hK
    exact g p hp K hK
  · obtain ⟨x, rfl⟩ : ∃ x, p = 96 + x := ⟨p - 96, by omega⟩
    rcases (h.2 x (by omega)).2 K hK with z | z
    · exact g _ hp K z
    · exact ⟨fun c => by omega, fun _ => z⟩
end QX
section CR
variable {sw nd rm : Nat} {M M' : hM} {S T : sT} {ia ib : Nat → Nat → Int32} {w t x y zb sb : Nat} {pe : Nat → Option Nat} {wo : Nat → Nat} {fl fm : Nat → List (List Int32)} {hc : List (Nat × Int32 × List Int32)} {hs : List (Nat × List Int32)} {L : List Int32}
/-- the reference's credits are the class's -/
theorem e180_eq (hI : cI sw nd rm M) (hW : WI sw nd M S w pe wo) (h2 : S.1 2 0 = nI rm) (hFR : FR S fl hs) (hd : CRd sw nd M S fl) (hu : CRu rm M S pe fl) (hB : FLb fl) (hx : sd sw nd x) : e180 (nI x) S = some (h_fi M 806 (200 + x), S) := by
  have hx8 := hI.x8 hx
  have e7 := e177_eq hW.wO hx8
  by_cases c : upS S x = 0
  · rw [c] at e7
    obtain ⟨-, -, d⟩ := hd x hx8 c
    rw [(d hx).1]
    simp [e180, c180_0, e7, s_out]
  · have c1 : upS S x = 1 := upS_01.resolve_left c
    rw [c1] at e7
    cases e : pe x with
    | none => exact absurd (upS_no hW hx8 e) c
    | some y =>
      obtain ⟨-, hy, -⟩ := hW.sds e
      have hy8 := hI.x8 hy
      have e8 := e178_eq hW hx8 hy8 e
      obtain ⟨cc, l, d1, d2, d3, d4⟩ := hu x y e c
      obtain ⟨b1, -⟩ := hFR.bl hy8
      rw [d1]
      have hrm := hI.bs.2.2.2
      by_cases q : fl x = []
      · have q1 := (hFR.way0 hx8).mpr q
        rw [q, List.length_nil] at d4
        have e1 : nI rm - nI 0 - nI (fl (48 + y)).length - nI l = nI cc := by
          rw [pk_sub (by omega), pk_sub (by omega), pk_sub (by omega)]; congr 1; omega
        have e1 : nI rm - 0 - nI (fl (48 + y)).length - nI l = nI cc := e1
        simp [e180, c180_0, c180_35, e7, e8, hx8, hy8, q1, b1, d3, h2, ga4, gs4, ga5, gs5, ga6, gs6, ga7, gs7, ga8, gs8, ga10, gs10, ga11, gs11, ga12, gs12_0, gs12_1, gs12, ga14, gs14, ga15, gs15, ga16, gs16, ga17, gs17, ga18, gs18, ga19, gs19, ga20, gs20, ga21, gs21, ga22, gs22_0, gs22_1, gs22, ga23, gs23, ga24, gs24, ga25, gs25, ga26, gs26, ga27, gs27_0, gs27_1, gs27, ga28, gs28, ga29, gs29, ga30, gs30, ga31, gs31, ga32, gs32, ga33, gs33_0, gs33_1, gs33, ga34, gs34_0, gs34_1, gs34, ga35, gs35, ga36, gs36, ga37, gs37, ga39, gs39, ga40, gs40, ga41, gs41, ga42, gs42, ga43, gs43, ga44, gs44, ga45, gs45, ga46, gs46, ga48, gs48, ga49, gs49, ga50, gs50_0, gs50_1, gs50, ga51, gs51, ga52, gs52, ga53, gs53, ga54, gs54, ga55, gs55, ga56, gs56, ga57, gs57, ga58, gs58, ga59, gs59, ga60, gs60, ixr2, ixl2, ixr3, ixl3, ixr4, ixl4, ixr5, ixl5, ixr8, ixl8, ixr16, ixl16, ixr24, ixl24, ixr32, ixl32, ixr48, ixl48, ixr64, ixl64, ixr80, ixl80, ixa2, ixa3, ixa4, ixa5, ixa6, ixa7, ixa8, ixa13, ixa40, ixb4, ixb6, ixb7, ixb40, ixb13, ixb19, ixb14, y_su, y_sul, y_tu, y_tul, nI_add, nI_1, s_g, s_p, s_out]
        simpa using e1
      · have q1 : ¬ S.1 15 x = -1 := fun z => q ((hFR.way0 hx8).mp z)
        have ql : (fl x).length = 1 := by
          have := (hB x hx8).1
          have := List.length_pos_iff.mpr q
          omega
        have e1 : nI rm - nI 1 - nI (fl (48 + y)).length - nI l = nI cc := by
          rw [pk_sub (by omega), pk_sub (by omega), pk_sub (by omega)]; congr 1; omega
        have e1 : nI rm - 1 - nI (fl (48 + y)).length - nI l = nI cc := e1
        simp [e180, c180_0, c180_35, e7, e8, hx8, hy8, q1, b1, d3, h2, ga4, gs4, ga5, gs5, ga6, gs6, ga7, gs7, ga8, gs8, ga10, gs10, ga11, gs11, ga12, gs12_0, gs12_1, gs12, ga14, gs14, ga15, gs15, ga16, gs16, ga17, gs17, ga18, gs18, ga19, gs19, ga20, gs20, ga21, gs21, ga22, gs22_0, gs22_1, gs22, ga23, gs23, ga24, gs24, ga25, gs25, ga26, gs26, ga27, gs27_0, gs27_1, gs27, ga28, gs28, ga29, gs29, ga30, gs30, ga31, gs31, ga32, gs32, ga33, gs33_0, gs33_1, gs33, ga34, gs34_0, gs34_1, gs34, ga35, gs35, ga36, gs36, ga37, gs37, ga39, gs39, ga40, gs40, ga41, gs41, ga42, gs42, ga43, gs43, ga44, gs44, ga45, gs45, ga46, gs46, ga48, gs48, ga49, gs49, ga50, gs50_0, gs50_1, gs50, ga51, gs51, ga52, gs52, ga53, gs53, ga54, gs54, ga55, gs55, ga56, gs56, ga57, gs57, ga58, gs58, ga59, gs59, ga60, gs60, ixr2, ixl2, ixr3, ixl3, ixr4, ixl4, ixr5, ixl5, ixr8, ixl8, ixr16, ixl16, ixr24, ixl24, ixr32, ixl32, ixr48, ixl48, ixr64, ixl64, ixr80, ixl80, ixa2, ixa3, ixa4, ixa5, ixa6, ixa7, ixa8, ixa13, ixa40, ixb4, ixb6, ixb7, ixb40, ixb13, ixb19, ixb14, y_su, y_sul, y_tu, y_tul, nI_add, nI_1, s_g, s_p, s_out]
        exact e1
theorem e181_eq (hI : cI sw nd rm M) (hW : WI sw nd M S w pe wo) (h2 : S.1 2 0 = nI rm) (hFR : FR S fl hs) (hd : CRd sw nd M S fl) (hu : CRu rm M S pe fl) (hB : FLb fl) (hn : ∀ x, x < 48 → S.1 22 x = if fl x = [] then 0 else 1) (hx : sd sw nd x) : e181 (nI x) S = some (if upS S x = 0 then 0 else if fl x = [] then (if h_fi M 806 (200 + x) ≤ 0 then 0 else 1) else 0, S) := by
  have hx8 := hI.x8 hx
  have e7 := e177_eq hW.wO hx8
  have e8 := e180_eq hI hW h2 hFR hd hu hB hx
  have h22 := hn x hx8
  by_cases c : upS S x = 0
  · rw [c] at e7
    simp [e181, c181_0, c181_29, c181_30, e7, c, s_out]
  · have c1 : upS S x = 1 := upS_01.resolve_left c
    rw [c1] at e7
    by_cases q : fl x = []
    · rw [if_pos q] at h22
      by_cases z : h_fi M 806 (200 + x) ≤ 0
      · simp [e181, c181_0, c181_29, c181_30, e7, c1, hx8, h22, e8, z, q, s_out, ga4, gs4, ga5, gs5, ga6, gs6, ga7, gs7, ga8, gs8, ga10, gs10, ga11, gs11, ga12, gs12_0, gs12_1, gs12, ga14, gs14, ga15, gs15, ga16, gs16, ga17, gs17, ga18, gs18, ga19, gs19, ga20, gs20, ga21, gs21, ga22, gs22_0, gs22_1, gs22, ga23, gs23, ga24, gs24, ga25, gs25, ga26, gs26, ga27, gs27_0, gs27_1, gs27, ga28, gs28, ga29, gs29, ga30, gs30, ga31, gs31, ga32, gs32, ga33, gs33_0, gs33_1, gs33, ga34, gs34_0, gs34_1, gs34, ga35, gs35, ga36, gs36, ga37, gs37, ga39, gs39, ga40, gs40, ga41, gs41, ga42, gs42, ga43, gs43, ga44, gs44, ga45, gs45, ga46, gs46, ga48, gs48, ga49, gs49, ga50, gs50_0, gs50_1, gs50, ga51, gs51, ga52, gs52, ga53, gs53, ga54, gs54, ga55, gs55, ga56, gs56, ga57, gs57, ga58, gs58, ga59, gs59, ga60, gs60, ixr2, ixl2, ixr3, ixl3, ixr4, ixl4, ixr5, ixl5, ixr8, ixl8, ixr16, ixl16, ixr24, ixl24, ixr32, ixl32, ixr48, ixl48, ixr64, ixl64, ixr80, ixl80, ixa2, ixa3, ixa4, ixa5, ixa6, ixa7, ixa8, ixa13, ixa40, ixb4, ixb6, ixb7, ixb40, ixb13, ixb19, ixb14, y_su, y_sul, y_tu, y_tul, nI_add, nI_1, s_g, s_p, s_out]
      · simp [e181, c181_0, c181_29, c181_30, e7, c1, hx8, h22, e8, z, q, s_out, ga4, gs4, ga5, gs5, ga6, gs6, ga7, gs7, ga8, gs8, ga10, gs10, ga11, gs11, ga12, gs12_0, gs12_1, gs12, ga14, gs14, ga15, gs15, ga16, gs16, ga17, gs17, ga18, gs18, ga19, gs19, ga20, gs20, ga21, gs21, ga22, gs22_0, gs22_1, gs22, ga23, gs23, ga24, gs24, ga25, gs25, ga26, gs26, ga27, gs27_0, gs27_1, gs27, ga28, gs28, ga29, gs29, ga30, gs30, ga31, gs31, ga32, gs32, ga33, gs33_0, gs33_1, gs33, ga34, gs34_0, gs34_1, gs34, ga35, gs35, ga36, gs36, ga37, gs37, ga39, gs39, ga40, gs40, ga41, gs41, ga42, gs42, ga43, gs43, ga44, gs44, ga45, gs45, ga46, gs46, ga48, gs48, ga49, gs49, ga50, gs50_0, gs50_1, gs50, ga51, gs51, ga52, gs52, ga53, gs53, ga54, gs54, ga55, gs55, ga56, gs56, ga57, gs57, ga58, gs58, ga59, gs59, ga60, gs60, ixr2, ixl2, ixr3, ixl3, ixr4, ixl4, ixr5, ixl5, ixr8, ixl8, ixr16, ixl16, ixr24, ixl24, ixr32, ixl32, ixr48, ixl48, ixr64, ixl64, ixr80, ixl80, ixa2, ixa3, ixa4, ixa5, ixa6, ixa7, ixa8, ixa13, ixa40, ixb4, ixb6, ixb7, ixb40, ixb13, ixb19, ixb14, y_su, y_sul, y_tu, y_tul, nI_add, nI_1, s_g, s_p, s_out]
    · rw [if_neg q] at h22
      simp [e181, c181_0, c181_29, c181_30, e7, c1, hx8, h22, q, s_out, ga4, gs4, ga5, gs5, ga6, gs6, ga7, gs7, ga8, gs8, ga10, gs10, ga11, gs11, ga12, gs12_0, gs12_1, gs12, ga14, gs14, ga15, gs15, ga16, gs16, ga17, gs17, ga18, gs18, ga19, gs19, ga20, gs20, ga21, gs21, ga22, gs22_0, gs22_1, gs22, ga23, gs23, ga24, gs24, ga25, gs25, ga26, gs26, ga27, gs27_0, gs27_1, gs27, ga28, gs28, ga29, gs29, ga30, gs30, ga31, gs31, ga32, gs32, ga33, gs33_0, gs33_1, gs33, ga34, gs34_0, gs34_1, gs34, ga35, gs35, ga36, gs36, ga37, gs37, ga39, gs39, ga40, gs40, ga41, gs41, ga42, gs42, ga43, gs43, ga44, gs44, ga45, gs45, ga46, gs46, ga48, gs48, ga49, gs49, ga50, gs50_0, gs50_1, gs50, ga51, gs51, ga52, gs52, ga53, gs53, ga54, gs54, ga55, gs55, ga56, gs56, ga57, gs57, ga58, gs58, ga59, gs59, ga60, gs60, ixr2, ixl2, ixr3, ixl3, ixr4, ixl4, ixr5, ixl5, ixr8, ixl8, ixr16, ixl16, ixr24, ixl24, ixr32, ixl32, ixr48, ixl48, ixr64, ixl64, ixr80, ixl80, ixa2, ixa3, ixa4, ixa5, ixa6, ixa7, ixa8, ixa13, ixa40, ixb4, ixb6, ixb7, ixb40, ixb13, ixb19, ixb14, y_su, y_sul, y_tu, y_tul, nI_add, nI_1, s_g, s_p, s_out]
/-- a frame goes on its way from x: what the credits are then -/
theorem CR_send (hI : cI sw nd rm M) (hW : WI sw nd M S w pe wo) (hx : sd sw nd x) (hup : upS S x ≠ 0) (hd : CRd sw nd M S fl) (hu : CRu rm M S pe fl) (hw : fl x = []) (hc : ¬ h_fi M 806 (200 + x) ≤ 0) (eu : ∀ z, upS T z = upS S z) (e806 : h_fi M' 806 = u1 (h_fi M 806) (200 + x) (h_fi M 806 (200 + x) - 1)) (e807 : h_fi M' 807 = h_fi M 807) (e20 : T.1 20 = S.1 20) (f1 : fm x = [L]) (f2 : ∀ p, p < 96 → p ≠ x → fm p = fl p) (f3 : ∀ z, z < 48 → upS S z = 0 → fm (96 + z) = fl (96 + z)) : CRd sw nd M' T fm ∧ CRu rm M' T pe fm := by
  have hx8 := hI.x8 hx
  refine ⟨fun z hz hz0 => ?_, fun z y e hz0 => ?_⟩
  · rw [eu] at hz0
    have hzx : z ≠ x := fun q => hup (q ▸ hz0)
    obtain ⟨⟨d1, d2, d3⟩, d4, d5⟩ := hd z hz hz0
    rw [f2 z (by omega) hzx, f2 (48 + z) (by omega) (by omega), f3 z hz hz0, e20, e806, e807, u1_ne (by omega)]
    exact ⟨⟨d1, d2, d3⟩, d4, d5⟩
  · rw [eu] at hz0
    obtain ⟨c, l, d1, d2, d3, d4⟩ := hu z y e hz0
    obtain ⟨hz, hy, -⟩ := hW.sds e
    have hz8 := hI.x8 hz
    have hy8 := hI.x8 hy
    rw [e806, e807, e20, f2 (48 + y) (by omega) (by omega)]
    by_cases q : z = x
    · subst q
      rw [u1_eq, d1, f1]
      have hc1 : 0 < c := by
        rcases Nat.eq_zero_or_pos c with q0 | q0
        · rw [d1, q0] at hc
          exact absurd (by decide) hc
        · exact q0
      rw [hw, List.length_nil] at d4
      refine ⟨c - 1, l, ?_, d2, d3, by simp; omega⟩
      rw [show c = c - 1 + 1 by omega, nI_pred]
      simp
    · rw [u1_ne (by omega), f2 z (by omega) q]
      exact ⟨c, l, d1, d2, d3, d4⟩
theorem FB.bk (h : FB sw nd rm pe M S ia zb sb fl hc hs) : bk M := h.1.bk
theorem FB.b (h : FB sw nd rm pe M S ia zb sb fl hc hs) : FLb fl := by
  obtain ⟨⟨ct, -, -, h3, -⟩, -⟩ := h
  exact h3
/-- sendFirst and sendsQueued -/
theorem P_sf (hST : ST sw nd rm M S ia w pe wo t) (h : FB sw nd rm pe M S ia zb sb fl hc hs) (hx : sd sw nd x) : ∃ M' S' fm, f45 [.inr (.inr (some (200 + x)))] M = some (none, M') ∧ e184 (nI x) S = some S' ∧ FB sw nd rm pe M' S' ia zb sb fm hc hs := by
  have hI := hST.I
  have hW := hST.W
  have hx8 := hI.x8 hx
  obtain ⟨⟨ct, h1, h2, h3, h4, h5, h6, h7⟩, hl, hbk, hd, hu, hn, hy⟩ := h
  have h2r := hST.2.2.1.2.2
  have e181 := e181_eq hI hW h2r h2 hd hu h3 hn hx
  have e180 := e180_eq hI hW h2r h2 hd hu h3 hx
  have hup := hW.up hx
  by_cases c : fl (96 + x) = [] ∨ upS S x = 0 ∨ h_fi M 806 (200 + x) ≤ 0 ∨ fl x ≠ []
  · refine ⟨M, S, fl, FC_sf0 hI h1 hx (by rw [hup]; exact c), FR_sq0 h2 hx8 h3 ?_, ⟨ct, h1, h2, h3, h4, h5, h6, h7⟩, hl, hbk, hd, hu, hn, hy⟩
    rcases c with c | c | c | c
    · exact Or.inl c
    · rw [if_pos c] at e181; exact Or.inr e181
    · right
      rw [e181]
      by_cases z : upS S x = 0
      · rw [if_pos z]
      · rw [if_neg z]
        by_cases z2 : fl x = []
        · rw [if_pos z2, if_pos c]
        · rw [if_neg z2]
    · right
      rw [e181, if_neg c]
      split <;> rfl
  · have cq : ¬ fl (96 + x) = [] := fun q => c (Or.inl q)
    have cu : ¬ upS S x = 0 := fun q => c (Or.inr (Or.inl q))
    have cc : ¬ h_fi M 806 (200 + x) ≤ 0 := fun q => c (Or.inr (Or.inr (Or.inl q)))
    have cw : fl x = [] := by
      by_cases z : fl x = []
      · exact z
      · exact absurd (Or.inr (Or.inr (Or.inr z))) c
    cases hq : fl (96 + x) with
    | nil => exact absurd hq cq
    | cons L r =>
      have hLl := (hl (96 + x) (by omega) L (by rw [hq]; exact List.mem_cons_self)).2 (by omega)
      rw [if_neg cu, if_pos cw, if_neg cc] at e181
      have hc1 : (1 : Int32) ≤ h_fi M 806 (200 + x) := by
        cases e : pe x with
        | none => exact absurd (upS_no hW hx8 e) cu
        | some y =>
          obtain ⟨k, l, d1, -, -, d4⟩ := hu x y e cu
          rw [d1] at cc ⊢
          have hrm := hI.bs.2.2.2
          have : 0 < k := by
            rcases Nat.eq_zero_or_pos k with q0 | q0
            · rw [q0] at cc; exact absurd (by decide) cc
            · exact q0
          exact nI_le (a := 1) (by omega) (by omega)
      obtain ⟨M', m1, m2, m3⟩ := FC_sf hI h1 hx hq hLl.2 (by rw [hup]; exact cu) cc cw
      obtain ⟨S', s1, s2, s3, s4, s5⟩ := FR_sq h2 hx8 h3 hq cw e181 e180 hc1
      have km := kf45 m1 h1.1.2.2
      have kS := ke184 s1
      have eu : ∀ z, upS S' z = upS S z := fun z => upS_ks kS (by decide) (by decide)
      have fx : u1 (u1 fl (96 + x) r) x [clL L] x = [clL L] := u1_eq
      have fo : ∀ p, p < 96 → p ≠ x → u1 (u1 fl (96 + x) r) x [clL L] p = fl p := fun p q1 q2 => by rw [u1_ne q2, u1_ne (by omega)]
      have fq : u1 (u1 fl (96 + x) r) x [clL L] (96 + x) = r := by rw [u1_ne (by omega), u1_eq]
      have fr : ∀ z, z < 48 → z ≠ x → u1 (u1 fl (96 + x) r) x [clL L] (96 + z) = fl (96 + z) := fun z hz q => by rw [u1_ne (by omega), u1_ne (by omega)]
      have hB' : FLb (u1 (u1 fl (96 + x) r) x [clL L]) := fun z hz => by
        obtain ⟨b1, b2, b3⟩ := h3 z hz
        by_cases q : z = x
        · subst q
          rw [fx, fo (48 + z) (by omega) (by omega), fq]
          rw [hq, List.length_cons] at b3
          exact ⟨by simp, b2, by omega⟩
        · rw [fo z (by omega) q, fo (48 + z) (by omega) (by omega), fr z hz q]
          exact ⟨b1, b2, b3⟩
      obtain ⟨c1, c2⟩ := CR_send (fm := u1 (u1 fl (96 + x) r) x [clL L]) (L := clL L) hI hW hx cu hd hu cw cc eu m3 (km.fi (by decide)) (kS.i (by decide)) fx fo (fun z hz z0 => fr z hz (fun q => cu (q ▸ z0)))
      refine ⟨M', S', u1 (u1 fl (96 + x) r) x [clL L], m1, s1, ⟨_, m2, s2, hB', hB', fun _ _ _ => rfl, ?_, h7⟩, ?_, ?_, c1, c2, ?_, ?_⟩
      · intro k k1 k2
        rw [s3]
        by_cases q : k = 6
        · subst q; rw [u1_eq, u1_eq, h6 6 (by omega) (by omega)]
        · rw [u1_ne q, u1_ne q]; exact h6 k k1 k2
      · intro p hp K hK
        by_cases q : p = x
        · subst q
          rw [fx] at hK
          rw [List.mem_singleton.mp hK, clL_len]
          exact ⟨fun _ => by omega, fun z => by omega⟩
        · by_cases q2 : p = 96 + x
          · subst q2
            rw [fq] at hK
            exact hl _ hp K (by rw [hq]; exact List.mem_cons_of_mem _ hK)
          · rw [u1_ne q, u1_ne q2] at hK
            exact hl p hp K hK
      · intro k hk; rw [s4]; exact hbk k hk
      · intro z hz
        rw [s5]
        by_cases q : z = x
        · subst q; rw [u1_eq, fx]; rfl
        · rw [u1_ne q, fo z (by omega) q]; exact hn z hz
      · intro z hz
        rw [km.fi (by decide), kS.i (by decide)]; exact hy z hz
end CR
