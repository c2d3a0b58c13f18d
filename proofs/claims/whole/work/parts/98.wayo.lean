/-! ===== the reference: wayTo, isReached, isOff, wayOut ===== -/
/-- whether one of the k lowest is reached and has the domain of t -/
def oPr (n : Nat) (K : rK) (s t : Nat) : Nat → Bool
  | 0 => false
  | k + 1 => oPr n K s t k || ((K k).isSome && (K t).isSome && decide (rgo (K k) 4 = rgo (K t) 4) && decide (k = s ∨ wyK n K s k ≠ -1))
theorem oPr_iff {n : Nat} {K : rK} {s t : Nat} (hl : rKl K) : ∀ k, oPr n K s t k = true ↔ (K t).isSome = true ∧ ∃ q, q < k ∧ (q = s ∨ wyK n K s q ≠ -1) ∧ rgo (K q) 4 = rgo (K t) 4
  | 0 => ⟨fun q => (by cases q), fun ⟨_, q, h, _⟩ => by omega⟩
  | k + 1 => by
    show (oPr n K s t k || _) = true ↔ _
    rw [Bool.or_eq_true, oPr_iff hl k]
    constructor
    · rintro (⟨h1, q, q1, q2, q3⟩ | h)
      · exact ⟨h1, q, by omega, q2, q3⟩
      · simp only [Bool.and_eq_true, decide_eq_true_eq] at h
        exact ⟨h.1.1.2, k, by omega, h.2, h.1.2⟩
    · rintro ⟨h1, q, q1, q2, q3⟩
      by_cases z : q = k
      · subst z
        right
        simp only [Bool.and_eq_true, decide_eq_true_eq]
        refine ⟨⟨⟨?_, h1⟩, q3⟩, q2⟩
        cases hq : K q with
        | some L => rfl
        | none =>
          cases ht : K t with
          | none => rw [ht] at h1; cases h1
          | some L =>
            rw [rgo_some ht, hq] at q3
            have q3 : 0 = L.getD 4 0 := q3
            have := (hl t L ht).2.2.2.1
            omega
      · exact Or.inl ⟨h1, q, by omega, q2, q3⟩
section RW
variable {S : sT} {s sw : Nat} {K : rK}
/-- wayTo, behind sums -/
theorem e196_eq {t : Nat} (hs : s < sw) (h5 : sw ≤ 5) (ht : t < sw) (hts : t ≠ s) (h : rkS S s K) (hl : rKl K) (hK : rKo sw K) (hD : ∀ a b, a < sw → b < sw → S.1 32 (5 * a + b) = nI (dK sw K a b)) : e196 (nI s) (nI t) S = some (wyK sw K s t, S) := by
  rw [← wy_same hK hs ht hts]
  have e7 := e27 (S := S) (s := s) (r := s) (by omega) (by omega)
  have hh := h s (by omega)
  show s_go kS196 (c196_0 (nI s) (nI t) S) = _
  cases hL : K s with
  | none =>
    rw [hL] at hh
    have hh : S.1 27 (5 * s + s) = 0 := hh
    have : c196_0 (nI s) (nI t) S = some (.inl (-1, S)) := by simp [c196_0, e7, hh]
    rw [this]; rfl
  | some L =>
    rw [hL] at hh
    obtain ⟨h1, h2, h3⟩ := hh
    obtain ⟨l1, l2, l3, -⟩ := hl s L hL
    have hp := l3 5
    have g5 : e190 (nI s) (nI s) 5 S = some (nI (L.getD 5 0), S) := e190_eq (i := 5) (by omega) (by omega) h hL (by omega) l2
    have loop : ∀ d k best port fuel, k + d = L.getD 5 0 → d < fuel → best ≤ 1000000 → sdrive kS196 fuel 25 [.inl (nI s), .inl (nI t), .inl (nI best), .inl port, .inl (nI k)] S = some (wyr sw K s t k d best port, S) := by
      intro d
      induction d with
      | zero =>
        intro k best port fuel hk hf hb
        obtain ⟨g, rfl⟩ : ∃ g, fuel = g + 1 := ⟨fuel - 1, by omega⟩
        have c : nI (L.getD 5 0) ≤ nI k := nI_le (by omega) (by omega)
        refine sd_end ?_
        simp only [kS196, c196_25, g5, Option.bind_some, if_pos c, if_true]
        rfl
      | succ d ih =>
        intro k best port fuel hk hf hbst
        obtain ⟨g, rfl⟩ : ∃ g, fuel = g + 1 := ⟨fuel - 1, by omega⟩
        have c : ¬ nI (L.getD 5 0) ≤ nI k := nI_ge (by omega) (by omega)
        have x6 : (6 : Int32) + nI (3 * k) = nI (6 + 3 * k) := nI_add 6 _
        have x7 : (7 : Int32) + nI (3 * k) = nI (7 + 3 * k) := nI_add 7 _
        have x8 : (8 : Int32) + nI (3 * k) = nI (8 + 3 * k) := nI_add 8 _
        have r6 := rgo_some (i := 6 + 3 * k) hL
        have r7 := rgo_some (i := 7 + 3 * k) hL
        have r8 := rgo_some (i := 8 + 3 * k) hL
        have g6 : e190 (nI s) (nI s) (nI (6 + 3 * k)) S = some (nI (rgo (K s) (6 + 3 * k)), S) := by rw [r6]; exact e190_eq (by omega) (by omega) h hL (by omega) l2
        have g7 : e190 (nI s) (nI s) (nI (7 + 3 * k)) S = some (nI (rgo (K s) (7 + 3 * k)), S) := by rw [r7]; exact e190_eq (by omega) (by omega) h hL (by omega) l2
        have g8 : e190 (nI s) (nI s) (nI (8 + 3 * k)) S = some (nI (rgo (K s) (8 + 3 * k)), S) := by rw [r8]; exact e190_eq (by omega) (by omega) h hL (by omega) l2
        obtain ⟨b1, b2', b3, b4⟩ := (hK s).2 k (by rw [rgo_some hL]; omega)
        have stay : kS196 25 [.inl (nI s), .inl (nI t), .inl (nI best), .inl port, .inl (nI k)] S = some (.inr (25, [.inl (nI s), .inl (nI t), .inl (nI best), .inl port, .inl (nI (k + 1))], S)) → sdrive kS196 (g + 1) 25 [.inl (nI s), .inl (nI t), .inl (nI best), .inl port, .inl (nI k)] S = some (wyr sw K s t (k + 1) d best port, S) := fun hb => by
          rw [sd_go hb]
          exact ih (k + 1) best port g (by omega) (by omega) hbst
        unfold wyr
        by_cases z : rgo (K s) (7 + 3 * k) = s
        · have z' : nI (rgo (K s) (7 + 3 * k)) = nI s := by rw [z]
          rw [if_pos z]
          exact stay (by simp only [kS196, c196_25, c196_123, g5, Option.bind_some, if_neg c, ixl3, x7, g7, if_pos z', nI_1, if_true])
        · have z' : ¬ nI (rgo (K s) (7 + 3 * k)) = nI s := fun q => z ((nI_eq (by omega) (by omega)).mp q)
          rw [if_neg z]
          have ej := e194_eq (r := s) (t := rgo (K s) (7 + 3 * k)) (by omega) (by omega) (by omega) h hl
          by_cases y : tlK K s (rgo (K s) (7 + 3 * k)) < 1000000 ∧ tlK K (rgo (K s) (7 + 3 * k)) s < 1000000
          · rw [if_pos y]
            rw [decide_eq_true y, b2_t] at ej
            have n1 : ¬ (1 : Int32) = 0 := by decide
            have xn : nI (5 * rgo (K s) (7 + 3 * k)) + nI t = nI (5 * rgo (K s) (7 + 3 * k) + t) := nI_add _ _
            have i1 : 5 * rgo (K s) (7 + 3 * k) + t < 25 := by omega
            have v := hD _ t b1 ht
            have l1 := dK_le (n := sw) (K := K) (a := rgo (K s) (7 + 3 * k)) (b := t)
            have hadd : nI (rgo (K s) (8 + 3 * k)) + nI (dK sw K (rgo (K s) (7 + 3 * k)) t) = nI (rgo (K s) (8 + 3 * k) + dK sw K (rgo (K s) (7 + 3 * k)) t) := nI_add _ _
            by_cases w : rgo (K s) (8 + 3 * k) + dK sw K (rgo (K s) (7 + 3 * k)) t < best
            · have w' : ¬ nI best ≤ nI (rgo (K s) (8 + 3 * k) + dK sw K (rgo (K s) (7 + 3 * k)) t) := nI_ge w (by omega)
              have hb : kS196 25 [.inl (nI s), .inl (nI t), .inl (nI best), .inl port, .inl (nI k)] S = some (.inr (25, [.inl (nI s), .inl (nI t), .inl (nI (rgo (K s) (8 + 3 * k) + dK sw K (rgo (K s) (7 + 3 * k)) t)), .inl (nI (rgo (K s) (6 + 3 * k))), .inl (nI (k + 1))], S)) := by
                simp only [kS196, c196_25, c196_123, g5, Option.bind_some, if_neg c, ixl3, x6, x7, x8, g6, g7, g8, if_neg z', ej, if_neg n1, ixl5, xn, ga32 i1, v, hadd, if_neg w', nI_1, if_true]
              rw [sd_go hb, if_pos w]
              exact ih (k + 1) _ _ g (by omega) (by omega) (by omega)
            · have w' : nI best ≤ nI (rgo (K s) (8 + 3 * k) + dK sw K (rgo (K s) (7 + 3 * k)) t) := nI_le (by omega) (by omega)
              rw [if_neg w]
              exact stay (by simp only [kS196, c196_25, c196_123, g5, Option.bind_some, if_neg c, ixl3, x6, x7, x8, g6, g7, g8, if_neg z', ej, if_neg n1, ixl5, xn, ga32 i1, v, hadd, if_pos w', nI_1, if_true])
          · rw [if_neg y]
            rw [decide_eq_false y, b2_f] at ej
            exact stay (by simp only [kS196, c196_25, c196_123, g5, Option.bind_some, if_neg c, ixl3, x7, g7, if_neg z', ej, if_true, nI_1])
    have hb0 : c196_0 (nI s) (nI t) S = some (.inr (25, [.inl (nI s), .inl (nI t), .inl (nI 1000000), .inl (-1), .inl (nI 0)], S)) := by
      have e0 : nI 0 = 0 := rfl
      have e1 : nI 1000000 = 1000000 := rfl
      simp [c196_0, e7, h1, e0, e1]
    rw [hb0]
    show sdrive kS196 xF 25 _ S = _
    rw [loop (L.getD 5 0) 0 1000000 (-1) xF (by omega) (by unfold xF; omega) (by omega), ← hL, rgo_some hL]
theorem e197_eq {t : Nat} (hs : s < sw) (h5 : sw ≤ 5) (ht : t < sw) (h : rkS S s K) (hl : rKl K) (hK : rKo sw K) (hD : ∀ a b, a < sw → b < sw → S.1 32 (5 * a + b) = nI (dK sw K a b)) : e197 (nI s) (nI t) S = some (b2 (decide (t = s ∨ wyK sw K s t ≠ -1)), S) := by
  by_cases z : t = s
  · subst z
    simp [e197, c197_0, c197_15, c197_20, b2, s_out]
  · have z' : ¬ nI t = nI s := fun q => z ((nI_eq (by omega) (by omega)).mp q)
    have e := e196_eq hs h5 ht z h hl hK hD
    by_cases y : wyK sw K s t = -1
    · simp [e197, c197_0, c197_15, c197_20, z', e, y, z, b2, s_out]
    · simp [e197, c197_0, c197_15, c197_20, z', e, y, z, b2, s_out]
theorem e198_eq {r : Nat} (hs : s < 5) (hr : r < 5) (h : rkS S s K) (hl : rKl K) : e198 (nI s) (nI r) S = some (if (K r).isSome then nI (rgo (K r) 4) else -1, S) := by
  have e7 := e27 (S := S) hs hr
  have hh := h r hr
  cases hL : K r with
  | none =>
    rw [hL] at hh
    have hh : S.1 27 (5 * s + r) = 0 := hh
    simp [e198, c198_0, c198_24, e7, hh, s_out]
  | some L =>
    rw [hL] at hh
    obtain ⟨h1, h2, h3⟩ := hh
    obtain ⟨l1, l2, l3, -⟩ := hl r L hL
    have g4 : e190 (nI s) (nI r) 4 S = some (nI (L.getD 4 0), S) := e190_eq (i := 4) hs hr h hL (by omega) l2
    have er : rgo (some L) 4 = L.getD 4 0 := rfl
    rw [er]
    have n1 : ¬ (1 : Int32) = 0 := by decide
    simp only [e198, c198_0, c198_24, e7, h1, Option.bind_some, if_neg n1, g4, s_out, Option.isSome_some, if_true]
theorem e199_eq {t : Nat} (hs : s < sw) (h5 : sw ≤ 5) (ht : t < sw) (h : rkS S s K) (hl : rKl K) (hK : rKo sw K) (hD : ∀ a b, a < sw → b < sw → S.1 32 (5 * a + b) = nI (dK sw K a b)) : e199 (nI s) (nI t) S = some (b2 (oPr sw K s t t), S) := by
  have e8t := e198_eq (r := t) (by omega) (by omega) h hl
  have lt256 : ∀ r, rgo (K r) 4 < 256 := fun r => by
    cases q : K r with
    | none => show 0 < 256; omega
    | some L => exact (hl r L q).2.2.1 4
  have loop : ∀ d k fuel, k + d = t → d < fuel → sdrive kS199 fuel 5 [.inl (nI s), .inl (nI t), .inl (b2 (oPr sw K s t k)), .inl (nI k)] S = some (b2 (oPr sw K s t t), S) := by
    intro d
    induction d with
    | zero =>
      intro k fuel hk hf
      obtain ⟨g, rfl⟩ : ∃ g, fuel = g + 1 := ⟨fuel - 1, by omega⟩
      have : k = t := by omega
      subst this
      have c : nI k ≤ nI k := nI_le (by omega) (by omega)
      refine sd_end ?_
      simp [kS199, c199_5, c, b2_01]
    | succ d ih =>
      intro k fuel hk hf
      obtain ⟨g, rfl⟩ : ∃ g, fuel = g + 1 := ⟨fuel - 1, by omega⟩
      have c : ¬ nI t ≤ nI k := nI_ge (by omega) (by omega)
      have e8 := e198_eq (r := k) (by omega) (by omega) h hl
      have e7 := e197_eq (t := k) hs h5 (by omega) h hl hK hD
      have go : kS199 5 [.inl (nI s), .inl (nI t), .inl (b2 (oPr sw K s t k)), .inl (nI k)] S = some (.inr (5, [.inl (nI s), .inl (nI t), .inl (b2 (oPr sw K s t (k + 1))), .inl (nI (k + 1))], S)) := by
        have eo : oPr sw K s t (k + 1) = (oPr sw K s t k || ((K k).isSome && (K t).isSome && decide (rgo (K k) 4 = rgo (K t) 4) && decide (k = s ∨ wyK sw K s k ≠ -1))) := rfl
        rw [eo]
        cases ho : oPr sw K s t k with
        | true => simp [kS199, c199_5, c199_52, c199_57, c, b2, nI_1]
        | false =>
          cases hk1 : (K k).isSome with
          | false =>
            rw [hk1] at e8
            simp [kS199, c199_5, c199_56, c199_57, c, b2, nI_1, e8]
          | true =>
            rw [hk1] at e8
            have m1 := nI_m1 (n := rgo (K k) 4) (by have := lt256 k; omega)
            cases hk2 : (K t).isSome with
            | false =>
              rw [hk2] at e8t
              simp [kS199, c199_5, c199_56, c199_57, c, b2, nI_1, e8, m1, e8t]
            | true =>
              rw [hk2] at e8t
              by_cases z : rgo (K k) 4 = rgo (K t) 4
              · have z' : nI (rgo (K k) 4) = nI (rgo (K t) 4) := by rw [z]
                rw [z'] at e8 m1
                by_cases y : k = s ∨ wyK sw K s k ≠ -1
                · rw [decide_eq_true y] at e7
                  simp [kS199, c199_5, c199_52, c199_56, c199_57, c, b2, nI_1, e8, m1, e8t, e7, z, decide_eq_true y]
                · rw [decide_eq_false y] at e7
                  simp [kS199, c199_5, c199_52, c199_56, c199_57, c, b2, nI_1, e8, m1, e8t, e7, z, decide_eq_false y]
              · have z' : ¬ nI (rgo (K k) 4) = nI (rgo (K t) 4) := fun q => z ((nI_eq (by have := lt256 k; omega) (by have := lt256 t; omega)).mp q)
                simp [kS199, c199_5, c199_52, c199_56, c199_57, c, b2, nI_1, e8, m1, e8t, z', z]
      rw [sd_go go]
      exact ih (k + 1) g (by omega) (by omega)
  exact loop t 0 xF (by omega) (by unfold xF; omega)
/-- off, by both reckonings -/
theorem off_same (hs : s < sw) (h5 : sw ≤ 5) (hl : rKl K) : oPr sw K s s s = ofK sw K s := by
  unfold ofK
  cases hk : K s with
  | none =>
    have : ¬ oPr sw K s s s = true := fun q => by
      have := ((oPr_iff hl s).mp q).1
      rw [hk] at this
      cases this
    simpa using this
  | some L =>
    have d1 := (hl s L hk).2.2.2
    have hr : rgo (K s) 4 = L.getD 4 0 := rgo_some hk
    have hho : hoK sw K s (rgo (some L) 4) = hoP sw K s (rgo (K s) 4) sw := by
      unfold hoK
      rw [← hk, if_neg (by rw [hr]; omega)]
    rw [hho]
    have iff := hoP_iff (n := sw) (K := K) (s := s) (d := rgo (K s) 4) (r := s) (by omega) hs
    by_cases z : hoP sw K s (rgo (K s) 4) sw = nI s
    · have : ¬ oPr sw K s s s = true := fun q => by
        obtain ⟨-, p, p1, p2, p3⟩ := (oPr_iff hl s).mp q
        exact (iff.mp z).2.2 p p1 ⟨p2, p3⟩
      rw [z]
      simpa using this
    · have : oPr sw K s s s = true := by
        by_cases q : oPr sw K s s s = true
        · exact q
        · refine absurd (iff.mpr ⟨Or.inl rfl, rfl, fun p p1 p2 => q ((oPr_iff hl s).mpr ⟨by rw [hk]; rfl, p, p1, p2.1, p2.2⟩)⟩) z
      rw [this]
      simp [z]
/-- isOffItself -/
theorem e200_eq (hs : s < sw) (h5 : sw ≤ 5) (h : rkS S s K) (hl : rKl K) (hK : rKo sw K) : ∃ T, e200 (nI s) S = some (b2 (ofK sw K s), T) ∧ ks [32] S T := by
  obtain ⟨T, t1, t2, t3⟩ := e195_eq (by omega) h hl h5 hK
  have e := e199_eq hs h5 hs (h.ks t2 (by decide) (by decide) (by decide)) hl hK t3
  rw [off_same hs h5 hl] at e
  refine ⟨T, ?_, t2⟩
  have := b2_01 (ofK sw K s)
  simp [e200, c200_0, t1, e, this, s_out]
/-- the class's wayTo -/
def wtK (n : Nat) (K : rK) (s e : Nat) : Int32 := if 16 ≤ e then -1 else if hoK n K s e = -1 then -1 else wyK n K s (hoK n K s e).toNatClampNeg
theorem e201_eq {e : Nat} (hs : s < sw) (h5 : sw ≤ 5) (he : e < 256) (h0 : S.1 0 0 = nI sw) (h : rkS S s K) (hl : rKl K) (hK : rKo sw K) : ∃ T, e201 (nI s) (nI e) S = some (wtK sw K s e, T) ∧ ks [32] S T := by
  obtain ⟨T, t1, t2, t3⟩ := e195_eq (by omega) h hl h5 hK
  have hT := h.ks t2 (by decide) (by decide) (by decide)
  have h0' : T.1 0 0 = nI sw := by rw [t2.i (by decide)]; exact h0
  have dm : ∀ r, (K r).isSome = true → 1 ≤ rgo (K r) 4 ∧ rgo (K r) 4 ≤ 15 := fun r hr => by
    cases q : K r with
    | none => rw [q] at hr; cases hr
    | some L => exact (hl r L q).2.2.2
  have lt256 : ∀ r, rgo (K r) 4 < 256 := fun r => by
    cases q : K r with
    | none => show 0 < 256; omega
    | some L => exact (hl r L q).2.2.1 4
  have loop : ∀ d r fuel, r + d = sw → d < fuel → (∀ q, q < r → ¬ ((q = s ∨ wyK sw K s q ≠ -1) ∧ rgo (K q) 4 = e ∧ (K q).isSome = true)) → sdrive kS201 fuel 7 [.inl (nI s), .inl (nI e), .inl (nI r)] T = some (wtK sw K s e, T) := by
    intro d
    induction d with
    | zero =>
      intro r fuel hr hf hno
      obtain ⟨g, rfl⟩ : ∃ g, fuel = g + 1 := ⟨fuel - 1, by omega⟩
      have c : nI sw ≤ nI r := nI_le (by omega) (by omega)
      have ew : wtK sw K s e = -1 := by
        unfold wtK
        by_cases z : 16 ≤ e
        · rw [if_pos z]
        · rw [if_neg z]
          have : hoK sw K s e = -1 := by
            unfold hoK
            by_cases y : e = 0
            · rw [if_pos y]
            · rw [if_neg y]
              rcases hoP_rg (n := sw) (K := K) (s := s) (d := e) sw (by omega) with q | ⟨p, p1, p2, p3, p4, -⟩
              · exact q
              · refine absurd ⟨p3, p4, ?_⟩ (hno p (by omega))
                cases q : K p with
                | some L => rfl
                | none => rw [q] at p4; exact absurd p4.symm y
          rw [if_pos this]
      rw [ew]
      refine sd_end ?_
      simp [kS201, c201_7, s_g, h0', c]
    | succ d ih =>
      intro r fuel hr hf hno
      obtain ⟨g, rfl⟩ : ∃ g, fuel = g + 1 := ⟨fuel - 1, by omega⟩
      have c : ¬ nI sw ≤ nI r := nI_ge (by omega) (by omega)
      have hrs : r < sw := by omega
      have e8 := e198_eq (r := r) (by omega) (by omega) hT hl
      have e7 := e197_eq (t := r) hs h5 hrs hT hl hK t3
      have e9 := e199_eq (t := r) hs h5 hrs hT hl hK t3
      have next : kS201 7 [.inl (nI s), .inl (nI e), .inl (nI r)] T = some (.inr (7, [.inl (nI s), .inl (nI e), .inl (nI (r + 1))], T)) → ¬ ((r = s ∨ wyK sw K s r ≠ -1) ∧ rgo (K r) 4 = e ∧ (K r).isSome = true) → sdrive kS201 (g + 1) 7 [.inl (nI s), .inl (nI e), .inl (nI r)] T = some (wtK sw K s e, T) := fun hb hn => by
        rw [sd_go hb]
        exact ih (r + 1) g (by omega) (by omega) (fun q hq => by
          by_cases z : q = r
          · subst z; exact hn
          · exact hno q (by omega))
      cases hk : (K r).isSome with
      | false =>
        rw [hk] at e8
        have m1 : ¬ (-1 : Int32) = nI e := fun q => nI_m1 (n := e) (by omega) q.symm
        exact next (by simp [kS201, c201_7, c201_59, s_g, h0', c, e8, m1, nI_1]) (fun q => by rw [hk] at q; cases q.2.2)
      | true =>
        rw [hk] at e8
        by_cases z : rgo (K r) 4 = e
        · have z' : nI (rgo (K r) 4) = nI e := by rw [z]
          rw [z'] at e8
          by_cases y : r = s ∨ wyK sw K s r ≠ -1
          · rw [decide_eq_true y] at e7
            have hd := dm r hk
            have hoff : oPr sw K s r r = false := by
              by_cases q : oPr sw K s r r = true
              · obtain ⟨-, p, p1, p2, p3⟩ := (oPr_iff hl r).mp q
                refine absurd ⟨p2, p3.trans z, ?_⟩ (hno p p1)
                cases w : K p with
                | some L => rfl
                | none => rw [w] at p3; have p3 : 0 = rgo (K r) 4 := p3; omega
              · simpa using q
            rw [hoff] at e9
            have hho : hoK sw K s e = nI r := by
              unfold hoK
              rw [if_neg (by omega)]
              refine (hoP_iff (n := sw) (by omega) hrs).mpr ⟨y, z, fun p p1 p2 => ?_⟩
              refine hno p p1 ⟨p2.1, p2.2, ?_⟩
              cases w : K p with
              | some L => rfl
              | none => have p3 := p2.2; rw [w] at p3; have p3 : 0 = e := p3; omega
            have ew : wtK sw K s e = wyK sw K s r := by
              unfold wtK
              rw [if_neg (by omega), hho, if_neg (nI_m1 (by omega)), nI_clamp (by omega)]
            rw [ew]
            refine sd_end ?_
            by_cases x : r = s
            · subst x
              have e1 : wyK sw K r r = -1 := if_pos rfl
              rw [e1]
              simp [kS201, c201_7, c201_58, s_g, h0', c, e8, e7, e9, b2]
            · have x' : ¬ nI r = nI s := fun q => x ((nI_eq (by omega) (by omega)).mp q)
              have e6 := e196_eq hs h5 hrs x hT hl hK t3
              simp [kS201, c201_7, c201_58, s_g, h0', c, e8, e7, e9, b2, x', e6]
          · rw [decide_eq_false y] at e7
            exact next (by simp [kS201, c201_7, c201_59, s_g, h0', c, e8, e7, b2, nI_1]) (fun q => y q.1)
        · have z' : ¬ nI (rgo (K r) 4) = nI e := fun q => z ((nI_eq (by have := lt256 r; omega) (by omega)).mp q)
          exact next (by simp [kS201, c201_7, c201_59, s_g, h0', c, e8, z', nI_1]) (fun q => z q.2.1)
  refine ⟨T, ?_, t2⟩
  have e0 : nI 0 = 0 := rfl
  have hb0 : c201_0 (nI s) (nI e) S = some (.inr (7, [.inl (nI s), .inl (nI e), .inl (nI 0)], T)) := by
    simp [c201_0, t1, e0]
  show s_go kS201 (c201_0 (nI s) (nI e) S) = _
  rw [hb0]
  exact loop sw 0 xF (by omega) (by unfold xF; omega) (fun q hq => by omega)
end RW
