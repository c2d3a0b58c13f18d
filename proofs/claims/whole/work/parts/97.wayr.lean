/-! ===== the reference: sums, ways, who is off ===== -/
/-- the reference's records of switch s -/
def rkS (S : sT) (s : Nat) (K : rK) : Prop := ∀ r, r < 5 → match K r with
  | none => S.1 27 (5 * s + r) = 0
  | some L => S.1 27 (5 * s + r) = 1 ∧ S.1 30 (5 * s + r) = nI L.length ∧ ∀ i, i < L.length → S.1 29 (64 * (5 * s + r) + i) = nI (L.getD i 0)
/-- how long they are -/
def rKl (K : rK) : Prop := ∀ a L, K a = some L → 7 + 3 * L.getD 5 0 + 2 * L.getD (6 + 3 * L.getD 5 0) 0 = L.length ∧ L.length ≤ 31 ∧ (∀ i, L.getD i 0 < 256) ∧ 1 ≤ L.getD 4 0 ∧ L.getD 4 0 ≤ 15
section RW
variable {S : sT} {s : Nat} {K : rK}
theorem e190_eq {r i : Nat} {L : List Nat} (hs : s < 5) (hr : r < 5) (h : rkS S s K) (hL : K r = some L) (hi : i < L.length) (h31 : L.length ≤ 31) : e190 (nI s) (nI r) (nI i) S = some (nI (L.getD i 0), S) := by
  have hh := h r hr
  rw [hL] at hh
  obtain ⟨-, -, h3⟩ := hh
  have x1 : nI (5 * s) + nI r = nI (5 * s + r) := nI_add _ _
  have x2 : nI (64 * (5 * s + r)) + nI i = nI (64 * (5 * s + r) + i) := nI_add _ _
  have hb : 64 * (5 * s + r) + i < 1600 := by omega
  simp [e190, c190_0, ixl5, x1, ixl64, x2, ga29 hb, h3 i hi, s_out]
theorem e27 {r : Nat} (hs : s < 5) (hr : r < 5) : s_a S 27 (5 * nI s + nI r) = some (S.1 27 (5 * s + r)) := by
  rw [ixl5, nI_add, ga27 (by omega)]
theorem rgo_some {r i : Nat} {L : List Nat} (h : K r = some L) : rgo (K r) i = L.getD i 0 := by rw [h]; rfl
/-- tells -/
theorem e193_eq {r t : Nat} (hs : s < 5) (hr : r < 5) (ht : t < 5) (h : rkS S s K) (hl : rKl K) : e193 (nI s) (nI r) (nI t) S = some (nI (tlK K r t), S) := by
  have e7 := e27 (S := S) hs hr
  have hh := h r hr
  show s_go kS193 (c193_0 (nI s) (nI r) (nI t) S) = _
  cases hL : K r with
  | none =>
    rw [hL] at hh
    have hh : S.1 27 (5 * s + r) = 0 := hh
    have et : tlK K r t = 1000000 := by unfold tlK; rw [hL]; rfl
    rw [et]
    have : c193_0 (nI s) (nI r) (nI t) S = some (.inl (1000000, S)) := by simp [c193_0, e7, hh]
    rw [this]; rfl
  | some L =>
    rw [hL] at hh
    obtain ⟨h1, h2, h3⟩ := hh
    obtain ⟨l1, l2, l3, -⟩ := hl r L hL
    have hp := l3 5
    have h5 : e190 (nI s) (nI r) 5 S = some (nI (L.getD 5 0), S) := e190_eq (i := 5) hs hr h hL (by omega) l2
    have loop : ∀ d k acc fuel, k + d = L.getD 5 0 → d < fuel → acc ≤ 1000000 → sdrive kS193 fuel 23 [.inl (nI s), .inl (nI r), .inl (nI t), .inl (nI acc), .inl (nI k)] S = some (nI (tlo (K r) t k d acc), S) := by
      intro d
      induction d with
      | zero =>
        intro k acc fuel hk hf ha
        obtain ⟨g, rfl⟩ : ∃ g, fuel = g + 1 := ⟨fuel - 1, by omega⟩
        have c : nI (L.getD 5 0) ≤ nI k := nI_le (by omega) (by omega)
        refine sd_end ?_
        simp only [kS193, c193_23, h5, Option.bind_some, if_pos c, if_true]
        rfl
      | succ d ih =>
        intro k acc fuel hk hf ha
        obtain ⟨g, rfl⟩ : ∃ g, fuel = g + 1 := ⟨fuel - 1, by omega⟩
        have c : ¬ nI (L.getD 5 0) ≤ nI k := nI_ge (by omega) (by omega)
        have x7 : (7 : Int32) + nI (3 * k) = nI (7 + 3 * k) := nI_add 7 _
        have x8 : (8 : Int32) + nI (3 * k) = nI (8 + 3 * k) := nI_add 8 _
        have e7 : e190 (nI s) (nI r) (nI (7 + 3 * k)) S = some (nI (L.getD (7 + 3 * k) 0), S) := e190_eq hs hr h hL (by omega) l2
        have e8 : e190 (nI s) (nI r) (nI (8 + 3 * k)) S = some (nI (L.getD (8 + 3 * k) 0), S) := e190_eq hs hr h hL (by omega) l2
        have b7 := l3 (7 + 3 * k)
        have b8 := l3 (8 + 3 * k)
        show _ = some (nI (tlo (K r) t (k + 1) d (if rgo (K r) (7 + 3 * k) = t ∧ rgo (K r) (8 + 3 * k) < acc then rgo (K r) (8 + 3 * k) else acc)), S)
        rw [rgo_some hL, rgo_some hL]
        by_cases z : L.getD (7 + 3 * k) 0 = t
        · have z' : nI (L.getD (7 + 3 * k) 0) = nI t := by rw [z]
          by_cases y : L.getD (8 + 3 * k) 0 < acc
          · have y' : ¬ nI acc ≤ nI (L.getD (8 + 3 * k) 0) := nI_ge y (by omega)
            have hb : kS193 23 [.inl (nI s), .inl (nI r), .inl (nI t), .inl (nI acc), .inl (nI k)] S = some (.inr (23, [.inl (nI s), .inl (nI r), .inl (nI t), .inl (nI (L.getD (8 + 3 * k) 0)), .inl (nI (k + 1))], S)) := by
              simp only [kS193, c193_23, c193_85, h5, Option.bind_some, if_neg c, ixl3, x7, x8, e7, e8, if_pos z', if_neg y', nI_1, if_true]
            rw [sd_go hb, if_pos ⟨z, y⟩]
            exact ih (k + 1) _ g (by omega) (by omega) (by omega)
          · have y' : nI acc ≤ nI (L.getD (8 + 3 * k) 0) := nI_le (by omega) (by omega)
            have hb : kS193 23 [.inl (nI s), .inl (nI r), .inl (nI t), .inl (nI acc), .inl (nI k)] S = some (.inr (23, [.inl (nI s), .inl (nI r), .inl (nI t), .inl (nI acc), .inl (nI (k + 1))], S)) := by
              simp only [kS193, c193_23, c193_85, h5, Option.bind_some, if_neg c, ixl3, x7, x8, e7, e8, if_pos z', if_pos y', nI_1, if_true]
            rw [sd_go hb, if_neg (fun q => y q.2)]
            exact ih (k + 1) _ g (by omega) (by omega) ha
        · have z' : ¬ nI (L.getD (7 + 3 * k) 0) = nI t := fun q => z ((nI_eq (by omega) (by omega)).mp q)
          have hb : kS193 23 [.inl (nI s), .inl (nI r), .inl (nI t), .inl (nI acc), .inl (nI k)] S = some (.inr (23, [.inl (nI s), .inl (nI r), .inl (nI t), .inl (nI acc), .inl (nI (k + 1))], S)) := by
            simp only [kS193, c193_23, c193_85, h5, Option.bind_some, if_neg c, ixl3, x7, x8, e7, e8, if_neg z', nI_1, if_true]
          rw [sd_go hb, if_neg (fun q => z q.1)]
          exact ih (k + 1) _ g (by omega) (by omega) ha
    have hb0 : c193_0 (nI s) (nI r) (nI t) S = some (.inr (23, [.inl (nI s), .inl (nI r), .inl (nI t), .inl (nI 1000000), .inl (nI 0)], S)) := by
      have e0 : nI 0 = 0 := rfl
      have e1 : nI 1000000 = 1000000 := rfl
      simp [c193_0, e7, h1, e0, e1]
    rw [hb0]
    show sdrive kS193 xF 23 _ S = _
    rw [loop (L.getD 5 0) 0 1000000 xF (by omega) (by unfold xF; omega) (by omega)]
    unfold tlK
    rw [rgo_some hL]
/-- joined -/
theorem e194_eq {r t : Nat} (hs : s < 5) (hr : r < 5) (ht : t < 5) (h : rkS S s K) (hl : rKl K) : e194 (nI s) (nI r) (nI t) S = some (b2 (decide (tlK K r t < 1000000 ∧ tlK K t r < 1000000)), S) := by
  have e1 := e193_eq hs hr ht h hl
  have e2 := e193_eq hs ht hr h hl
  have la := tlK_le (K := K) (a := r) (b := t)
  have lb := tlK_le (K := K) (a := t) (b := r)
  by_cases c1 : tlK K r t < 1000000
  · have d1 : ¬ (1000000 : Int32) ≤ nI (tlK K r t) := nI_ge (b := 1000000) c1 (by omega)
    by_cases c2 : tlK K t r < 1000000
    · have d2 : ¬ (1000000 : Int32) ≤ nI (tlK K t r) := nI_ge (b := 1000000) c2 (by omega)
      simp [e194, c194_0, c194_28, c194_29, e1, e2, d1, d2, c1, c2, b2, s_out]
    · have d2 : (1000000 : Int32) ≤ nI (tlK K t r) := nI_le (a := 1000000) (by omega) (by omega)
      simp [e194, c194_0, c194_28, c194_29, e1, e2, d1, d2, c1, c2, b2, s_out]
  · have d1 : (1000000 : Int32) ≤ nI (tlK K r t) := nI_le (a := 1000000) (by omega) (by omega)
    simp [e194, c194_0, c194_28, c194_29, e1, d1, c1, b2, s_out]
/-- the sums lie in field 32 -/
def suR (S : sT) (D : Nat → Nat → Nat) : Prop := ∀ a b, a < 5 → b < 5 → S.1 32 (5 * a + b) = nI (D a b)
theorem rkS.ks {T : sT} {F : List Nat} (h : rkS S s K) (k : ks F S T) (h1 : F.contains 27 = false) (h2 : F.contains 30 = false) (h3 : F.contains 29 = false) : rkS T s K := by
  unfold rkS
  rw [k.i h1, k.i h2, k.i h3]
  exact h
theorem k195_9 (hs : s < 5) (hl : rKl K) {a : Nat} (ha : a < 5) : ∀ d b S fuel, rkS S s K → b + d = 5 → d < fuel → ∃ T, sdrive kS195 fuel 9 [.inl (nI s), .inl (nI a), .inl (nI b)] S = sdrive kS195 (fuel - (d + 1)) 2 [.inl (nI s), .inl (nI (a + 1))] T ∧ ks [32] S T ∧ (∀ j, b ≤ j → j < 5 → T.1 32 (5 * a + j) = nI (wK K a j)) ∧ ∀ i, (i < 5 * a + b ∨ 5 * a + 5 ≤ i) → T.1 32 i = S.1 32 i
  | 0, b, S, fuel, h, hb, hf => by
    obtain ⟨g, rfl⟩ : ∃ g, fuel = g + 1 := ⟨fuel - 1, by omega⟩
    have c : (5 : Int32) ≤ nI b := nI_le (a := 5) (by omega) (by omega)
    have hb' : kS195 9 [.inl (nI s), .inl (nI a), .inl (nI b)] S = some (.inr (2, [.inl (nI s), .inl (nI (a + 1))], S)) := by
      simp [kS195, c195_9, c, nI_1]
    exact ⟨S, by rw [sd_go hb']; rfl, ks.rf, fun j h1 h2 => by omega, fun _ _ => rfl⟩
  | d + 1, b, S, fuel, h, hb, hf => by
    obtain ⟨g, rfl⟩ : ∃ g, fuel = g + 1 := ⟨fuel - 1, by omega⟩
    have c : ¬ (5 : Int32) ≤ nI b := nI_ge (b := 5) (by omega) (by omega)
    have x1 : nI (5 * a) + nI b = nI (5 * a + b) := nI_add _ _
    have i1 : 5 * a + b < 25 := by omega
    have hb' : kS195 9 [.inl (nI s), .inl (nI a), .inl (nI b)] S = some (.inr (9, [.inl (nI s), .inl (nI a), .inl (nI (b + 1))], s_u S 32 (5 * a + b) (nI (wK K a b)))) := by
      unfold wK
      by_cases z : a = b
      · subst z
        rw [if_pos rfl]
        have e0 : nI 0 = 0 := rfl
        simp [kS195, c195_9, c195_54, c, ixl5, x1, gs32 i1, nI_1, e0]
      · have z' : ¬ nI a = nI b := fun q => z ((nI_eq (by omega) (by omega)).mp q)
        rw [if_neg z]
        have ej := e194_eq (r := a) (t := b) hs ha (by omega) h hl
        by_cases y : tlK K a b < 1000000 ∧ tlK K b a < 1000000
        · rw [if_pos y]
          rw [decide_eq_true y, b2_t] at ej
          have ev := e193_eq (r := a) (t := b) hs ha (by omega) h hl
          simp [kS195, c195_9, c195_54, c, z', ej, ev, ixl5, x1, gs32 i1, nI_1]
        · rw [if_neg y]
          rw [decide_eq_false y, b2_f] at ej
          have e0 : nI 1000000 = 1000000 := rfl
          simp [kS195, c195_9, c195_54, c, z', ej, ixl5, x1, gs32 i1, nI_1, e0]
    have k1 : ks [32] S (s_u S 32 (5 * a + b) (nI (wK K a b))) := k_su
    obtain ⟨T, j1, j2, j3, j4⟩ := k195_9 hs hl ha d (b + 1) _ g (h.ks k1 (by decide) (by decide) (by decide)) (by omega) (by omega)
    refine ⟨T, ?_, k1.tt j2 (fun _ q => q), fun j q1 q2 => ?_, fun i q => ?_⟩
    · rw [sd_go hb']
      show sdrive kS195 g 9 _ _ = _
      rw [j1, show g + 1 - (d + 1 + 1) = g - (d + 1) by omega]
    · by_cases z : j = b
      · subst z
        rw [j4 _ (by omega), su_eq, u1_eq]
      · exact j3 j (by omega) q2
    · rw [j4 i (by omega), su_eq, u1_ne (by omega)]
theorem k195_2 (hs : s < 5) (hl : rKl K) : ∀ d a S fuel, rkS S s K → a + d = 5 → 10 * d + 1 < fuel → (∀ r b, r < a → b < 5 → S.1 32 (5 * r + b) = nI (wK K r b)) → ∃ T fu, fuel ≤ fu + 10 * d + 1 ∧ sdrive kS195 fuel 2 [.inl (nI s), .inl (nI a)] S = sdrive kS195 fu 69 [.inl (nI 0)] T ∧ ks [32] S T ∧ suR T (wK K)
  | 0, a, S, fuel, h, ha, hf, hR => by
    obtain ⟨g, rfl⟩ : ∃ g, fuel = g + 1 := ⟨fuel - 1, by omega⟩
    have c : (5 : Int32) ≤ nI a := nI_le (a := 5) (by omega) (by omega)
    have e0 : nI 0 = 0 := rfl
    have hb' : kS195 2 [.inl (nI s), .inl (nI a)] S = some (.inr (69, [.inl (nI 0)], S)) := by
      simp [kS195, c195_2, c, e0]
    exact ⟨S, g, by omega, by rw [sd_go hb'], ks.rf, fun r b hr hb => hR r b (by omega) hb⟩
  | d + 1, a, S, fuel, h, ha, hf, hR => by
    obtain ⟨g, rfl⟩ : ∃ g, fuel = g + 1 := ⟨fuel - 1, by omega⟩
    have c : ¬ (5 : Int32) ≤ nI a := nI_ge (b := 5) (by omega) (by omega)
    have e0 : nI 0 = 0 := rfl
    have hb' : kS195 2 [.inl (nI s), .inl (nI a)] S = some (.inr (9, [.inl (nI s), .inl (nI a), .inl (nI 0)], S)) := by
      simp [kS195, c195_2, c, e0]
    obtain ⟨T1, i1, i2, i3, i4⟩ := k195_9 hs hl (a := a) (by omega) 5 0 S g h (by omega) (by omega)
    obtain ⟨T, fu, k0, k1, k2, k3⟩ := k195_2 hs hl d (a + 1) T1 (g - 6) (h.ks i2 (by decide) (by decide) (by decide)) (by omega) (by omega) (fun r b hr hb => by
      by_cases z : r = a
      · subst z; exact i3 b (by omega) hb
      · rw [i4 _ (by omega)]; exact hR r b (by omega) hb)
    refine ⟨T, fu, by omega, ?_, i2.tt k2 (fun _ q => q), k3⟩
    rw [sd_go hb']
    show sdrive kS195 g 9 _ S = _
    rw [i1, k1]
theorem k195_84 {m a : Nat} (hm : m < 5) (ha : a < 5) : ∀ d b S fuel D, suR S D → (∀ x y, D x y ≤ 1000000) → b + d = 5 → d < fuel → ∃ T, sdrive kS195 fuel 84 [.inl (nI m), .inl (nI a), .inl (nI b)] S = sdrive kS195 (fuel - (d + 1)) 76 [.inl (nI m), .inl (nI (a + 1))] T ∧ ks [32] S T ∧ suR T (fsb m a b d D)
  | 0, b, S, fuel, D, hD, hF, hb, hf => by
    obtain ⟨g, rfl⟩ : ∃ g, fuel = g + 1 := ⟨fuel - 1, by omega⟩
    have c : (5 : Int32) ≤ nI b := nI_le (a := 5) (by omega) (by omega)
    have hb' : kS195 84 [.inl (nI m), .inl (nI a), .inl (nI b)] S = some (.inr (76, [.inl (nI m), .inl (nI (a + 1))], S)) := by
      simp [kS195, c195_84, c, nI_1]
    exact ⟨S, by rw [sd_go hb']; rfl, ks.rf, hD⟩
  | d + 1, b, S, fuel, D, hD, hF, hb, hf => by
    obtain ⟨g, rfl⟩ : ∃ g, fuel = g + 1 := ⟨fuel - 1, by omega⟩
    have c : ¬ (5 : Int32) ≤ nI b := nI_ge (b := 5) (by omega) (by omega)
    have x1 : nI (5 * a) + nI b = nI (5 * a + b) := nI_add _ _
    have x2 : nI (5 * a) + nI m = nI (5 * a + m) := nI_add _ _
    have x3 : nI (5 * m) + nI b = nI (5 * m + b) := nI_add _ _
    have i1 : 5 * a + b < 25 := by omega
    have i2 : 5 * a + m < 25 := by omega
    have i3 : 5 * m + b < 25 := by omega
    have v1 := hD a b ha (by omega)
    have v2 := hD a m ha hm
    have v3 := hD m b hm (by omega)
    have l1 := hF a b
    have l2 := hF a m
    have l3 := hF m b
    have hadd : nI (D a m) + nI (D m b) = nI (D a m + D m b) := nI_add _ _
    have hif : (if nI (D a m + D m b) < nI (D a b) then nI (D a m + D m b) else nI (D a b)) = nI (min (D a b) (D a m + D m b)) := by
      by_cases z : D a m + D m b < D a b
      · rw [if_pos (nI_lt z (by omega)), Nat.min_eq_right (by omega)]
      · rw [if_neg (nI_nlt (by omega) (by omega)), Nat.min_eq_left (by omega)]
    have hb' : kS195 84 [.inl (nI m), .inl (nI a), .inl (nI b)] S = some (.inr (84, [.inl (nI m), .inl (nI a), .inl (nI (b + 1))], s_u S 32 (5 * a + b) (nI (min (D a b) (D a m + D m b))))) := by
      simp [kS195, c195_84, c, ixl5, x1, x2, x3, ga32 i1, ga32 i2, ga32 i3, v1, v2, v3, hadd, hif, gs32 i1, nI_1]
    have k1 : ks [32] S (s_u S 32 (5 * a + b) (nI (min (D a b) (D a m + D m b)))) := k_su
    have hD' : suR (s_u S 32 (5 * a + b) (nI (min (D a b) (D a m + D m b)))) (fs1 m a b D) := fun x y hx hy => by
      rw [su_eq]
      unfold fs1 u2
      by_cases z : x = a ∧ y = b
      · rw [if_pos z, z.1, z.2, u1_eq]
      · rw [if_neg z, u1_ne (fun q => z (by omega))]; exact hD x y hx hy
    obtain ⟨T, j1, j2, j3⟩ := k195_84 hm ha d (b + 1) _ g (fs1 m a b D) hD' (fs1_le hF) (by omega) (by omega)
    refine ⟨T, ?_, k1.tt j2 (fun _ q => q), j3⟩
    rw [sd_go hb']
    show sdrive kS195 g 84 _ _ = _
    rw [j1, show g + 1 - (d + 1 + 1) = g - (d + 1) by omega]
theorem k195_76 {m : Nat} (hm : m < 5) : ∀ d a S fuel D, suR S D → (∀ x y, D x y ≤ 1000000) → a + d = 5 → 10 * d + 1 < fuel → ∃ T fu, fuel ≤ fu + 10 * d + 1 ∧ sdrive kS195 fuel 76 [.inl (nI m), .inl (nI a)] S = sdrive kS195 fu 69 [.inl (nI (m + 1))] T ∧ ks [32] S T ∧ suR T (fsa 5 m a d D)
  | 0, a, S, fuel, D, hD, hF, ha, hf => by
    obtain ⟨g, rfl⟩ : ∃ g, fuel = g + 1 := ⟨fuel - 1, by omega⟩
    have c : (5 : Int32) ≤ nI a := nI_le (a := 5) (by omega) (by omega)
    have hb' : kS195 76 [.inl (nI m), .inl (nI a)] S = some (.inr (69, [.inl (nI (m + 1))], S)) := by
      simp [kS195, c195_76, c, nI_1]
    exact ⟨S, g, by omega, by rw [sd_go hb'], ks.rf, hD⟩
  | d + 1, a, S, fuel, D, hD, hF, ha, hf => by
    obtain ⟨g, rfl⟩ : ∃ g, fuel = g + 1 := ⟨fuel - 1, by omega⟩
    have c : ¬ (5 : Int32) ≤ nI a := nI_ge (b := 5) (by omega) (by omega)
    have e0 : nI 0 = 0 := rfl
    have hb' : kS195 76 [.inl (nI m), .inl (nI a)] S = some (.inr (84, [.inl (nI m), .inl (nI a), .inl (nI 0)], S)) := by
      simp [kS195, c195_76, c, e0]
    obtain ⟨T1, i1, i2, i3⟩ := k195_84 hm (a := a) (by omega) 5 0 S g D hD hF (by omega) (by omega)
    obtain ⟨T, fu, k0, k1, k2, k3⟩ := k195_76 hm d (a + 1) T1 (g - 6) (fsb m a 0 5 D) i3 (fsb_le 5 0 D hF) (by omega) (by omega)
    refine ⟨T, fu, by omega, ?_, i2.tt k2 (fun _ q => q), k3⟩
    rw [sd_go hb']
    show sdrive kS195 g 84 _ S = _
    rw [i1, k1]
theorem k195_69 : ∀ d m S fuel D, suR S D → (∀ x y, D x y ≤ 1000000) → m + d = 5 → 100 * d + 1 < fuel → ∃ T, sdrive kS195 fuel 69 [.inl (nI m)] S = some T ∧ ks [32] S T ∧ suR T (fsm 5 m d D)
  | 0, m, S, fuel, D, hD, hF, hm, hf => by
    obtain ⟨g, rfl⟩ : ∃ g, fuel = g + 1 := ⟨fuel - 1, by omega⟩
    have c : (5 : Int32) ≤ nI m := nI_le (a := 5) (by omega) (by omega)
    have hb' : kS195 69 [.inl (nI m)] S = some (.inl S) := by
      simp [kS195, c195_69, c]
    exact ⟨S, sd_end hb', ks.rf, hD⟩
  | d + 1, m, S, fuel, D, hD, hF, hm, hf => by
    obtain ⟨g, rfl⟩ : ∃ g, fuel = g + 1 := ⟨fuel - 1, by omega⟩
    have c : ¬ (5 : Int32) ≤ nI m := nI_ge (b := 5) (by omega) (by omega)
    have e0 : nI 0 = 0 := rfl
    have hb' : kS195 69 [.inl (nI m)] S = some (.inr (76, [.inl (nI m), .inl (nI 0)], S)) := by
      simp [kS195, c195_69, c, e0]
    obtain ⟨T1, fu, i0, i1, i2, i3⟩ := k195_76 (m := m) (by omega) 5 0 S g D hD hF (by omega) (by omega)
    obtain ⟨T, k1, k2, k3⟩ := k195_69 d (m + 1) T1 fu (fsa 5 m 0 5 D) i3 (fsa_le 5 0 D hF) (by omega) (by omega)
    refine ⟨T, ?_, i2.tt k2 (fun _ q => q), k3⟩
    rw [sd_go hb']
    show sdrive kS195 g 76 _ S = _
    rw [i1, k1]
/-- sums: also with rows of which nothing is known the same -/
theorem e195_eq {sw : Nat} (hs : s < 5) (h : rkS S s K) (hl : rKl K) (h5 : sw ≤ 5) (hK : rKo sw K) : ∃ T, e195 (nI s) S = some T ∧ ks [32] S T ∧ ∀ a b, a < sw → b < sw → T.1 32 (5 * a + b) = nI (dK sw K a b) := by
  obtain ⟨T1, fu, i0, i1, i2, i3⟩ := k195_2 hs hl 5 0 S xF h (by omega) (by unfold xF; omega) (fun r b hr => by omega)
  obtain ⟨T, j1, j2, j3⟩ := k195_69 5 0 T1 fu (wK K) i3 (fun x y => wK_le) (by omega) (by unfold xF at i0; omega)
  rw [fw_eq (wK_dg K)] at j3
  refine ⟨T, ?_, i2.tt j2 (fun _ q => q), fun a b ha hb => ?_⟩
  · show sdrive kS195 xF 2 [.inl (nI s), .inl (nI 0)] S = _
    rw [i1, j1]
  · rw [j3 a b (by omega) (by omega)]
    have nn : ∀ a, sw ≤ a → K a = none := fun a ha => by
      cases q : K a with
      | none => rfl
      | some L =>
        have := (hK a).1 (by rw [q]; intro z; cases z)
        omega
    have far : ∀ a b, sw ≤ a → tlK K a b = 1000000 := fun a b ha => by unfold tlK; rw [nn a ha]; rfl
    have := (phs_more (n := sw) (n5 := 5) (F := 1000000) (D := wK K) (D5 := wK K) h5 (wK_dg K) (wK_dg K) (fun _ _ _ _ => rfl) (fun a b ha hb hab hz => by
      unfold wK
      rw [if_neg hab]
      rcases hz with hz | hz
      · rw [far a b hz, if_neg (by omega)]
      · rw [far b a hz, if_neg (by omega)]) (fun a b _ _ => wK_le) 5 (by omega)).1 a b ha hb
    rw [this, show min 5 sw = sw by omega]
    rfl
end RW
