/-! ===== isRecord, hasForm, isTrue: the reference ===== -/
section TS
variable {S : sT} {f sw nd : Nat} {L : List Int32}
theorem k172_a (h : rdS S f L) (h0 : S.1 0 0 = nI sw) {p q : Nat} (hp : 19 + 3 * p ≤ L.length) : ∀ d k is last fuel, k + d = p → d < fuel → (is = 0 ∨ is = 1) → sdrive kS172 fuel 107 [.inl (nI f), .inl (nI p), .inl (nI q), .inl is, .inl last, .inl (nI k)] S = sdrive kS172 (fuel - d - 1) 225 [.inl (nI f), .inl (nI p), .inl (nI q), .inl (if is = 0 then 0 else b2 (rnb sw L (19 + 3 * k) last d)), .inl (-1), .inl 0, .inl (nI 0)] S
  | 0, k, is, last, fuel, hk, hf, hi => by
    obtain ⟨g, rfl⟩ : ∃ g, fuel = g + 1 := ⟨fuel - 1, by omega⟩
    have := h.2.2.1
    have e : nI p ≤ nI k := nI_le (by omega) (by omega)
    have e0 : nI 0 = 0 := rfl
    have hb : kS172 107 [.inl (nI f), .inl (nI p), .inl (nI q), .inl is, .inl last, .inl (nI k)] S = some (.inr (225, [.inl (nI f), .inl (nI p), .inl (nI q), .inl is, .inl (-1), .inl 0, .inl (nI 0)], S)) := by
      simp [kS172, c172_107, e, e0]
    rw [sd_go hb]
    rcases hi with rfl | rfl
    · rfl
    · rfl
  | d + 1, k, is, last, fuel, hk, hf, hi => by
    obtain ⟨g, rfl⟩ : ∃ g, fuel = g + 1 := ⟨fuel - 1, by omega⟩
    have h80 := h.2.2.1
    have e : ¬ nI p ≤ nI k := nI_ge (by omega) (by omega)
    have x9 : (19 : Int32) + nI (3 * k) = nI (19 + 3 * k) := nI_add 19 _
    have x1 : nI (19 + 3 * k) + 1 = nI (19 + 3 * k + 1) := nI_add _ 1
    have x2 : nI (19 + 3 * k) + 2 = nI (19 + 3 * k + 2) := nI_add _ 2
    have e6 : e165 (nI f) (nI (19 + 3 * k)) S = some (nI (bn L (19 + 3 * k)), S) := r165 h (by omega)
    have e7 : e165 (nI f) (nI (19 + 3 * k + 1)) S = some (nI (bn L (19 + 3 * k + 1)), S) := r165 h (by omega)
    have e8 : e165 (nI f) (nI (19 + 3 * k + 2)) S = some (nI (bn L (19 + 3 * k + 2)), S) := r165 h (by omega)
    have go : ∀ r : Int32, (r = 0 ∨ r = 1) → kS172 107 [.inl (nI f), .inl (nI p), .inl (nI q), .inl is, .inl last, .inl (nI k)] S = some (.inr (107, [.inl (nI f), .inl (nI p), .inl (nI q), .inl r, .inl (nI (bn L (19 + 3 * k))), .inl (nI (k + 1))], S)) → sdrive kS172 (g + 1) 107 [.inl (nI f), .inl (nI p), .inl (nI q), .inl is, .inl last, .inl (nI k)] S = sdrive kS172 (g - d - 1) 225 [.inl (nI f), .inl (nI p), .inl (nI q), .inl (if r = 0 then 0 else b2 (rnb sw L (19 + 3 * k + 3) (nI (bn L (19 + 3 * k))) d)), .inl (-1), .inl 0, .inl (nI 0)] S := by
      intro r hr hb
      rw [sd_go hb]
      show sdrive kS172 g 107 _ S = _
      rw [k172_a h h0 hp d (k + 1) r _ g (by omega) (by omega) hr, show 19 + 3 * (k + 1) = 19 + 3 * k + 3 by omega]
    rw [show g + 1 - (d + 1) - 1 = g - d - 1 by omega]
    rcases hi with rfl | rfl
    · rw [go 0 (Or.inl rfl) (by simp [kS172, c172_107, c172_198, c172_199, e, ixl3, x9, e6, nI_1]), if_pos rfl, if_pos rfl]
    · have n0 : ¬ (1 : Int32) = 0 := by decide
      rw [if_neg n0]
      unfold rnb
      by_cases c1 : nI (bn L (19 + 3 * k)) ≤ last
      · rw [go 0 (Or.inl rfl) (by simp [kS172, c172_107, c172_198, c172_199, e, ixl3, x9, e6, c1, nI_1]), if_pos rfl, if_pos c1]; rfl
      by_cases c2 : 8 ≤ nI (bn L (19 + 3 * k))
      · rw [go 0 (Or.inl rfl) (by simp [kS172, c172_107, c172_198, c172_199, e, ixl3, x9, e6, c1, c2, nI_1]), if_pos rfl, if_neg c1, if_pos c2]; rfl
      by_cases c3 : nI sw ≤ nI (bn L (19 + 3 * k + 1))
      · rw [go 0 (Or.inl rfl) (by simp [kS172, c172_107, c172_198, c172_199, e, ixl3, x9, x1, e6, e7, c1, c2, s_g, h0, c3, nI_1]), if_pos rfl, if_neg c1, if_neg c2, if_pos c3]; rfl
      by_cases c4 : nI (bn L (19 + 3 * k + 2)) < 1
      · rw [go 0 (Or.inl rfl) (by simp [kS172, c172_107, c172_198, c172_199, e, ixl3, x9, x1, x2, e6, e7, e8, c1, c2, s_g, h0, c3, c4, nI_1]), if_pos rfl, if_neg c1, if_neg c2, if_neg c3, if_pos c4]; rfl
      by_cases c5 : nI (bn L (19 + 3 * k + 2)) ≤ 9
      · have c5' : ¬ (9 : Int32) < nI (bn L (19 + 3 * k + 2)) := Int32.not_lt.mpr c5
        rw [go 1 (Or.inr rfl) (by simp [kS172, c172_107, c172_198, c172_199, e, ixl3, x9, x1, x2, e6, e7, e8, c1, c2, s_g, h0, c3, c4, c5', nI_1]), if_neg n0, if_neg c1, if_neg c2, if_neg c3, if_neg c4, if_pos c5]
      · have c5' : (9 : Int32) < nI (bn L (19 + 3 * k + 2)) := Int32.not_le.mp c5
        rw [go 0 (Or.inl rfl) (by simp [kS172, c172_107, c172_198, c172_199, e, ixl3, x9, x1, x2, e6, e7, e8, c1, c2, s_g, h0, c3, c4, c5', nI_1]), if_pos rfl, if_neg c1, if_neg c2, if_neg c3, if_neg c4, if_neg c5]; rfl
theorem an1 (x : Int32) : x &&& 1 = 0 ∨ x &&& 1 = 1 := by
  obtain ⟨j, h1, h2⟩ := pk_andE x (m := 1) 1 (by decide)
  have : j = 0 ∨ j = 1 := by omega
  rcases this with rfl | rfl
  · exact Or.inl h2
  · exact Or.inr h2
theorem k172_b (h : rdS S f L) (h1 : S.1 1 0 = nI nd) {p q : Nat} (hp : 20 + 3 * p + 2 * q ≤ L.length) : ∀ d k is last seen fuel, k + d = q → d < fuel → (is = 0 ∨ is = 1) → sdrive kS172 fuel 225 [.inl (nI f), .inl (nI p), .inl (nI q), .inl is, .inl last, .inl seen, .inl (nI k)] S = some (if is = 0 then 0 else b2 (rno nd L (20 + 3 * p + 2 * k) last seen d), S)
  | 0, k, is, last, seen, fuel, hk, hf, hi => by
    obtain ⟨g, rfl⟩ : ∃ g, fuel = g + 1 := ⟨fuel - 1, by omega⟩
    have := h.2.2.1
    have e : nI q ≤ nI k := nI_le (by omega) (by omega)
    refine sd_end ?_
    rcases hi with rfl | rfl
    · simp [kS172, c172_225, e]
    · simp [kS172, c172_225, e, rno, b2]
  | d + 1, k, is, last, seen, fuel, hk, hf, hi => by
    obtain ⟨g, rfl⟩ : ∃ g, fuel = g + 1 := ⟨fuel - 1, by omega⟩
    have h80 := h.2.2.1
    have e : ¬ nI q ≤ nI k := nI_ge (by omega) (by omega)
    have x9 : (20 : Int32) + nI (3 * p) = nI (20 + 3 * p) := nI_add 20 _
    have x10 : nI (20 + 3 * p) + nI (2 * k) = nI (20 + 3 * p + 2 * k) := nI_add _ _
    have x1 : nI (20 + 3 * p + 2 * k) + 1 = nI (20 + 3 * p + 2 * k + 1) := nI_add _ 1
    have e6 : e165 (nI f) (nI (20 + 3 * p + 2 * k)) S = some (nI (bn L (20 + 3 * p + 2 * k)), S) := r165 h (by omega)
    have e7 : e165 (nI f) (nI (20 + 3 * p + 2 * k + 1)) S = some (nI (bn L (20 + 3 * p + 2 * k + 1)), S) := r165 h (by omega)
    have go : ∀ r s : Int32, (r = 0 ∨ r = 1) → kS172 225 [.inl (nI f), .inl (nI p), .inl (nI q), .inl is, .inl last, .inl seen, .inl (nI k)] S = some (.inr (225, [.inl (nI f), .inl (nI p), .inl (nI q), .inl r, .inl (nI (bn L (20 + 3 * p + 2 * k + 1))), .inl s, .inl (nI (k + 1))], S)) → sdrive kS172 (g + 1) 225 [.inl (nI f), .inl (nI p), .inl (nI q), .inl is, .inl last, .inl seen, .inl (nI k)] S = some (if r = 0 then 0 else b2 (rno nd L (20 + 3 * p + 2 * k + 2) (nI (bn L (20 + 3 * p + 2 * k + 1))) s d), S) := by
      intro r s hr hb
      rw [sd_go hb]
      show sdrive kS172 g 225 _ S = _
      rw [k172_b h h1 hp d (k + 1) r _ s g (by omega) (by omega) hr, show 20 + 3 * p + 2 * (k + 1) = 20 + 3 * p + 2 * k + 2 by omega]
    rcases hi with rfl | rfl
    · rw [go 0 seen (Or.inl rfl) (by simp [kS172, c172_225, c172_311, c172_312, c172_333, e, ixl3, ixl2, x9, x10, x1, e7, nI_1]), if_pos rfl, if_pos rfl]
    · have n0 : ¬ (1 : Int32) = 0 := by decide
      rw [if_neg n0]
      unfold rno
      by_cases c3 : nI nd ≤ nI (bn L (20 + 3 * p + 2 * k))
      · rw [go 0 seen (Or.inl rfl) (by simp [kS172, c172_225, c172_311, c172_312, c172_333, e, ixl3, ixl2, x9, x10, x1, e6, e7, s_g, h1, c3, nI_1]), if_pos rfl]
        by_cases c1 : nI (bn L (20 + 3 * p + 2 * k + 1)) ≤ last
        · rw [if_pos c1]; rfl
        by_cases c2 : 8 ≤ nI (bn L (20 + 3 * p + 2 * k + 1))
        · rw [if_neg c1, if_pos c2]; rfl
        · rw [if_neg c1, if_neg c2, if_pos c3]; rfl
      rcases an1 (seen >>> (nI (bn L (20 + 3 * p + 2 * k)) &&& 31)) with c4 | c4
      · have c4' : ¬ ((seen >>> (nI (bn L (20 + 3 * p + 2 * k)) &&& 31)) &&& 1) = 1 := by rw [c4]; decide
        by_cases c1 : nI (bn L (20 + 3 * p + 2 * k + 1)) ≤ last
        · rw [go 0 seen (Or.inl rfl) (by simp [kS172, c172_225, c172_311, c172_312, c172_333, e, ixl3, ixl2, x9, x10, x1, e6, e7, s_g, h1, c3, c4, c1, nI_1]), if_pos rfl, if_pos c1]; rfl
        by_cases c2 : 8 ≤ nI (bn L (20 + 3 * p + 2 * k + 1))
        · rw [go 0 seen (Or.inl rfl) (by simp [kS172, c172_225, c172_311, c172_312, c172_333, e, ixl3, ixl2, x9, x10, x1, e6, e7, s_g, h1, c3, c4, c1, c2, nI_1]), if_pos rfl, if_neg c1, if_pos c2]; rfl
        rw [go 1 (seen ||| ((1 : Int32) <<< (nI (bn L (20 + 3 * p + 2 * k)) &&& 31))) (Or.inr rfl) (by simp [kS172, c172_225, c172_311, c172_312, c172_333, e, ixl3, ixl2, x9, x10, x1, e6, e7, s_g, h1, c3, c4, c1, c2, nI_1]), if_neg n0, if_neg c1, if_neg c2, if_neg c3, if_neg c4']
      · have c4' : ¬ ((seen >>> (nI (bn L (20 + 3 * p + 2 * k)) &&& 31)) &&& 1) = 0 := by rw [c4]; decide
        rw [go 0 seen (Or.inl rfl) (by simp [kS172, c172_225, c172_311, c172_312, c172_333, e, ixl3, ixl2, x9, x10, x1, e6, e7, s_g, h1, c3, c4', nI_1]), if_pos rfl]
        by_cases c1 : nI (bn L (20 + 3 * p + 2 * k + 1)) ≤ last
        · rw [if_pos c1]; rfl
        by_cases c2 : 8 ≤ nI (bn L (20 + 3 * p + 2 * k + 1))
        · rw [if_neg c1, if_pos c2]; rfl
        · rw [if_neg c1, if_neg c2, if_neg c3, if_pos c4]; rfl
theorem e172_eq (h : rdS S f L) (h0 : S.1 0 0 = nI sw) (h1 : S.1 1 0 = nI nd) (hs8 : sw < 256) (h17 : 17 ≤ L.length) : e172 (nI f) (nI (L.length - 17)) S = some (b2 (rcF sw nd L), S) := by
  have h80 := h.2.2.1
  show s_go kS172 (c172_0 (nI f) (nI (L.length - 17)) S) = _
  unfold rcF
  by_cases c1 : L.length < 24
  · have c1' : ¬ (7 : Int32) ≤ nI (L.length - 17) := nI_ge (b := 7) (by omega) (by omega)
    have : c172_0 (nI f) (nI (L.length - 17)) S = some (.inl (0, S)) := by simp [c172_0, c1']
    rw [this, if_pos c1]; rfl
  have c1' : (7 : Int32) ≤ nI (L.length - 17) := nI_le (a := 7) (by omega) (by omega)
  rw [if_neg c1]
  have e18 : e165 (nI f) 18 S = some (nI (bn L 18), S) := r165 (i := 18) h (by omega)
  have hp8 := bn_lt L 18
  have x7 : (7 : Int32) + nI (3 * bn L 18) = nI (7 + 3 * bn L 18) := nI_add 7 _
  have x19 : (19 : Int32) + nI (3 * bn L 18) = nI (19 + 3 * bn L 18) := nI_add 19 _
  by_cases c2 : L.length < 24 + 3 * bn L 18
  · have c2' : ¬ nI (7 + 3 * bn L 18) ≤ nI (L.length - 17) := nI_ge (by omega) (by omega)
    have : c172_0 (nI f) (nI (L.length - 17)) S = some (.inl (0, S)) := by simp [c172_0, c1', e18, ixl3, x7, c2']
    rw [this, if_pos c2]; rfl
  have c2' : nI (7 + 3 * bn L 18) ≤ nI (L.length - 17) := nI_le (by omega) (by omega)
  rw [if_neg c2]
  have e19 : e165 (nI f) (nI (19 + 3 * bn L 18)) S = some (nI (bn L (19 + 3 * bn L 18)), S) := r165 h (by omega)
  have hq8 := bn_lt L (19 + 3 * bn L 18)
  have x8 : nI (7 + 3 * bn L 18) + nI (2 * bn L (19 + 3 * bn L 18)) = nI (7 + 3 * bn L 18 + 2 * bn L (19 + 3 * bn L 18)) := nI_add _ _
  by_cases c3 : 24 + 3 * bn L 18 + 2 * bn L (19 + 3 * bn L 18) = L.length
  · have c3' : nI (7 + 3 * bn L 18 + 2 * bn L (19 + 3 * bn L 18)) = nI (L.length - 17) := by congr 1; omega
    rw [if_neg (fun q => q c3)]
    have e17 : e165 (nI f) 17 S = some (nI (bn L 17), S) := r165 (i := 17) h (by omega)
    have e13 : e165 (nI f) 13 S = some (nI (bn L 13), S) := r165 (i := 13) h (by omega)
    have b13 := bn_lt L 13
    have b17 := bn_lt L 17
    have fin : ∀ r : Int32, (r = 0 ∨ r = 1) → c172_0 (nI f) (nI (L.length - 17)) S = some (.inr (107, [.inl (nI f), .inl (nI (bn L 18)), .inl (nI (bn L (19 + 3 * bn L 18))), .inl r, .inl (-1), .inl (nI 0)], S)) → s_go kS172 (c172_0 (nI f) (nI (L.length - 17)) S) = some (if r = 0 then 0 else b2 (rnb sw L 19 (-1) (bn L 18) && rno nd L (20 + 3 * bn L 18) (-1) 0 (bn L (19 + 3 * bn L 18))), S) := by
      intro r hr hb
      rw [hb]
      show sdrive kS172 xF 107 _ S = _
      rw [k172_a h h0 (by omega) (bn L 18) 0 r (-1) xF (by omega) (by unfold xF; omega) hr]
      rw [k172_b h h1 (by omega) (bn L (19 + 3 * bn L 18)) 0 _ (-1) 0 (xF - bn L 18 - 1) (by omega) (by unfold xF; omega) (by
        rcases hr with rfl | rfl
        · exact Or.inl rfl
        · rw [if_neg (by decide)]; exact b2_01 _)]
      rcases hr with rfl | rfl
      · rfl
      · have n0 : ¬ (1 : Int32) = 0 := by decide
        rw [if_neg n0, if_neg n0]
        cases rnb sw L (19 + 3 * 0) (-1) (bn L 18) with
        | false => rfl
        | true => rfl
    have e0 : nI 0 = 0 := rfl
    by_cases c4 : sw ≤ bn L 13
    · have c4' : nI sw ≤ nI (bn L 13) := nI_le c4 (by omega)
      rw [fin 0 (Or.inl rfl) (by simp [c172_0, c172_98, c172_99, c1', e18, ixl3, ixl2, x7, x19, c2', e19, x8, c3', e17, e13, s_g, h0, c4', e0]), if_pos rfl, if_pos c4]; rfl
    have c4' : ¬ nI sw ≤ nI (bn L 13) := nI_ge (by omega) (by omega)
    by_cases c5 : bn L 17 < 1
    · have c5' : nI (bn L 17) < 1 := nI_lt (b := 1) c5 (by omega)
      rw [fin 0 (Or.inl rfl) (by simp [c172_0, c172_98, c172_99, c1', e18, ixl3, ixl2, x7, x19, c2', e19, x8, c3', e17, e13, s_g, h0, c4', c5', e0]), if_pos rfl, if_neg c4, if_pos c5]; rfl
    have c5' : ¬ nI (bn L 17) < 1 := nI_nlt (b := 1) (by omega) (by omega)
    by_cases c6 : 15 < bn L 17
    · have c6' : (15 : Int32) < nI (bn L 17) := nI_lt (a := 15) c6 (by omega)
      rw [fin 0 (Or.inl rfl) (by simp [c172_0, c172_98, c172_99, c1', e18, ixl3, ixl2, x7, x19, c2', e19, x8, c3', e17, e13, s_g, h0, c4', c5', c6', e0]), if_pos rfl, if_neg c4, if_neg c5, if_pos c6]; rfl
    have c6' : ¬ (15 : Int32) < nI (bn L 17) := nI_nlt (a := 15) (by omega) (by omega)
    rw [fin 1 (Or.inr rfl) (by simp [c172_0, c172_98, c172_99, c1', e18, ixl3, ixl2, x7, x19, c2', e19, x8, c3', e17, e13, s_g, h0, c4', c5', c6', e0]), if_neg (by decide), if_neg c4, if_neg c5, if_neg c6]
  · have c3' : ¬ nI (7 + 3 * bn L 18 + 2 * bn L (19 + 3 * bn L 18)) = nI (L.length - 17) := fun q => c3 (by have := (nI_eq (by omega) (by omega)).mp q; omega)
    have : c172_0 (nI f) (nI (L.length - 17)) S = some (.inl (0, S)) := by simp [c172_0, c1', e18, ixl3, ixl2, x7, x19, c2', e19, x8, c3']
    rw [this, if_pos c3]; rfl
end TS
