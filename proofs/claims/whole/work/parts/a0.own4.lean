/-! ===== the reference's own record is kept ===== -/
section OS
variable {S T : sT} {s : Nat} {K : rK} {P L : List Nat} {t : Nat} {nb : Nat → Option (Nat × Nat)} {gv : Nat → Option Nat} {dm b1 b2 b3 : Nat}
theorem oRec_o {i : Nat} (h : i = 0 ∨ 4 ≤ i) : (oRec s b1 b2 b3 dm nb gv).getD i 0 = (oRec s 0 0 0 dm nb gv).getD i 0 := by
  match i, h with
  | 0, _ => rfl
  | 1, h => omega
  | 2, h => omega
  | 3, h => omega
  | j + 4, _ => rfl
theorem e223_c {g : Nat} {v7 : Int32} (hs5 : s < 5) (hK : rkS S s K) (k0 : ks [31] S T) (o0 : frO T (oRec s 0 0 0 dm nb gv)) (h31 : (oRec s 0 0 0 dm nb gv).length ≤ 31) (hKl : ∀ r L, K r = some L → 7 ≤ L.length ∧ L.length ≤ 31) (ht : S.1 3 0 = nI t) (e1 : ((isK (K s) + 1) >>> ((16 : Int32) &&& 31)) &&& 255 = nI b1) (e2 : ((isK (K s) + 1) >>> ((8 : Int32) &&& 31)) &&& 255 = nI b2) (e3 : (isK (K s) + 1) &&& 255 = nI b3) (hg : 100 < g) : ∃ T', ks [27, 28, 29, 30, 31] S T' ∧ rkS T' s (u1 K s (some (oRec s b1 b2 b3 dm nb gv))) ∧ T'.1 28 (5 * s + s) = nI t ∧ (∀ r, r ≠ 5 * s + s → T'.1 28 r = S.1 28 r) ∧ (∀ s' K', s' < 5 → s' ≠ s → rkS S s' K' → (∀ r L, K' r = some L → L.length ≤ 31) → rkS T' s' K') ∧ sdrive kS223 (g + 1) 264 [.inl (nI s), .inl (nI (oRec s 0 0 0 dm nb gv).length), .inl (nI (5 * s + s)), .inl 0, .inl v7] T = e222 (nI s) (nI s) (-1) (s_u T' 4 8 (T'.1 4 8 + 1)) := by
  have hlen : (oRec s b1 b2 b3 dm nb gv).length = (oRec s 0 0 0 dm nb gv).length := by rw [oRec_len, oRec_len]
  have h7 : 7 ≤ (oRec s 0 0 0 dm nb gv).length := by rw [oRec_len]; omega
  have hKT : rkS T s K := hK.ks k0 (by decide) (by decide) (by decide)
  have hKs := hKT s hs5
  let T1 := s_u T 31 1 (nI b1)
  let T2 := s_u T1 31 2 (nI b2)
  let T3 := s_u T2 31 3 (nI b3)
  have k3 : ks [31] S T3 := ((k0.tr (k_su : ks [31] T T1) rfl).tr (k_su : ks [31] T1 T2) rfl).tr k_su rfl
  have hT3 : ∀ i, i < (oRec s b1 b2 b3 dm nb gv).length → T3.1 31 i = nI ((oRec s b1 b2 b3 dm nb gv).getD i 0) := fun i hi => by
    show (s_u (s_u (s_u T 31 1 (nI b1)) 31 2 (nI b2)) 31 3 (nI b3)).1 31 i = _
    rw [su_eq, su_eq, su_eq]
    by_cases q3 : i = 3
    · subst q3; rw [u1_eq]; rfl
    rw [u1_ne q3]
    by_cases q2 : i = 2
    · subst q2; rw [u1_eq]; rfl
    rw [u1_ne q2]
    by_cases q1 : i = 1
    · subst q1; rw [u1_eq]; rfl
    rw [u1_ne q1, o0 i (by rw [← hlen]; exact hi) (by omega), oRec_o (b1 := b1) (b2 := b2) (b3 := b3) (by omega)]
  have h339 : ∀ v, v = isK (K s) + 1 → c223_339 (nI s) (nI (oRec s 0 0 0 dm nb gv).length) (nI (5 * s + s)) v T = some (.inr (386, [.inl (nI s), .inl (nI (oRec s 0 0 0 dm nb gv).length), .inl (nI (5 * s + s)), .inl (nI 0)], T3)) := fun v hv => by
    subst hv
    have y1 : s_s T 31 1 (nI b1) = some T1 := gs31 (i := 1) (by omega)
    have y2 : s_s T1 31 2 (nI b2) = some T2 := gs31 (i := 2) (by omega)
    have y3 : s_s T2 31 3 (nI b3) = some T3 := gs31 (i := 3) (by omega)
    unfold c223_339
    rw [e1, e2, e3, bd_s y1, bd_s y2, bd_s y3]
    rfl
  have g27 : s_a T 27 (nI (5 * s + s)) = some (T.1 27 (5 * s + s)) := ga27 (by omega)
  have h264 : kS223 264 [.inl (nI s), .inl (nI (oRec s 0 0 0 dm nb gv).length), .inl (nI (5 * s + s)), .inl 0, .inl v7] T = some (.inr (386, [.inl (nI s), .inl (nI (oRec s 0 0 0 dm nb gv).length), .inl (nI (5 * s + s)), .inl (nI 0)], T3)) := by
    show c223_264 (nI s) (nI (oRec s 0 0 0 dm nb gv).length) (nI (5 * s + s)) 0 v7 T = _
    rw [c264_0]
    unfold c223_311
    rw [if_pos rfl, bd_s g27]
    cases hL : K s with
    | none =>
      rw [hL] at hKs
      rw [if_pos (show T.1 27 (5 * s + s) = 0 from hKs)]
      exact h339 1 (by rw [hL]; decide)
    | some L =>
      rw [hL] at hKs
      rw [if_neg (show ¬ T.1 27 (5 * s + s) = 0 by rw [hKs.1]; decide), bd_s (e191_eq hs5 hs5 hKT hL (hKl s L hL).1 (hKl s L hL).2)]
      exact h339 _ rfl
  rw [sd_go h264]
  show ∃ T', _ ∧ _ ∧ _ ∧ _ ∧ _ ∧ sdrive kS223 g 386 [.inl (nI s), .inl (nI (oRec s 0 0 0 dm nb gv).length), .inl (nI (5 * s + s)), .inl (nI 0)] T3 = _
  rw [← hlen]
  rw [← hlen] at h31 h7
  generalize hPP : oRec s b1 b2 b3 dm nb gv = P at *
  obtain ⟨T4, j1, j2, j3, j4⟩ := k223_386 hs5 h31 P.length 0 T3 g hT3 (by omega) (by omega)
  let T5 := s_u T4 30 (5 * s + s) (nI P.length)
  let T6 := s_u T5 27 (5 * s + s) 1
  let T7 := s_u T6 28 (5 * s + s) (nI t)
  have k4 : ks [29, 31] S T4 := (ks.rf.tr k3 rfl : ks [29, 31] S T3).tr j2 rfl
  have k7 : ks [27, 28, 29, 30, 31] S T7 := (((ks.rf.tr k4 rfl : ks [27, 28, 29, 30, 31] S T4).tr (k_su : ks [30] T4 T5) rfl).tr (k_su : ks [27] T5 T6) rfl).tr (k_su : ks [28] T6 T7) rfl
  have a27 : T7.1 27 = u1 (S.1 27) (5 * s + s) 1 := by
    show (s_u T6 28 (5 * s + s) (nI t)).1 27 = _
    rw [su_ne (by decide)]
    show (s_u T5 27 (5 * s + s) 1).1 27 = _
    rw [su_eq]
    show u1 ((s_u T4 30 (5 * s + s) (nI P.length)).1 27) _ _ = _
    rw [su_ne (by decide), k4.i (by decide)]
  have a28 : T7.1 28 = u1 (S.1 28) (5 * s + s) (nI t) := by
    show (s_u T6 28 (5 * s + s) (nI t)).1 28 = _
    rw [su_eq]
    show u1 ((s_u T5 27 (5 * s + s) 1).1 28) _ _ = _
    rw [su_ne (by decide)]
    show u1 ((s_u T4 30 (5 * s + s) (nI P.length)).1 28) _ _ = _
    rw [su_ne (by decide), k4.i (by decide)]
  have a30 : T7.1 30 = u1 (S.1 30) (5 * s + s) (nI P.length) := by
    show (s_u T6 28 (5 * s + s) (nI t)).1 30 = _
    rw [su_ne (by decide)]
    show (s_u T5 27 (5 * s + s) 1).1 30 = _
    rw [su_ne (by decide)]
    show (s_u T4 30 (5 * s + s) (nI P.length)).1 30 = _
    rw [su_eq, k4.i (by decide)]
  have a29 : T7.1 29 = T4.1 29 := by
    show (s_u T6 28 (5 * s + s) (nI t)).1 29 = _
    rw [su_ne (by decide)]
    show (s_u T5 27 (5 * s + s) 1).1 29 = _
    rw [su_ne (by decide)]
    show (s_u T4 30 (5 * s + s) (nI P.length)).1 29 = _
    rw [su_ne (by decide)]
  have a29o : ∀ j, (j < 64 * (5 * s + s) ∨ 64 * (5 * s + s) + 64 ≤ j) → T7.1 29 j = S.1 29 j := fun j q => by rw [a29, j4 j (by omega), k3.i (by decide)]
  have oth : ∀ s' r (o : Option (List Nat)), r < 5 → 5 * s' + r ≠ 5 * s + s → (∀ L, o = some L → L.length ≤ 31) → (match o with
      | none => S.1 27 (5 * s' + r) = 0
      | some L => S.1 27 (5 * s' + r) = 1 ∧ S.1 30 (5 * s' + r) = nI L.length ∧ ∀ i, i < L.length → S.1 29 (64 * (5 * s' + r) + i) = nI (L.getD i 0)) → (match o with
      | none => T7.1 27 (5 * s' + r) = 0
      | some L => T7.1 27 (5 * s' + r) = 1 ∧ T7.1 30 (5 * s' + r) = nI L.length ∧ ∀ i, i < L.length → T7.1 29 (64 * (5 * s' + r) + i) = nI (L.getD i 0)) := fun s' r o hr hne hl h => by
    cases o with
    | none =>
      have h : S.1 27 (5 * s' + r) = 0 := h
      show T7.1 27 (5 * s' + r) = 0
      rw [a27, u1_ne hne]; exact h
    | some L =>
      obtain ⟨c1, c2, c3⟩ := h
      refine ⟨by rw [a27, u1_ne hne]; exact c1, by rw [a30, u1_ne hne]; exact c2, fun i hi => ?_⟩
      have := hl L rfl
      rw [a29o _ (by omega)]; exact c3 i hi
  refine ⟨T7, k7, fun r hr => ?_, by rw [a28, u1_eq], fun r hr => by rw [a28, u1_ne hr], fun s' K' h5 hne h hl r hr => ?_, ?_⟩
  · by_cases q : r = s
    · subst q
      rw [u1_eq]
      refine ⟨by rw [a27, u1_eq], by rw [a30, u1_eq], fun i hi => ?_⟩
      rw [a29]; exact j3 i (by omega) hi
    · rw [u1_ne q]
      exact oth s r (K r) hr (by omega) (fun L q2 => (hKl r L q2).2) (hK r hr)
  · exact oth s' r (K' r) hr (by omega) (hl r) (h r hr)
  · rw [j1]
    obtain ⟨f, hf⟩ : ∃ f, g - P.length = f + 1 := ⟨g - P.length - 1, by omega⟩
    rw [hf]
    have g4 : s_a T7 4 8 = some (T7.1 4 8) := ga4 (i := 8) (by omega)
    have y4 : s_s T7 4 8 (T7.1 4 8 + 1) = some (s_u T7 4 8 (T7.1 4 8 + 1)) := gs4 (i := 8) (by omega)
    have hsg : s_g T6 3 = nI t := by
      show T6.1 3 0 = _
      rw [(k_su : ks [27] T5 T6).i (by decide), (k_su : ks [30] T4 T5).i (by decide), k4.i (by decide), ht]
    have hb : kS223 386 [.inl (nI s), .inl (nI P.length), .inl (nI (5 * s + s)), .inl (nI P.length)] T4 = Option.bind (e222 (nI s) (nI s) (-1) (s_u T7 4 8 (T7.1 4 8 + 1))) fun q => some (.inl q) := by
      show c223_386 (nI s) (nI P.length) (nI (5 * s + s)) (nI P.length) T4 = _
      unfold c223_386
      rw [if_pos (show nI P.length ≤ nI P.length from nI_le (by omega) (by omega)), bd_s (gs30 (by omega) : s_s T4 30 (nI (5 * s + s)) (nI P.length) = some T5), bd_s (gs27_1 (by omega) : s_sz T5 27 (nI (5 * s + s)) 1 = some T6), hsg, bd_s (gs28 (by omega) : s_s T6 28 (nI (5 * s + s)) (nI t) = some T7), bd_s g4, bd_s y4]
    cases he : e222 (nI s) (nI s) (-1) (s_u T7 4 8 (T7.1 4 8 + 1)) with
    | none =>
      rw [he] at hb
      show sdrive kS223 (f + 1) 386 _ T4 = none
      unfold sdrive
      have hb : kS223 386 [.inl (nI s), .inl (nI P.length), .inl (nI (5 * s + s)), .inl (nI P.length)] T4 = none := hb
      rw [hb]
    | some q =>
      rw [he] at hb
      exact sd_end hb
end OS
