/-! ===== the reference's own record: compared, numbered, kept ===== -/
section OR
variable {S T : sT} {s : Nat} {K : rK} {P L : List Nat} {t ks' : Nat}
theorem c264_0 {v7 : Int32} {l v : Int32} : c223_264 (nI s) l v 0 v7 S = c223_311 (nI s) l v 0 S := by
  unfold c223_264
  split
  · rfl
  · rw [if_pos rfl]
/-- the comparing loop -/
theorem k223_264 (hs5 : s < 5) (hK : rkS S s K) (hL : K s = some L) (hl : L.length = P.length) (h31 : P.length ≤ 31) (hP : ∀ i, 4 ≤ i → i < P.length → S.1 31 i = nI (P.getD i 0)) (hLb : ∀ i, L.getD i 0 < 256) (hPb : ∀ i, P.getD i 0 < 256) : ∀ d k fuel, k + d = P.length → 4 ≤ k → d + 1 < fuel → ((∀ i, k ≤ i → i < P.length → L.getD i 0 = P.getD i 0) ∧ sdrive kS223 fuel 264 [.inl (nI s), .inl (nI P.length), .inl (nI (5 * s + s)), .inl 1, .inl (nI k)] S = some S) ∨ ((¬ ∀ i, k ≤ i → i < P.length → L.getD i 0 = P.getD i 0) ∧ ∃ g v7, fuel ≤ g + 1 + (d + 1) ∧ sdrive kS223 fuel 264 [.inl (nI s), .inl (nI P.length), .inl (nI (5 * s + s)), .inl 1, .inl (nI k)] S = sdrive kS223 (g + 1) 264 [.inl (nI s), .inl (nI P.length), .inl (nI (5 * s + s)), .inl 0, .inl v7] S)
  | 0, k, fuel, hd, h4, hf => by
    left
    obtain ⟨f, rfl⟩ : ∃ f, fuel = f + 1 := ⟨fuel - 1, by omega⟩
    refine ⟨fun i q1 q2 => by omega, sd_end ?_⟩
    show c223_264 (nI s) (nI P.length) (nI (5 * s + s)) 1 (nI k) S = _
    unfold c223_264
    rw [if_pos (show nI P.length ≤ nI k from nI_le (by omega) (by omega))]
    unfold c223_311
    rw [if_neg (show ¬ (1 : Int32) = 0 by decide)]
  | d + 1, k, fuel, hd, h4, hf => by
    obtain ⟨f, rfl⟩ : ∃ f, fuel = f + 1 := ⟨fuel - 1, by omega⟩
    have hKs := hK s hs5
    rw [hL] at hKs
    have a1 : s_a S 29 (64 * nI (5 * s + s) + nI k) = some (nI (L.getD k 0)) := by
      rw [ixl64, nI_add, ga29 (by omega), hKs.2.2 k (by omega)]
    have a2 : s_a S 31 (nI k) = some (nI (P.getD k 0)) := by rw [ga31 (by omega), hP k h4 (by omega)]
    have hbb : kS223 264 [.inl (nI s), .inl (nI P.length), .inl (nI (5 * s + s)), .inl 1, .inl (nI k)] S = some (.inr (264, [.inl (nI s), .inl (nI P.length), .inl (nI (5 * s + s)), .inl (if L.getD k 0 = P.getD k 0 then 1 else 0), .inl (nI (k + 1))], S)) := by
      show c223_264 (nI s) (nI P.length) (nI (5 * s + s)) 1 (nI k) S = _
      unfold c223_264
      rw [if_neg (show ¬ nI P.length ≤ nI k from nI_ge (by omega) (by omega)), if_neg (show ¬ (1 : Int32) = 0 by decide), bd_s a1, bd_s a2]
      have q := nI_eq (a := L.getD k 0) (b := P.getD k 0) (by have := hLb k; omega) (by have := hPb k; omega)
      by_cases z : L.getD k 0 = P.getD k 0
      · rw [if_pos (q.mpr z), if_pos z]; unfold c223_303; rw [nI_1]
      · rw [if_neg (fun y => z (q.mp y)), if_neg z]; unfold c223_303; rw [nI_1]
    rw [sd_go hbb]
    by_cases z : L.getD k 0 = P.getD k 0
    · rw [if_pos z]
      rcases k223_264 hs5 hK hL hl h31 hP hLb hPb d (k + 1) f (by omega) (by omega) (by omega) with ⟨j1, j2⟩ | ⟨j1, g, v7, j2, j3⟩
      · left
        exact ⟨fun i q1 q2 => by
          by_cases y : i = k
          · subst y; exact z
          · exact j1 i (by omega) q2, j2⟩
      · right
        exact ⟨fun q => j1 (fun i q1 q2 => q i (by omega) q2), g, v7, by omega, j3⟩
    · rw [if_neg z]
      right
      obtain ⟨g, rfl⟩ : ∃ g, f = g + 1 := ⟨f - 1, by omega⟩
      exact ⟨fun q => z (q k (by omega) (by omega)), g, _, by omega, rfl⟩
/-- the copying loop -/
theorem k223_386 (hs5 : s < 5) (h31 : P.length ≤ 31) : ∀ d k S fuel, (∀ i, i < P.length → S.1 31 i = nI (P.getD i 0)) → k + d = P.length → d < fuel → ∃ T, sdrive kS223 fuel 386 [.inl (nI s), .inl (nI P.length), .inl (nI (5 * s + s)), .inl (nI k)] S = sdrive kS223 (fuel - d) 386 [.inl (nI s), .inl (nI P.length), .inl (nI (5 * s + s)), .inl (nI P.length)] T ∧ ks [29] S T ∧ (∀ i, k ≤ i → i < P.length → T.1 29 (64 * (5 * s + s) + i) = nI (P.getD i 0)) ∧ ∀ j, (j < 64 * (5 * s + s) + k ∨ 64 * (5 * s + s) + 64 ≤ j) → T.1 29 j = S.1 29 j
  | 0, k, S, fuel, hX, hd, hf => by
    have : k = P.length := by omega
    subst this
    exact ⟨S, rfl, ks.rf, fun i h1 h2 => by omega, fun _ _ => rfl⟩
  | d + 1, k, S, fuel, hX, hd, hf => by
    obtain ⟨g, rfl⟩ : ∃ g, fuel = g + 1 := ⟨fuel - 1, by omega⟩
    have a2 : s_a S 31 (nI k) = some (nI (P.getD k 0)) := by rw [ga31 (by omega), hX k (by omega)]
    have hb' : kS223 386 [.inl (nI s), .inl (nI P.length), .inl (nI (5 * s + s)), .inl (nI k)] S = some (.inr (386, [.inl (nI s), .inl (nI P.length), .inl (nI (5 * s + s)), .inl (nI (k + 1))], s_u S 29 (64 * (5 * s + s) + k) (nI (P.getD k 0)))) := by
      show c223_386 (nI s) (nI P.length) (nI (5 * s + s)) (nI k) S = _
      unfold c223_386
      rw [if_neg (show ¬ nI P.length ≤ nI k from nI_ge (by omega) (by omega)), bd_s a2, ixl64, nI_add, bd_s (gs29 (by omega)), nI_1]
    have k1 : ks [29] S (s_u S 29 (64 * (5 * s + s) + k) (nI (P.getD k 0))) := k_su
    obtain ⟨T, j1, j2, j3, j4⟩ := k223_386 hs5 h31 d (k + 1) (s_u S 29 (64 * (5 * s + s) + k) (nI (P.getD k 0))) g (fun i hi => by rw [su_ne (by decide)]; exact hX i hi) (by omega) (by omega)
    refine ⟨T, ?_, k1.tt j2 (fun _ q => q), fun i q1 q2 => ?_, fun j q => ?_⟩
    · rw [sd_go hb']
      show sdrive kS223 g 386 _ _ = _
      rw [j1, show g + 1 - (d + 1) = g - d by omega]
    · by_cases z : i = k
      · subst z; rw [j4 _ (by omega), su_eq, u1_eq]
      · exact j3 i (by omega) q2
    · rw [j4 j (by omega), su_eq, u1_ne (by omega)]
/-- fresh enough and alike, or not -/
theorem e223_b {nb : Nat → Option (Nat × Nat)} {gv : Nat → Option Nat} {wo : Nat → Nat} {dm : Nat} (hs5 : s < 5) (hnb : nbR S s nb wo) (hgv : gvR S s gv) (hdm : S.1 26 s = nI dm) (HD : ∀ p, nb p = none ∨ gv p = none) (hK : rkS S s K) (hlt : ∀ i, (oRec s 0 0 0 dm nb gv).getD i 0 < 256) (hKl : ∀ L, K s = some L → L.length ≤ 31 ∧ ∀ i, L.getD i 0 < 256) (ht : S.1 3 0 = nI t) (ht2 : t ≤ 200000) (hka : K s ≠ none → S.1 28 (5 * s + s) = nI ks' ∧ ks' ≤ t) : ∃ T, ks [31] S T ∧ frO T (oRec s 0 0 0 dm nb gv) ∧ (((∃ L, K s = some L ∧ sme L (oRec s 0 0 0 dm nb gv) ∧ t < ks' + 40) ∧ e223 (nI s) S = some T) ∨ ((¬ ∃ L, K s = some L ∧ sme L (oRec s 0 0 0 dm nb gv) ∧ t < ks' + 40) ∧ ∃ g v7, 800000 < g ∧ e223 (nI s) S = sdrive kS223 (g + 1) 264 [.inl (nI s), .inl (nI (oRec s 0 0 0 dm nb gv).length), .inl (nI (5 * s + s)), .inl 0, .inl v7] T)) := by
  obtain ⟨T0, f, hf, e0, k0, o0⟩ := e223_a hs5 hnb hgv hdm HD
  have hc := both_le HD 8 0
  have hlen := oRec_len (s := s) (i1 := 0) (i2 := 0) (i3 := 0) (dm := dm) (nb := nb) (gv := gv)
  have h31 : (oRec s 0 0 0 dm nb gv).length ≤ 31 := by rw [hlen]; omega
  generalize hT1 : s_u T0 31 (6 + 3 * nbc nb 0 8) (nI (gvc gv 0 8)) = T1 at o0
  have k1 : ks [31] S T1 := by rw [← hT1]; exact k0.tr k_su rfl
  generalize hPP : oRec s 0 0 0 dm nb gv = P at *
  refine ⟨T1, k1, o0, ?_⟩
  have e8 : (8 : Int32) ≤ nI 8 := by decide
  have x5 : (5 : Int32) * nI s + nI s = nI (5 * s + s) := by rw [ixl5, nI_add]
  have g31 : s_s T0 31 (nI (6 + 3 * nbc nb 0 8)) (nI (gvc gv 0 8)) = some T1 := by rw [gs31 (by omega), hT1]
  have g27 : s_a T1 27 (nI (5 * s + s)) = some (S.1 27 (5 * s + s)) := by rw [ga27 (by omega), k1.i (by decide)]
  have g30 : s_a T1 30 (nI (5 * s + s)) = some (S.1 30 (5 * s + s)) := by rw [ga30 (by omega), k1.i (by decide)]
  have g28 : s_a T1 28 (nI (5 * s + s)) = some (S.1 28 (5 * s + s)) := by rw [ga28 (by omega), k1.i (by decide)]
  have g3 : s_g T1 3 = nI t := by show T1.1 3 0 = _; rw [k1.i (by decide), ht]
  have hKs := hK s hs5
  have away : c223_132 (nI s) (nI P.length) (nI (gvc gv 0 8)) (nI (6 + 3 * nbc nb 0 8)) (nI 8) T0 = c223_258 (nI s) (nI P.length) (nI (5 * s + s)) T1 → ∃ g v7, 800000 < g ∧ e223 (nI s) S = sdrive kS223 (g + 1) 264 [.inl (nI s), .inl (nI P.length), .inl (nI (5 * s + s)), .inl 0, .inl v7] T1 := fun q => by
    obtain ⟨g, rfl⟩ : ∃ g, f = g + 1 := ⟨f - 1, by omega⟩
    refine ⟨g, 4, by omega, ?_⟩
    have q' : kS223 132 [.inl (nI s), .inl (nI P.length), .inl (nI (gvc gv 0 8)), .inl (nI (6 + 3 * nbc nb 0 8)), .inl (nI 8)] T0 = some (.inr (264, [.inl (nI s), .inl (nI P.length), .inl (nI (5 * s + s)), .inl 0, .inl 4], T1)) := q
    rw [e0]
    exact sd_go q'
  cases hL : K s with
  | none =>
    rw [hL] at hKs
    right
    refine ⟨fun q => ?_, away ?_⟩
    · obtain ⟨L, q, -⟩ := q; cases q
    · unfold c223_132
      rw [if_pos e8, bd_s g31, x5, bd_s g27, if_pos (show S.1 27 (5 * s + s) = 0 from hKs)]
  | some L =>
    rw [hL] at hKs
    obtain ⟨c1, c2, c3⟩ := hKs
    obtain ⟨l31, lb⟩ := hKl L hL
    obtain ⟨y1, y2⟩ := hka (by rw [hL]; exact fun q => nomatch q)
    have n27 : ¬ S.1 27 (5 * s + s) = 0 := by rw [c1]; decide
    rw [c2] at g30
    rw [y1] at g28
    have q30 := nI_eq (a := L.length) (b := P.length) (by omega) (by omega)
    by_cases z1 : L.length = P.length
    · have q3 : nI t - nI ks' = nI (t - ks') := pk_sub y2
      by_cases z2 : t < ks' + 40
      · have n40 : ¬ (40 : Int32) ≤ nI (t - ks') := nI_ge (b := 40) (by omega) (by omega)
        have hgo : c223_132 (nI s) (nI P.length) (nI (gvc gv 0 8)) (nI (6 + 3 * nbc nb 0 8)) (nI 8) T0 = c223_259 (nI s) (nI P.length) (nI (5 * s + s)) 1 T1 := by
          unfold c223_132
          rw [if_pos e8, bd_s g31, x5, bd_s g27, if_neg n27, bd_s g30, if_pos (q30.mpr z1), bd_s g28, g3, q3, if_neg n40]
        have e1 : e223 (nI s) S = sdrive kS223 f 264 [.inl (nI s), .inl (nI P.length), .inl (nI (5 * s + s)), .inl 1, .inl (nI 4)] T1 := by
          have q' : kS223 132 [.inl (nI s), .inl (nI P.length), .inl (nI (gvc gv 0 8)), .inl (nI (6 + 3 * nbc nb 0 8)), .inl (nI 8)] T0 = some (.inr (264, [.inl (nI s), .inl (nI P.length), .inl (nI (5 * s + s)), .inl 1, .inl (nI 4)], T1)) := hgo
          rw [e0]; exact sd_go q'
        have hKT : rkS T1 s K := hK.ks k1 (by decide) (by decide) (by decide)
        rcases k223_264 hs5 hKT hL z1 h31 (fun i q1 q2 => o0 i q2 (Or.inr q1)) lb hlt (P.length - 4) 4 f (by omega) (by omega) (by omega) with ⟨j1, j2⟩ | ⟨j1, g, v7, j2, j3⟩
        · left
          exact ⟨⟨L, rfl, ⟨z1, fun i q1 q2 => j1 i q1 (by omega)⟩, z2⟩, by rw [e1]; exact j2⟩
        · right
          refine ⟨fun q => ?_, g, v7, by omega, by rw [e1]; exact j3⟩
          obtain ⟨L', q1, q2, q3⟩ := q
          cases q1
          exact j1 (fun i w1 w2 => q2.2 i w1 (by omega))
      · right
        refine ⟨fun q => ?_, away ?_⟩
        · obtain ⟨L', q1, q2, q3⟩ := q; exact z2 q3
        · unfold c223_132
          rw [if_pos e8, bd_s g31, x5, bd_s g27, if_neg n27, bd_s g30, if_pos (q30.mpr z1), bd_s g28, g3, q3, if_pos (show (40 : Int32) ≤ nI (t - ks') from nI_le (a := 40) (by omega) (by omega))]
    · right
      refine ⟨fun q => ?_, away ?_⟩
      · obtain ⟨L', q1, q2, q3⟩ := q; cases q1; exact z1 q2.1
      · unfold c223_132
        rw [if_pos e8, bd_s g31, x5, bd_s g27, if_neg n27, bd_s g30, if_neg (fun y => z1 (q30.mp y))]
end OR
