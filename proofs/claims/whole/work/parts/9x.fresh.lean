/-! ===== the reference's own record ===== -/
def nbR (S : sT) (s : Nat) (nb : Nat → Option (Nat × Nat)) (wo : Nat → Nat) : Prop := ∀ p, p < 8 → (nb p = none ∧ S.1 23 (8 * s + p) = -1) ∨ ∃ v c, nb p = some (v, c) ∧ v < 256 ∧ S.1 23 (8 * s + p) = nI v ∧ S.1 14 (8 * s + p) = nI (wo (8 * s + p)) ∧ wo (8 * s + p) < 16 ∧ S.1 11 (wo (8 * s + p)) = nI c
def gvR (S : sT) (s : Nat) (gv : Nat → Option Nat) : Prop := ∀ p, p < 8 → (gv p = none ∧ S.1 25 (8 * s + p) = 0) ∨ ∃ n, gv p = some n ∧ ¬ S.1 25 (8 * s + p) = 0 ∧ (S.1 25 (8 * s + p) &&& 255) - 1 = nI n
def frB (T : sT) (b : Nat) (P : List Nat) : Prop := ∀ i, i < P.length → T.1 31 (b + i) = nI (P.getD i 0)
section FS
variable {S T : sT} {s : Nat} {wo : Nat → Nat} {nb : Nat → Option (Nat × Nat)} {gv : Nat → Option Nat}
theorem frB_ad {b v : Nat} {P : List Nat} (h : frB T b P) : frB (s_u T 31 (b + P.length) (nI v)) b (P ++ [v]) := fun i hi => by
  rw [List.length_append] at hi
  have hi : i < P.length + 1 := hi
  rw [su_eq]
  by_cases q : i = P.length
  · subst q; rw [u1_eq, gA0]
  · rw [u1_ne (by omega), h i (by omega), List.getD_eq_getElem?_getD, List.getD_eq_getElem?_getD, List.getElem?_append_left (by omega)]
theorem su_lo {k j : Nat} {v : Int32} (h : j < k) : (s_u T 31 k v).1 31 j = T.1 31 j := by rw [su_eq, u1_ne (by omega)]
theorem k223_29 (hs5 : s < 5) (hnb : nbR S s nb wo) : ∀ d p T P m fuel, p + d = 8 → ks [31] S T → frB T 6 P → P.length + 3 * nbc nb p d ≤ 30 → d < fuel → ∃ T', sdrive kS223 fuel 29 [.inl (nI s), .inl (nI (6 + P.length)), .inl (nI m), .inl (nI p)] T = sdrive kS223 (fuel - d) 29 [.inl (nI s), .inl (nI (6 + (P.length + 3 * nbc nb p d))), .inl (nI (m + nbc nb p d)), .inl (nI 8)] T' ∧ ks [31] S T' ∧ frB T' 6 (P ++ nbl nb p d) ∧ ∀ j, j < 6 → T'.1 31 j = T.1 31 j
  | 0, p, T, P, m, fuel, hp, hk, h, hl, hf => by
    have : p = 8 := by omega
    subst this
    exact ⟨T, rfl, hk, by rw [show nbl nb 8 0 = [] from rfl, List.append_nil]; exact h, fun _ _ => rfl⟩
  | d + 1, p, T, P, m, fuel, hp, hk, h, hl, hf => by
    obtain ⟨f, rfl⟩ : ∃ f, fuel = f + 1 := ⟨fuel - 1, by omega⟩
    have hp8 : p < 8 := by omega
    have hx8 : 8 * s + p < 48 := by omega
    have e : ¬ (8 : Int32) ≤ nI p := nI_ge (b := 8) hp8 (by omega)
    have g23 : s_a T 23 (nI (8 * s + p)) = some (S.1 23 (8 * s + p)) := (ga23 hx8).trans (by rw [hk.i (by decide)])
    have kc : kS223 29 [.inl (nI s), .inl (nI (6 + P.length)), .inl (nI m), .inl (nI p)] T = c223_29 (nI s) (nI (6 + P.length)) (nI m) (nI p) T := rfl
    rcases hnb p hp8 with ⟨g1, g2⟩ | ⟨v, c, g1, g2, g3, g4, g5, g6⟩
    · rw [(nbl_n g1).1, (nbl_n g1).2]
      rw [(nbl_n g1).2] at hl
      have hb : c223_29 (nI s) (nI (6 + P.length)) (nI m) (nI p) T = some (.inr (29, [.inl (nI s), .inl (nI (6 + P.length)), .inl (nI m), .inl (nI (p + 1))], T)) := by
        unfold c223_29
        rw [if_neg e, bd_s (e175_v T), bd_s g23, if_pos g2]
        unfold c223_108
        rw [nI_1]
      obtain ⟨T', j1, j2, j3, j4⟩ := k223_29 hs5 hnb d (p + 1) T P m f (by omega) hk h hl (by omega)
      exact ⟨T', by rw [sd_go (kc.trans hb), show f + 1 - (d + 1) = f - d by omega]; exact j1, j2, j3, j4⟩
    · rw [(nbl_s g1).1, (nbl_s g1).2]
      rw [(nbl_s g1).2] at hl
      have k1 : ks [31] T (s_u T 31 (6 + P.length) (nI p)) := k_su
      have k2 : ks [31] (s_u T 31 (6 + P.length) (nI p)) (s_u (s_u T 31 (6 + P.length) (nI p)) 31 (6 + P.length + 1) (nI v)) := k_su
      have k3 : ks [31] (s_u (s_u T 31 (6 + P.length) (nI p)) 31 (6 + P.length + 1) (nI v)) (s_u (s_u (s_u T 31 (6 + P.length) (nI p)) 31 (6 + P.length + 1) (nI v)) 31 (6 + P.length + 2) (nI c)) := k_su
      have f1 := frB_ad (v := p) h
      have f2 := frB_ad (v := v) f1
      have f3 := frB_ad (v := c) f2
      have l1 : (P ++ [p]).length = P.length + 1 := by simp
      have l2 : (P ++ [p] ++ [v]).length = P.length + 2 := by simp
      have l3 : (P ++ [p] ++ [v] ++ [c]).length = P.length + 3 := by simp
      rw [l1] at f2
      rw [l1, l2] at f3
      rw [show 6 + (P.length + 1) = 6 + P.length + 1 by omega, show 6 + (P.length + 2) = 6 + P.length + 2 by omega] at f3
      generalize hT3 : s_u (s_u (s_u T 31 (6 + P.length) (nI p)) 31 (6 + P.length + 1) (nI v)) 31 (6 + P.length + 2) (nI c) = T3 at *
      have kT3 : ks [31] S T3 := ((hk.tr k1 rfl).tr k2 rfl).tr k3 rfl
      have hb : c223_29 (nI s) (nI (6 + P.length)) (nI m) (nI p) T = some (.inr (29, [.inl (nI s), .inl (nI (6 + (P.length + 3))), .inl (nI (m + 1)), .inl (nI (p + 1))], T3)) := by
        have x23 : s_a (s_u T 31 (6 + P.length) (nI p)) 23 (nI (8 * s + p)) = some (nI v) := (ga23 hx8).trans (by rw [k1.i (by decide), hk.i (by decide), g3])
        have x14 : s_a (s_u (s_u T 31 (6 + P.length) (nI p)) 31 (6 + P.length + 1) (nI v)) 14 (nI (8 * s + p)) = some (nI (wo (8 * s + p))) := (ga14 hx8).trans (by rw [k2.i (by decide), k1.i (by decide), hk.i (by decide), g4])
        have x11 : s_a (s_u (s_u T 31 (6 + P.length) (nI p)) 31 (6 + P.length + 1) (nI v)) 11 (nI (wo (8 * s + p))) = some (nI c) := (ga11 g5).trans (by rw [k2.i (by decide), k1.i (by decide), hk.i (by decide), g6])
        have i1 : nI (6 + P.length) + 1 = nI (6 + P.length + 1) := nI_1 _
        have i2 : nI (6 + P.length) + 2 = nI (6 + P.length + 2) := nI_add _ 2
        have i3 : nI (6 + P.length) + 3 = nI (6 + P.length + 3) := nI_add _ 3
        unfold c223_29
        rw [if_neg e, bd_s (e175_v T), bd_s g23, if_neg (by rw [g3]; exact nI_m1 (by omega)), bd_s (gs31 (by omega)), bd_s x23, i1, bd_s (gs31 (by omega)), bd_s x14, bd_s x11, i2, bd_s (gs31 (by omega)), hT3, i3, nI_1]
        unfold c223_108
        rw [nI_1, show 6 + P.length + 3 = 6 + (P.length + 3) by omega]
      obtain ⟨T', j1, j2, j3, j4⟩ := k223_29 hs5 hnb d (p + 1) T3 (P ++ [p] ++ [v] ++ [c]) (m + 1) f (by omega) kT3 f3 (by rw [l3]; omega) (by omega)
      rw [l3] at j1
      refine ⟨T', ?_, j2, ?_, fun j hj => ?_⟩
      · rw [sd_go (kc.trans hb), show f + 1 - (d + 1) = f - d by omega, show P.length + 3 * (nbc nb (p + 1) d + 1) = P.length + 3 + 3 * nbc nb (p + 1) d by omega, show m + (nbc nb (p + 1) d + 1) = m + 1 + nbc nb (p + 1) d by omega]
        exact j1
      · have : P ++ p :: v :: c :: nbl nb (p + 1) d = P ++ [p] ++ [v] ++ [c] ++ nbl nb (p + 1) d := by simp
        show frB T' 6 (P ++ p :: v :: c :: nbl nb (p + 1) d)
        rw [this]; exact j3
      · rw [j4 j hj, ← hT3, su_lo (by omega), su_lo (by omega), su_lo (by omega)]
theorem k223_132 {b at' : Nat} (hs5 : s < 5) (hgv : gvR S s gv) (hb6 : 6 ≤ b) : ∀ d p T P m fuel, p + d = 8 → ks [31] S T → frB T b P → b + P.length + 2 * gvc gv p d ≤ 60 → d < fuel → ∃ T', sdrive kS223 fuel 132 [.inl (nI s), .inl (nI (b + P.length)), .inl (nI m), .inl (nI at'), .inl (nI p)] T = sdrive kS223 (fuel - d) 132 [.inl (nI s), .inl (nI (b + (P.length + 2 * gvc gv p d))), .inl (nI (m + gvc gv p d)), .inl (nI at'), .inl (nI 8)] T' ∧ ks [31] S T' ∧ frB T' b (P ++ gvl gv p d) ∧ ∀ j, j < b → T'.1 31 j = T.1 31 j
  | 0, p, T, P, m, fuel, hp, hk, h, hl, hf => by
    have : p = 8 := by omega
    subst this
    exact ⟨T, rfl, hk, by rw [show gvl gv 8 0 = [] from rfl, List.append_nil]; exact h, fun _ _ => rfl⟩
  | d + 1, p, T, P, m, fuel, hp, hk, h, hl, hf => by
    obtain ⟨f, rfl⟩ : ∃ f, fuel = f + 1 := ⟨fuel - 1, by omega⟩
    have hp8 : p < 8 := by omega
    have hx8 : 8 * s + p < 48 := by omega
    have e : ¬ (8 : Int32) ≤ nI p := nI_ge (b := 8) hp8 (by omega)
    have g25 : s_a T 25 (nI (8 * s + p)) = some (S.1 25 (8 * s + p)) := (ga25 hx8).trans (by rw [hk.i (by decide)])
    have kc : kS223 132 [.inl (nI s), .inl (nI (b + P.length)), .inl (nI m), .inl (nI at'), .inl (nI p)] T = c223_132 (nI s) (nI (b + P.length)) (nI m) (nI at') (nI p) T := rfl
    rcases hgv p hp8 with ⟨g1, g2⟩ | ⟨n, g1, g2, g3⟩
    · rw [(gvl_n g1).1, (gvl_n g1).2]
      rw [(gvl_n g1).2] at hl
      have hb : c223_132 (nI s) (nI (b + P.length)) (nI m) (nI at') (nI p) T = some (.inr (132, [.inl (nI s), .inl (nI (b + P.length)), .inl (nI m), .inl (nI at'), .inl (nI (p + 1))], T)) := by
        unfold c223_132
        rw [if_neg e, bd_s (e175_v T), bd_s g25, if_pos g2]
        unfold c223_195
        rw [nI_1]
      obtain ⟨T', j1, j2, j3, j4⟩ := k223_132 hs5 hgv hb6 d (p + 1) T P m f (by omega) hk h hl (by omega)
      exact ⟨T', by rw [sd_go (kc.trans hb), show f + 1 - (d + 1) = f - d by omega]; exact j1, j2, j3, j4⟩
    · rw [(gvl_s g1).1, (gvl_s g1).2]
      rw [(gvl_s g1).2] at hl
      have k1 : ks [31] T (s_u T 31 (b + P.length) (nI n)) := k_su
      have k2 : ks [31] (s_u T 31 (b + P.length) (nI n)) (s_u (s_u T 31 (b + P.length) (nI n)) 31 (b + P.length + 1) (nI p)) := k_su
      have f1 := frB_ad (v := n) h
      have f2 := frB_ad (v := p) f1
      have l1 : (P ++ [n]).length = P.length + 1 := by simp
      have l2 : (P ++ [n] ++ [p]).length = P.length + 2 := by simp
      rw [l1, show b + (P.length + 1) = b + P.length + 1 by omega] at f2
      generalize hT3 : s_u (s_u T 31 (b + P.length) (nI n)) 31 (b + P.length + 1) (nI p) = T3 at *
      have kT3 : ks [31] S T3 := (hk.tr k1 rfl).tr k2 rfl
      have hb : c223_132 (nI s) (nI (b + P.length)) (nI m) (nI at') (nI p) T = some (.inr (132, [.inl (nI s), .inl (nI (b + (P.length + 2))), .inl (nI (m + 1)), .inl (nI at'), .inl (nI (p + 1))], T3)) := by
        have x189 : e189 (S.1 25 (8 * s + p)) T = some (nI n, T) := by
          show some ((S.1 25 (8 * s + p) &&& 255) - 1, T) = _
          rw [g3]
        have i1 : nI (b + P.length) + 1 = nI (b + P.length + 1) := nI_1 _
        have i2 : nI (b + P.length) + 2 = nI (b + P.length + 2) := nI_add _ 2
        unfold c223_132
        rw [if_neg e, bd_s (e175_v T), bd_s g25, if_neg g2, bd_s (e175_v T), bd_s g25, bd_s x189, bd_s (gs31 (by omega)), i1, bd_s (gs31 (by omega)), hT3, i2, nI_1]
        unfold c223_195
        rw [nI_1, show b + P.length + 2 = b + (P.length + 2) by omega]
      obtain ⟨T', j1, j2, j3, j4⟩ := k223_132 hs5 hgv hb6 d (p + 1) T3 (P ++ [n] ++ [p]) (m + 1) f (by omega) kT3 f2 (by rw [l2]; omega) (by omega)
      rw [l2] at j1
      refine ⟨T', ?_, j2, ?_, fun j hj => ?_⟩
      · rw [sd_go (kc.trans hb), show f + 1 - (d + 1) = f - d by omega, show P.length + 2 * (gvc gv (p + 1) d + 1) = P.length + 2 + 2 * gvc gv (p + 1) d by omega, show m + (gvc gv (p + 1) d + 1) = m + 1 + gvc gv (p + 1) d by omega]
        exact j1
      · have : P ++ n :: p :: gvl gv (p + 1) d = P ++ [n] ++ [p] ++ gvl gv (p + 1) d := by simp
        rw [this]; exact j3
      · rw [j4 j hj, ← hT3, su_lo (by omega), su_lo (by omega)]
/-- what fresh holds before the issue's number is set -/
def frO (T : sT) (P : List Nat) : Prop := ∀ i, i < P.length → (i = 0 ∨ 4 ≤ i) → T.1 31 i = nI (P.getD i 0)
/-- up to where it is compared -/
theorem e223_a {dm : Nat} (hs5 : s < 5) (hnb : nbR S s nb wo) (hgv : gvR S s gv) (hdm : S.1 26 s = nI dm) (HD : ∀ p, nb p = none ∨ gv p = none) : ∃ T f, 900000 < f ∧ e223 (nI s) S = sdrive kS223 (f + 1) 132 [.inl (nI s), .inl (nI (oRec s 0 0 0 dm nb gv).length), .inl (nI (gvc gv 0 8)), .inl (nI (6 + 3 * nbc nb 0 8)), .inl (nI 8)] T ∧ ks [31] S T ∧ frO (s_u T 31 (6 + 3 * nbc nb 0 8) (nI (gvc gv 0 8))) (oRec s 0 0 0 dm nb gv) := by
  have hc := both_le HD 8 0
  have ln := nbl_len (nb := nb) 8 0
  have lg := gvl_len (gv := gv) 8 0
  let S1 := s_u S 31 0 (nI s)
  let S2 := s_u S1 31 4 (nI dm)
  have k2 : ks [31] S S2 := (ks.rf.tr (k_su : ks [31] S S1) rfl : ks [31] S S1).tr k_su rfl
  have h0 : c223_0 (nI s) S = some (.inr (29, [.inl (nI s), .inl (nI 6), .inl (nI 0), .inl (nI 0)], S2)) := by
    have x26 : s_a S1 26 (nI s) = some (nI dm) := (ga26 hs5).trans (by rw [(k_su : ks [31] S S1).i (by decide), hdm])
    have y0 : s_s S 31 0 (nI s) = some S1 := gs31 (i := 0) (by omega)
    have y4 : s_s S1 31 4 (nI dm) = some S2 := gs31 (i := 4) (by omega)
    unfold c223_0
    rw [bd_s y0, bd_s x26, bd_s y4]
    rfl
  obtain ⟨T1, a1, a2, a3, a4⟩ := k223_29 hs5 hnb 8 0 S2 [] 0 xF (by omega) k2 (fun i hi => nomatch hi) (by show 0 + _ ≤ 30; omega) (by unfold xF; omega)
  rw [show ([] : List Nat).length = 0 from rfl] at a1
  rw [List.nil_append] at a3
  let T2 := s_u T1 31 5 (nI (nbc nb 0 8))
  have kT2 : ks [31] S T2 := a2.tr k_su rfl
  have e8 : (8 : Int32) ≤ nI 8 := by decide
  have h1 : kS223 29 [.inl (nI s), .inl (nI (6 + (0 + 3 * nbc nb 0 8))), .inl (nI (0 + nbc nb 0 8)), .inl (nI 8)] T1 = some (.inr (132, [.inl (nI s), .inl (nI (6 + 3 * nbc nb 0 8 + 1)), .inl (nI 0), .inl (nI (6 + 3 * nbc nb 0 8)), .inl (nI 0)], T2)) := by
    have y5 : s_s T1 31 5 (nI (nbc nb 0 8)) = some T2 := gs31 (i := 5) (by omega)
    rw [Nat.zero_add, Nat.zero_add]
    show c223_29 (nI s) (nI (6 + 3 * nbc nb 0 8)) (nI (nbc nb 0 8)) (nI 8) T1 = _
    unfold c223_29
    rw [if_pos e8, bd_s y5, nI_1]
    rfl
  obtain ⟨f, hf⟩ : ∃ f, xF - 8 = f + 1 := ⟨xF - 9, by unfold xF; omega⟩
  have hfb : f = 999991 := by unfold xF at hf; omega
  obtain ⟨T3, b1, b2, b3, b4⟩ := k223_132 (b := 6 + 3 * nbc nb 0 8 + 1) (at' := 6 + 3 * nbc nb 0 8) hs5 hgv (by omega) 8 0 T2 [] 0 f (by omega) kT2 (fun i hi => nomatch hi) (by show _ + 0 + _ ≤ 60; omega) (by omega)
  rw [show ([] : List Nat).length = 0 from rfl, Nat.add_zero] at b1
  rw [List.nil_append] at b3
  obtain ⟨g, hg⟩ : ∃ g, f - 8 = g + 1 := ⟨f - 9, by omega⟩
  have hlen := oRec_len (s := s) (i1 := 0) (i2 := 0) (i3 := 0) (dm := dm) (nb := nb) (gv := gv)
  refine ⟨T3, g, by omega, ?_, b2, fun i hi h4 => ?_⟩
  · show s_go kS223 (c223_0 (nI s) S) = _
    rw [h0]
    show sdrive kS223 xF 29 _ S2 = _
    have a1 : sdrive kS223 xF 29 [.inl (nI s), .inl (nI 6), .inl (nI 0), .inl (nI 0)] S2 = _ := a1
    rw [a1, hf, sd_go h1]
    show sdrive kS223 f 132 _ T2 = _
    rw [b1, hg, Nat.zero_add, Nat.zero_add, hlen, show 6 + 3 * nbc nb 0 8 + 1 + 2 * gvc gv 0 8 = 7 + 3 * nbc nb 0 8 + 2 * gvc gv 0 8 by omega]
  · rw [hlen] at hi
    rw [su_eq]
    by_cases q6 : i = 6 + 3 * nbc nb 0 8
    · subst q6; rw [u1_eq, oRec_gc]
    rw [u1_ne q6]
    by_cases q7 : 6 + 3 * nbc nb 0 8 + 1 ≤ i
    · obtain ⟨j, rfl⟩ : ∃ j, i = 6 + 3 * nbc nb 0 8 + 1 + j := ⟨i - (6 + 3 * nbc nb 0 8 + 1), by omega⟩
      rw [b3 j (by omega)]
      congr 1
      unfold oRec
      rw [List.getD_eq_getElem?_getD, List.getD_eq_getElem?_getD, List.getElem?_append_right (by simp; omega)]
      have : 6 + 3 * nbc nb 0 8 + 1 + j - ([s, 0, 0, 0, dm, nbc nb 0 8] ++ nbl nb 0 8).length = j + 1 := by simp; omega
      rw [this, List.getElem?_cons_succ]
    · rw [b4 i (by omega)]
      show (s_u T1 31 5 (nI (nbc nb 0 8))).1 31 i = _
      rw [su_eq]
      by_cases q5 : i = 5
      · subst q5; rw [u1_eq]; rfl
      rw [u1_ne q5]
      by_cases q8 : 6 ≤ i
      · obtain ⟨j, rfl⟩ : ∃ j, i = 6 + j := ⟨i - 6, by omega⟩
        rw [a3 j (by omega), oRec_nb (by omega)]
      · rw [a4 i (by omega)]
        show (s_u (s_u S 31 0 (nI s)) 31 4 (nI dm)).1 31 i = _
        rw [su_eq]
        by_cases q4 : i = 4
        · subst q4; rw [u1_eq]; rfl
        · have q0 : i = 0 := by omega
          subst q0
          rw [u1_ne (by omega), su_eq, u1_eq]; rfl
end FS
