/-! ===== closes, drops ===== -/
/-- the CHECK of a list of bytes -/
def crcL (L : List Int32) : Int32 := crcF (fun i => L.getD i 0) L.length ^^^ (-1)
/-- a frame with its length's byte and its CHECK -/
def clL (L : List Int32) : List Int32 := L.set 12 (nI L.length - 13).toInt8.toInt32 ++ byL (crcL (L.set 12 (nI L.length - 13).toInt8.toInt32)).toInt64 4
theorem frl_getD {S : sT} {f z i : Nat} (hz : S.1 7 f = nI z) (hz8 : z ≤ 80) (hi : i < z) : (frl S f).getD i 0 = fB S f i := by
  rw [List.getD_eq_getElem?_getD, frl_get hz hz8 hi]
  rfl
theorem crc_frl {S : sT} {f z : Nat} (hz : S.1 7 f = nI z) (hz8 : z ≤ 80) : crcF (fB S f) z ^^^ (-1) = crcL (frl S f) := by
  unfold crcL
  rw [frl_len hz hz8]
  rw [crcF_congr (B := fB S f) (C := fun i => (frl S f).getD i 0) (fun i hi => (frl_getD hz hz8 hi).symm)]
/-- one byte of frame f anew -/
theorem set_fr {S : sT} {f z i : Nat} {b : Int32} (hz : S.1 7 f = nI z) (hz8 : z ≤ 80) (hi : i < 80) : fo f S (s_u S 6 (80 * f + i) b) ∧ (s_u S 6 (80 * f + i) b).1 7 f = nI z ∧ frl (s_u S 6 (80 * f + i) b) f = (frl S f).set i b := by
  have h7 : (s_u S 6 (80 * f + i) b).1 7 f = nI z := (s_u_nk (by decide)).trans hz
  refine ⟨⟨rfl, fun k j a _ => s_u_nk a, fun g _ => s_u_nk (by decide), fun g j hg hj => ?_⟩, h7, ?_⟩
  · show (s_u S 6 (80 * f + i) b).1 6 (80 * g + j) = S.1 6 (80 * g + j)
    exact s_u_ni (by omega)
  · apply List.ext_getElem?
    intro j
    by_cases hj : j < z
    · rw [frl_get h7 hz8 hj]
      show some ((s_u S 6 (80 * f + i) b).1 6 (80 * f + j)) = _
      by_cases e : j = i
      · subst e
        rw [List.getElem?_set_self (by rw [frl_len hz hz8]; exact hj), s_u_eq]
      · rw [List.getElem?_set_ne (Ne.symm e), frl_get hz hz8 hj, s_u_ni (by omega)]
        rfl
    · rw [List.getElem?_eq_none (by rw [frl_len h7 hz8]; omega), List.getElem?_eq_none (by rw [List.length_set, frl_len hz hz8]; omega)]
theorem e170_eq {S : sT} {f z : Nat} (hf : f < 1800) (hz : S.1 7 f = nI z) (h4 : z + 4 ≤ 80) : ∃ T, e170 (nI f) S = some T ∧ fo f S T ∧ T.1 7 f = nI (z + 4) ∧ frl T f = clL (frl S f) := by
  obtain ⟨a1, a2, a3⟩ := set_fr (i := 12) (b := (nI z - 13).toInt8.toInt32) hz (by omega) (by omega)
  generalize hT : s_u S 6 (80 * f + 12) (nI z - 13).toInt8.toInt32 = S3 at a1 a2 a3
  obtain ⟨T, b1, b2, b3, b4⟩ := e167_fr (S := S3) (w := (crcF (fB S3 f) z ^^^ (-1)).toInt64) (n := 4) (v := 4) rfl hf a2 (by omega)
  refine ⟨T, ?_, a1.tr b2, b3, ?_⟩
  · unfold e170 c170_0
    have e : nI f * 80 + 12 = nI (80 * f + 12) := by
      rw [show (80 : Int32) = nI 80 from rfl, show (12 : Int32) = nI 12 from rfl, pk_mul, nI_add, Nat.mul_comm]
    have p2 : s_sb S 6 (nI (80 * f + 12)) (Int32.toInt8 (nI z - 13)).toInt32 = some S3 := by
      rw [s_sb_t (show 80 * f + 12 < 144000 by omega) (by omega), i8_i32, hT]
    rw [bd_s (s_a_t (show f < 1800 from hf) (by omega)), hz, e, bd_s p2, bd_s (s_a_t (show f < 1800 from hf) (by omega)), a2, bd_s (e169_eq hf (by omega)), bd_s b1]
    rfl
  · rw [b4, crc_frl a2 (by omega), a3]
    unfold clL
    rw [frl_len hz (by omega)]
theorem e171_eq {S : sT} {n f : Nat} (h9 : S.1 9 0 = nI n) (hn : n < 1800) : e171 (nI f) S = some (s_u (s_u S 8 n (nI f)) 9 0 (nI (n + 1))) := by
  unfold e171 c171_0
  have g9 : s_g S 9 = nI n := h9
  have g9' : s_g (s_u S 8 n (nI f)) 9 = nI n := (s_u_nk (by decide)).trans h9
  rw [g9, bd_s (s_s_t (show n < 1800 from hn) (by omega)), g9', nI_1]
  rfl
/-! ===== the class's frames ===== -/
/-- a frame of the class: its cells are there -/
def isF (M : hM) (a : Nat) : Prop := h_tg M a = 3 ∧ ∃ b, h_fr M 200 a = some b ∧ h_tg M b = 21 ∧ h_ln M b = 48
/-- its bytes -/
def fcB (M : hM) (a i : Nat) : Int32 := h_ai M ((h_fr M 200 a).getD 0) i
def fcl (M : hM) (a : Nat) : List Int32 := (List.range (h_fi M 201 a).toNatClampNeg).map (fun i => fcB M a i)
theorem f42_crc {M : hM} {a n : Nat} (h : isF M a) (hn : n ≤ 48) (hz : h_fi M 201 a = nI n) : f42 [.inr (.inr (some a)), .inl (nI n)] M = some (some (.inl (crcL (fcl M a))), M) := by
  obtain ⟨h1, b, h2, h3, h4⟩ := h
  rw [f42_eq h1 h2 h3 h4 hn]
  have hl : (fcl M a).length = n := by
    unfold fcl
    rw [List.length_map, List.length_range, hz, nI_clamp (by omega)]
  unfold crcL
  rw [hl]
  have e : crcF (h_ai M b) n = crcF (fun i => (fcl M a).getD i 0) n := crcF_congr (fun i hi => by
    unfold fcl
    rw [List.getD_eq_getElem?_getD, List.getElem?_map, hz, nI_clamp (by omega), List.getElem?_range hi]
    show h_ai M b i = fcB M a i
    unfold fcB
    rw [h2]
    rfl)
  rw [e]
