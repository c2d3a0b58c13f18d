/-! ===== hasForm, isTrue: the reference ===== -/
section TS
variable {S : sT} {f sw nd : Nat} {L : List Int32}
theorem lzS {n c : Nat} (hn : 17 ≤ n) (h4 : n ≤ 80) (hc : c < 100) : nI (n - 17) = nI c ↔ n = c + 17 := by
  rw [nI_eq (by omega) (by omega)]
  omega
theorem e173_eq (h : rdS S f L) (h0 : S.1 0 0 = nI sw) (h1 : S.1 1 0 = nI nd) (hs8 : sw < 256) (hn8 : nd < 256) (h17 : 17 ≤ L.length) : e173 (nI f) (nI (L.length - 17)) S = some (b2 (hfF sw nd L), S) := by
  have h80 := h.2.2.1
  have z1 : nI (L.length - 17) = 1 ↔ L.length = 18 := lzS (c := 1) h17 h80 (by omega)
  have z4 : nI (L.length - 17) = 4 ↔ L.length = 21 := lzS (c := 4) h17 h80 (by omega)
  have z8 : nI (L.length - 17) = 8 ↔ L.length = 25 := lzS (c := 8) h17 h80 (by omega)
  have kb := bn_lt L 0
  have e0 : e165 (nI f) 0 S = some (nI (bn L 0), S) := r165 (i := 0) h (by omega)
  have e13 : e165 (nI f) 13 S = some (nI (bn L 13), S) := r165 (i := 13) h (by omega)
  have b13 := bn_lt L 13
  have e14 : 18 < L.length → e165 (nI f) 14 S = some (nI (bn L 14), S) := fun q => r165 (i := 14) h (by omega)
  have e16 : 18 < L.length → e165 (nI f) 16 S = some (nI (bn L 16), S) := fun q => r165 (i := 16) h (by omega)
  have e143 : 18 < L.length → e166 (nI f) 14 3 S = some (num L 14 3, S) := fun q => r166 (i := 14) (n := 3) h (by omega)
  have q1 : nI (bn L 0) = 1 ↔ bn L 0 = 1 := nI_eq (b := 1) (by omega) (by omega)
  have q2 : nI (bn L 0) = 2 ↔ bn L 0 = 2 := nI_eq (b := 2) (by omega) (by omega)
  have q3 : nI (bn L 0) = 3 ↔ bn L 0 = 3 := nI_eq (b := 3) (by omega) (by omega)
  have q4 : nI (bn L 0) = 4 ↔ bn L 0 = 4 := nI_eq (b := 4) (by omega) (by omega)
  have q5 : nI (bn L 0) = 5 ↔ bn L 0 = 5 := nI_eq (b := 5) (by omega) (by omega)
  have q6 : nI (bn L 0) = 6 ↔ bn L 0 = 6 := nI_eq (b := 6) (by omega) (by omega)
  have q7 : nI (bn L 0) = 7 ↔ bn L 0 = 7 := nI_eq (b := 7) (by omega) (by omega)
  have q8 : nI (bn L 0) = 8 ↔ bn L 0 = 8 := nI_eq (b := 8) (by omega) (by omega)
  have q9 : nI (bn L 0) = 9 ↔ bn L 0 = 9 := nI_eq (b := 9) (by omega) (by omega)
  have q10 : nI (bn L 0) = 10 ↔ bn L 0 = 10 := nI_eq (b := 10) (by omega) (by omega)
  have q11 : nI (bn L 0) = 11 ↔ bn L 0 = 11 := nI_eq (b := 11) (by omega) (by omega)
  have q12 : nI (bn L 0) = 12 ↔ bn L 0 = 12 := nI_eq (b := 12) (by omega) (by omega)
  by_cases k1 : bn L 0 = 1
  · have g : nI (bn L 0) = 1 := q1.mpr k1
    by_cases c : L.length = 18
    · have z : nI (L.length - 17) = 1 := z1.mpr c
      by_cases c2 : bn L 13 < sw
      · have c2' : ¬ nI sw ≤ nI (bn L 13) := nI_ge c2 (by omega)
        have eh : hfF sw nd L = true := by simp [hfF, k1, c, c2]
        rw [eh]
        simp [e173, c173_0, c173_93, c173_94, c173_119, c173_120, c173_158, c173_162, c173_163, c173_184, c173_185, c173_196, c173_208, c173_223, c173_224, s_out, s_g, e13, e0, g, z, h0, c2', b2]
      · have c2' : nI sw ≤ nI (bn L 13) := nI_le (by omega) (by omega)
        have eh : hfF sw nd L = false := by simp [hfF, k1, c, c2]
        rw [eh]
        simp [e173, c173_0, c173_93, c173_94, c173_119, c173_120, c173_158, c173_162, c173_163, c173_184, c173_185, c173_196, c173_208, c173_223, c173_224, s_out, s_g, e13, e0, g, z, h0, c2', b2]
    · have z : ¬ nI (L.length - 17) = 1 := fun q => c (z1.mp q)
      have eh : hfF sw nd L = false := by simp [hfF, k1, c]
      rw [eh]
      simp [e173, c173_0, c173_93, c173_94, c173_119, c173_120, c173_158, c173_162, c173_163, c173_184, c173_185, c173_196, c173_208, c173_223, c173_224, s_out, s_g, e13, e0, g, z, b2]
  by_cases k2 : bn L 0 = 2
  · have g : nI (bn L 0) = 2 := q2.mpr k2
    have eh : hfF sw nd L = rcF sw nd L := by simp [hfF, k2]
    rw [eh]
    have e := e172_eq h h0 h1 hs8 h17
    cases r : rcF sw nd L with
    | false => rw [r] at e; simp [e173, c173_0, s_out, e13, e0, g, e, b2]
    | true => rw [r] at e; simp [e173, c173_0, s_out, e13, e0, g, e, b2]
  by_cases k3 : bn L 0 = 3
  · have g : nI (bn L 0) = 3 := q3.mpr k3
    by_cases c : L.length = 18
    · have z : nI (L.length - 17) = 1 := z1.mpr c
      by_cases c2 : bn L 13 < nd
      · have c2' : ¬ nI nd ≤ nI (bn L 13) := nI_ge c2 (by omega)
        have eh : hfF sw nd L = true := by simp [hfF, k3, c, c2]
        rw [eh]
        simp [e173, c173_0, c173_93, c173_94, c173_119, c173_120, c173_158, c173_162, c173_163, c173_184, c173_185, c173_196, c173_208, c173_223, c173_224, s_out, s_g, e13, e0, g, z, h1, c2', b2]
      · have c2' : nI nd ≤ nI (bn L 13) := nI_le (by omega) (by omega)
        have eh : hfF sw nd L = false := by simp [hfF, k3, c, c2]
        rw [eh]
        simp [e173, c173_0, c173_93, c173_94, c173_119, c173_120, c173_158, c173_162, c173_163, c173_184, c173_185, c173_196, c173_208, c173_223, c173_224, s_out, s_g, e13, e0, g, z, h1, c2', b2]
    · have z : ¬ nI (L.length - 17) = 1 := fun q => c (z1.mp q)
      have eh : hfF sw nd L = false := by simp [hfF, k3, c]
      rw [eh]
      simp [e173, c173_0, c173_93, c173_94, c173_119, c173_120, c173_158, c173_162, c173_163, c173_184, c173_185, c173_196, c173_208, c173_223, c173_224, s_out, s_g, e13, e0, g, z, b2]
  by_cases k5 : bn L 0 = 5
  · have g : nI (bn L 0) = 5 := q5.mpr k5
    by_cases c : L.length = 18
    · have z : nI (L.length - 17) = 1 := z1.mpr c
      by_cases c2 : bn L 13 < nd
      · have c2' : ¬ nI nd ≤ nI (bn L 13) := nI_ge c2 (by omega)
        have eh : hfF sw nd L = true := by simp [hfF, k5, c, c2]
        rw [eh]
        simp [e173, c173_0, c173_93, c173_94, c173_119, c173_120, c173_158, c173_162, c173_163, c173_184, c173_185, c173_196, c173_208, c173_223, c173_224, s_out, s_g, e13, e0, g, z, h1, c2', b2]
      · have c2' : nI nd ≤ nI (bn L 13) := nI_le (by omega) (by omega)
        have eh : hfF sw nd L = false := by simp [hfF, k5, c, c2]
        rw [eh]
        simp [e173, c173_0, c173_93, c173_94, c173_119, c173_120, c173_158, c173_162, c173_163, c173_184, c173_185, c173_196, c173_208, c173_223, c173_224, s_out, s_g, e13, e0, g, z, h1, c2', b2]
    · have z : ¬ nI (L.length - 17) = 1 := fun q => c (z1.mp q)
      have eh : hfF sw nd L = false := by simp [hfF, k5, c]
      rw [eh]
      simp [e173, c173_0, c173_93, c173_94, c173_119, c173_120, c173_158, c173_162, c173_163, c173_184, c173_185, c173_196, c173_208, c173_223, c173_224, s_out, s_g, e13, e0, g, z, b2]
  by_cases k7 : bn L 0 = 7
  · have g : nI (bn L 0) = 7 := q7.mpr k7
    by_cases c : L.length = 18
    · have z : nI (L.length - 17) = 1 := z1.mpr c
      by_cases c2 : bn L 13 < nd
      · have c2' : ¬ nI nd ≤ nI (bn L 13) := nI_ge c2 (by omega)
        have eh : hfF sw nd L = true := by simp [hfF, k7, c, c2]
        rw [eh]
        simp [e173, c173_0, c173_93, c173_94, c173_119, c173_120, c173_158, c173_162, c173_163, c173_184, c173_185, c173_196, c173_208, c173_223, c173_224, s_out, s_g, e13, e0, g, z, h1, c2', b2]
      · have c2' : nI nd ≤ nI (bn L 13) := nI_le (by omega) (by omega)
        have eh : hfF sw nd L = false := by simp [hfF, k7, c, c2]
        rw [eh]
        simp [e173, c173_0, c173_93, c173_94, c173_119, c173_120, c173_158, c173_162, c173_163, c173_184, c173_185, c173_196, c173_208, c173_223, c173_224, s_out, s_g, e13, e0, g, z, h1, c2', b2]
    · have z : ¬ nI (L.length - 17) = 1 := fun q => c (z1.mp q)
      have eh : hfF sw nd L = false := by simp [hfF, k7, c]
      rw [eh]
      simp [e173, c173_0, c173_93, c173_94, c173_119, c173_120, c173_158, c173_162, c173_163, c173_184, c173_185, c173_196, c173_208, c173_223, c173_224, s_out, s_g, e13, e0, g, z, b2]
  by_cases k6 : bn L 0 = 6
  · have g : nI (bn L 0) = 6 := q6.mpr k6
    by_cases c : L.length = 21
    · have z : nI (L.length - 17) = 4 := z4.mpr c
      have e16 := e16 (by omega)
      have e143 := e143 (by omega)
      by_cases c2 : bn L 13 < nd
      · have c2' : ¬ nI nd ≤ nI (bn L 13) := nI_ge c2 (by omega)
        by_cases c3 : num L 14 3 = 0
        · have eh : hfF sw nd L = true := by simp [hfF, k6, c, c2, c3]
          rw [eh]
          simp [e173, c173_0, c173_93, c173_94, c173_119, c173_120, c173_158, c173_162, c173_163, c173_184, c173_185, c173_196, c173_208, c173_223, c173_224, s_out, s_g, e13, e0, g, z, h1, c2', e143, c3, b2]
        · have b16 := bn_lt L 16
          by_cases c4 : bn L 16 = bn L 13 + 1
          · have c4' : nI (bn L 16) = nI (bn L 13 + 1) := by rw [c4]
            have eh : hfF sw nd L = true := by simp [hfF, k6, c, c2, c3, c4]
            rw [eh]
            simp [e173, c173_0, c173_93, c173_94, c173_119, c173_120, c173_158, c173_162, c173_163, c173_184, c173_185, c173_196, c173_208, c173_223, c173_224, s_out, s_g, e13, e0, g, z, h1, c2', e143, c3, e16, nI_1, c4', b2]
          · have c4' : ¬ nI (bn L 16) = nI (bn L 13 + 1) := fun q => c4 ((nI_eq (by omega) (by omega)).mp q)
            have eh : hfF sw nd L = false := by simp [hfF, k6, c, c2, c3, c4]
            rw [eh]
            simp [e173, c173_0, c173_93, c173_94, c173_119, c173_120, c173_158, c173_162, c173_163, c173_184, c173_185, c173_196, c173_208, c173_223, c173_224, s_out, s_g, e13, e0, g, z, h1, c2', e143, c3, e16, nI_1, c4', b2]
      · have c2' : nI nd ≤ nI (bn L 13) := nI_le (by omega) (by omega)
        have eh : hfF sw nd L = false := by simp [hfF, k6, c, c2]
        rw [eh]
        simp [e173, c173_0, c173_93, c173_94, c173_119, c173_120, c173_158, c173_162, c173_163, c173_184, c173_185, c173_196, c173_208, c173_223, c173_224, s_out, s_g, e13, e0, g, z, h1, c2', b2]
    · have z : ¬ nI (L.length - 17) = 4 := fun q => c (z4.mp q)
      have eh : hfF sw nd L = false := by simp [hfF, k6, c]
      rw [eh]
      simp [e173, c173_0, c173_93, c173_94, c173_119, c173_120, c173_158, c173_162, c173_163, c173_184, c173_185, c173_196, c173_208, c173_223, c173_224, s_out, s_g, e13, e0, g, z, b2]
  by_cases k9 : bn L 0 = 9
  · have g : nI (bn L 0) = 9 := q9.mpr k9
    by_cases c : L.length = 21
    · have z : nI (L.length - 17) = 4 := z4.mpr c
      have e14 := e14 (by omega)
      have bb := bn_lt L 14
      by_cases c2 : bn L 14 < 2
      · have c2' : ¬ (2 : Int32) ≤ nI (bn L 14) := nI_ge (b := 2) (by omega) (by omega)
        have eh : hfF sw nd L = true := by simp [hfF, k9, c, c2]
        rw [eh]
        simp [e173, c173_0, c173_93, c173_94, c173_119, c173_120, c173_158, c173_162, c173_163, c173_184, c173_185, c173_196, c173_208, c173_223, c173_224, s_out, s_g, e13, e0, g, z, e14, c2', b2]
      · have c2' : (2 : Int32) ≤ nI (bn L 14) := nI_le (a := 2) (by omega) (by omega)
        have eh : hfF sw nd L = false := by simp [hfF, k9, c, c2]
        rw [eh]
        simp [e173, c173_0, c173_93, c173_94, c173_119, c173_120, c173_158, c173_162, c173_163, c173_184, c173_185, c173_196, c173_208, c173_223, c173_224, s_out, s_g, e13, e0, g, z, e14, c2', b2]
    · have z : ¬ nI (L.length - 17) = 4 := fun q => c (z4.mp q)
      have eh : hfF sw nd L = false := by simp [hfF, k9, c]
      rw [eh]
      simp [e173, c173_0, c173_93, c173_94, c173_119, c173_120, c173_158, c173_162, c173_163, c173_184, c173_185, c173_196, c173_208, c173_223, c173_224, s_out, s_g, e13, e0, g, z, b2]
  by_cases k10 : bn L 0 = 10
  · have g : nI (bn L 0) = 10 := q10.mpr k10
    by_cases c : L.length = 18
    · have z : nI (L.length - 17) = 1 := z1.mpr c
      have eh : hfF sw nd L = true := by simp [hfF, k10, c]
      rw [eh]
      simp [e173, c173_0, c173_93, c173_94, c173_119, c173_120, c173_158, c173_162, c173_163, c173_184, c173_185, c173_196, c173_208, c173_223, c173_224, s_out, s_g, e13, e0, g, z, b2]
    · have z : ¬ nI (L.length - 17) = 1 := fun q => c (z1.mp q)
      have eh : hfF sw nd L = false := by simp [hfF, k10, c]
      rw [eh]
      simp [e173, c173_0, c173_93, c173_94, c173_119, c173_120, c173_158, c173_162, c173_163, c173_184, c173_185, c173_196, c173_208, c173_223, c173_224, s_out, s_g, e13, e0, g, z, b2]
  by_cases k11 : bn L 0 = 11
  · have g : nI (bn L 0) = 11 := q11.mpr k11
    by_cases c : L.length = 25
    · have z : nI (L.length - 17) = 8 := z8.mpr c
      have eh : hfF sw nd L = true := by simp [hfF, k11, c]
      rw [eh]
      simp [e173, c173_0, c173_93, c173_94, c173_119, c173_120, c173_158, c173_162, c173_163, c173_184, c173_185, c173_196, c173_208, c173_223, c173_224, s_out, s_g, e13, e0, g, z, b2]
    · have z : ¬ nI (L.length - 17) = 8 := fun q => c (z8.mp q)
      have eh : hfF sw nd L = false := by simp [hfF, k11, c]
      rw [eh]
      simp [e173, c173_0, c173_93, c173_94, c173_119, c173_120, c173_158, c173_162, c173_163, c173_184, c173_185, c173_196, c173_208, c173_223, c173_224, s_out, s_g, e13, e0, g, z, b2]
  by_cases k12 : bn L 0 = 12
  · have g : nI (bn L 0) = 12 := q12.mpr k12
    by_cases c : L.length = 18
    · have z : nI (L.length - 17) = 1 := z1.mpr c
      have bb := bn_lt L 13
      by_cases c2 : bn L 13 < 2
      · have c2' : ¬ (2 : Int32) ≤ nI (bn L 13) := nI_ge (b := 2) (by omega) (by omega)
        have eh : hfF sw nd L = true := by simp [hfF, k12, c, c2]
        rw [eh]
        simp [e173, c173_0, c173_93, c173_94, c173_119, c173_120, c173_158, c173_162, c173_163, c173_184, c173_185, c173_196, c173_208, c173_223, c173_224, s_out, s_g, e13, e0, g, z, c2', b2]
      · have c2' : (2 : Int32) ≤ nI (bn L 13) := nI_le (a := 2) (by omega) (by omega)
        have eh : hfF sw nd L = false := by simp [hfF, k12, c, c2]
        rw [eh]
        simp [e173, c173_0, c173_93, c173_94, c173_119, c173_120, c173_158, c173_162, c173_163, c173_184, c173_185, c173_196, c173_208, c173_223, c173_224, s_out, s_g, e13, e0, g, z, c2', b2]
    · have z : ¬ nI (L.length - 17) = 1 := fun q => c (z1.mp q)
      have eh : hfF sw nd L = false := by simp [hfF, k12, c]
      rw [eh]
      simp [e173, c173_0, c173_93, c173_94, c173_119, c173_120, c173_158, c173_162, c173_163, c173_184, c173_185, c173_196, c173_208, c173_223, c173_224, s_out, s_g, e13, e0, g, z, b2]
  have eh : hfF sw nd L = true := by simp [hfF, k1, k2, k3, k5, k7, k6, k9, k10, k11, k12]
  rw [eh]
  by_cases k4 : bn L 0 = 4
  · have g : nI (bn L 0) = 4 := q4.mpr k4
    simp [e173, c173_0, s_out, e13, e0, g, b2]
  by_cases k8 : bn L 0 = 8
  · have g : nI (bn L 0) = 8 := q8.mpr k8
    simp [e173, c173_0, s_out, e13, e0, g, b2]
  have g1 : ¬ nI (bn L 0) = 1 := fun q => k1 (q1.mp q)
  have g2 : ¬ nI (bn L 0) = 2 := fun q => k2 (q2.mp q)
  have g3 : ¬ nI (bn L 0) = 3 := fun q => k3 (q3.mp q)
  have g4 : ¬ nI (bn L 0) = 4 := fun q => k4 (q4.mp q)
  have g5 : ¬ nI (bn L 0) = 5 := fun q => k5 (q5.mp q)
  have g6 : ¬ nI (bn L 0) = 6 := fun q => k6 (q6.mp q)
  have g7 : ¬ nI (bn L 0) = 7 := fun q => k7 (q7.mp q)
  have g8 : ¬ nI (bn L 0) = 8 := fun q => k8 (q8.mp q)
  have g9 : ¬ nI (bn L 0) = 9 := fun q => k9 (q9.mp q)
  have g10 : ¬ nI (bn L 0) = 10 := fun q => k10 (q10.mp q)
  have g11 : ¬ nI (bn L 0) = 11 := fun q => k11 (q11.mp q)
  have g12 : ¬ nI (bn L 0) = 12 := fun q => k12 (q12.mp q)
  simp [e173, c173_0, s_out, e13, e0, g1, g2, g3, g4, g5, g6, g7, g8, g9, g10, g11, g12, b2]
/-- isTrue -/
theorem e174_eq (h : rdS S f L) (h0 : S.1 0 0 = nI sw) (h1 : S.1 1 0 = nI nd) (hs8 : sw < 256) (hn8 : nd < 256) (h17 : 17 ≤ L.length) : e174 (nI f) S = some (b2 (tru sw nd L), S) := by
  have h80 := h.2.2.1
  have hf := h.1
  have hz := h.2.1
  have x3 : nI L.length - 4 = nI (L.length - 4) := pk_sub (b := 4) (by omega)
  have x17 : nI L.length - 17 = nI (L.length - 17) := pk_sub (b := 17) (by omega)
  have e4 : e166 (nI f) (nI (L.length - 4)) 4 S = some (num L (L.length - 4) 4, S) := r166 (n := 4) h (by omega)
  have ec : e169 (nI f) (nI (L.length - 4)) S = some (crcF (fun j => L.getD j 0) (L.length - 4) ^^^ (-1), S) := by
    rw [e169_eq hf (by omega), crcF_congr (C := fun j => L.getD j 0) (fun i hi => rdS_get h (by omega))]
  have e12 : e165 (nI f) 12 S = some (nI (bn L 12), S) := r165 (i := 12) h (by omega)
  have b12 := bn_lt L 12
  have e73 := e173_eq h h0 h1 hs8 hn8 h17
  have g7 : s_a S 7 (nI f) = some (nI L.length) := by rw [ga7 hf, hz]
  unfold tru
  generalize crcF (fun j => L.getD j 0) (L.length - 4) ^^^ (-1) = cc at ec ⊢
  by_cases c2 : num L (L.length - 4) 4 = cc
  · rw [if_pos c2]
    by_cases c1 : bn L 12 = L.length - 17
    · rw [if_pos c1]
      have z12 : nI (bn L 12) = nI (L.length - 17) := by rw [c1]
      cases r : hfF sw nd L with
      | false => rw [r] at e73; simp [e174, c174_0, c174_64, c174_65, s_out, g7, x3, x17, e4, ec, c2, e12, z12, e73, b2]
      | true => rw [r] at e73; simp [e174, c174_0, c174_64, c174_65, s_out, g7, x3, x17, e4, ec, c2, e12, z12, e73, b2]
    · rw [if_neg c1]
      have z12 : ¬ nI (bn L 12) = nI (L.length - 17) := fun q => c1 ((nI_eq (by omega) (by omega)).mp q)
      simp [e174, c174_0, c174_64, c174_65, s_out, g7, x3, x17, e4, ec, c2, e12, z12, b2]
  · rw [if_neg c2]
    simp [e174, c174_0, c174_64, c174_65, s_out, g7, x3, x17, e4, ec, c2, b2]
end TS
