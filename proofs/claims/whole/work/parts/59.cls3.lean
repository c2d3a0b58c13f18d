/-! ===== start ===== -/
theorem qi_rd {M : hM} {b i j : Nat} {v : Int32} : h_ai (h_qi M b i v) b j = if j = i then v else h_ai M b j := by
  by_cases h : j = i
  · subst h
    rw [if_pos rfl, qi_eq]
  · rw [if_neg h, qi_ne h]
theorem sh32 (v : Int32) : ∀ i, i < 3 → (Int32.toInt8 (v >>> (((16 : Int32) - ((8 : Int32) * nI i)) &&& 31))).toInt32 = by8 v.toInt64 (2 - i) := by
  intro i hi
  have h0 : i = 0 ∨ i = 1 ∨ i = 2 := by omega
  rcases h0 with rfl | rfl | rfl
  · rw [show (16 : Int32) - 8 * nI 0 = 16 by decide]; exact by8_i2 v
  · rw [show (16 : Int32) - 8 * nI 1 = 8 by decide]; exact by8_i1 v
  · rw [show (16 : Int32) - 8 * nI 2 = 0 by decide]; exact by8_i0' v
section ST
variable {a b : Nat} {v1 v2 v3 v4 : Int32} {M : hM}
theorem k32_in {i : Nat} (hF : isFb M a b) (hi : i < 3) : k32 22 [.inr (.inr (some a)), .inl v2, .inl v3, .inl v4, .inl (nI i)] M = some (.inr (22, [.inr (.inr (some a)), .inl v2, .inl v3, .inl v4, .inl (nI (i + 1))], h_qi (h_qi M b (1 + i) (by8 v2.toInt64 (2 - i))) b (4 + i) (by8 v3.toInt64 (2 - i)))) := by
  have hF1 := (qi_bo (b := b) (i := 1 + i) (v := by8 v2.toInt64 (2 - i)) (M := M)).keepF hF
  unfold k32
  rw [if_pos rfl]
  show b32_22 a v2 v3 v4 (nI i) M = _
  unfold b32_22
  rw [if_neg (show ¬ (3 : Int32) ≤ nI i from nI_ge (a := i) (b := 3) hi (by decide)), bd_s (g_r_t (ci := 2) hF.1)]
  show Option.bind (as_b M 21 (h_fr M 200 a) (nI 1 + nI i) _) _ = _
  rw [hF.2.1, nI_add, bd_s (as_b_t hF.2.2.1 (by rw [hF.2.2.2]; omega) (by omega)), i8_i32, sh32 v2 i hi, bd_s (g_r_t (ci := 2) hF1.1)]
  show Option.bind (as_b _ 21 (h_fr _ 200 a) (nI 4 + nI i) _) _ = _
  rw [hF1.2.1, nI_add, bd_s (as_b_t hF1.2.2.1 (by rw [hF1.2.2.2]; omega) (by omega)), i8_i32, sh32 v3 i hi, ← nI_1]
theorem k32_out (hF : isFb M a b) : k32 22 [.inr (.inr (some a)), .inl v2, .inl v3, .inl v4, .inl (nI 3)] M = some (.inr (101, [.inr (.inr (some a)), .inl (nI 9)], h_qi (h_qi M b 7 (by8 v4.toInt64 1)) b 8 (by8 v4.toInt64 0))) := by
  have hF1 := (qi_bo (b := b) (i := 7) (v := by8 v4.toInt64 1) (M := M)).keepF hF
  unfold k32
  rw [if_pos rfl]
  show b32_22 a v2 v3 v4 (nI 3) M = _
  unfold b32_22
  rw [if_pos (show (3 : Int32) ≤ nI 3 by decide), bd_s (g_r_t (ci := 2) hF.1)]
  show Option.bind (as_b M 21 (h_fr M 200 a) (nI 7) _) _ = _
  rw [hF.2.1, bd_s (as_b_t hF.2.2.1 (by rw [hF.2.2.2]; omega) (by omega)), i8_i32, by8_i1, bd_s (g_r_t (ci := 2) hF1.1)]
  show Option.bind (as_b _ 21 (h_fr _ 200 a) (nI 8) _) _ = _
  rw [hF1.2.1, bd_s (as_b_t hF1.2.2.1 (by rw [hF1.2.2.2]; omega) (by omega)), i8_i32, by8_i0]
  rfl
theorem k32_0 {i : Nat} (hF : isFb M a b) (hi : i < 13) : k32 101 [.inr (.inr (some a)), .inl (nI i)] M = some (.inr (101, [.inr (.inr (some a)), .inl (nI (i + 1))], h_qi M b i 0)) := by
  unfold k32
  rw [if_neg (by decide), if_pos rfl]
  show b32_101 a (nI i) M = _
  unfold b32_101
  rw [if_neg (show ¬ (13 : Int32) ≤ nI i from nI_ge (a := i) (b := 13) hi (by decide)), bd_s (g_r_t (ci := 2) hF.1)]
  show Option.bind (as_b M 21 (h_fr M 200 a) (nI i) _) _ = _
  rw [hF.2.1, bd_s (as_b_t hF.2.2.1 (by rw [hF.2.2.2]; omega) (by omega)), ← nI_1]
  rfl
theorem k32_e : k32 101 [.inr (.inr (some a)), .inl (nI 13)] M = some (.inl (none, M)) := by
  unfold k32
  rw [if_neg (by decide), if_pos rfl]
  show b32_101 a (nI 13) M = _
  unfold b32_101
  rw [if_pos (by decide)]
/-- start: length 13, not flipped, the head -/
theorem f32_eq (hF : isFb M a b) : ∃ N, f32 [.inr (.inr (some a)), .inl v1, .inl v2, .inl v3, .inl v4] M = some (none, N) ∧ bo b (h_pi (h_pi M 201 a (nI 13)) 202 a 0) N ∧ fbl N b 13 = hdL v1 v2 v3 v4 0 0 := by
  have hF0 : isFb (h_pi (h_pi M 201 a (nI 13)) 202 a 0) a b := hF
  generalize hM0 : h_pi (h_pi M 201 a (nI 13)) 202 a 0 = L at hF0
  have e0 : b32_0 a v1 v2 v3 v4 M = some (.inr (22, [.inr (.inr (some a)), .inl v2, .inl v3, .inl v4, .inl (nI 0)], h_qi L b 0 (by8 v1.toInt64 0))) := by
    have hF1 : isFb (h_pi M 201 a (nI 13)) a b := hF
    unfold b32_0
    rw [bd_s (p_i_t (ci := 2) hF.1)]
    show Option.bind (p_z (h_pi M 201 a (nI 13)) 2 2 (some a) 0) _ = _
    rw [bd_s (p_z_t (ci := 2) hF1.1 (Or.inl rfl))]
    show Option.bind (g_r (h_pi (h_pi M 201 a (nI 13)) 202 a 0) 2 0 (some a)) _ = _
    rw [hM0, bd_s (g_r_t (ci := 2) hF0.1)]
    show Option.bind (as_b L 21 (h_fr L 200 a) (nI 0) _) _ = _
    rw [hF0.2.1, bd_s (as_b_t hF0.2.2.1 (by rw [hF0.2.2.2]; omega) (by omega)), i8_i32, by8_i0]
    rfl
  have q0 := (qi_bo (b := b) (i := 0) (v := by8 v1.toInt64 0) (M := L))
  generalize h1 : h_qi L b 0 (by8 v1.toInt64 0) = L1 at e0 q0
  have F1 := q0.keepF hF0
  have q1 := (qi_bo (b := b) (i := 1 + 0) (v := by8 v2.toInt64 (2 - 0)) (M := L1)).tr (qi_bo (i := 4 + 0) (v := by8 v3.toInt64 (2 - 0)))
  have s1 := k32_in (v2 := v2) (v3 := v3) (v4 := v4) (i := 0) F1 (by decide)
  generalize h2 : h_qi (h_qi L1 b (1 + 0) (by8 v2.toInt64 (2 - 0))) b (4 + 0) (by8 v3.toInt64 (2 - 0)) = L2 at s1 q1
  have F2 := q1.keepF F1
  have q2 := (qi_bo (b := b) (i := 1 + 1) (v := by8 v2.toInt64 (2 - 1)) (M := L2)).tr (qi_bo (i := 4 + 1) (v := by8 v3.toInt64 (2 - 1)))
  have s2 := k32_in (v2 := v2) (v3 := v3) (v4 := v4) (i := 1) F2 (by decide)
  generalize h3 : h_qi (h_qi L2 b (1 + 1) (by8 v2.toInt64 (2 - 1))) b (4 + 1) (by8 v3.toInt64 (2 - 1)) = L3 at s2 q2
  have F3 := q2.keepF F2
  have q3 := (qi_bo (b := b) (i := 1 + 2) (v := by8 v2.toInt64 (2 - 2)) (M := L3)).tr (qi_bo (i := 4 + 2) (v := by8 v3.toInt64 (2 - 2)))
  have s3 := k32_in (v2 := v2) (v3 := v3) (v4 := v4) (i := 2) F3 (by decide)
  generalize h4 : h_qi (h_qi L3 b (1 + 2) (by8 v2.toInt64 (2 - 2))) b (4 + 2) (by8 v3.toInt64 (2 - 2)) = L4 at s3 q3
  have F4 := q3.keepF F3
  have q4 := (qi_bo (b := b) (i := 7) (v := by8 v4.toInt64 1) (M := L4)).tr (qi_bo (i := 8) (v := by8 v4.toInt64 0))
  have s4 := k32_out (v2 := v2) (v3 := v3) (v4 := v4) F4
  generalize h5 : h_qi (h_qi L4 b 7 (by8 v4.toInt64 1)) b 8 (by8 v4.toInt64 0) = L5 at s4 q4
  have F5 := q4.keepF F4
  have q5 := (qi_bo (b := b) (i := 9) (v := 0) (M := L5))
  have F6 := q5.keepF F5
  have q6 := (qi_bo (b := b) (i := 10) (v := 0) (M := h_qi L5 b 9 0))
  have F7 := q6.keepF F6
  have q7 := (qi_bo (b := b) (i := 11) (v := 0) (M := h_qi (h_qi L5 b 9 0) b 10 0))
  have F8 := q7.keepF F7
  have q8 := (qi_bo (b := b) (i := 12) (v := 0) (M := h_qi (h_qi (h_qi L5 b 9 0) b 10 0) b 11 0))
  refine ⟨h_qi (h_qi (h_qi (h_qi L5 b 9 0) b 10 0) b 11 0) b 12 0, ?_, q0.tr (q1.tr (q2.tr (q3.tr (q4.tr (q5.tr (q6.tr (q7.tr q8))))))), ?_⟩
  · show x_go k32 (b32_0 a v1 v2 v3 v4 M) = _
    rw [e0]
    show drive k32 (999991 + 9) 22 _ L1 = _
    rw [dr_go s1]
    show drive k32 (999991 + 8) 22 _ L2 = _
    rw [dr_go s2]
    show drive k32 (999991 + 7) 22 _ L3 = _
    rw [dr_go s3]
    show drive k32 (999991 + 6) 22 _ L4 = _
    rw [dr_go s4]
    show drive k32 (999991 + 5) 101 _ L5 = _
    rw [dr_go (k32_0 F5 (by decide))]
    show drive k32 (999991 + 4) 101 _ _ = _
    rw [dr_go (k32_0 F6 (by decide))]
    show drive k32 (999991 + 3) 101 _ _ = _
    rw [dr_go (k32_0 F7 (by decide))]
    show drive k32 (999991 + 2) 101 _ _ = _
    rw [dr_go (k32_0 F8 (by decide))]
    exact dr_end k32_e
  · have z8 : ∀ k, k < 8 → by8 0 k = 0 := by decide
    have rd : fbl (h_qi (h_qi (h_qi (h_qi L5 b 9 0) b 10 0) b 11 0) b 12 0) b 13 = [by8 v1.toInt64 0, by8 v2.toInt64 2, by8 v2.toInt64 1, by8 v2.toInt64 0, by8 v3.toInt64 2, by8 v3.toInt64 1, by8 v3.toInt64 0, by8 v4.toInt64 1, by8 v4.toInt64 0, 0, 0, 0, 0] := by
      rw [← h5, ← h4, ← h3, ← h2, ← h1]
      simp [fbl, List.range, List.range.loop, qi_rd]
    rw [rd]
    have z0 : byL (0 : Int64) 1 = [0] := by show [by8 0 0] = [0]; rw [z8 0 (by decide)]
    have z1 : byL (Int32.toInt64 0) 1 = [0] := by show [by8 0 0] = [0]; rw [z8 0 (by decide)]
    have z2 : byL (Int32.toInt64 0) 2 = [0, 0] := by show [by8 0 1, by8 0 0] = [0, 0]; rw [z8 0 (by decide), z8 1 (by decide)]
    unfold hdL
    rw [z0, z1, z2]
    rfl
end ST
