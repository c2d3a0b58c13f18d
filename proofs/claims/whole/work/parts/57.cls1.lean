/-! ===== the class's frames: put, addLoad ===== -/
/-- frame a, its bytes at b -/
def isFb (M : hM) (a b : Nat) : Prop := h_tg M a = 3 ∧ h_fr M 200 a = some b ∧ h_tg M b = 21 ∧ h_ln M b = 48
/-- only the bytes of b may differ -/
def bo (b : Nat) (M N : hM) : Prop := (h_fi N = h_fi M ∧ h_fl N = h_fl M ∧ h_fr N = h_fr M ∧ h_al N = h_al M ∧ h_ar N = h_ar M) ∧ (h_ln N = h_ln M ∧ h_tg N = h_tg M ∧ h_sz N = h_sz M ∧ h_sl N = h_sl M) ∧ ∀ x i, x ≠ b → h_ai N x i = h_ai M x i
theorem bo.rf {b : Nat} {M : hM} : bo b M M := ⟨⟨rfl, rfl, rfl, rfl, rfl⟩, ⟨rfl, rfl, rfl, rfl⟩, fun _ _ _ => rfl⟩
theorem bo.tr {b : Nat} {M N O : hM} (h : bo b M N) (g : bo b N O) : bo b M O := by
  obtain ⟨⟨a1, a2, a3, a4, a5⟩, ⟨a6, a7, a8, a9⟩, a0⟩ := h
  obtain ⟨⟨b1, b2, b3, b4, b5⟩, ⟨b6, b7, b8, b9⟩, b0⟩ := g
  exact ⟨⟨b1.trans a1, b2.trans a2, b3.trans a3, b4.trans a4, b5.trans a5⟩, ⟨b6.trans a6, b7.trans a7, b8.trans a8, b9.trans a9⟩, fun x i q => (b0 x i q).trans (a0 x i q)⟩
theorem bo.keepF {b a c : Nat} {M N : hM} (h : bo b M N) (g : isFb M a c) : isFb N a c := by
  obtain ⟨⟨a1, a2, a3, a4, a5⟩, ⟨a6, a7, a8, a9⟩, a0⟩ := h
  unfold isFb
  rw [a7, a3, a6]
  exact g
theorem qi_bo {b i : Nat} {v : Int32} {M : hM} : bo b M (h_qi M b i v) := ⟨⟨rfl, rfl, rfl, rfl, rfl⟩, ⟨rfl, rfl, rfl, rfl⟩, fun _ _ q => u2_nk q⟩
theorem qi_eq {b i : Nat} {v : Int32} {M : hM} : h_ai (h_qi M b i v) b i = v := u2_eq
theorem qi_ne {b i j : Nat} {v : Int32} {M : hM} (h : j ≠ i) : h_ai (h_qi M b i v) b j = h_ai M b j := u2_ne h
theorem f35_loop {a b at_ n : Nat} {w : Int64} (hn : at_ + n ≤ 48) (h8 : n ≤ 8) : ∀ d i M fuel, i + d = n → d < fuel → isFb M a b → ∃ N, drive k35 fuel 3 [.inr (.inr (some a)), .inl (nI at_), .inl (nI n), .inr (.inl w), .inl (nI i)] M = some (none, N) ∧ bo b M N ∧ (∀ j, (j < at_ + i ∨ at_ + n ≤ j) → h_ai N b j = h_ai M b j) ∧ ∀ k, k < d → h_ai N b (at_ + n - 1 - k) = by8 w k := by
  intro d
  induction d with
  | zero =>
    intro i M fuel hi hf hF
    obtain ⟨f, rfl⟩ : ∃ f, fuel = f + 1 := ⟨fuel - 1, by omega⟩
    refine ⟨M, dr_end ?_, bo.rf, fun _ _ => rfl, fun k hk => by omega⟩
    unfold k35
    rw [if_pos rfl]
    show b35_3 a (nI at_) (nI n) w (nI i) M = _
    unfold b35_3
    rw [if_pos (nI_le (by omega) (by omega))]
  | succ d ih =>
    intro i M fuel hi hf hF
    obtain ⟨f, rfl⟩ : ∃ f, fuel = f + 1 := ⟨fuel - 1, by omega⟩
    obtain ⟨h1, h2, h3, h4⟩ := hF
    have hb : k35 3 [.inr (.inr (some a)), .inl (nI at_), .inl (nI n), .inr (.inl w), .inl (nI i)] M = some (.inr (3, [.inr (.inr (some a)), .inl (nI at_), .inl (nI n), .inr (.inl w), .inl (nI (i + 1))], h_qi M b (at_ + i) (by8 w d))) := by
      unfold k35
      rw [if_pos rfl]
      show b35_3 a (nI at_) (nI n) w (nI i) M = _
      unfold b35_3
      rw [if_neg (nI_ge (by omega) (by omega)), nI_add, if_neg (nI_pos (by omega)), bd_s (g_r_t (ci := 2) h1)]
      show Option.bind (a_ln M 21 (h_fr M 200 a)) _ = _
      rw [h2, bd_s (a_ln_t h3), h4, if_neg (nI_ge (by omega) (by omega)), bd_s (g_r_t (ci := 2) h1)]
      show Option.bind (as_b M 21 (h_fr M 200 a) (nI (at_ + i)) _) _ = _
      have e : nI n - 1 - nI i = nI d := by
        rw [show n = i + d + 1 by omega, nI_pred, pk_sub (by omega), show i + d - i = d by omega]
      rw [h2, e, bd_s (as_b_t h3 (by omega) (by omega)), i8_i32, by8_u w (by omega), ← nI_1]
      rfl
    obtain ⟨N, g1, g2, g3, g4⟩ := ih (i + 1) (h_qi M b (at_ + i) (by8 w d)) f (by omega) (by omega) (qi_bo.keepF ⟨h1, h2, h3, h4⟩)
    refine ⟨N, by rw [dr_go hb]; exact g1, qi_bo.tr g2, fun j hj => ?_, fun k hk => ?_⟩
    · rw [g3 j (by omega), qi_ne (by omega)]
    · by_cases e : k = d
      · subst e
        rw [show at_ + n - 1 - k = at_ + i by omega, g3 _ (by omega), qi_eq]
      · exact g4 k (by omega)
theorem f35_eq {a b at_ n : Nat} {w : Int64} {M : hM} (hF : isFb M a b) (hn : at_ + n ≤ 48) (h8 : n ≤ 8) : ∃ N, f35 [.inr (.inr (some a)), .inl (nI at_), .inl (nI n), .inr (.inl w)] M = some (none, N) ∧ bo b M N ∧ (∀ j, (j < at_ ∨ at_ + n ≤ j) → h_ai N b j = h_ai M b j) ∧ ∀ k, k < n → h_ai N b (at_ + n - 1 - k) = by8 w k := by
  obtain ⟨N, g1, g2, g3, g4⟩ := f35_loop (w := w) hn h8 n 0 M xF (by omega) (by unfold xF; omega) hF
  exact ⟨N, g1, g2, fun j hj => g3 j (by omega), g4⟩
/-- the first z bytes at b -/
def fbl (M : hM) (b z : Nat) : List Int32 := (List.range z).map (fun i => h_ai M b i)
theorem byL_get (w : Int64) : ∀ n i, i < n → (byL w n)[i]? = some (by8 w (n - 1 - i))
  | 0, i, h => by omega
  | n + 1, 0, _ => rfl
  | n + 1, i + 1, h => by
    show (byL w n)[i]? = _
    rw [byL_get w n i (by omega)]
    congr 2
    omega
theorem fbl_put {M N : hM} {b z n : Nat} {w : Int64} (h1 : ∀ j, j < z → h_ai N b j = h_ai M b j) (h2 : ∀ k, k < n → h_ai N b (z + n - 1 - k) = by8 w k) : fbl N b (z + n) = fbl M b z ++ byL w n := by
  apply List.ext_getElem?
  intro j
  unfold fbl
  by_cases hj : j < z
  · rw [List.getElem?_append_left (by rw [List.length_map, List.length_range]; exact hj), List.getElem?_map, List.getElem?_map, List.getElem?_range hj, List.getElem?_range (by omega)]
    show some (h_ai N b j) = some (h_ai M b j)
    rw [h1 j hj]
  · rw [List.getElem?_append_right (by rw [List.length_map, List.length_range]; omega), List.length_map, List.length_range]
    by_cases hk : j < z + n
    · rw [List.getElem?_map, List.getElem?_range hk, byL_get w n (j - z) (by omega)]
      show some (h_ai N b j) = _
      have := h2 (n - 1 - (j - z)) (by omega)
      rw [show z + n - 1 - (n - 1 - (j - z)) = j by omega] at this
      rw [this]
    · rw [List.getElem?_eq_none (by rw [List.length_map, List.length_range]; omega), List.getElem?_eq_none (by rw [byL_len]; omega)]
/-- addLoad: n bytes of w behind the z that are there -/
theorem f36_eq {a b z n : Nat} {w : Int64} {M : hM} (hF : isFb M a b) (hz : h_fi M 201 a = nI z) (hn : z + n ≤ 44) (h8 : n ≤ 8) : ∃ N, f36 [.inr (.inr (some a)), .inl (nI n), .inr (.inl w)] M = some (none, h_pi N 201 a (nI (z + n))) ∧ bo b M N ∧ fbl N b (z + n) = fbl M b z ++ byL w n := by
  obtain ⟨N, g1, g2, g3, g4⟩ := f35_eq (at_ := z) (w := w) hF (by omega) h8
  refine ⟨N, ?_, g2, fbl_put (fun j hj => g3 j (Or.inl hj)) g4⟩
  have hN := g2.keepF hF
  have hz' : h_fi N 201 a = nI z := by rw [g2.1.1]; exact hz
  show x_out (b36_0 a (nI n) w M) = _
  unfold b36_0
  rw [bd_s (g_i_t (ci := 2) hF.1)]
  show x_out (Option.bind (g_o M 2 (some a)) _) = _
  rw [bd_s (g_o_t hF.1)]
  show x_out (Option.bind (c_V (f35 [.inr (.inr (some a)), .inl (h_fi M 201 a), .inl (nI n), .inr (.inl w)] M)) _) = _
  rw [hz, bd_s (c_V_of g1), bd_s (g_i_t (ci := 2) hN.1)]
  show x_out (Option.bind (p_i N 2 1 (some a) (if (44 : Int32) < h_fi N 201 a + nI n then 44 else h_fi N 201 a + nI n)) _) = _
  rw [hz', nI_add, if_neg (show ¬ (44 : Int32) < nI (z + n) from nI_nlt (a := 44) (by omega) (by omega)), bd_s (p_i_t (ci := 2) hN.1)]
  rfl
