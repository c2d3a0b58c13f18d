theorem c169_51_eq (v1 v2 v3 v4 v5 : Int32) (S : sT) : c169_51 v1 v2 v3 v4 v5 S = some (.inr (24, [.inl v1, .inl v2, .inl v3, .inl v4, .inl (v5 + 1)], S)) := rfl
theorem k169_in {v1 v2 c v4 : Int32} {S : sT} {k : Nat} (hk : k < 8) : kS169 24 [.inl v1, .inl v2, .inl c, .inl v4, .inl (nI k)] S = some (.inr (24, [.inl v1, .inl v2, .inl (crc1 c), .inl v4, .inl (nI (k + 1))], S)) := by
  unfold kS169
  rw [if_neg (by decide), if_pos rfl]
  show c169_24 v1 v2 c v4 (nI k) S = _
  unfold c169_24
  rw [if_neg (show ¬ (8 : Int32) ≤ nI k from nI_ge (a := k) (b := 8) hk (by decide)), ← nI_1]
  by_cases h : (c &&& 1) = 1
  · rw [if_pos h]
    have e : crc1 c = c_us c 1 ^^^ (-306674912) := if_pos h
    rw [e]
    rfl
  · rw [if_neg h]
    have e : crc1 c = c_us c 1 := if_neg h
    rw [e]
    rfl
theorem k169_out {v1 v2 c v4 : Int32} {S : sT} : kS169 24 [.inl v1, .inl v2, .inl c, .inl v4, .inl (nI 8)] S = some (.inr (5, [.inl v1, .inl v2, .inl c, .inl (v4 + 1)], S)) := by
  unfold kS169
  rw [if_neg (by decide), if_pos rfl]
  show c169_24 v1 v2 c v4 (nI 8) S = _
  unfold c169_24
  rw [if_pos (by decide)]
theorem k169_turn {S : sT} {f n i fuel : Nat} {c : Int32} (hf : f < 1800) (hn : n ≤ 80) (hi : i < n) : sdrive kS169 (fuel + 10) 5 [.inl (nI f), .inl (nI n), .inl c, .inl (nI i)] S = sdrive kS169 fuel 5 [.inl (nI f), .inl (nI n), .inl (crc8 (c ^^^ (fB S f i &&& 255))), .inl (nI (i + 1))] S := by
  have hb : kS169 5 [.inl (nI f), .inl (nI n), .inl c, .inl (nI i)] S = some (.inr (24, [.inl (nI f), .inl (nI n), .inl (c ^^^ (fB S f i &&& 255)), .inl (nI i), .inl (nI 0)], S)) := by
    unfold kS169
    rw [if_pos rfl]
    show c169_5 (nI f) (nI n) c (nI i) S = _
    unfold c169_5
    rw [if_neg (nI_ge hi (by omega)), bd_s (e165_eq hf (by omega))]
    rfl
  rw [sd_go hb]
  show sdrive kS169 (fuel + 9) 24 _ S = _
  rw [sd_go (k169_in (k := 0) (by decide))]
  show sdrive kS169 (fuel + 8) 24 _ S = _
  rw [sd_go (k169_in (k := 1) (by decide))]
  show sdrive kS169 (fuel + 7) 24 _ S = _
  rw [sd_go (k169_in (k := 2) (by decide))]
  show sdrive kS169 (fuel + 6) 24 _ S = _
  rw [sd_go (k169_in (k := 3) (by decide))]
  show sdrive kS169 (fuel + 5) 24 _ S = _
  rw [sd_go (k169_in (k := 4) (by decide))]
  show sdrive kS169 (fuel + 4) 24 _ S = _
  rw [sd_go (k169_in (k := 5) (by decide))]
  show sdrive kS169 (fuel + 3) 24 _ S = _
  rw [sd_go (k169_in (k := 6) (by decide))]
  show sdrive kS169 (fuel + 2) 24 _ S = _
  rw [sd_go (k169_in (k := 7) (by decide))]
  show sdrive kS169 (fuel + 1) 24 _ S = _
  rw [sd_go k169_out, nI_1]
  rfl
theorem k169_loop {S : sT} {f n : Nat} (hf : f < 1800) (hn : n ≤ 80) : ∀ d i fuel, i + d = n → 10 * d < fuel → sdrive kS169 fuel 5 [.inl (nI f), .inl (nI n), .inl (crcF (fB S f) i), .inl (nI i)] S = some (crcF (fB S f) n ^^^ (-1), S) := by
  intro d
  induction d with
  | zero =>
    intro i fuel hi hfu
    obtain ⟨g, rfl⟩ : ∃ g, fuel = g + 1 := ⟨fuel - 1, by omega⟩
    refine sd_end ?_
    unfold kS169
    rw [if_pos rfl]
    show c169_5 (nI f) (nI n) _ (nI i) S = _
    unfold c169_5
    rw [if_pos (nI_le (by omega) (by omega))]
    have : i = n := by omega
    subst this
    rfl
  | succ d ih =>
    intro i fuel hi hfu
    obtain ⟨g, rfl⟩ : ∃ g, fuel = g + 10 := ⟨fuel - 10, by omega⟩
    rw [k169_turn hf hn (by omega)]
    exact ih (i + 1) g (by omega) (by omega)
theorem e169_eq {S : sT} {f n : Nat} (hf : f < 1800) (hn : n ≤ 80) : e169 (nI f) (nI n) S = some (crcF (fB S f) n ^^^ (-1), S) := by
  show sdrive kS169 xF 5 [.inl (nI f), .inl (nI n), .inl (-1), .inl 0] S = _
  exact k169_loop hf hn n 0 xF (by omega) (by unfold xF; omega)
theorem crcF_congr {B C : Nat → Int32} {n : Nat} (h : ∀ i, i < n → B i = C i) : crcF B n = crcF C n := by
  induction n with
  | zero => rfl
  | succ n ih =>
    show crc8 (crcF B n ^^^ (B n &&& 255)) = crc8 (crcF C n ^^^ (C n &&& 255))
    rw [ih (fun i hi => h i (by omega)), h n (by omega)]
/-! ===== numbers of some bytes ===== -/
/-- the number that the n bytes from i on tell -/
def numF (B : Nat → Int32) (i : Nat) : Nat → Int32
  | 0 => 0
  | n + 1 => (numF B i n <<< (8 &&& 31)) ||| (B (i + n) &&& 255)
theorem k166_loop {S : sT} {f i n : Nat} (hf : f < 1800) (hn : i + n ≤ 80) : ∀ d k fuel, k + d = n → d < fuel → sdrive kS166 fuel 6 [.inl (nI f), .inl (nI i), .inl (nI n), .inl (numF (fB S f) i k), .inl (nI k)] S = some (numF (fB S f) i n, S) := by
  intro d
  induction d with
  | zero =>
    intro k fuel hk hfu
    obtain ⟨g, rfl⟩ : ∃ g, fuel = g + 1 := ⟨fuel - 1, by omega⟩
    refine sd_end ?_
    unfold kS166
    rw [if_pos rfl]
    show c166_6 (nI f) (nI i) (nI n) _ (nI k) S = _
    unfold c166_6
    rw [if_pos (nI_le (by omega) (by omega))]
    have : k = n := by omega
    subst this
    rfl
  | succ d ih =>
    intro k fuel hk hfu
    obtain ⟨g, rfl⟩ : ∃ g, fuel = g + 1 := ⟨fuel - 1, by omega⟩
    have hb : kS166 6 [.inl (nI f), .inl (nI i), .inl (nI n), .inl (numF (fB S f) i k), .inl (nI k)] S = some (.inr (6, [.inl (nI f), .inl (nI i), .inl (nI n), .inl (numF (fB S f) i (k + 1)), .inl (nI (k + 1))], S)) := by
      unfold kS166
      rw [if_pos rfl]
      show c166_6 (nI f) (nI i) (nI n) _ (nI k) S = _
      unfold c166_6
      rw [if_neg (nI_ge (by omega) (by omega)), nI_add, bd_s (e165_eq hf (by omega)), ← nI_1]
      rfl
    rw [sd_go hb]
    exact ih (k + 1) g (by omega) (by omega)
theorem e166_eq {S : sT} {f i n : Nat} (hf : f < 1800) (hn : i + n ≤ 80) : e166 (nI f) (nI i) (nI n) S = some (numF (fB S f) i n, S) := by
  show sdrive kS166 xF 6 [.inl (nI f), .inl (nI i), .inl (nI n), .inl 0, .inl 0] S = _
  exact k166_loop hf hn n 0 xF (by omega) (by unfold xF; omega)
