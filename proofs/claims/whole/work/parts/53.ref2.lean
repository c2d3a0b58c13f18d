/-! ===== the reference's frames: a byte, a number, a head, a CHECK put behind ===== -/
theorem i8_i32 (z : Int32) : (z.toInt8.toInt32).toInt8 = z.toInt8 := by simp
/-- byte k of w, as it is kept -/
def by8 (w : Int64) (k : Nat) : Int32 := (Int32.toInt8 (Int64.toInt32 (w >>> (Int32.toInt64 (8 * nI k) &&& 63)))).toInt32
/-- frame f gets one byte more -/
def ap1 (S : sT) (f : Nat) (b : Int32) : sT := s_u (s_u S 6 (80 * f + (S.1 7 f).toNatClampNeg) b) 7 f (S.1 7 f + 1)
def apN (f : Nat) (w : Int64) : Nat → sT → sT
  | 0, S => S
  | n + 1, S => apN f w n (ap1 S f (by8 w n))
theorem s_u_nk {S : sT} {k i k2 i2 : Nat} {v : Int32} (h : k2 ≠ k) : (s_u S k i v).1 k2 i2 = S.1 k2 i2 := u2_nk h
theorem s_u_ni {S : sT} {k i k2 i2 : Nat} {v : Int32} (h : i2 ≠ i) : (s_u S k i v).1 k2 i2 = S.1 k2 i2 := u2_ne h
theorem s_u_eq {S : sT} {k i : Nat} {v : Int32} : (s_u S k i v).1 k i = v := u2_eq
theorem i32_m1 (x : Int32) : x + (-1) = x - 1 := (Int32.sub_eq_add_neg x 1).symm
theorem ap1_sz (S : sT) (f : Nat) (b : Int32) : (ap1 S f b).1 7 f = S.1 7 f + 1 := u2_eq
theorem s_s_t {S : sT} {k i : Nat} {v : Int32} (hi : i < mL.getD k 0) (hs : i < 2 ^ 31) : s_s S k (nI i) v = some (s_u S k i v) := by
  unfold s_s
  rw [nI_clamp hs]
  exact if_pos ⟨nI_pos hs, hi⟩
theorem s_sb_t {S : sT} {k i : Nat} {v : Int32} (hi : i < mL.getD k 0) (hs : i < 2 ^ 31) : s_sb S k (nI i) v = some (s_u S k i v.toInt8.toInt32) := by
  unfold s_sb
  rw [nI_clamp hs]
  exact if_pos ⟨nI_pos hs, hi⟩
theorem s_sz_t {S : sT} {k i : Nat} {v : Int32} (hv : v = 0 ∨ v = 1) (hi : i < mL.getD k 0) (hs : i < 2 ^ 31) : s_sz S k (nI i) v = some (s_u S k i v) := by
  unfold s_sz
  rw [nI_clamp hs]
  exact if_pos ⟨hv, nI_pos hs, hi⟩
theorem s_al_t {S : sT} {k i : Nat} (hi : i < mL.getD k 0) (hs : i < 2 ^ 31) : s_al S k (nI i) = some (S.2 k i) := by
  unfold s_al
  rw [nI_clamp hs]
  exact if_pos ⟨nI_pos hs, hi⟩
theorem s_sl_t {S : sT} {k i : Nat} {v : Int64} (hi : i < mL.getD k 0) (hs : i < 2 ^ 31) : s_sl S k (nI i) v = some (s_ul S k i v) := by
  unfold s_sl
  rw [nI_clamp hs]
  exact if_pos ⟨nI_pos hs, hi⟩
theorem k167_loop {f : Nat} {w : Int64} (hf : f < 1800) : ∀ n S z fuel, S.1 7 f = nI z → z + n ≤ 80 → n < fuel → sdrive kS167 fuel 6 [.inl (nI f), .inr (.inl w), .inl (nI n - 1)] S = some (apN f w n S) := by
  intro n
  induction n with
  | zero =>
    intro S z fuel hz hn hfu
    obtain ⟨g, rfl⟩ : ∃ g, fuel = g + 1 := ⟨fuel - 1, by omega⟩
    refine sd_end ?_
    unfold kS167
    rw [if_pos rfl]
    show c167_6 (nI f) w (nI 0 - 1) S = _
    unfold c167_6
    rw [if_pos (by decide)]
    rfl
  | succ n ih =>
    intro S z fuel hz hn hfu
    obtain ⟨g, rfl⟩ : ∃ g, fuel = g + 1 := ⟨fuel - 1, by omega⟩
    have hb : kS167 6 [.inl (nI f), .inr (.inl w), .inl (nI (n + 1) - 1)] S = some (.inr (6, [.inl (nI f), .inr (.inl w), .inl (nI n - 1)], ap1 S f (by8 w n))) := by
      unfold kS167
      rw [if_pos rfl]
      show c167_6 (nI f) w (nI (n + 1) - 1) S = _
      rw [nI_pred]
      unfold c167_6
      rw [if_neg (nI_pos (by omega)), bd_s (s_a_t (show f < 1800 from hf) (by omega)), hz]
      have e : nI f * 80 + nI z = nI (80 * f + z) := by
        rw [show (80 : Int32) = nI 80 from rfl, pk_mul, nI_add, Nat.mul_comm]
      rw [e, bd_s (s_sb_t (show 80 * f + z < 144000 by omega) (by omega)), bd_s (s_a_t (show f < 1800 from hf) (by omega)), bd_s (s_s_t (show f < 1800 from hf) (by omega))]
      have e2 : (s_u S 6 (80 * f + z) (Int32.toInt8 ((Int32.toInt8 (Int64.toInt32 (w >>> (Int32.toInt64 (8 * nI n) &&& 63)))).toInt32)).toInt32).1 7 f = nI z := (s_u_nk (by decide)).trans hz
      rw [e2, i8_i32, i32_m1]
      have e3 : ap1 S f (by8 w n) = s_u (s_u S 6 (80 * f + z) (by8 w n)) 7 f (nI z + 1) := by
        unfold ap1
        rw [hz, nI_clamp (by omega)]
      rw [e3]
      rfl
    rw [sd_go hb]
    exact ih (ap1 S f (by8 w n)) (z + 1) g (by rw [ap1_sz, hz, nI_1]) (by omega) (by omega)
theorem e167_eq {S : sT} {f n z : Nat} {w : Int64} (hf : f < 1800) (hz : S.1 7 f = nI z) (hn : z + n ≤ 80) : e167 (nI f) w (nI n) S = some (apN f w n S) := by
  show sdrive kS167 xF 6 [.inl (nI f), .inr (.inl w), .inl (nI n - 1)] S = _
  exact k167_loop hf n S z xF hz hn (by unfold xF; omega)
theorem apN_sz (f : Nat) (w : Int64) : ∀ n S z, S.1 7 f = nI z → (apN f w n S).1 7 f = nI (z + n)
  | 0, S, z, hz => hz
  | n + 1, S, z, hz => by
    have := apN_sz f w n (ap1 S f (by8 w n)) (z + 1) (by rw [ap1_sz, hz, nI_1])
    rw [show z + (n + 1) = z + 1 + n by omega]
    exact this
