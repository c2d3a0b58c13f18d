/-! ===== the law's loop ===== -/
section LZ
variable {sw nd rm t zb sb o m : Nat} {ad : Nat → Nat} {H H1 N M0 : hM} {S S' : sT} {ρ : Nat → Nat} {xs : Nat → Int32} {n j : Nat}
theorem LV.room (h : LV sw nd rm t zb sb o m ad H) : h_sz H ≤ zb + 3580 ∧ h_sl H ≤ sb + 93080 := by
  obtain ⟨N, S, ρ, ⟨ia, w, pe, wo, fl, kR, ka, tog, nc, ca, hh, lv, jj, G, ⟨hT, -⟩, -⟩, ⟨⟨-, r1, r2⟩, -⟩, -⟩ := h
  obtain ⟨ct, ⟨-, cl, -, -, -, -, c5, c6, c7⟩, -⟩ := hT.1.pb
  omega
theorem law_loop (hn : n ≤ 4099) : ∀ d i t zb sb H fuel, i + d = 513 → d < fuel → LV sw nd rm t zb sb o m ad H → t ≤ 300 * i → ∃ r H', drive (k999 xs n) fuel 48 [.inr (.inr (some o)), .inr (.inr (some m)), .inl (nI (3 + 8 * i))] H = some (r, H') ∧ h_sz H' ≤ zb + 16 * d + 3580 ∧ h_sl H' ≤ sb + 131 * d + 93080 := by
  intro d
  induction d with
  | zero =>
    intro i t zb sb H fuel hi hf hL ht
    obtain ⟨g, rfl⟩ : ∃ g, fuel = g + 1 := ⟨fuel - 1, by omega⟩
    have st : k999 xs n 48 [.inr (.inr (some o)), .inr (.inr (some m)), .inl (nI (3 + 8 * i))] H = some (.inl (some (.inl 1), H)) := by
      show b999_48 xs n (some o) (some m) (nI (3 + 8 * i)) H = _
      unfold b999_48
      rw [if_pos]
      by_cases q : 8 ≤ n
      · rw [show (Int32.ofNat n - (8 : Int32)) = nI (n - 8) from pk_sub q]
        exact nI_lt (by omega) (by omega)
      · exact Int32.lt_iff_toInt_lt.mpr (by
          rw [show (Int32.ofNat n - (8 : Int32)).toInt = (n : Int) - (8 : Nat) from pk_sub_toInt (by omega) (by decide), nI_toInt (by omega)]
          omega)
    have := hL.room
    exact ⟨_, H, dr_end st, by omega, by omega⟩
  | succ d ih =>
    intro i t zb sb H fuel hi hf hL ht
    obtain ⟨g, rfl⟩ : ∃ g, fuel = g + 1 := ⟨fuel - 1, by omega⟩
    by_cases hj : 3 + 8 * i + 8 ≤ n
    · obtain ⟨H', e1, t', zb', sb', hL', b1, b2, b3⟩ := law_step (xs := xs) hj hn hL (by omega)
      have st : k999 xs n 48 [.inr (.inr (some o)), .inr (.inr (some m)), .inl (nI (3 + 8 * i))] H = some (.inr (48, [.inr (.inr (some o)), .inr (.inr (some m)), .inl (nI (3 + 8 * (i + 1)))], H')) := e1
      rw [dr_go st]
      obtain ⟨r, H2, x1, x2, x3⟩ := ih (i + 1) t' zb' sb' H' g (by omega) (by omega) hL' (by omega)
      exact ⟨r, H2, x1, by omega, by omega⟩
    · have st : k999 xs n 48 [.inr (.inr (some o)), .inr (.inr (some m)), .inl (nI (3 + 8 * i))] H = some (.inl (some (.inl 1), H)) := by
        show b999_48 xs n (some o) (some m) (nI (3 + 8 * i)) H = _
        unfold b999_48
        rw [if_pos]
        by_cases q : 8 ≤ n
        · rw [show (Int32.ofNat n - (8 : Int32)) = nI (n - 8) from pk_sub q]
          exact nI_lt (by omega) (by omega)
        · exact Int32.lt_iff_toInt_lt.mpr (by
            rw [show (Int32.ofNat n - (8 : Int32)).toInt = (n : Int) - (8 : Nat) from pk_sub_toInt (by omega) (by decide), nI_toInt (by omega)]
            omega)
      have := hL.room
      exact ⟨_, H, dr_end st, by omega, by omega⟩
/-- what the constructors leave -/
def LStart : Prop := ∀ (z : Nat) (v1 v2 v3 : Int32), ∃ B H sw nd rm zb sb ad, f7 [.inr (.inr (some z)), .inl v1, .inl v2, .inl v3] (h_no (hM0 z) 11 8) = some (none, B) ∧ f164 [.inr (.inr (some (h_sz B))), .inl v1, .inl v2, .inl v3] (h_no B 12 61) = some (none, H) ∧ LV sw nd rm 0 zb sb z (h_sz B) ad H ∧ zb ≤ z + 500000 ∧ sb ≤ 7000000
theorem sc_k (hn : n ≤ 4099) (hj : j < 3) : ∃ v, sc_c xs n (nI j) = some v := by
  unfold sc_c
  by_cases q : Int32.ofNat n ≤ nI j
  · rw [if_pos q]; exact ⟨_, rfl⟩
  · rw [if_neg q]
    have : j < n := by
      by_cases q2 : j < n
      · exact q2
      · exact absurd (nI_le (by omega) (by omega)) q
    exact ⟨_, sc_n this hn⟩
theorem law_of (h : LStart) : LawPure := by
  intro z n xs hn
  obtain ⟨v1, s1⟩ := sc_k (xs := xs) (j := 0) hn (by omega)
  obtain ⟨v2, s2⟩ := sc_k (xs := xs) (j := 1) hn (by omega)
  obtain ⟨v3, s3⟩ := sc_k (xs := xs) (j := 2) hn (by omega)
  have s1 : sc_c xs n (0 : Int32) = some v1 := s1
  have s2 : sc_c xs n (1 : Int32) = some v2 := s2
  have s3 : sc_c xs n (2 : Int32) = some v3 := s3
  obtain ⟨B, H, sw, nd, rm, zb, sb, ad, e1, e2, hL, hz, hs⟩ := h z v1 v2 v3
  have e0 : b999_0 xs n (hM0 z) = some (.inr (48, [.inr (.inr (some z)), .inr (.inr (some (h_sz B))), .inl (3 : Int32)], H)) := by
    unfold b999_0
    rw [bd_s (show n_o (hM0 z) 11 8 = some (h_no (hM0 z) 11 8) from rfl), bd_s s1, bd_s s2, bd_s s3, show h_sz (hM0 z) = z from rfl, bd_s (c_V_of e1), bd_s (show n_o B 12 61 = some (h_no B 12 61) from rfl), bd_s s1, bd_s s2, bd_s s3, bd_s (c_V_of e2)]
  obtain ⟨r, H', x1, x2, x3⟩ := law_loop (xs := xs) hn 513 0 0 zb sb H xF (by omega) (by unfold xF; omega) hL (by omega)
  refine ⟨r, H', ?_, by omega, by omega⟩
  unfold fLaw
  rw [e0]
  exact x1
end LZ
