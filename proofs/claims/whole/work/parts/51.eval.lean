/-! ===== steps that go well ===== -/
section EV
variable {M : hM} {a b ci k t : Nat}
theorem g_o_t (h : h_tg M a = ci + 1) : g_o M ci (some a) = some a := if_pos h
theorem g_i_t (h : h_tg M a = ci + 1) : g_i M ci k (some a) = some (h_fi M (100 * ci + k) a) := by unfold g_i; rw [g_o_t h]; rfl
theorem g_l_t (h : h_tg M a = ci + 1) : g_l M ci k (some a) = some (h_fl M (100 * ci + k) a) := by unfold g_l; rw [g_o_t h]; rfl
theorem g_r_t (h : h_tg M a = ci + 1) : g_r M ci k (some a) = some (h_fr M (100 * ci + k) a) := by unfold g_r; rw [g_o_t h]; rfl
theorem p_i_t {v : Int32} (h : h_tg M a = ci + 1) : p_i M ci k (some a) v = some (h_pi M (100 * ci + k) a v) := by unfold p_i; rw [g_o_t h]; rfl
theorem p_l_t {v : Int64} (h : h_tg M a = ci + 1) : p_l M ci k (some a) v = some (h_pl M (100 * ci + k) a v) := by unfold p_l; rw [g_o_t h]; rfl
theorem p_r_t {v : Option Nat} (h : h_tg M a = ci + 1) : p_r M ci k (some a) v = some (h_pr M (100 * ci + k) a v) := by unfold p_r; rw [g_o_t h]; rfl
theorem p_z_t {v : Int32} (h : h_tg M a = ci + 1) (hv : v = 0 ∨ v = 1) : p_z M ci k (some a) v = some (h_pi M (100 * ci + k) a v) := by unfold p_z; rw [if_pos hv, g_o_t h]; rfl
theorem g_a_t {i : Nat} (h : h_tg M a = t) (hi : i < h_ln M a) (hs : i < 2 ^ 31) : g_a M t (some a) (nI i) = some a := if_pos ⟨h, nI_pos hs, by rw [nI_clamp hs]; exact hi⟩
theorem al_i_t {i : Nat} (h : h_tg M a = t) (hi : i < h_ln M a) (hs : i < 2 ^ 31) : al_i M t (some a) (nI i) = some (h_ai M a i) := by unfold al_i; rw [g_a_t h hi hs, nI_clamp hs]; rfl
theorem al_l_t {i : Nat} (h : h_tg M a = t) (hi : i < h_ln M a) (hs : i < 2 ^ 31) : al_l M t (some a) (nI i) = some (h_al M a i) := by unfold al_l; rw [g_a_t h hi hs, nI_clamp hs]; rfl
theorem al_r_t {i : Nat} (h : h_tg M a = t) (hi : i < h_ln M a) (hs : i < 2 ^ 31) : al_r M t (some a) (nI i) = some (h_ar M a i) := by unfold al_r; rw [g_a_t h hi hs, nI_clamp hs]; rfl
theorem as_i_t {i : Nat} {v : Int32} (h : h_tg M a = t) (hi : i < h_ln M a) (hs : i < 2 ^ 31) : as_i M t (some a) (nI i) v = some (h_qi M a i v) := by unfold as_i; rw [g_a_t h hi hs, nI_clamp hs]; rfl
theorem as_b_t {i : Nat} {v : Int32} (h : h_tg M a = t) (hi : i < h_ln M a) (hs : i < 2 ^ 31) : as_b M t (some a) (nI i) v = some (h_qi M a i v.toInt8.toInt32) := by unfold as_b; rw [g_a_t h hi hs, nI_clamp hs]; rfl
theorem as_l_t {i : Nat} {v : Int64} (h : h_tg M a = t) (hi : i < h_ln M a) (hs : i < 2 ^ 31) : as_l M t (some a) (nI i) v = some (h_ql M a i v) := by unfold as_l; rw [g_a_t h hi hs, nI_clamp hs]; rfl
theorem as_r_t {i : Nat} (h : h_tg M a = 30 + ci) (hi : i < h_ln M a) (hs : i < 2 ^ 31) (hb : h_tg M b = ci + 1) : as_r M ci (some a) (nI i) (some b) = some (h_qr M a i (some b)) := by unfold as_r; rw [g_a_t h hi hs, nI_clamp hs]; show (g_o M ci (some b)).bind _ = _; rw [g_o_t hb]; rfl
theorem a_ln_t (h : h_tg M a = t) : a_ln M t (some a) = some (nI (h_ln M a)) := if_pos h
end EV
theorem bd_s {α β : Type} {x : Option α} {a : α} {f : α → Option β} (h : x = some a) : Option.bind x f = f a := by subst h; rfl
section DR
variable {blk : Nat → List aV → hM → Option xRes} {n h : Nat} {as : List aV} {M : hM}
theorem dr_end {r : Option aV × hM} (hb : blk h as M = some (.inl r)) : drive blk (n + 1) h as M = some r := by
  unfold drive; rw [hb]
theorem dr_go {q : Nat × List aV × hM} (hb : blk h as M = some (.inr q)) : drive blk (n + 1) h as M = drive blk n q.1 q.2.1 q.2.2 := by
  conv => lhs; unfold drive
  rw [hb]
variable {ρ : Type} {bks : Nat → List aV → sT → Option (sRes ρ)} {S : sT}
theorem sd_end {r : ρ} (hb : bks h as S = some (.inl r)) : sdrive bks (n + 1) h as S = some r := by
  unfold sdrive; rw [hb]
theorem sd_go {q : Nat × List aV × sT} (hb : bks h as S = some (.inr q)) : sdrive bks (n + 1) h as S = sdrive bks n q.1 q.2.1 q.2.2 := by
  conv => lhs; unfold sdrive
  rw [hb]
end DR
/-! ===== the class's reckonCheck ===== -/
theorem t_1_and (x : Int32) : t_1 (x &&& 15) = some (xC1.getD (x &&& 15).toNatClampNeg 0) := by
  obtain ⟨j, hj, e⟩ := pk_andE x (m := 15) 4 (by decide)
  unfold t_1
  rw [e]
  exact if_pos ⟨nI_pos (by omega), by rw [nI_clamp (by omega)]; omega⟩
theorem f42_loop {M : hM} {a ba n : Nat} (h1 : h_tg M a = 3) (h2 : h_fr M 200 a = some ba) (h3 : h_tg M ba = 21) (h4 : h_ln M ba = 48) (hn : n ≤ 48) : ∀ d i fuel, i + d = n → d < fuel → drive k42 fuel 4 [.inr (.inr (some a)), .inl (nI n), .inl (crcF (h_ai M ba) i), .inl (nI i)] M = some (some (.inl (crcF (h_ai M ba) n ^^^ (-1))), M) := by
  intro d
  induction d with
  | zero =>
    intro i fuel hi hf
    obtain ⟨f, rfl⟩ : ∃ f, fuel = f + 1 := ⟨fuel - 1, by omega⟩
    refine dr_end ?_
    unfold k42
    rw [if_pos rfl]
    show b42_4 a (nI n) (crcF (h_ai M ba) i) (nI i) M = _
    unfold b42_4
    rw [if_pos (nI_le (by omega) (by omega))]
    have : i = n := by omega
    subst this
    rfl
  | succ d ih =>
    intro i fuel hi hf
    obtain ⟨f, rfl⟩ : ∃ f, fuel = f + 1 := ⟨fuel - 1, by omega⟩
    have hb : k42 4 [.inr (.inr (some a)), .inl (nI n), .inl (crcF (h_ai M ba) i), .inl (nI i)] M = some (.inr (4, [.inr (.inr (some a)), .inl (nI n), .inl (crcF (h_ai M ba) (i + 1)), .inl (nI (i + 1))], M)) := by
      unfold k42
      rw [if_pos rfl]
      show b42_4 a (nI n) (crcF (h_ai M ba) i) (nI i) M = _
      unfold b42_4
      rw [if_neg (nI_ge (by omega) (by omega)), bd_s (g_r_t (ci := 2) h1)]
      show Option.bind (a_ln M 21 (h_fr M 200 a)) _ = _
      rw [h2, bd_s (a_ln_t h3), h4, if_neg (nI_ge (by omega) (by omega)), bd_s (g_r_t (ci := 2) h1)]
      show Option.bind (al_i M 21 (h_fr M 200 a) (nI i)) _ = _
      rw [h2, bd_s (al_i_t h3 (by omega) (by omega)), bd_s (t_1_and _), bd_s (t_1_and _)]
      have e : crcF (h_ai M ba) (i + 1) = nib (nib (crcF (h_ai M ba) i ^^^ (h_ai M ba i &&& 255))) := (nib_8 _).symm
      rw [e, ← nI_1]
      rfl
    rw [dr_go hb]
    exact ih (i + 1) f (by omega) (by omega)
theorem f42_eq {M : hM} {a ba n : Nat} (h1 : h_tg M a = 3) (h2 : h_fr M 200 a = some ba) (h3 : h_tg M ba = 21) (h4 : h_ln M ba = 48) (hn : n ≤ 48) : f42 [.inr (.inr (some a)), .inl (nI n)] M = some (some (.inl (crcF (h_ai M ba) n ^^^ (-1))), M) := by
  show x_go k42 (some (.inr (4, [.inr (.inr (some a)), .inl (nI n), .inl (-1), .inl 0], M))) = _
  exact f42_loop h1 h2 h3 h4 hn n 0 xF (by omega) (by unfold xF; omega)
/-! ===== the reference's at and check ===== -/
theorem nI_mulc (a b : Nat) : nI a * nI b = nI (a * b) := pk_mul a b
theorem s_a_t {S : sT} {k i : Nat} (hi : i < mL.getD k 0) (hs : i < 2 ^ 31) : s_a S k (nI i) = some (S.1 k i) := by
  unfold s_a
  rw [nI_clamp hs]
  exact if_pos ⟨nI_pos hs, hi⟩
/-- the bytes of the reference's frame f -/
def fB (S : sT) (f i : Nat) : Int32 := S.1 6 (80 * f + i)
theorem e165_eq {S : sT} {f i : Nat} (hf : f < 1800) (hi : i < 80) : e165 (nI f) (nI i) S = some (fB S f i &&& 255, S) := by
  unfold e165 c165_0
  have e : nI f * 80 + nI i = nI (80 * f + i) := by
    rw [show (80 : Int32) = nI 80 from rfl, pk_mul, nI_add, Nat.mul_comm]
  rw [e, bd_s (s_a_t (show 80 * f + i < 144000 by omega) (by omega))]
  rfl
