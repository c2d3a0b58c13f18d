/-! ===== a disc takes DATA ===== -/
theorem full4 : ∀ m, m < 5 → ∀ bits, bits < 16 → nI bits = ((1 : Int32) <<< (nI m &&& 31)) - 1 → ∀ p, p < m → bits.testBit p = true := by decide +kernel
section DD
variable {sw nd rm : Nat} {M M' N : hM} {S S' T : sT} {ia ib : Nat → Nat → Int32} {w t x y zb sb a f n nc fus dk j lm s k0 : Nat} {pe : Nat → Option Nat} {wo : Nat → Nat} {fl fm : Nat → List (List Int32)} {hc hc' : List (Nat × Int32 × List Int32)} {hs hs' : List (Nat × List Int32)} {L Lr : List Int32} {kR : Nat → rK} {ka : Nat → Nat → Nat} {tog : Nat → Bool} {ca hh : Nat → Nat} {lv : Nat → Bool} {jj : Nat → Nat} {G : Nat → nG} {R : List Nat} {g : Int32} {OL : List oE}
/-- the frame is of this slot -/
def mtS (M : hM) (dk i : Nat) (L : List Int32) : Prop := h_fi M 700 (dk + 4 + 2 * i) ≠ 0 ∧ h_fi M 701 (dk + 4 + 2 * i) = num L 7 2 ∧ h_fi M 702 (dk + 4 + 2 * i) = num L 4 3 ∧ h_fi M 703 (dk + 4 + 2 * i) = num L 9 2
def mtE (e : oE) (L : List Int32) : Prop := e.2.1 0 = num L 4 3 ∧ e.2.1 1 = num L 7 2 ∧ e.2.1 2 = num L 9 2
theorem k75_no {i : Nat} (hd : dkR M n dk) (hX : rd M a L) (h13 : 13 ≤ L.length) (hi : i < 6) (h : ¬ mtS M dk i L) : k75 2 [.inr (.inr (some dk)), .inr (.inr (some a)), .inl (nI i)] M = some (.inr (2, [.inr (.inr (some dk)), .inr (.inr (some a)), .inl (nI (i + 1))], M)) := by
  obtain ⟨y1, y2, y3⟩ := slot_i hd hi
  have e68 := f68_eq (v0 := h_fi M 700 (dk + 4 + 2 * i)) (v1 := h_fi M 701 (dk + 4 + 2 * i)) (v2 := h_fi M 702 (dk + 4 + 2 * i)) y3 rfl rfl rfl hX h13
  show b75_2 dk (some a) (nI i) M = _
  unfold b75_2
  rw [if_neg (show ¬ (6 : Int32) ≤ nI i from nI_ge (b := 6) (by omega) (by omega)), bd_s y1, bd_s y2, bd_s (g_o_t (ci := 7) y3), bd_s (c_I_of e68)]
  by_cases z : h_fi M 700 (dk + 4 + 2 * i) ≠ 0 ∧ h_fi M 701 (dk + 4 + 2 * i) = num L 7 2 ∧ h_fi M 702 (dk + 4 + 2 * i) = num L 4 3
  · rw [decide_eq_true z, if_neg (show ¬ b2 true = 0 by decide), bd_s (g_i_t (ci := 7) y3), bd_s (g_o_t (ci := 2) hX.1.1), bd_s (c_I_of (f70_eq hX h13)), if_neg (show ¬ h_fi M 703 (dk + 4 + 2 * i) = num L 9 2 from fun q => h ⟨z.1, z.2.1, z.2.2, q⟩)]
    unfold b75_86
    rw [nI_1]
  · rw [decide_eq_false z, if_pos (show b2 false = 0 from rfl)]
    unfold b75_86
    rw [nI_1]
theorem k75_nos (hd : dkR M n dk) (hX : rd M a L) (h13 : 13 ≤ L.length) : ∀ d i fuel, i + d ≤ 6 → d ≤ fuel → (∀ q, i ≤ q → q < i + d → ¬ mtS M dk q L) → drive k75 fuel 2 [.inr (.inr (some dk)), .inr (.inr (some a)), .inl (nI i)] M = drive k75 (fuel - d) 2 [.inr (.inr (some dk)), .inr (.inr (some a)), .inl (nI (i + d))] M
  | 0, i, fuel, hi, hf, h => rfl
  | d + 1, i, fuel, hi, hf, h => by
    obtain ⟨g, rfl⟩ : ∃ g, fuel = g + 1 := ⟨fuel - 1, by omega⟩
    rw [dr_go (k75_no hd hX h13 (by omega) (h i (by omega) (by omega)))]
    show drive k75 g 2 _ M = _
    rw [k75_nos hd hX h13 d (i + 1) g (by omega) (by omega) (fun q h1 h2 => h q (by omega) (by omega)), show g + 1 - (d + 1) = g - d by omega, show i + 1 + d = i + (d + 1) by omega]
theorem k75_end {fuel : Nat} (hf : 0 < fuel) : drive k75 fuel 2 [.inr (.inr (some dk)), .inr (.inr (some a)), .inl (nI 6)] M = some (none, M) := by
  obtain ⟨g, rfl⟩ : ∃ g, fuel = g + 1 := ⟨fuel - 1, by omega⟩
  refine dr_end ?_
  show b75_2 dk (some a) (nI 6) M = _
  unfold b75_2
  rw [if_pos (by decide)]
theorem k214_no {k : Nat} (hn : n < 8) (h : olS S n OL) (hk : k < OL.length) (hX : rdS S f L) (h13 : 13 ≤ L.length) {v4 : Int32} (hm : ¬ mtE (OL.getD k oE0) L) : kS214 12 [.inl (nI n), .inl (nI f), .inl (num L 4 3), .inl v4, .inl (nI k)] S = some (.inr (12, [.inl (nI n), .inl (nI f), .inl (num L 4 3), .inl v4, .inl (nI (k + 1))], S)) := by
  have hl := h.1.2
  have s46 : s_a S 46 (nI n) = some (nI OL.length) := by rw [ga46 (by omega), h.1.1]
  have i0 : ((48 : Int32) * nI n) + ((8 : Int32) * nI k) = nI (48 * n + 8 * k) := by rw [ixl48, ixl8, nI_add]
  have s0 : s_a S 44 (nI (48 * n + 8 * k)) = some ((OL.getD k oE0).2.1 0) := (ga44 (by omega)).trans (congrArg some ((h.2 k hk).1 0 (by omega)))
  have s1 : s_a S 44 (nI (48 * n + 8 * k) + 1) = some ((OL.getD k oE0).2.1 1) := by rw [nI_1, ga44 (by omega), (h.2 k hk).1 1 (by omega)]
  have s2 : s_a S 44 (nI (48 * n + 8 * k) + 2) = some ((OL.getD k oE0).2.1 2) := by rw [show (2 : Int32) = nI 2 from rfl, nI_add, ga44 (by omega), (h.2 k hk).1 2 (by omega)]
  have r7 : e166 (nI f) 7 2 S = some (num L 7 2, S) := r166 (i := 7) (n := 2) hX (by omega)
  have r9 : e166 (nI f) 9 2 S = some (num L 9 2, S) := r166 (i := 9) (n := 2) hX (by omega)
  show c214_12 (nI n) (nI f) (num L 4 3) v4 (nI k) S = _
  unfold c214_12
  rw [bd_s s46, if_neg (show ¬ nI OL.length ≤ nI k from nI_ge hk (by omega)), i0, bd_s s0]
  by_cases z0 : (OL.getD k oE0).2.1 0 = num L 4 3
  · rw [if_pos z0, bd_s s1, bd_s r7]
    by_cases z1 : (OL.getD k oE0).2.1 1 = num L 7 2
    · rw [if_pos z1, bd_s s2, bd_s r9, if_neg (fun z2 => hm ⟨z0, z1, z2⟩)]
      unfold c214_269
      rw [nI_1]
    · rw [if_neg z1]
      unfold c214_269
      rw [nI_1]
  · rw [if_neg z0]
    unfold c214_269
    rw [nI_1]
theorem k214_nos (hn : n < 8) (h : olS S n OL) (hX : rdS S f L) (h13 : 13 ≤ L.length) {v4 : Int32} : ∀ d k fus, k + d ≤ OL.length → d ≤ fus → (∀ q, k ≤ q → q < k + d → ¬ mtE (OL.getD q oE0) L) → sdrive kS214 fus 12 [.inl (nI n), .inl (nI f), .inl (num L 4 3), .inl v4, .inl (nI k)] S = sdrive kS214 (fus - d) 12 [.inl (nI n), .inl (nI f), .inl (num L 4 3), .inl v4, .inl (nI (k + d))] S
  | 0, k, fus, hk, hf, hm => rfl
  | d + 1, k, fus, hk, hf, hm => by
    obtain ⟨g, rfl⟩ : ∃ g, fus = g + 1 := ⟨fus - 1, by omega⟩
    rw [sd_go (k214_no hn h (by omega) hX h13 (hm k (by omega) (by omega)))]
    show sdrive kS214 g 12 _ S = _
    rw [k214_nos hn h hX h13 d (k + 1) g (by omega) (by omega) (fun q h1 h2 => hm q (by omega) (by omega)), show g + 1 - (d + 1) = g - d by omega, show k + 1 + d = k + (d + 1) by omega]
/-- keep -/
theorem f72_eq {p bits : Nat} {v : Int64} {vA : Nat} (t8 : h_tg M s = 8) (h8 : h_fr M 708 s = some vA) (tv : h_tg M vA = 23) (lv' : h_ln M vA = 4) (hb : h_fi M 707 s = nI bits) (b16 : bits < 16) (hp : p < 4) : f72 [.inr (.inr (some s)), .inl (nI p), .inr (.inl v)] M = some (none, h_pi (h_ql M vA p v) 707 s (nI (bits ||| (1 <<< p)))) := by
  show x_out (b72_0 s (nI p) v M) = _
  unfold b72_0
  have r1 : g_r M 7 8 (some s) = some (some vA) := (g_r_t (ci := 7) t8).trans (congrArg some h8)
  have r2 : as_l M 23 (some vA) (nI p) v = some (h_ql M vA p v) := as_l_t tv (by rw [lv']; omega) (by omega)
  have r3 : g_i (h_ql M vA p v) 7 7 (some s) = some (nI bits) := (g_i_t (ci := 7) (M := h_ql M vA p v) t8).trans (congrArg some hb)
  obtain ⟨y1, -⟩ := or4 bits b16 p hp
  rw [if_neg (nI_pos (by omega)), if_neg (show ¬ (4 : Int32) ≤ nI p from nI_ge (b := 4) (by omega) (by omega)), bd_s r1, bd_s r2, bd_s r3, y1, bd_s (p_i_t (ci := 7) (M := h_ql M vA p v) t8)]
  rfl
theorem f73_eq {v m : Int32} (t8 : h_tg M s = 8) (h1 : h_fi M 707 s = v) (h2 : h_fi M 705 s = m) : f73 [.inr (.inr (some s))] M = some (some (.inl (b2 (decide (v = ((1 : Int32) <<< (m &&& 31)) - 1)))), M) := by
  show x_out (b73_0 s M) = _
  unfold b73_0
  rw [bd_s ((g_i_t (ci := 7) t8).trans (congrArg some h1)), bd_s ((g_i_t (ci := 7) t8).trans (congrArg some h2))]
  by_cases z : v = ((1 : Int32) <<< (m &&& 31)) - 1
  · rw [if_pos z, decide_eq_true z]; rfl
  · rw [if_neg z, decide_eq_false z]; rfl
/-- store -/
theorem f74_eq {at' m vA : Nat} (hb : bk M) (hd : dkR M n dk) (hs : dk ≤ s ∧ s < dk + 16) (hv : dk < vA ∧ vA < dk + 16 ∧ vA ≠ dk + 1) (t8 : h_tg M s = 8) (h8 : h_fr M 708 s = some vA) (tv : h_tg M vA = 23) (lv' : h_ln M vA = 4) (h4 : h_fi M 704 s = nI at') (h5 : h_fi M 705 s = nI m) (hm : m ≤ 4) (ha : at' + m ≤ 32) : ∃ N, f74 [.inr (.inr (some dk)), .inr (.inr (some s))] M = some (none, h_pi N 700 s 0) ∧ (h_fi N = h_fi M ∧ h_fr N = h_fr M ∧ h_ai N = h_ai M ∧ h_ar N = h_ar M ∧ h_tg N = h_tg M ∧ h_ln N = h_ln M) ∧ (∀ b, b ≠ dk + 1 → h_al N b = h_al M b) ∧ (∀ x, h_al N (dk + 1) x = if at' ≤ x ∧ x < at' + m then h_al M vA (x - at') else h_al M (dk + 1) x) ∧ kp [] [23] M N ∧ dW n dk M N S S := by
  have t2 := hd.2.1.1
  have h102 := hd.2.1.2.2.2.1
  have e1 := hd.2.2.1.1
  have e2 := hd.2.2.1.2.1
  have loop : ∀ d i N fuel, i + d = m → d < fuel → (h_fi N = h_fi M ∧ h_fr N = h_fr M ∧ h_ai N = h_ai M ∧ h_ar N = h_ar M ∧ h_tg N = h_tg M ∧ h_ln N = h_ln M) → (∀ b, b ≠ dk + 1 → h_al N b = h_al M b) → (∀ x, h_al N (dk + 1) x = if at' ≤ x ∧ x < at' + i then h_al M vA (x - at') else h_al M (dk + 1) x) → kp [] [23] M N → dW n dk M N S S → ∃ N', drive k74 fuel 2 [.inr (.inr (some dk)), .inr (.inr (some s)), .inl (nI i)] N = some (none, h_pi N' 700 s 0) ∧ (h_fi N' = h_fi M ∧ h_fr N' = h_fr M ∧ h_ai N' = h_ai M ∧ h_ar N' = h_ar M ∧ h_tg N' = h_tg M ∧ h_ln N' = h_ln M) ∧ (∀ b, b ≠ dk + 1 → h_al N' b = h_al M b) ∧ (∀ x, h_al N' (dk + 1) x = if at' ≤ x ∧ x < at' + m then h_al M vA (x - at') else h_al M (dk + 1) x) ∧ kp [] [23] M N' ∧ dW n dk M N' S S := by
    intro d
    induction d with
    | zero =>
      intro i N fuel hi hf c1 c2 c3 c4 c5
      obtain ⟨g, rfl⟩ : ∃ g, fuel = g + 1 := ⟨fuel - 1, by omega⟩
      have hi : i = m := by omega
      subst hi
      have tN : h_tg N s = 8 := by rw [c1.2.2.2.2.1]; exact t8
      refine ⟨N, dr_end ?_, c1, c2, c3, c4, c5⟩
      show b74_2 dk (some s) (nI i) N = _
      unfold b74_2
      have q5 : g_i N 7 5 (some s) = some (nI i) := (g_i_t (ci := 7) tN).trans (congrArg some (by show h_fi N 705 s = _; rw [c1.1]; exact h5))
      rw [bd_s q5, if_pos (show nI i ≤ nI i from nI_le (by omega) (by omega))]
      unfold b74_47
      rw [bd_s (p_z_t (ci := 7) tN (Or.inl rfl))]
    | succ d ih =>
      intro i N fuel hi hf c1 c2 c3 c4 c5
      obtain ⟨g, rfl⟩ : ∃ g, fuel = g + 1 := ⟨fuel - 1, by omega⟩
      have tN : h_tg N s = 8 := by rw [c1.2.2.2.2.1]; exact t8
      have t2N : h_tg N dk = 2 := by rw [c1.2.2.2.2.1]; exact t2
      have e1N : h_tg N (dk + 1) = 23 := by rw [c1.2.2.2.2.1]; exact e1
      have q5 : g_i N 7 5 (some s) = some (nI m) := (g_i_t (ci := 7) tN).trans (congrArg some (by show h_fi N 705 s = _; rw [c1.1]; exact h5))
      have q4 : g_i N 7 4 (some s) = some (nI at') := (g_i_t (ci := 7) tN).trans (congrArg some (by show h_fi N 704 s = _; rw [c1.1]; exact h4))
      have q2 : g_r N 1 2 (some dk) = some (some (dk + 1)) := (g_r_t (ci := 1) t2N).trans (congrArg some (by show h_fr N 102 dk = _; rw [c1.2.1]; exact h102))
      have ql : a_ln N 23 (some (dk + 1)) = some (nI 32) := by rw [a_ln_t e1N, c1.2.2.2.2.2, e2]
      have q8 : g_r N 7 8 (some s) = some (some vA) := (g_r_t (ci := 7) tN).trans (congrArg some (by show h_fr N 708 s = _; rw [c1.2.1]; exact h8))
      have ix : nI at' + nI i = nI (at' + i) := nI_add _ _
      have qa : al_l N 23 (some vA) (nI i) = some (h_al M vA i) := (al_l_t (by rw [c1.2.2.2.2.1]; exact tv) (by rw [c1.2.2.2.2.2, lv']; omega) (by omega)).trans (congrArg some (by rw [c2 vA hv.2.2]))
      have qs : as_l N 23 (some (dk + 1)) (nI (at' + i)) (h_al M vA i) = some (h_ql N (dk + 1) (at' + i) (h_al M vA i)) := as_l_t e1N (by rw [c1.2.2.2.2.2, e2]; omega) (by omega)
      have body : k74 2 [.inr (.inr (some dk)), .inr (.inr (some s)), .inl (nI i)] N = some (.inr (2, [.inr (.inr (some dk)), .inr (.inr (some s)), .inl (nI (i + 1))], h_ql N (dk + 1) (at' + i) (h_al M vA i))) := by
        show b74_2 dk (some s) (nI i) N = _
        unfold b74_2
        rw [bd_s q5, if_neg (show ¬ nI m ≤ nI i from nI_ge (by omega) (by omega)), bd_s q4, bd_s q2, bd_s ql, ix, if_neg (show ¬ nI 32 ≤ nI (at' + i) from nI_ge (by omega) (by omega)), bd_s q2, bd_s q4, bd_s q8, bd_s qa, ix, bd_s qs, nI_1]
      obtain ⟨N', r1, r2⟩ := ih (i + 1) (h_ql N (dk + 1) (at' + i) (h_al M vA i)) g (by omega) (by omega) c1 (fun b q => by rw [ql_nk q]; exact c2 b q) (fun x => by
        by_cases z : x = at' + i
        · subst z
          rw [ql_eq, if_pos (by omega), show at' + i - at' = i by omega]
        · rw [ql_ne z, c3 x]
          by_cases z2 : at' ≤ x ∧ x < at' + i
          · rw [if_pos z2, if_pos (by omega)]
          · rw [if_neg z2, if_neg (by omega)]) (c4.tr (k_hql c4.1 e1N (by decide)) rfl rfl) (dW_tr c5 (dW_ql (by omega)))
      exact ⟨N', by rw [dr_go body]; exact r1, r2⟩
  exact loop m 0 M xF (by omega) (by unfold xF; omega) ⟨rfl, rfl, rfl, rfl, rfl, rfl⟩ (fun _ _ => rfl) (fun x => by rw [if_neg (by omega)]) (kp.rf hb) dW_rf
/-- the reference's blocks -/
theorem k214_173 {u b m : Nat} (hn : n < 8) (hk : k0 < 6) (hu : u ≤ 1) (hm : m ≤ 4 ∧ b + m ≤ 16) (h5 : S.1 44 (48 * n + 8 * k0 + 5) = nI m) (h3 : S.1 44 (48 * n + 8 * k0 + 3) = nI u) (h4 : S.1 44 (48 * n + 8 * k0 + 4) = nI b) : ∀ d i T fus, i + d = m → d ≤ fus → T.1 = S.1 → T.2 45 = S.2 45 → ∃ U, sdrive kS214 fus 173 [.inl (nI n), .inl (nI f), .inl (nI k0), .inl (nI (48 * n + 8 * k0)), .inl (nI i)] T = sdrive kS214 (fus - d) 173 [.inl (nI n), .inl (nI f), .inl (nI k0), .inl (nI (48 * n + 8 * k0)), .inl (nI m)] U ∧ U.1 = S.1 ∧ ks [42] T U ∧ dW n dk M M T U ∧ ∀ x, U.2 42 (32 * n + x) = if 16 * u + b + i ≤ x ∧ x < 16 * u + b + m then S.2 45 (24 * n + 4 * k0 + (x - (16 * u + b))) else T.2 42 (32 * n + x)
  | 0, i, T, fus, hi, hf, h1, h2 => by
    have : i = m := by omega
    subst this
    exact ⟨T, rfl, h1, ks.rf, dW_rf, fun x => by rw [if_neg (by omega)]⟩
  | d + 1, i, T, fus, hi, hf, h1, h2 => by
    obtain ⟨g, rfl⟩ : ∃ g, fus = g + 1 := ⟨fus - 1, by omega⟩
    have s5 : s_a T 44 (nI (48 * n + 8 * k0) + 5) = some (nI m) := by rw [show (5 : Int32) = nI 5 from rfl, nI_add, ga44 (by omega), h1, h5]
    have s3 : s_a T 44 (nI (48 * n + 8 * k0) + 3) = some (nI u) := by rw [show (3 : Int32) = nI 3 from rfl, nI_add, ga44 (by omega), h1, h3]
    have s4 : s_a T 44 (nI (48 * n + 8 * k0) + 4) = some (nI b) := by rw [show (4 : Int32) = nI 4 from rfl, nI_add, ga44 (by omega), h1, h4]
    have s45 : s_al T 45 ((((24 : Int32) * nI n) + ((4 : Int32) * nI k0)) + nI i) = some (S.2 45 (24 * n + 4 * k0 + i)) := by rw [ixl24, ixl4, nI_add, nI_add, ga45 (by omega), h2]
    have s42 : s_sl T 42 (((((32 : Int32) * nI n) + ((16 : Int32) * nI u)) + nI b) + nI i) (S.2 45 (24 * n + 4 * k0 + i)) = some (s_ul T 42 (32 * n + (16 * u + b + i)) (S.2 45 (24 * n + 4 * k0 + i))) := by
      rw [ixl32, ixl16, nI_add, nI_add, nI_add, show 32 * n + 16 * u + b + i = 32 * n + (16 * u + b + i) by omega]
      exact gs42 (by omega)
    have body : kS214 173 [.inl (nI n), .inl (nI f), .inl (nI k0), .inl (nI (48 * n + 8 * k0)), .inl (nI i)] T = some (.inr (173, [.inl (nI n), .inl (nI f), .inl (nI k0), .inl (nI (48 * n + 8 * k0)), .inl (nI (i + 1))], s_ul T 42 (32 * n + (16 * u + b + i)) (S.2 45 (24 * n + 4 * k0 + i)))) := by
      show c214_173 (nI n) (nI f) (nI k0) (nI (48 * n + 8 * k0)) (nI i) T = _
      unfold c214_173
      rw [bd_s s5, if_neg (show ¬ nI m ≤ nI i from nI_ge (by omega) (by omega)), bd_s s3, bd_s s4, bd_s s45, bd_s s42, nI_1]
    obtain ⟨U, r1, r2, r3, r4, r5⟩ := k214_173 hn hk hu hm h5 h3 h4 d (i + 1) (s_ul T 42 (32 * n + (16 * u + b + i)) (S.2 45 (24 * n + 4 * k0 + i))) g (by omega) (by omega) h1 (by rw [← h2]; exact funext fun z => sul_ne (Or.inl (by decide)))
    refine ⟨U, ?_, r2, (k_sul : ks [42] T _).tr r3 rfl, dW_tr (dW_sul (Or.inr (Or.inr (Or.inl ⟨rfl, by omega, by omega⟩)))) r4, fun x => ?_⟩
    · rw [sd_go body, show g + 1 - (d + 1) = g - d by omega]; exact r1
    · rw [r5 x]
      by_cases z : 16 * u + b + (i + 1) ≤ x ∧ x < 16 * u + b + m
      · rw [if_pos z, if_pos (by omega)]
      · rw [if_neg z]
        by_cases z2 : x = 16 * u + b + i
        · subst z2
          rw [sul_eq, if_pos (by omega), show 16 * u + b + i - (16 * u + b) = i by omega]
        · rw [sul_ne (by omega), if_neg (by omega)]
end DD
