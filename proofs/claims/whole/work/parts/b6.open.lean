/-! ===== open WRITES are closed ===== -/
def olS (S : sT) (n : Nat) (OL : List oE) : Prop := (S.1 46 n = nI OL.length ∧ OL.length ≤ 6) ∧ ∀ k, k < OL.length → (∀ i, i < 8 → S.1 44 (48 * n + 8 * k + i) = (OL.getD k oE0).2.1 i) ∧ ∀ i, i < 4 → S.2 45 (24 * n + 4 * k + i) = (OL.getD k oE0).2.2 i
section OC
variable {M N : hM} {S S' T U : sT} {n k m q dk fus : Nat} {OL : List oE}
theorem su4 {i j : Nat} {v : Int32} (h : j ≠ i) : (s_u S 44 i v).1 44 j = S.1 44 j := by rw [su_eq, u1_ne h]
theorem k203_25 (hn : n < 8) (hq : q < 5) : ∀ d i T fus, i + d = 8 → d < fus → ∃ U, sdrive kS203 fus 25 [.inl (nI n), .inl (nI q), .inl (nI i)] T = sdrive kS203 (fus - d - 1) 78 [.inl (nI n), .inl (nI q), .inl (nI 0)] U ∧ dW n dk M M T U ∧ ks [44] T U ∧ U.2 = T.2 ∧ (∀ j, i ≤ j → j < 8 → U.1 44 (48 * n + 8 * q + j) = T.1 44 (48 * n + 8 * q + 8 + j)) ∧ ∀ x, (x < 48 * n + 8 * q + i ∨ 48 * n + 8 * q + 8 ≤ x) → U.1 44 x = T.1 44 x
  | 0, i, T, fus, hi, hf => by
    obtain ⟨g, rfl⟩ : ∃ g, fus = g + 1 := ⟨fus - 1, by omega⟩
    have : kS203 25 [.inl (nI n), .inl (nI q), .inl (nI i)] T = some (.inr (78, [.inl (nI n), .inl (nI q), .inl (nI 0)], T)) := by
      show c203_25 (nI n) (nI q) (nI i) T = _
      unfold c203_25
      rw [if_pos (show (8 : Int32) ≤ nI i from nI_le (a := 8) (by omega) (by omega))]; rfl
    exact ⟨T, sd_go this, dW_rf, ks.rf, rfl, fun j h1 h2 => by omega, fun _ _ => rfl⟩
  | d + 1, i, T, fus, hi, hf => by
    obtain ⟨g, rfl⟩ : ∃ g, fus = g + 1 := ⟨fus - 1, by omega⟩
    have a1 : s_a T 44 (((((48 : Int32) * nI n) + ((8 : Int32) * nI q)) + (8 : Int32)) + nI i) = some (T.1 44 (48 * n + 8 * q + 8 + i)) := by
      rw [ixl48, ixl8, nI_add, show (8 : Int32) = nI 8 from rfl, nI_add, nI_add]
      exact ga44 (by omega)
    have a2 : s_s T 44 ((((48 : Int32) * nI n) + ((8 : Int32) * nI q)) + nI i) (T.1 44 (48 * n + 8 * q + 8 + i)) = some (s_u T 44 (48 * n + 8 * q + i) (T.1 44 (48 * n + 8 * q + 8 + i))) := by
      rw [ixl48, ixl8, nI_add, nI_add]
      exact gs44 (by omega)
    have hb : kS203 25 [.inl (nI n), .inl (nI q), .inl (nI i)] T = some (.inr (25, [.inl (nI n), .inl (nI q), .inl (nI (i + 1))], s_u T 44 (48 * n + 8 * q + i) (T.1 44 (48 * n + 8 * q + 8 + i)))) := by
      show c203_25 (nI n) (nI q) (nI i) T = _
      unfold c203_25
      rw [if_neg (show ¬ (8 : Int32) ≤ nI i from nI_ge (b := 8) (by omega) (by omega)), bd_s a1, bd_s a2, nI_1]
    obtain ⟨U, r1, r2, r3, r4, r5, r6⟩ := k203_25 hn hq d (i + 1) (s_u T 44 (48 * n + 8 * q + i) (T.1 44 (48 * n + 8 * q + 8 + i))) g (by omega) (by omega)
    refine ⟨U, ?_, dW_tr (dW_su (Or.inr (Or.inr (Or.inr (Or.inl ⟨rfl, by omega, by omega⟩))))) r2, (k_su : ks [44] T _).tr r3 rfl, r4, fun j h1 h2 => ?_, fun x h => ?_⟩
    · rw [sd_go hb, show g + 1 - (d + 1) - 1 = g - d - 1 by omega]; exact r1
    · by_cases z : j = i
      · subst z; rw [r6 _ (by omega), su_eq, u1_eq]
      · rw [r5 j (by omega) h2, su4 (by omega)]
    · rw [r6 x (by omega), su4 (by omega)]
theorem k203_78 (hn : n < 8) (hq : q < 5) : ∀ d i T fus, i + d = 4 → d < fus → ∃ U, sdrive kS203 fus 78 [.inl (nI n), .inl (nI q), .inl (nI i)] T = sdrive kS203 (fus - d - 1) 12 [.inl (nI n), .inl (nI (q + 1))] U ∧ dW n dk M M T U ∧ ks [45] T U ∧ U.1 = T.1 ∧ (∀ j, i ≤ j → j < 4 → U.2 45 (24 * n + 4 * q + j) = T.2 45 (24 * n + 4 * q + 4 + j)) ∧ ∀ x, (x < 24 * n + 4 * q + i ∨ 24 * n + 4 * q + 4 ≤ x) → U.2 45 x = T.2 45 x
  | 0, i, T, fus, hi, hf => by
    obtain ⟨g, rfl⟩ : ∃ g, fus = g + 1 := ⟨fus - 1, by omega⟩
    have : kS203 78 [.inl (nI n), .inl (nI q), .inl (nI i)] T = some (.inr (12, [.inl (nI n), .inl (nI (q + 1))], T)) := by
      show c203_78 (nI n) (nI q) (nI i) T = _
      unfold c203_78
      rw [if_pos (show (4 : Int32) ≤ nI i from nI_le (a := 4) (by omega) (by omega)), nI_1]
    exact ⟨T, sd_go this, dW_rf, ks.rf, rfl, fun j h1 h2 => by omega, fun _ _ => rfl⟩
  | d + 1, i, T, fus, hi, hf => by
    obtain ⟨g, rfl⟩ : ∃ g, fus = g + 1 := ⟨fus - 1, by omega⟩
    have a1 : s_al T 45 (((((24 : Int32) * nI n) + ((4 : Int32) * nI q)) + (4 : Int32)) + nI i) = some (T.2 45 (24 * n + 4 * q + 4 + i)) := by
      rw [ixl24, ixl4, nI_add, show (4 : Int32) = nI 4 from rfl, nI_add, nI_add]
      exact ga45 (by omega)
    have a2 : s_sl T 45 ((((24 : Int32) * nI n) + ((4 : Int32) * nI q)) + nI i) (T.2 45 (24 * n + 4 * q + 4 + i)) = some (s_ul T 45 (24 * n + 4 * q + i) (T.2 45 (24 * n + 4 * q + 4 + i))) := by
      rw [ixl24, ixl4, nI_add, nI_add]
      exact gs45 (by omega)
    have hb : kS203 78 [.inl (nI n), .inl (nI q), .inl (nI i)] T = some (.inr (78, [.inl (nI n), .inl (nI q), .inl (nI (i + 1))], s_ul T 45 (24 * n + 4 * q + i) (T.2 45 (24 * n + 4 * q + 4 + i)))) := by
      show c203_78 (nI n) (nI q) (nI i) T = _
      unfold c203_78
      rw [if_neg (show ¬ (4 : Int32) ≤ nI i from nI_ge (b := 4) (by omega) (by omega)), bd_s a1, bd_s a2, nI_1]
    obtain ⟨U, r1, r2, r3, r4, r5, r6⟩ := k203_78 hn hq d (i + 1) (s_ul T 45 (24 * n + 4 * q + i) (T.2 45 (24 * n + 4 * q + 4 + i))) g (by omega) (by omega)
    refine ⟨U, ?_, dW_tr (dW_sul (Or.inr (Or.inr (Or.inr (Or.inr ⟨rfl, by omega, by omega⟩))))) r2, (k_sul : ks [45] T _).tr r3 rfl, r4, fun j h1 h2 => ?_, fun x h => ?_⟩
    · rw [sd_go hb, show g + 1 - (d + 1) - 1 = g - d - 1 by omega]; exact r1
    · by_cases z : j = i
      · subst z; rw [r6 _ (by omega), sul_eq]
      · rw [r5 j (by omega) h2, sul_ne (by omega)]
    · rw [r6 x (by omega), sul_ne (by omega)]
/-- where entry x is found when k is taken out -/
def shk (k x : Nat) : Nat := if x < k then x else x + 1
theorem k203_12 (hn : n < 8) (hm : m ≤ 5) (hk : k ≤ m) : ∀ d q T fus, q + d = m → k ≤ q → 20 * d + 1 < fus → T.1 46 n = nI m → ∃ U, sdrive kS203 fus 12 [.inl (nI n), .inl (nI q)] T = some U ∧ dW n dk M M T U ∧ ks [44, 45] T U ∧ (∀ x i, q ≤ x → x < m → i < 8 → U.1 44 (48 * n + 8 * x + i) = T.1 44 (48 * n + 8 * (x + 1) + i)) ∧ (∀ x i, q ≤ x → x < m → i < 4 → U.2 45 (24 * n + 4 * x + i) = T.2 45 (24 * n + 4 * (x + 1) + i)) ∧ (∀ x, x < 48 * n + 8 * q → U.1 44 x = T.1 44 x) ∧ ∀ x, x < 24 * n + 4 * q → U.2 45 x = T.2 45 x
  | 0, q, T, fus, hd, hq, hf, h46 => by
    obtain ⟨g, rfl⟩ : ∃ g, fus = g + 1 := ⟨fus - 1, by omega⟩
    have s46 : s_a T 46 (nI n) = some (nI m) := by rw [ga46 (by omega), h46]
    refine ⟨T, sd_end ?_, dW_rf, ks.rf, fun x i h1 h2 h3 => by omega, fun x i h1 h2 h3 => by omega, fun _ _ => rfl, fun _ _ => rfl⟩
    show c203_12 (nI n) (nI q) T = _
    unfold c203_12
    rw [bd_s s46, if_pos (show nI m ≤ nI q from nI_le (by omega) (by omega))]
  | d + 1, q, T, fus, hd, hq, hf, h46 => by
    obtain ⟨g, rfl⟩ : ∃ g, fus = g + 1 := ⟨fus - 1, by omega⟩
    have s46 : s_a T 46 (nI n) = some (nI m) := by rw [ga46 (by omega), h46]
    have hb : kS203 12 [.inl (nI n), .inl (nI q)] T = some (.inr (25, [.inl (nI n), .inl (nI q), .inl (nI 0)], T)) := by
      show c203_12 (nI n) (nI q) T = _
      unfold c203_12
      rw [bd_s s46, if_neg (show ¬ nI m ≤ nI q from nI_ge (by omega) (by omega))]; rfl
    obtain ⟨U, r1, r2, r3, r4, r5, r6⟩ := k203_25 (M := M) (dk := dk) hn (show q < 5 by omega) 8 0 T g (by omega) (by omega)
    obtain ⟨V, v1, v2, v3, v4, v5, v6⟩ := k203_78 (M := M) (dk := dk) hn (show q < 5 by omega) 4 0 U (g - 8 - 1) (by omega) (by omega)
    have e46 : V.1 46 n = nI m := by rw [v4, r3.i (by decide)]; exact h46
    obtain ⟨W, w1, w2, w3, w4, w5, w6, w7⟩ := k203_12 hn hm hk d (q + 1) V (g - 8 - 1 - 4 - 1) (by omega) (by omega) (by omega) e46
    have kk : ks [44, 45] T W := ((ks.rf.tr r3 rfl : ks [44, 45] T U).tr v3 rfl).tr w3 rfl
    refine ⟨W, ?_, dW_tr (dW_tr r2 v2) w2, kk, fun x i h1 h2 h3 => ?_, fun x i h1 h2 h3 => ?_, fun x h => ?_, fun x h => ?_⟩
    · rw [sd_go hb]
      show sdrive kS203 g 25 _ T = _
      rw [r1, v1]; exact w1
    · by_cases z : x = q
      · subst z
        rw [w6 _ (by omega), v4, r5 i (by omega) h3]
        rfl
      · rw [w4 x i (by omega) h2 h3, v4, r6 _ (by omega)]
    · by_cases z : x = q
      · subst z
        rw [w7 _ (by omega), v5 i (by omega) h3, r4]
        rfl
      · rw [w5 x i (by omega) h2 h3, v6 _ (by omega), r4]
    · rw [w6 x (by omega), v4, r6 x (by omega)]
    · rw [w7 x (by omega), v6 x (by omega), r4]
theorem getD_era {l : List oE} {k x : Nat} (hx : x < l.length - 1) (hk : k < l.length) : (l.eraseIdx k).getD x oE0 = l.getD (shk k x) oE0 := by
  unfold shk
  rw [List.getD_eq_getElem?_getD, List.getD_eq_getElem?_getD, List.getElem?_eraseIdx]
  split <;> rfl
/-- closesOpen -/
theorem e203_eq (hn : n < 8) (h : olS S n OL) (hk : k < OL.length) : ∃ T, e203 (nI n) (nI k) S = some T ∧ dW n dk M M S T ∧ ks [44, 45, 46] S T ∧ olS T n (OL.eraseIdx k) := by
  obtain ⟨⟨h1, h2⟩, h3⟩ := h
  have s46 : s_a S 46 (nI n) = some (nI OL.length) := by rw [ga46 (by omega), h1]
  have e1 : nI OL.length - 1 = nI (OL.length - 1) := pk_sub (b := 1) (by omega)
  let S3 := s_u S 46 n (nI (OL.length - 1))
  have e46 : S3.1 46 n = nI (OL.length - 1) := by show (s_u S 46 n _).1 46 n = _; rw [su_eq, u1_eq]
  obtain ⟨U, r1, r2, r3, r4, r5, r6, r7⟩ := k203_12 (M := M) (dk := dk) hn (show OL.length - 1 ≤ 5 by omega) (show k ≤ OL.length - 1 by omega) (OL.length - 1 - k) k S3 xF (by omega) (by omega) (by unfold xF; omega) e46
  have o44 : ∀ x, S3.1 44 x = S.1 44 x := fun x => by show (s_u S 46 n _).1 44 x = _; rw [su_ne (by decide)]
  have hl : (OL.eraseIdx k).length = OL.length - 1 := by rw [List.length_eraseIdx_of_lt hk]
  refine ⟨U, ?_, dW_tr (dW_su (Or.inr (Or.inl ⟨by omega, rfl⟩))) r2, (ks.rf.tr (k_su : ks [46] S S3) rfl : ks [44, 45, 46] S S3).tr r3 rfl, ⟨⟨?_, by rw [hl]; omega⟩, fun x hx => ?_⟩⟩
  · show s_go kS203 (c203_0 (nI n) (nI k) S) = _
    unfold c203_0
    rw [bd_s s46, e1, bd_s (gs46 (by omega))]
    exact r1
  · rw [r3.i (by decide), e46, hl]
  · rw [hl] at hx
    rw [getD_era hx hk]
    unfold shk
    refine ⟨fun i hi => ?_, fun i hi => ?_⟩
    · by_cases z : x < k
      · rw [if_pos z, r6 _ (by omega), o44]; exact (h3 x (by omega)).1 i hi
      · rw [if_neg z, r4 x i (by omega) hx hi, o44]; exact (h3 (x + 1) (by omega)).1 i hi
    · by_cases z : x < k
      · rw [if_pos z, r7 _ (by omega)]; exact (h3 x (by omega)).2 i hi
      · rw [if_neg z, r5 x i (by omega) hx hi]; exact (h3 (x + 1) (by omega)).2 i hi
/-- what is no more wanted is taken out, one by one -/
theorem rfil {ρ : Type} {kS : Nat → List aV → sT → Option (sRes ρ)} {H : Nat} {as : Nat → List aV} {P : oE → Bool} {K : sT → Prop} (hn : n < 8) (hK : ∀ T U, K T → ks [44, 45, 46] T U → K U) (hst : ∀ T k OL, olS T n OL → K T → k < OL.length → kS H (as k) T = if P (OL.getD k oE0) = true then (Option.bind (e203 (nI n) (nI k) T) fun q => some (.inr (H, as k, q))) else some (.inr (H, as (k + 1), T))) : ∀ suf pre S fus, olS S n (pre ++ suf) → K S → suf.length < fus → ∃ T, sdrive kS fus H (as pre.length) S = sdrive kS (fus - suf.length) H (as (pre ++ suf.filter (fun e => ! P e)).length) T ∧ dW n dk M M S T ∧ ks [44, 45, 46] S T ∧ olS T n (pre ++ suf.filter (fun e => ! P e))
  | [], pre, S, fus, h, hKS, hf => by
    refine ⟨S, ?_, dW_rf, ks.rf, h⟩
    rw [List.filter_nil, List.append_nil]
    rfl
  | e :: suf, pre, S, fus, h, hKS, hf => by
    obtain ⟨g, rfl⟩ : ∃ g, fus = g + 1 := ⟨fus - 1, by omega⟩
    have hl : pre.length < (pre ++ e :: suf).length := by rw [List.length_append, List.length_cons]; omega
    have hg : (pre ++ e :: suf).getD pre.length oE0 = e := by simp [List.getD_eq_getElem?_getD]
    have st := hst S pre.length (pre ++ e :: suf) h hKS hl
    rw [hg] at st
    have hf : suf.length + 1 < g + 1 := hf
    by_cases z : P e = true
    · rw [if_pos z] at st
      obtain ⟨T, t1, t2, t3, t4⟩ := e203_eq (M := M) (dk := dk) hn h hl
      rw [bd_s t1] at st
      have er : (pre ++ e :: suf).eraseIdx pre.length = pre ++ suf := by
        rw [List.eraseIdx_append_of_length_le (Nat.le_refl _)]; simp
      rw [er] at t4
      obtain ⟨U, u1, u2, u3, u4⟩ := rfil hn hK hst suf pre T g t4 (hK S T hKS t3) (by omega)
      have ef : (e :: suf).filter (fun e => ! P e) = suf.filter (fun e => ! P e) := by
        rw [List.filter_cons_of_neg]; simp [z]
      rw [ef]
      refine ⟨U, ?_, dW_tr t2 u2, t3.tr u3 rfl, u4⟩
      rw [sd_go st, show g + 1 - (e :: suf).length = g - suf.length by rw [List.length_cons]; omega]
      exact u1
    · rw [if_neg z] at st
      have ef : (e :: suf).filter (fun e => ! P e) = e :: suf.filter (fun e => ! P e) := by
        rw [List.filter_cons_of_pos]
        simp at z
        simp [z]
      have h' : olS S n ((pre ++ [e]) ++ suf) := by rw [List.append_assoc]; exact h
      obtain ⟨U, u1, u2, u3, u4⟩ := rfil hn hK hst suf (pre ++ [e]) S g h' hKS (by omega)
      have e2 : pre ++ [e] ++ suf.filter (fun e => ! P e) = pre ++ e :: suf.filter (fun e => ! P e) := by simp
      have e3 : (pre ++ [e]).length = pre.length + 1 := by simp
      rw [e2, e3] at u1
      rw [e2] at u4
      rw [ef]
      refine ⟨U, ?_, u2, u3, u4⟩
      rw [sd_go st, show g + 1 - (e :: suf).length = g - suf.length by rw [List.length_cons]; omega]
      exact u1
/-- the class's slots -/
def cz (M : hM) (dk : Nat) (c : Nat → Bool) : Nat → hM
  | 0 => M
  | i + 1 => if c i = true then h_pi (cz M dk c i) 700 (dk + 4 + 2 * i) 0 else cz M dk c i
theorem cz_s (c : Nat → Bool) : ∀ i, (h_fl (cz M dk c i) = h_fl M ∧ h_fr (cz M dk c i) = h_fr M) ∧ (h_ai (cz M dk c i) = h_ai M ∧ h_al (cz M dk c i) = h_al M ∧ h_ar (cz M dk c i) = h_ar M) ∧ (h_tg (cz M dk c i) = h_tg M ∧ h_ln (cz M dk c i) = h_ln M) ∧ (∀ k a, k ≠ 700 → h_fi (cz M dk c i) k a = h_fi M k a) ∧ (∀ j, j < i → h_fi (cz M dk c i) 700 (dk + 4 + 2 * j) = if c j = true then 0 else h_fi M 700 (dk + 4 + 2 * j)) ∧ ∀ a, (∀ j, j < i → a ≠ dk + 4 + 2 * j) → h_fi (cz M dk c i) 700 a = h_fi M 700 a
  | 0 => ⟨⟨rfl, rfl⟩, ⟨rfl, rfl, rfl⟩, ⟨rfl, rfl⟩, fun _ _ _ => rfl, fun j h => by omega, fun _ _ => rfl⟩
  | i + 1 => by
    obtain ⟨h1, h2, h3, h4, h5, h6⟩ := cz_s c i
    have e : cz M dk c (i + 1) = (if c i = true then h_pi (cz M dk c i) 700 (dk + 4 + 2 * i) 0 else cz M dk c i) := rfl
    by_cases z : c i = true
    · rw [if_pos z] at e
      rw [e]
      refine ⟨h1, h2, h3, fun k a q => by rw [fi_ne q]; exact h4 k a q, fun j hj => ?_, fun a q => ?_⟩
      · rw [fi_eq]
        by_cases y : j = i
        · subst y; rw [u1_eq, if_pos z]
        · rw [u1_ne (by omega)]; exact h5 j (by omega)
      · rw [fi_eq, u1_ne (q i (by omega))]; exact h6 a (fun j hj => q j (by omega))
    · rw [if_neg z] at e
      rw [e]
      refine ⟨h1, h2, h3, h4, fun j hj => ?_, fun a q => h6 a (fun j hj => q j (by omega))⟩
      by_cases y : j = i
      · subst y; rw [if_neg z]; exact h6 _ (fun j' hj' => by omega)
      · exact h5 j (by omega)
theorem dW_cz (c : Nat → Bool) : ∀ i, i ≤ 6 → dW n dk M (cz M dk c i) S S
  | 0, _ => dW_rf
  | i + 1, hi => by
    show dW n dk M (if c i = true then h_pi (cz M dk c i) 700 (dk + 4 + 2 * i) 0 else cz M dk c i) S S
    by_cases z : c i = true
    · rw [if_pos z]
      exact dW_tr (dW_cz c i (by omega)) (dW_pi (Or.inr (Or.inr (by omega))) (by omega))
    · rw [if_neg z]; exact dW_cz c i (by omega)
/-- both sides have closed the same -/
theorem olR_fil {t lr j : Nat} {c : Nat → Bool} (h : olR M S t n dk OL lr j) (hT : olS T n (OL.filter (fun e => ! c e.1))) : olR (cz M dk c 6) T t n dk (OL.filter (fun e => ! c e.1)) lr j := by
  obtain ⟨h1, h2, h3, h4, h5, h6⟩ := h
  obtain ⟨c1, c2, c3, c4, c5, c6⟩ := cz_s (M := M) (dk := dk) c 6
  refine ⟨hT.1, hT.2, ?_, fun e he => ?_, fun i hi q => ?_, h6.sublist List.filter_sublist⟩
  · exact h3.sublist (List.Sublist.map _ List.filter_sublist)
  · obtain ⟨he1, he2⟩ := List.mem_filter.mp he
    have hc : c e.1 = false := by simpa using he2
    have q := h4 e he1
    have hs : e.1 < 6 := by obtain ⟨u, b, m, bits, o, r, a1, -⟩ := q; exact a1
    refine q.cg (fun k k1 k2 => ?_) (by rw [c2.2.1])
    by_cases z : k = 700
    · subst z; rw [c5 e.1 hs, hc]; rfl
    · exact c4 k _ z
  · rw [c5 i hi]
    by_cases z : c i = true
    · rw [if_pos z]
    · rw [if_neg z]
      refine h5 i hi (fun y => q ?_)
      obtain ⟨e, e1, e2⟩ := List.mem_map.mp y
      refine List.mem_map.mpr ⟨e, List.mem_filter.mpr ⟨e1, ?_⟩, e2⟩
      rw [e2]
      simp at z
      simp [z]
end OC
