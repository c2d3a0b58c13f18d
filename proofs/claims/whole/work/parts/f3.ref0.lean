/-! ===== the reference's constructor (by program: genf3.py) ===== -/
def aLs : List Nat := [4, 5, 6, 7, 8, 10, 11, 12, 14, 15, 16, 17, 18, 19, 20, 21, 22, 23, 24, 25, 26, 27, 28, 29, 30, 31, 32, 33, 34, 35, 36, 37, 39, 40, 41, 42, 43, 44, 45, 46, 48, 49, 50, 51, 52, 53, 54, 55, 56, 57, 58, 59, 60]
/-- where the reference's arrays lie -/
def adR (m k : Nat) : Nat := m + 1 + aLs.idxOf k
/-- the addresses below m are as in B -/
def lo (m : Nat) (B M : hM) : Prop := ∀ a, a < m → h_tg M a = h_tg B a ∧ h_ln M a = h_ln B a ∧ (∀ k, h_fi M k a = h_fi B k a ∧ h_fl M k a = h_fl B k a ∧ h_fr M k a = h_fr B k a) ∧ ∀ i, h_ai M a i = h_ai B a i ∧ h_al M a i = h_al B a i ∧ h_ar M a i = h_ar B a i
/-- the first j arrays of the reference are made -/
def rP (m : Nat) (B M : hM) (j : Nat) : Prop := (bk M ∧ lo m B M) ∧ h_sz M = m + 1 + j ∧ h_tg M m = 13 ∧ (∀ k, h_fi M k m = 0) ∧ ∀ i k, i < j → aLs[i]? = some k → h_fr M (1200 + k) m = some (m + 1 + i) ∧ h_tg M (m + 1 + i) = mT.getD k 0 ∧ h_ln M (m + 1 + i) = mL.getD k 0 ∧ ∀ x, h_ai M (m + 1 + i) x = 0 ∧ h_al M (m + 1 + i) x = 0
theorem aLs_nd : ∀ i, i < 53 → ∀ j, j < i → aLs[i]? ≠ aLs[j]? := by decide
theorem aLs_ix : ∀ k, k < 61 → 20 ≤ mT.getD k 0 → aLs[aLs.idxOf k]? = some k ∧ aLs.idxOf k < 53 := by decide
section RF
variable {m j k t : Nat} {B M M1 : hM} {v v1 v2 v3 : Int32} {S S1 : sT}
theorem n_a_v {n : Nat} (hv : ¬ v < 0 ∧ v.toNatClampNeg = n) (hn : n ≤ 1000000) : n_a M t v = some (h_na M t n) := by
  unfold n_a
  rw [if_pos ⟨hv.1, by rw [hv.2]; exact hn⟩, hv.2]
theorem rP_st (h : rP m B M j) (v : Int32) (hj : aLs[j]? = some k) (hd : j < 53 ∧ mT.getD k 0 = t ∧ (¬ t = 0) ∧ (¬ v < 0 ∧ v.toNatClampNeg = mL.getD k 0) ∧ mL.getD k 0 ≤ 1000000) : ∃ M1 M2, n_a M t v = some M1 ∧ p_r M1 12 k (some m) (some (h_sz M)) = some M2 ∧ rP m B M2 (j + 1) ∧ h_sl M2 = h_sl M + mL.getD k 0 := by
  obtain ⟨hj2, ht, t0, hv, hn⟩ := hd
  obtain ⟨⟨b1, b2⟩, b3, b4, b5, b6⟩ := h
  have e1 : h_tg (h_na M t (mL.getD k 0)) m = 13 := by
    show u1 (h_tg M) (h_sz M) t m = 13
    rw [u1_ne (by omega)]; exact b4
  refine ⟨h_na M t (mL.getD k 0), h_pr (h_na M t (mL.getD k 0)) (1200 + k) m (some (h_sz M)), n_a_v hv hn, ?_, ⟨⟨fun a ha => ?_, fun a ha => ?_⟩, ?_, e1, fun q => b5 q, fun i q hi hq => ?_⟩, rfl⟩
  · unfold p_r
    rw [show g_o (h_na M t (mL.getD k 0)) 12 (some m) = some m from if_pos e1]
    rfl
  · have ha : h_sz M + 1 ≤ a := ha
    obtain ⟨c1, c2, c3, c4⟩ := b1 a (by omega)
    refine ⟨?_, ?_, fun q => ⟨(c3 q).1, (c3 q).2.1, ?_⟩, fun i => ⟨?_, ?_, ?_⟩⟩
    · show u1 (h_tg M) (h_sz M) t a = 0
      rw [u1_ne (by omega)]; exact c1
    · show u1 (h_ln M) (h_sz M) _ a = 0
      rw [u1_ne (by omega)]; exact c2
    · show u2 (h_fr M) (1200 + k) m (some (h_sz M)) q a = none
      rw [u2_ne (by omega)]; exact (c3 q).2.2
    · exact (if_neg (by omega)).trans (c4 i).1
    · exact (if_neg (by omega)).trans (c4 i).2.1
    · exact (if_neg (by omega)).trans (c4 i).2.2
  · obtain ⟨c1, c2, c3, c4⟩ := b2 a ha
    refine ⟨?_, ?_, fun q => ⟨(c3 q).1, (c3 q).2.1, ?_⟩, fun i => ⟨?_, ?_, ?_⟩⟩
    · show u1 (h_tg M) (h_sz M) t a = _
      rw [u1_ne (by omega)]; exact c1
    · show u1 (h_ln M) (h_sz M) _ a = _
      rw [u1_ne (by omega)]; exact c2
    · show u2 (h_fr M) (1200 + k) m (some (h_sz M)) q a = _
      rw [u2_ne (by omega)]; exact (c3 q).2.2
    · exact (if_neg (by omega)).trans (c4 i).1
    · exact (if_neg (by omega)).trans (c4 i).2.1
    · exact (if_neg (by omega)).trans (c4 i).2.2
  · show h_sz M + 1 = _
    omega
  · by_cases e : i = j
    · subst e
      have e2 : q = k := Option.some.inj (hq.symm.trans hj)
      subst e2
      rw [show m + 1 + i = h_sz M by omega]
      refine ⟨?_, ?_, ?_, fun x => ⟨?_, ?_⟩⟩
      · show u2 (h_fr M) (1200 + q) m (some (h_sz M)) (1200 + q) m = _
        rw [u2_eq]
      · show u1 (h_tg M) (h_sz M) t (h_sz M) = _
        rw [u1_eq, ht]
      · show u1 (h_ln M) (h_sz M) _ (h_sz M) = _
        rw [u1_eq]
      · exact if_pos rfl
      · exact if_pos rfl
    · have nk : q ≠ k := fun e3 => aLs_nd j hj2 i (by omega) (by rw [hj, hq, e3])
      obtain ⟨y1, y2, y3, y4⟩ := b6 i q (by omega) hq
      refine ⟨?_, ?_, ?_, fun x => ⟨?_, ?_⟩⟩
      · show u2 (h_fr M) (1200 + k) m (some (h_sz M)) (1200 + q) m = _
        rw [u2_nk (by omega)]; exact y1
      · show u1 (h_tg M) (h_sz M) t _ = _
        rw [u1_ne (by omega)]; exact y2
      · show u1 (h_ln M) (h_sz M) _ _ = _
        rw [u1_ne (by omega)]; exact y3
      · exact (if_neg (by omega)).trans (y4 x).1
      · exact (if_neg (by omega)).trans (y4 x).2
theorem rP_rR (h : rP m B M 53) : rR m (adR m) M (fun _ _ => 0, fun _ _ => 0) := by
  obtain ⟨-, -, b4, b5, b6⟩ := h
  refine ⟨b4, fun k _ _ => b5 _, fun k hk ht => ?_, fun i k hi hk h1 h2 e => ?_⟩
  · obtain ⟨x1, x2⟩ := aLs_ix k hk ht
    obtain ⟨y1, y2, y3, y4⟩ := b6 _ k x2 x1
    exact ⟨y1, y2, y3, fun _ i _ => (y4 i).1, fun _ i _ => (y4 i).2⟩
  · have e : aLs.idxOf i = aLs.idxOf k := by unfold adR at e; omega
    have x1 := (aLs_ix i hi h1).1
    rw [e, (aLs_ix k hk h2).1] at x1
    exact (Option.some.inj x1).symm

/-- how a number is kept in its bounds -/
def prm (v : Int32) (hi n : Nat) : Prop := (1 ≤ n ∧ n ≤ hi) ∧ ((v < 1 ∧ n = 2) ∨ (¬ v < 1 ∧ nI hi < v ∧ n = 2) ∨ (¬ v < 1 ∧ ¬ nI hi < v ∧ v = nI n))
theorem prm_of (v : Int32) {hi : Nat} (h : 2 ≤ hi) (h2 : hi < 1000) : ∃ n, prm v hi n := by
  by_cases q1 : v < 1
  · exact ⟨2, ⟨by omega, h⟩, Or.inl ⟨q1, rfl⟩⟩
  · by_cases q2 : nI hi < v
    · exact ⟨2, ⟨by omega, h⟩, Or.inr (Or.inl ⟨q1, q2, rfl⟩)⟩
    · have p0 : ¬ v < 0 := fun q => q1 (Int32.lt_iff_toInt_lt.mpr (by have := Int32.lt_iff_toInt_lt.mp q; rw [show (0 : Int32).toInt = 0 from rfl] at this; rw [show (1 : Int32).toInt = 1 from rfl]; omega))
      obtain ⟨j, hj, rfl⟩ := nI_of p0
      have a1 : 1 ≤ j := by
        by_cases q : 1 ≤ j
        · exact q
        · exact absurd (nI_lt (a := j) (b := 1) (by omega) (by omega)) q1
      have a2 : j ≤ hi := by
        by_cases q : j ≤ hi
        · exact q
        · exact absurd (nI_lt (by omega) hj) q2
      exact ⟨j, ⟨a1, a2⟩, Or.inr (Or.inr ⟨q1, q2, rfl⟩)⟩
theorem prm_if {α : Type} {hi n : Nat} (h : prm v hi n) (f : Int32 → α) {w : Int32} (hw : w = nI hi) : (if v < (1 : Int32) then f 2 else (if w < v then f 2 else f v)) = f (nI n) := by
  subst hw
  rcases h.2 with ⟨q1, rfl⟩ | ⟨q1, q2, rfl⟩ | ⟨q1, q2, q3⟩
  · rw [if_pos q1]; rfl
  · rw [if_neg q1, if_pos q2]; rfl
  · rw [if_neg q1, if_neg q2, q3]
theorem s_s_t2 {i : Nat} (hi : i < mL.getD k 0) (hs : i < 2 ^ 31) : s_s S k (nI i) v = some (s_u S k i v) := by
  unfold s_s
  rw [nI_clamp hs]
  exact if_pos ⟨nI_pos hs, hi⟩
theorem k164_508 {ad : Nat → Nat} : ∀ d i M S g, i + d = 48 → rR m ad M S → ∃ M' S', drive k164 (g + d + 1) 508 [.inr (.inr (some m)), .inl (nI i)] M = drive k164 g 548 [.inr (.inr (some m)), .inl (nI 0)] M' ∧ rR m ad M' S' ∧ sm m ad M M' ∧ S'.2 = S.2 ∧ ∀ k x, S'.1 k x = if (k = 14 ∨ k = 15 ∨ k = 23) ∧ i ≤ x ∧ x < 48 then -1 else S.1 k x
  | 0, i, M, S, g, hi, hR => by
    refine ⟨M, S, ?_, hR, sm.rf, rfl, fun k x => (if_neg (by omega)).symm⟩
    refine dr_go (n := g) (q := (548, [.inr (.inr (some m)), .inl (nI 0)], M)) ?_
    show b164_508 m (nI i) M = _
    unfold b164_508
    rw [if_pos (show (48 : Int32) ≤ nI i from nI_le (a := 48) (by omega) (by omega))]
    rfl
  | d + 1, i, M, S, g, hi, hR => by
    obtain ⟨M1, a1, a2, a3⟩ := rR_si hR (k := 14) (s_s_t2 (v := -1) (i := i) (by show i < 48; omega) (by omega))
    obtain ⟨M2, b1, b2, b3⟩ := rR_si a2 (k := 15) (s_s_t2 (v := -1) (i := i) (by show i < 48; omega) (by omega))
    obtain ⟨M3, c1, c2, c3⟩ := rR_si b2 (k := 23) (s_s_t2 (v := -1) (i := i) (by show i < 48; omega) (by omega))
    have st : k164 508 [.inr (.inr (some m)), .inl (nI i)] M = some (.inr (508, [.inr (.inr (some m)), .inl (nI (i + 1))], M3)) := by
      show b164_508 m (nI i) M = _
      unfold b164_508
      rw [if_neg (show ¬ (48 : Int32) ≤ nI i from nI_ge (b := 48) (by omega) (by omega)), bd_s (rR_gr hR 14), bd_s a1, bd_s (rR_gr a2 15), bd_s b1, bd_s (rR_gr b2 23), bd_s c1, nI_1]
    obtain ⟨M', S', x1, x2, x3, x4, x5⟩ := k164_508 d (i + 1) M3 _ g (by omega) c2
    refine ⟨M', S', ?_, x2, ((a3.tr b3).tr c3).tr x3, x4, fun k x => ?_⟩
    · rw [show g + (d + 1) + 1 = (g + d + 1) + 1 by omega, dr_go st]; exact x1
    · rw [x5]
      by_cases q : x = i
      · subst q
        have hx : x < 48 := by omega
        rw [if_neg (by omega), y_su, y_su, y_su]
        by_cases q1 : k = 14 ∨ k = 15 ∨ k = 23
        · rcases q1 with rfl | rfl | rfl <;> simp [hx]
        · rw [if_neg (c := k = 23 ∧ x = x) (by omega), if_neg (c := k = 15 ∧ x = x) (by omega), if_neg (c := k = 14 ∧ x = x) (by omega), if_neg (c := (k = 14 ∨ k = 15 ∨ k = 23) ∧ x ≤ x ∧ x < 48) (fun q => q1 q.1)]
      · rw [y_su, y_su, y_su, if_neg (c := k = 23 ∧ x = i) (by omega), if_neg (c := k = 15 ∧ x = i) (by omega), if_neg (c := k = 14 ∧ x = i) (by omega)]
        by_cases q1 : (k = 14 ∨ k = 15 ∨ k = 23) ∧ i ≤ x ∧ x < 48
        · rw [if_pos q1, if_pos ⟨q1.1, by omega, by omega⟩]
        · rw [if_neg q1, if_neg (fun q2 => q1 ⟨q2.1, by omega, by omega⟩)]
theorem k164_548 {ad : Nat → Nat} : ∀ d i M S g, i + d = 5 → rR m ad M S → ∃ M' S', drive k164 (g + d + 1) 548 [.inr (.inr (some m)), .inl (nI i)] M = drive k164 g 574 [.inr (.inr (some m)), .inl (nI 0)] M' ∧ rR m ad M' S' ∧ sm m ad M M' ∧ S'.2 = S.2 ∧ ∀ k x, S'.1 k x = if k = 26 ∧ i ≤ x ∧ x < 5 then nI (x + 1) else S.1 k x
  | 0, i, M, S, g, hi, hR => by
    refine ⟨M, S, ?_, hR, sm.rf, rfl, fun k x => (if_neg (by omega)).symm⟩
    refine dr_go (n := g) (q := (574, [.inr (.inr (some m)), .inl (nI 0)], M)) ?_
    show b164_548 m (nI i) M = _
    unfold b164_548
    rw [if_pos (show (5 : Int32) ≤ nI i from nI_le (a := 5) (by omega) (by omega))]
    rfl
  | d + 1, i, M, S, g, hi, hR => by
    obtain ⟨M1, a1, a2, a3⟩ := rR_si hR (k := 26) (s_s_t2 (v := nI (i + 1)) (i := i) (by show i < 5; omega) (by omega))
    have st : k164 548 [.inr (.inr (some m)), .inl (nI i)] M = some (.inr (548, [.inr (.inr (some m)), .inl (nI (i + 1))], M1)) := by
      show b164_548 m (nI i) M = _
      unfold b164_548
      rw [if_neg (show ¬ (5 : Int32) ≤ nI i from nI_ge (b := 5) (by omega) (by omega)), bd_s (rR_gr hR 26), nI_1, bd_s a1]
    obtain ⟨M', S', x1, x2, x3, x4, x5⟩ := k164_548 d (i + 1) M1 _ g (by omega) a2
    refine ⟨M', S', ?_, x2, a3.tr x3, x4, fun k x => ?_⟩
    · rw [show g + (d + 1) + 1 = (g + d + 1) + 1 by omega, dr_go st]; exact x1
    · rw [x5, y_su]
      by_cases q : k = 26 ∧ x = i
      · obtain ⟨rfl, rfl⟩ := q
        rw [if_neg (by omega), if_pos ⟨rfl, rfl⟩, if_pos ⟨rfl, by omega, by omega⟩]
      · rw [if_neg (c := k = 26 ∧ x = i) q]
        by_cases q1 : k = 26 ∧ i ≤ x ∧ x < 5
        · rw [if_pos q1, if_pos ⟨q1.1, by omega, by omega⟩]
        · rw [if_neg q1, if_neg (fun q2 => q1 ⟨q2.1, by omega, by omega⟩)]
theorem k164_574 {ad : Nat → Nat} : ∀ d i M S g, i + d = 1800 → rR m ad M S → ∃ M' S', drive k164 (g + d + 1) 574 [.inr (.inr (some m)), .inl (nI i)] M = some (none, M') ∧ rR m ad M' S' ∧ sm m ad M M' ∧ S'.2 = S.2 ∧ ∀ k x, S'.1 k x = if k = 9 ∧ x = 0 then 1800 else if k = 8 ∧ i ≤ x ∧ x < 1800 then nI x else S.1 k x
  | 0, i, M, S, g, hi, hR => by
    obtain ⟨M1, a1, a2, a3⟩ := rR_pi hR (k := 9) (v := 1800) rfl
    refine ⟨M1, _, ?_, a2, a3, rfl, fun k x => ?_⟩
    · refine dr_end (n := g) (r := (none, M1)) ?_
      show b164_574 m (nI i) M = _
      unfold b164_574
      rw [if_pos (show (1800 : Int32) ≤ nI i from nI_le (a := 1800) (by omega) (by omega)), bd_s a1]
    · rw [y_su, if_neg (c := k = 8 ∧ i ≤ x ∧ x < 1800) (by omega)]
  | d + 1, i, M, S, g, hi, hR => by
    obtain ⟨M1, a1, a2, a3⟩ := rR_si hR (k := 8) (s_s_t2 (v := nI i) (i := i) (by show i < 1800; omega) (by omega))
    have st : k164 574 [.inr (.inr (some m)), .inl (nI i)] M = some (.inr (574, [.inr (.inr (some m)), .inl (nI (i + 1))], M1)) := by
      show b164_574 m (nI i) M = _
      unfold b164_574
      rw [if_neg (show ¬ (1800 : Int32) ≤ nI i from nI_ge (b := 1800) (by omega) (by omega)), bd_s (rR_gr hR 8), bd_s a1, nI_1]
    obtain ⟨M', S', x1, x2, x3, x4, x5⟩ := k164_574 d (i + 1) M1 _ g (by omega) a2
    refine ⟨M', S', ?_, x2, a3.tr x3, x4, fun k x => ?_⟩
    · rw [show g + (d + 1) + 1 = (g + d + 1) + 1 by omega, dr_go st]; exact x1
    · rw [x5, y_su]
      by_cases q0 : k = 9 ∧ x = 0
      · rw [if_pos q0, if_pos q0]
      rw [if_neg q0, if_neg q0]
      by_cases q : k = 8 ∧ x = i
      · obtain ⟨rfl, rfl⟩ := q
        rw [if_neg (by omega), if_pos ⟨rfl, rfl⟩, if_pos ⟨rfl, by omega, by omega⟩]
      · rw [if_neg (c := k = 8 ∧ x = i) q]
        by_cases q1 : k = 8 ∧ i ≤ x ∧ x < 1800
        · rw [if_pos q1, if_pos ⟨q1.1, by omega, by omega⟩]
        · rw [if_neg q1, if_neg (fun q2 => q1 ⟨q2.1, by omega, by omega⟩)]
/-- the reference at the beginning -/
def sI (sw nd rm : Nat) (S : sT) : Prop := S.2 = (fun _ _ => 0) ∧ ∀ k x, S.1 k x = if k = 9 ∧ x = 0 then 1800 else if k = 8 ∧ 0 ≤ x ∧ x < 1800 then nI x else if k = 26 ∧ 0 ≤ x ∧ x < 5 then nI (x + 1) else if (k = 14 ∨ k = 15 ∨ k = 23) ∧ 0 ≤ x ∧ x < 48 then -1 else if k = 2 ∧ x = 0 then nI rm else if k = 1 ∧ x = 0 then nI nd else if k = 0 ∧ x = 0 then nI sw else 0
theorem F164 {sw nd rm : Nat} (hb : bk B) (p1 : prm v1 5 sw) (p2 : prm v2 8 nd) (p3 : prm v3 4 rm) : ∃ H S, f164 [.inr (.inr (some (h_sz B))), .inl v1, .inl v2, .inl v3] (h_no B 12 61) = some (none, H) ∧ rR (h_sz B) (adR (h_sz B)) H S ∧ sI sw nd rm S ∧ (bk H ∧ lo (h_sz B) B H) ∧ h_sz H = h_sz B + 54 ∧ h_sl H = h_sl B + 157540 := by
  generalize hm : h_sz B = m
  have P0 : rP m B (h_no B 12 61) 0 := by
    subst hm
    refine ⟨⟨fun a ha => ?_, fun a ha => ?_⟩, rfl, if_pos rfl, fun k => if_pos rfl, fun i _ hi => absurd hi (by omega)⟩
    · have ha : h_sz B + 1 ≤ a := ha
      obtain ⟨c1, c2, c3, c4⟩ := hb a (by omega)
      exact ⟨(if_neg (by omega)).trans c1, c2, fun q => ⟨(if_neg (by omega)).trans (c3 q).1, (if_neg (by omega)).trans (c3 q).2.1, (if_neg (by omega)).trans (c3 q).2.2⟩, c4⟩
    · exact ⟨if_neg (by omega), rfl, fun q => ⟨if_neg (by omega), if_neg (by omega), if_neg (by omega)⟩, fun i => ⟨rfl, rfl, rfl⟩⟩
  have l0 : h_sl (h_no B 12 61) = h_sl B + 61 := rfl
  show ∃ H S, x_go k164 (b164_0 m v1 v2 v3 (h_no B 12 61)) = _ ∧ _
  generalize h_no B 12 61 = M0 at P0 l0 ⊢
  unfold b164_0

  obtain ⟨M1a, M1, x1, y1, P1, l1⟩ := rP_st P0 (11 : Int32) (k := 4) (t := 20) rfl (by decide)
  have P1 : rP m B M1 1 := P1
  have l1 : h_sl M1 = h_sl M0 + 11 := l1
  rw [bd_s x1, bd_s y1]
  obtain ⟨M2a, M2, x2, y2, P2, l2⟩ := rP_st P1 (3 : Int32) (k := 5) (t := 20) rfl (by decide)
  have P2 : rP m B M2 2 := P2
  have l2 : h_sl M2 = h_sl M1 + 3 := l2
  rw [bd_s x2, bd_s y2]
  obtain ⟨M3a, M3, x3, y3, P3, l3⟩ := rP_st P2 (144000 : Int32) (k := 6) (t := 21) rfl (by decide)
  have P3 : rP m B M3 3 := P3
  have l3 : h_sl M3 = h_sl M2 + 144000 := l3
  rw [bd_s x3, bd_s y3]
  obtain ⟨M4a, M4, x4, y4, P4, l4⟩ := rP_st P3 (1800 : Int32) (k := 7) (t := 20) rfl (by decide)
  have P4 : rP m B M4 4 := P4
  have l4 : h_sl M4 = h_sl M3 + 1800 := l4
  rw [bd_s x4, bd_s y4]
  obtain ⟨M5a, M5, x5, y5, P5, l5⟩ := rP_st P4 (1800 : Int32) (k := 8) (t := 20) rfl (by decide)
  have P5 : rP m B M5 5 := P5
  have l5 : h_sl M5 = h_sl M4 + 1800 := l5
  rw [bd_s x5, bd_s y5]
  obtain ⟨M6a, M6, x6, y6, P6, l6⟩ := rP_st P5 (32 : Int32) (k := 10) (t := 20) rfl (by decide)
  have P6 : rP m B M6 6 := P6
  have l6 : h_sl M6 = h_sl M5 + 32 := l6
  rw [bd_s x6, bd_s y6]
  obtain ⟨M7a, M7, x7, y7, P7, l7⟩ := rP_st P6 (16 : Int32) (k := 11) (t := 20) rfl (by decide)
  have P7 : rP m B M7 7 := P7
  have l7 : h_sl M7 = h_sl M6 + 16 := l7
  rw [bd_s x7, bd_s y7]
  obtain ⟨M8a, M8, x8, y8, P8, l8⟩ := rP_st P7 (16 : Int32) (k := 12) (t := 22) rfl (by decide)
  have P8 : rP m B M8 8 := P8
  have l8 : h_sl M8 = h_sl M7 + 16 := l8
  rw [bd_s x8, bd_s y8]
  obtain ⟨M9a, M9, x9, y9, P9, l9⟩ := rP_st P8 (48 : Int32) (k := 14) (t := 20) rfl (by decide)
  have P9 : rP m B M9 9 := P9
  have l9 : h_sl M9 = h_sl M8 + 48 := l9
  rw [bd_s x9, bd_s y9]
  obtain ⟨M10a, M10, x10, y10, P10, l10⟩ := rP_st P9 (48 : Int32) (k := 15) (t := 20) rfl (by decide)
  have P10 : rP m B M10 10 := P10
  have l10 : h_sl M10 = h_sl M9 + 48 := l10
  rw [bd_s x10, bd_s y10]
  obtain ⟨M11a, M11, x11, y11, P11, l11⟩ := rP_st P10 (192 : Int32) (k := 16) (t := 20) rfl (by decide)
  have P11 : rP m B M11 11 := P11
  have l11 : h_sl M11 = h_sl M10 + 192 := l11
  rw [bd_s x11, bd_s y11]
  obtain ⟨M12a, M12, x12, y12, P12, l12⟩ := rP_st P11 (48 : Int32) (k := 17) (t := 20) rfl (by decide)
  have P12 : rP m B M12 12 := P12
  have l12 : h_sl M12 = h_sl M11 + 48 := l12
  rw [bd_s x12, bd_s y12]
  obtain ⟨M13a, M13, x13, y13, P13, l13⟩ := rP_st P12 (1536 : Int32) (k := 18) (t := 20) rfl (by decide)
  have P13 : rP m B M13 13 := P13
  have l13 : h_sl M13 = h_sl M12 + 1536 := l13
  rw [bd_s x13, bd_s y13]
  obtain ⟨M14a, M14, x14, y14, P14, l14⟩ := rP_st P13 (48 : Int32) (k := 19) (t := 20) rfl (by decide)
  have P14 : rP m B M14 14 := P14
  have l14 : h_sl M14 = h_sl M13 + 48 := l14
  rw [bd_s x14, bd_s y14]
  obtain ⟨M15a, M15, x15, y15, P15, l15⟩ := rP_st P14 (48 : Int32) (k := 20) (t := 20) rfl (by decide)
  have P15 : rP m B M15 15 := P15
  have l15 : h_sl M15 = h_sl M14 + 48 := l15
  rw [bd_s x15, bd_s y15]
  obtain ⟨M16a, M16, x16, y16, P16, l16⟩ := rP_st P15 (48 : Int32) (k := 21) (t := 20) rfl (by decide)
  have P16 : rP m B M16 16 := P16
  have l16 : h_sl M16 = h_sl M15 + 48 := l16
  rw [bd_s x16, bd_s y16]
  obtain ⟨M17a, M17, x17, y17, P17, l17⟩ := rP_st P16 (48 : Int32) (k := 22) (t := 22) rfl (by decide)
  have P17 : rP m B M17 17 := P17
  have l17 : h_sl M17 = h_sl M16 + 48 := l17
  rw [bd_s x17, bd_s y17]
  obtain ⟨M18a, M18, x18, y18, P18, l18⟩ := rP_st P17 (48 : Int32) (k := 23) (t := 20) rfl (by decide)
  have P18 : rP m B M18 18 := P18
  have l18 : h_sl M18 = h_sl M17 + 48 := l18
  rw [bd_s x18, bd_s y18]
  obtain ⟨M19a, M19, x19, y19, P19, l19⟩ := rP_st P18 (48 : Int32) (k := 24) (t := 20) rfl (by decide)
  have P19 : rP m B M19 19 := P19
  have l19 : h_sl M19 = h_sl M18 + 48 := l19
  rw [bd_s x19, bd_s y19]
  obtain ⟨M20a, M20, x20, y20, P20, l20⟩ := rP_st P19 (48 : Int32) (k := 25) (t := 20) rfl (by decide)
  have P20 : rP m B M20 20 := P20
  have l20 : h_sl M20 = h_sl M19 + 48 := l20
  rw [bd_s x20, bd_s y20]
  obtain ⟨M21a, M21, x21, y21, P21, l21⟩ := rP_st P20 (5 : Int32) (k := 26) (t := 20) rfl (by decide)
  have P21 : rP m B M21 21 := P21
  have l21 : h_sl M21 = h_sl M20 + 5 := l21
  rw [bd_s x21, bd_s y21]
  obtain ⟨M22a, M22, x22, y22, P22, l22⟩ := rP_st P21 (25 : Int32) (k := 27) (t := 22) rfl (by decide)
  have P22 : rP m B M22 22 := P22
  have l22 : h_sl M22 = h_sl M21 + 25 := l22
  rw [bd_s x22, bd_s y22]
  obtain ⟨M23a, M23, x23, y23, P23, l23⟩ := rP_st P22 (25 : Int32) (k := 28) (t := 20) rfl (by decide)
  have P23 : rP m B M23 23 := P23
  have l23 : h_sl M23 = h_sl M22 + 25 := l23
  rw [bd_s x23, bd_s y23]
  obtain ⟨M24a, M24, x24, y24, P24, l24⟩ := rP_st P23 (1600 : Int32) (k := 29) (t := 20) rfl (by decide)
  have P24 : rP m B M24 24 := P24
  have l24 : h_sl M24 = h_sl M23 + 1600 := l24
  rw [bd_s x24, bd_s y24]
  obtain ⟨M25a, M25, x25, y25, P25, l25⟩ := rP_st P24 (25 : Int32) (k := 30) (t := 20) rfl (by decide)
  have P25 : rP m B M25 25 := P25
  have l25 : h_sl M25 = h_sl M24 + 25 := l25
  rw [bd_s x25, bd_s y25]
  obtain ⟨M26a, M26, x26, y26, P26, l26⟩ := rP_st P25 (64 : Int32) (k := 31) (t := 20) rfl (by decide)
  have P26 : rP m B M26 26 := P26
  have l26 : h_sl M26 = h_sl M25 + 64 := l26
  rw [bd_s x26, bd_s y26]
  obtain ⟨M27a, M27, x27, y27, P27, l27⟩ := rP_st P26 (25 : Int32) (k := 32) (t := 20) rfl (by decide)
  have P27 : rP m B M27 27 := P27
  have l27 : h_sl M27 = h_sl M26 + 25 := l27
  rw [bd_s x27, bd_s y27]
  obtain ⟨M28a, M28, x28, y28, P28, l28⟩ := rP_st P27 (8 : Int32) (k := 33) (t := 22) rfl (by decide)
  have P28 : rP m B M28 28 := P28
  have l28 : h_sl M28 = h_sl M27 + 8 := l28
  rw [bd_s x28, bd_s y28]
  obtain ⟨M29a, M29, x29, y29, P29, l29⟩ := rP_st P28 (8 : Int32) (k := 34) (t := 22) rfl (by decide)
  have P29 : rP m B M29 29 := P29
  have l29 : h_sl M29 = h_sl M28 + 8 := l29
  rw [bd_s x29, bd_s y29]
  obtain ⟨M30a, M30, x30, y30, P30, l30⟩ := rP_st P29 (8 : Int32) (k := 35) (t := 20) rfl (by decide)
  have P30 : rP m B M30 30 := P30
  have l30 : h_sl M30 = h_sl M29 + 8 := l30
  rw [bd_s x30, bd_s y30]
  obtain ⟨M31a, M31, x31, y31, P31, l31⟩ := rP_st P30 (8 : Int32) (k := 36) (t := 20) rfl (by decide)
  have P31 : rP m B M31 31 := P31
  have l31 : h_sl M31 = h_sl M30 + 8 := l31
  rw [bd_s x31, bd_s y31]
  obtain ⟨M32a, M32, x32, y32, P32, l32⟩ := rP_st P31 (8 : Int32) (k := 37) (t := 20) rfl (by decide)
  have P32 : rP m B M32 32 := P32
  have l32 : h_sl M32 = h_sl M31 + 8 := l32
  rw [bd_s x32, bd_s y32]
  obtain ⟨M33a, M33, x33, y33, P33, l33⟩ := rP_st P32 (64 : Int32) (k := 39) (t := 20) rfl (by decide)
  have P33 : rP m B M33 33 := P33
  have l33 : h_sl M33 = h_sl M32 + 64 := l33
  rw [bd_s x33, bd_s y33]
  obtain ⟨M34a, M34, x34, y34, P34, l34⟩ := rP_st P33 (64 : Int32) (k := 40) (t := 20) rfl (by decide)
  have P34 : rP m B M34 34 := P34
  have l34 : h_sl M34 = h_sl M33 + 64 := l34
  rw [bd_s x34, bd_s y34]
  obtain ⟨M35a, M35, x35, y35, P35, l35⟩ := rP_st P34 (8 : Int32) (k := 41) (t := 20) rfl (by decide)
  have P35 : rP m B M35 35 := P35
  have l35 : h_sl M35 = h_sl M34 + 8 := l35
  rw [bd_s x35, bd_s y35]
  obtain ⟨M36a, M36, x36, y36, P36, l36⟩ := rP_st P35 (256 : Int32) (k := 42) (t := 23) rfl (by decide)
  have P36 : rP m B M36 36 := P36
  have l36 : h_sl M36 = h_sl M35 + 256 := l36
  rw [bd_s x36, bd_s y36]
  obtain ⟨M37a, M37, x37, y37, P37, l37⟩ := rP_st P36 (8 : Int32) (k := 43) (t := 20) rfl (by decide)
  have P37 : rP m B M37 37 := P37
  have l37 : h_sl M37 = h_sl M36 + 8 := l37
  rw [bd_s x37, bd_s y37]
  obtain ⟨M38a, M38, x38, y38, P38, l38⟩ := rP_st P37 (384 : Int32) (k := 44) (t := 20) rfl (by decide)
  have P38 : rP m B M38 38 := P38
  have l38 : h_sl M38 = h_sl M37 + 384 := l38
  rw [bd_s x38, bd_s y38]
  obtain ⟨M39a, M39, x39, y39, P39, l39⟩ := rP_st P38 (192 : Int32) (k := 45) (t := 23) rfl (by decide)
  have P39 : rP m B M39 39 := P39
  have l39 : h_sl M39 = h_sl M38 + 192 := l39
  rw [bd_s x39, bd_s y39]
  obtain ⟨M40a, M40, x40, y40, P40, l40⟩ := rP_st P39 (8 : Int32) (k := 46) (t := 20) rfl (by decide)
  have P40 : rP m B M40 40 := P40
  have l40 : h_sl M40 = h_sl M39 + 8 := l40
  rw [bd_s x40, bd_s y40]
  obtain ⟨M41a, M41, x41, y41, P41, l41⟩ := rP_st P40 (300 : Int32) (k := 48) (t := 20) rfl (by decide)
  have P41 : rP m B M41 41 := P41
  have l41 : h_sl M41 = h_sl M40 + 300 := l41
  rw [bd_s x41, bd_s y41]
  obtain ⟨M42a, M42, x42, y42, P42, l42⟩ := rP_st P41 (300 : Int32) (k := 49) (t := 20) rfl (by decide)
  have P42 : rP m B M42 42 := P42
  have l42 : h_sl M42 = h_sl M41 + 300 := l42
  rw [bd_s x42, bd_s y42]
  obtain ⟨M43a, M43, x43, y43, P43, l43⟩ := rP_st P42 (300 : Int32) (k := 50) (t := 22) rfl (by decide)
  have P43 : rP m B M43 43 := P43
  have l43 : h_sl M43 = h_sl M42 + 300 := l43
  rw [bd_s x43, bd_s y43]
  obtain ⟨M44a, M44, x44, y44, P44, l44⟩ := rP_st P43 (300 : Int32) (k := 51) (t := 20) rfl (by decide)
  have P44 : rP m B M44 44 := P44
  have l44 : h_sl M44 = h_sl M43 + 300 := l44
  rw [bd_s x44, bd_s y44]
  obtain ⟨M45a, M45, x45, y45, P45, l45⟩ := rP_st P44 (300 : Int32) (k := 52) (t := 20) rfl (by decide)
  have P45 : rP m B M45 45 := P45
  have l45 : h_sl M45 = h_sl M44 + 300 := l45
  rw [bd_s x45, bd_s y45]
  obtain ⟨M46a, M46, x46, y46, P46, l46⟩ := rP_st P45 (300 : Int32) (k := 53) (t := 20) rfl (by decide)
  have P46 : rP m B M46 46 := P46
  have l46 : h_sl M46 = h_sl M45 + 300 := l46
  rw [bd_s x46, bd_s y46]
  obtain ⟨M47a, M47, x47, y47, P47, l47⟩ := rP_st P46 (1200 : Int32) (k := 54) (t := 23) rfl (by decide)
  have P47 : rP m B M47 47 := P47
  have l47 : h_sl M47 = h_sl M46 + 1200 := l47
  rw [bd_s x47, bd_s y47]
  obtain ⟨M48a, M48, x48, y48, P48, l48⟩ := rP_st P47 (300 : Int32) (k := 55) (t := 20) rfl (by decide)
  have P48 : rP m B M48 48 := P48
  have l48 : h_sl M48 = h_sl M47 + 300 := l48
  rw [bd_s x48, bd_s y48]
  obtain ⟨M49a, M49, x49, y49, P49, l49⟩ := rP_st P48 (300 : Int32) (k := 56) (t := 20) rfl (by decide)
  have P49 : rP m B M49 49 := P49
  have l49 : h_sl M49 = h_sl M48 + 300 := l49
  rw [bd_s x49, bd_s y49]
  obtain ⟨M50a, M50, x50, y50, P50, l50⟩ := rP_st P49 (300 : Int32) (k := 57) (t := 20) rfl (by decide)
  have P50 : rP m B M50 50 := P50
  have l50 : h_sl M50 = h_sl M49 + 300 := l50
  rw [bd_s x50, bd_s y50]
  obtain ⟨M51a, M51, x51, y51, P51, l51⟩ := rP_st P50 (300 : Int32) (k := 58) (t := 20) rfl (by decide)
  have P51 : rP m B M51 51 := P51
  have l51 : h_sl M51 = h_sl M50 + 300 := l51
  rw [bd_s x51, bd_s y51]
  obtain ⟨M52a, M52, x52, y52, P52, l52⟩ := rP_st P51 (300 : Int32) (k := 59) (t := 20) rfl (by decide)
  have P52 : rP m B M52 52 := P52
  have l52 : h_sl M52 = h_sl M51 + 300 := l52
  rw [bd_s x52, bd_s y52]
  obtain ⟨M53a, M53, x53, y53, P53, l53⟩ := rP_st P52 (300 : Int32) (k := 60) (t := 20) rfl (by decide)
  have P53 : rP m B M53 53 := P53
  have l53 : h_sl M53 = h_sl M52 + 300 := l53
  rw [bd_s x53, bd_s y53]
  have hl : h_sl M53 = h_sl B + 157540 := by
    omega
  have e0 : (if v1 < (1 : Int32) then (b164_462 m v2 v3 (some m) M53) else (if (5 : Int32) < v1 then (b164_462 m v2 v3 (some m) M53) else (b164_463 m v2 v3 v1 (some m) M53))) = b164_463 m v2 v3 (nI sw) (some m) M53 := prm_if (f := fun q => b164_463 m v2 v3 q (some m) M53) p1 (w := (5 : Int32)) rfl
  rw [e0]
  obtain ⟨A1, a1, a2, a3⟩ := rR_pi (rP_rR P53) (k := 0) (v := nI sw) rfl
  obtain ⟨A2, b1, b2, b3⟩ := rR_pi a2 (k := 1) (v := nI nd) rfl
  obtain ⟨A3, c1, c2, c3⟩ := rR_pi b2 (k := 2) (v := nI rm) rfl
  have e : b164_463 m v2 v3 (nI sw) (some m) M53 = some (.inr (508, [.inr (.inr (some m)), .inl (nI 0)], A3)) := by
    unfold b164_463
    rw [bd_s a1]
    have e1 : (if v2 < (1 : Int32) then (b164_482 m v3 (some m) A1) else (if (8 : Int32) < v2 then (b164_482 m v3 (some m) A1) else (b164_483 m v3 v2 (some m) A1))) = b164_483 m v3 (nI nd) (some m) A1 := prm_if (f := fun q => b164_483 m v3 q (some m) A1) p2 (w := (8 : Int32)) rfl
    rw [e1]
    unfold b164_483
    rw [bd_s b1]
    have e2 : (if v3 < (1 : Int32) then (b164_501 m (some m) A2) else (if (4 : Int32) < v3 then (b164_501 m (some m) A2) else (b164_502 m v3 (some m) A2))) = b164_502 m (nI rm) (some m) A2 := prm_if (f := fun q => b164_502 m q (some m) A2) p3 (w := (4 : Int32)) rfl
    rw [e2]
    unfold b164_502
    rw [bd_s c1]
    rfl
  obtain ⟨D1, S1, d1, d2, d3, d4, d5⟩ := k164_508 (m := m) 48 0 A3 _ (1000000 - 49) (by omega) c2
  obtain ⟨D2, S2, f1, f2, f3, f4, f5⟩ := k164_548 (m := m) 5 0 D1 _ (1000000 - 55) (by omega) d2
  obtain ⟨D3, S3, g1, g2, g3, g4, g5⟩ := k164_574 (m := m) 1800 0 D2 _ (1000000 - 1856) (by omega) f2
  have hs := (((a3.tr b3).tr c3).tr (d3.tr f3)).tr g3
  have nY : ∀ a, (a < m ∨ m + 54 ≤ a) → ∀ k, k < 61 → 20 ≤ mT.getD k 0 → a ≠ adR m k := fun a ha k hk ht e => by
    have := (aLs_ix k hk ht).2
    unfold adR at e
    omega
  obtain ⟨⟨s1, s2, s3, s4, s5, s6, s7⟩, s8, s9⟩ := hs
  obtain ⟨⟨q1, q2⟩, q3, -⟩ := P53
  refine ⟨D3, S3, ?_, g2, ⟨?_, fun k x => ?_⟩, ⟨fun a ha => ?_, fun a ha => ?_⟩, by rw [s6, q3], by rw [s7, hl]⟩
  · show x_go k164 (b164_463 m v2 v3 (nI sw) (some m) M53) = _
    rw [e]
    exact (d1.trans f1).trans g1
  · rw [g4, f4, d4]; rfl
  · rw [g5, f5, d5, y_su, y_su, y_su]
  · rw [s6, q3] at ha
    obtain ⟨r1, r2, r3, r4⟩ := q1 a (by omega)
    rw [s5, s4]
    refine ⟨r1, r2, fun k => ⟨?_, ?_, ?_⟩, fun i => ⟨?_, ?_, ?_⟩⟩
    · rw [s8 k a (by omega)]; exact (r3 k).1
    · rw [s1]; exact (r3 k).2.1
    · rw [s2]; exact (r3 k).2.2
    · rw [(s9 a i (nY a (by omega))).1]; exact (r4 i).1
    · rw [(s9 a i (nY a (by omega))).2]; exact (r4 i).2.1
    · rw [s3]; exact (r4 i).2.2
  · obtain ⟨r1, r2, r3, r4⟩ := q2 a ha
    rw [s5, s4]
    refine ⟨r1, r2, fun k => ⟨?_, ?_, ?_⟩, fun i => ⟨?_, ?_, ?_⟩⟩
    · rw [s8 k a (by omega)]; exact (r3 k).1
    · rw [s1]; exact (r3 k).2.1
    · rw [s2]; exact (r3 k).2.2
    · rw [(s9 a i (nY a (Or.inl ha))).1]; exact (r4 i).1
    · rw [(s9 a i (nY a (Or.inl ha))).2]; exact (r4 i).2.1
    · rw [s3]; exact (r4 i).2.2
end RF
