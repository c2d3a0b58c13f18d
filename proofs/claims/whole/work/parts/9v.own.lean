/-! ===== a switch's own record, as a list ===== -/
def nbl (nb : Nat → Option (Nat × Nat)) : Nat → Nat → List Nat
  | _, 0 => []
  | p, d + 1 => (match nb p with | none => [] | some q => [p, q.1, q.2]) ++ nbl nb (p + 1) d
def nbc (nb : Nat → Option (Nat × Nat)) : Nat → Nat → Nat
  | _, 0 => 0
  | p, d + 1 => (match nb p with | none => 0 | some _ => 1) + nbc nb (p + 1) d
def gvl (gv : Nat → Option Nat) : Nat → Nat → List Nat
  | _, 0 => []
  | p, d + 1 => (match gv p with | none => [] | some n => [n, p]) ++ gvl gv (p + 1) d
def gvc (gv : Nat → Option Nat) : Nat → Nat → Nat
  | _, 0 => 0
  | p, d + 1 => (match gv p with | none => 0 | some _ => 1) + gvc gv (p + 1) d
def oRec (s i1 i2 i3 dm : Nat) (nb : Nat → Option (Nat × Nat)) (gv : Nat → Option Nat) : List Nat := [s, i1, i2, i3, dm, nbc nb 0 8] ++ nbl nb 0 8 ++ (gvc gv 0 8 :: gvl gv 0 8)
section OR
variable {nb : Nat → Option (Nat × Nat)} {gv : Nat → Option Nat} {sw nd : Nat} {L A B : List Nat} {X : List Int32}
theorem nbl_n {p d : Nat} (h : nb p = none) : nbl nb p (d + 1) = nbl nb (p + 1) d ∧ nbc nb p (d + 1) = nbc nb (p + 1) d := by
  constructor
  · show (match nb p with | none => [] | some q => [p, q.1, q.2]) ++ nbl nb (p + 1) d = _
    rw [h]; rfl
  · show (match nb p with | none => 0 | some _ => 1) + nbc nb (p + 1) d = _
    rw [h]; exact Nat.zero_add _
theorem nbl_s {p d : Nat} {q : Nat × Nat} (h : nb p = some q) : nbl nb p (d + 1) = p :: q.1 :: q.2 :: nbl nb (p + 1) d ∧ nbc nb p (d + 1) = nbc nb (p + 1) d + 1 := by
  constructor
  · show (match nb p with | none => [] | some q => [p, q.1, q.2]) ++ nbl nb (p + 1) d = _
    rw [h]; rfl
  · show (match nb p with | none => 0 | some _ => 1) + nbc nb (p + 1) d = _
    rw [h]; exact Nat.add_comm _ _
theorem gvl_n {p d : Nat} (h : gv p = none) : gvl gv p (d + 1) = gvl gv (p + 1) d ∧ gvc gv p (d + 1) = gvc gv (p + 1) d := by
  constructor
  · show (match gv p with | none => [] | some n => [n, p]) ++ gvl gv (p + 1) d = _
    rw [h]; rfl
  · show (match gv p with | none => 0 | some _ => 1) + gvc gv (p + 1) d = _
    rw [h]; exact Nat.zero_add _
theorem gvl_s {p d n : Nat} (h : gv p = some n) : gvl gv p (d + 1) = n :: p :: gvl gv (p + 1) d ∧ gvc gv p (d + 1) = gvc gv (p + 1) d + 1 := by
  constructor
  · show (match gv p with | none => [] | some n => [n, p]) ++ gvl gv (p + 1) d = _
    rw [h]; rfl
  · show (match gv p with | none => 0 | some _ => 1) + gvc gv (p + 1) d = _
    rw [h]; exact Nat.add_comm _ _
theorem nbl_len : ∀ d p, (nbl nb p d).length = 3 * nbc nb p d
  | 0, _ => rfl
  | d + 1, p => by
    cases h : nb p with
    | none => rw [(nbl_n h).1, (nbl_n h).2]; exact nbl_len d (p + 1)
    | some q => rw [(nbl_s h).1, (nbl_s h).2]; simp only [List.length_cons]; rw [nbl_len d (p + 1)]; omega
theorem gvl_len : ∀ d p, (gvl gv p d).length = 2 * gvc gv p d
  | 0, _ => rfl
  | d + 1, p => by
    cases h : gv p with
    | none => rw [(gvl_n h).1, (gvl_n h).2]; exact gvl_len d (p + 1)
    | some q => rw [(gvl_s h).1, (gvl_s h).2]; simp only [List.length_cons]; rw [gvl_len d (p + 1)]; omega
theorem both_le (H : ∀ p, nb p = none ∨ gv p = none) : ∀ d p, nbc nb p d + gvc gv p d ≤ d
  | 0, _ => Nat.le_refl _
  | d + 1, p => by
    have ih := both_le H d (p + 1)
    cases h : nb p with
    | none =>
      rw [(nbl_n h).2]
      cases g : gv p with
      | none => rw [(gvl_n g).2]; omega
      | some n => rw [(gvl_s g).2]; omega
    | some q =>
      rw [(nbl_s h).2]
      have g := (H p).resolve_left (by rw [h]; exact fun q => nomatch q)
      rw [(gvl_n g).2]; omega
theorem nbl_lt (HN : ∀ p v c, nb p = some (v, c) → v < sw ∧ 1 ≤ c ∧ c ≤ 9) (h5 : sw ≤ 5) : ∀ d p, p + d = 8 → ∀ x, x ∈ nbl nb p d → x < 256
  | 0, _, _, x, hx => nomatch hx
  | d + 1, p, hp, x, hx => by
    cases h : nb p with
    | none => rw [(nbl_n h).1] at hx; exact nbl_lt HN h5 d (p + 1) (by omega) x hx
    | some q =>
      rw [(nbl_s h).1] at hx
      obtain ⟨h1, h2, h3⟩ := HN p q.1 q.2 h
      rcases List.mem_cons.mp hx with rfl | hx
      · omega
      rcases List.mem_cons.mp hx with rfl | hx
      · omega
      rcases List.mem_cons.mp hx with rfl | hx
      · omega
      exact nbl_lt HN h5 d (p + 1) (by omega) x hx
theorem gvl_lt (HG : ∀ p n, gv p = some n → n < nd) (h8 : nd ≤ 8) : ∀ d p, p + d = 8 → ∀ x, x ∈ gvl gv p d → x < 256
  | 0, _, _, x, hx => nomatch hx
  | d + 1, p, hp, x, hx => by
    cases h : gv p with
    | none => rw [(gvl_n h).1] at hx; exact gvl_lt HG h8 d (p + 1) (by omega) x hx
    | some n =>
      rw [(gvl_s h).1] at hx
      have := HG p n h
      rcases List.mem_cons.mp hx with rfl | hx
      · omega
      rcases List.mem_cons.mp hx with rfl | hx
      · omega
      exact gvl_lt HG h8 d (p + 1) (by omega) x hx
/-- the k-th neighbour's port -/
theorem nbl_port : ∀ d p k, k < nbc nb p d → nb ((nbl nb p d).getD (3 * k) 0) ≠ none ∧ (nbl nb p d).getD (3 * k) 0 < p + d
  | 0, _, k, hk => by unfold nbc at hk; omega
  | d + 1, p, k, hk => by
    cases h : nb p with
    | none =>
      rw [(nbl_n h).1]
      rw [(nbl_n h).2] at hk
      have := nbl_port d (p + 1) k hk
      exact ⟨this.1, by omega⟩
    | some q =>
      rw [(nbl_s h).1]
      rw [(nbl_s h).2] at hk
      cases k with
      | zero =>
        show nb p ≠ none ∧ p < p + (d + 1)
        exact ⟨(by rw [h]; exact fun q => nomatch q), by omega⟩
      | succ k =>
        rw [show 3 * (k + 1) = 3 * k + 1 + 1 + 1 by omega]
        show nb ((nbl nb (p + 1) d).getD (3 * k) 0) ≠ none ∧ (nbl nb (p + 1) d).getD (3 * k) 0 < p + (d + 1)
        have := nbl_port d (p + 1) k (by omega)
        exact ⟨this.1, by omega⟩
theorem gA0 {a : Nat} {R : List Nat} : (A ++ a :: R).getD A.length 0 = a := by simp [List.getD_eq_getElem?_getD]
theorem gA1 {a b : Nat} {R : List Nat} : (A ++ a :: b :: R).getD (A.length + 1) 0 = b := by simp [List.getD_eq_getElem?_getD, List.getElem?_append_right]
theorem gA2 {a b c : Nat} {R : List Nat} : (A ++ a :: b :: c :: R).getD (A.length + 2) 0 = c := by simp [List.getD_eq_getElem?_getD, List.getElem?_append_right]
theorem rnb_ok (hX : ∀ i, i < L.length → bn X (13 + i) = L.getD i 0) (HN : ∀ p v c, nb p = some (v, c) → v < sw ∧ 1 ≤ c ∧ c ≤ 9) (h5 : sw ≤ 5) : ∀ d p A B last, L = A ++ (nbl nb p d ++ B) → p + d = 8 → (∀ p', p ≤ p' → p' < 8 → ¬ nI p' ≤ last) → rnb sw X (13 + A.length) last (nbc nb p d) = true
  | 0, p, A, B, last, hL, hp, hl => rfl
  | d + 1, p, A, B, last, hL, hp, hl => by
    cases h : nb p with
    | none =>
      rw [(nbl_n h).1] at hL
      rw [(nbl_n h).2]
      exact rnb_ok hX HN h5 d (p + 1) A B last hL (by omega) (fun p' q1 q2 => hl p' (by omega) q2)
    | some q =>
      rw [(nbl_s h).1] at hL
      rw [(nbl_s h).2]
      have hL' : L = A ++ p :: q.1 :: q.2 :: (nbl nb (p + 1) d ++ B) := hL
      obtain ⟨h1, h2, h3⟩ := HN p q.1 q.2 h
      have ll : A.length + 3 ≤ L.length := by rw [hL']; simp
      have b0 : bn X (13 + A.length) = p := by rw [hX _ (by omega), hL', gA0]
      have b1 : bn X (13 + A.length + 1) = q.1 := by rw [show 13 + A.length + 1 = 13 + (A.length + 1) by omega, hX _ (by omega), hL', gA1]
      have b2 : bn X (13 + A.length + 2) = q.2 := by rw [show 13 + A.length + 2 = 13 + (A.length + 2) by omega, hX _ (by omega), hL', gA2]
      unfold rnb
      rw [b0, b1, b2, if_neg (hl p (by omega) (by omega)), if_neg (show ¬ (8 : Int32) ≤ nI p from nI_ge (b := 8) (by omega) (by omega)), if_neg (nI_ge (by omega) (by omega)), if_neg (show ¬ nI q.2 < 1 from nI_nlt (b := 1) (by omega) (by omega)), if_pos (show nI q.2 ≤ 9 from nI_le (b := 9) (by omega) (by omega))]
      have := rnb_ok hX HN h5 d (p + 1) (A ++ [p, q.1, q.2]) B (nI p) (by rw [hL']; simp) (by omega) (fun p' q1 q2 => nI_ge (by omega) (by omega))
      rw [List.length_append] at this
      exact this
theorem sbits : ∀ m, m < 256 → ∀ n, n < 8 → (((nI m >>> (nI n &&& 31)) &&& 1) = 1 ↔ m.testBit n = true) ∧ nI m ||| ((1 : Int32) <<< (nI n &&& 31)) = nI (m ||| (1 <<< n)) ∧ m ||| (1 <<< n) < 256 := by decide +kernel
theorem rno_ok (hX : ∀ i, i < L.length → bn X (13 + i) = L.getD i 0) (HG : ∀ p n, gv p = some n → n < nd) (HI : ∀ p q n, gv p = some n → gv q = some n → p = q) (h8 : nd ≤ 8) : ∀ d p A B last m, L = A ++ (gvl gv p d ++ B) → p + d = 8 → (∀ p', p ≤ p' → p' < 8 → ¬ nI p' ≤ last) → m < 256 → (∀ p' n, p ≤ p' → gv p' = some n → m.testBit n = false) → rno nd X (13 + A.length) last (nI m) (gvc gv p d) = true
  | 0, p, A, B, last, m, hL, hp, hl, hm, hb => rfl
  | d + 1, p, A, B, last, m, hL, hp, hl, hm, hb => by
    cases h : gv p with
    | none =>
      rw [(gvl_n h).1] at hL
      rw [(gvl_n h).2]
      exact rno_ok hX HG HI h8 d (p + 1) A B last m hL (by omega) (fun p' q1 q2 => hl p' (by omega) q2) hm (fun p' n q1 q2 => hb p' n (by omega) q2)
    | some n =>
      rw [(gvl_s h).1] at hL
      rw [(gvl_s h).2]
      have hL' : L = A ++ n :: p :: (gvl gv (p + 1) d ++ B) := hL
      have hn := HG p n h
      have ll : A.length + 2 ≤ L.length := by rw [hL']; simp
      have b0 : bn X (13 + A.length) = n := by rw [hX _ (by omega), hL', gA0]
      have b1 : bn X (13 + A.length + 1) = p := by rw [show 13 + A.length + 1 = 13 + (A.length + 1) by omega, hX _ (by omega), hL', gA1]
      obtain ⟨s1, s2, s3⟩ := sbits m hm n (by omega)
      unfold rno
      rw [b0, b1, if_neg (hl p (by omega) (by omega)), if_neg (show ¬ (8 : Int32) ≤ nI p from nI_ge (b := 8) (by omega) (by omega)), if_neg (nI_ge (by omega) (by omega)), if_neg (fun c => by rw [s1, hb p n (by omega) h] at c; cases c), s2]
      have := rno_ok hX HG HI h8 d (p + 1) (A ++ [n, p]) B (nI p) (m ||| 1 <<< n) (by rw [hL']; simp) (by omega) (fun p' q1 q2 => nI_ge (by omega) (by omega)) s3 (fun p' n' q1 q2 => by
        rw [Nat.testBit_or, hb p' n' (by omega) q2, Bool.false_or, Nat.one_shiftLeft, Nat.testBit_two_pow]
        have : n ≠ n' := fun z => by
          subst z
          have := HI p p' n h q2
          omega
        simp [this])
      rw [List.length_append] at this
      exact this
theorem neg8 : ∀ p', p' < 8 → ¬ nI p' ≤ (-1 : Int32) := by decide
theorem rec_bn' (h : ∀ i, L.getD i 0 < 256) {i : Nat} (hi : i < L.length) : bn (clL (hdN ++ sbL L)) (13 + i) = L.getD i 0 := by
  rw [clL_get (by rw [rec_len]; omega) (by omega), hd_T, bn_sb h hi]
variable {s i1 i2 i3 dm : Nat}
theorem oRec_len : (oRec s i1 i2 i3 dm nb gv).length = 7 + 3 * nbc nb 0 8 + 2 * gvc gv 0 8 := by
  unfold oRec
  simp only [List.length_append, List.length_cons, List.length_nil, nbl_len, gvl_len]
  omega
theorem oRec_nb {j : Nat} (hj : j < 3 * nbc nb 0 8) : (oRec s i1 i2 i3 dm nb gv).getD (6 + j) 0 = (nbl nb 0 8).getD j 0 := by
  have l := nbl_len (nb := nb) 8 0
  unfold oRec
  rw [List.getD_eq_getElem?_getD, List.getD_eq_getElem?_getD, List.append_assoc, List.getElem?_append_right (by simp), List.getElem?_append_left (by simp; omega)]
  congr 2
  simp
theorem oRec_gc : (oRec s i1 i2 i3 dm nb gv).getD (6 + 3 * nbc nb 0 8) 0 = gvc gv 0 8 := by
  have l := nbl_len (nb := nb) 8 0
  unfold oRec
  have : 6 + 3 * nbc nb 0 8 = ([s, i1, i2, i3, dm, nbc nb 0 8] ++ nbl nb 0 8).length := by simp; omega
  rw [this, gA0]
theorem oRec_lt (h5 : sw ≤ 5) (h8 : nd ≤ 8) (hs : s < sw) (hi : i1 < 256 ∧ i2 < 256 ∧ i3 < 256) (hd : dm ≤ 15) (HN : ∀ p v c, nb p = some (v, c) → v < sw ∧ 1 ≤ c ∧ c ≤ 9) (HG : ∀ p n, gv p = some n → n < nd) (HD : ∀ p, nb p = none ∨ gv p = none) : ∀ i, (oRec s i1 i2 i3 dm nb gv).getD i 0 < 256 := fun i => by
  have hc := both_le HD 8 0
  by_cases q : i < (oRec s i1 i2 i3 dm nb gv).length
  · have hm : (oRec s i1 i2 i3 dm nb gv).getD i 0 ∈ oRec s i1 i2 i3 dm nb gv := by
      rw [List.getD_eq_getElem?_getD, List.getElem?_eq_getElem q]
      exact List.getElem_mem q
    unfold oRec at hm
    rcases List.mem_append.mp hm with hm | hm
    · rcases List.mem_append.mp hm with hm | hm
      · simp only [List.mem_cons, List.not_mem_nil, or_false] at hm
        unfold oRec
        omega
      · have := nbl_lt HN h5 8 0 (by omega) _ hm
        unfold oRec; exact this
    · rcases List.mem_cons.mp hm with hm | hm
      · unfold oRec; omega
      · have := gvl_lt HG h8 8 0 (by omega) _ hm
        unfold oRec; exact this
  · rw [List.getD_eq_getElem?_getD, List.getElem?_eq_none (by omega)]; show 0 < 256; omega
theorem oRec_ok (h5 : sw ≤ 5) (h8 : nd ≤ 8) (hs : s < sw) (hi : i1 < 256 ∧ i2 < 256 ∧ i3 < 256) (hd : 1 ≤ dm ∧ dm ≤ 15) (HN : ∀ p v c, nb p = some (v, c) → v < sw ∧ 1 ≤ c ∧ c ≤ 9) (HG : ∀ p n, gv p = some n → n < nd) (HI : ∀ p q n, gv p = some n → gv q = some n → p = q) (HD : ∀ p, nb p = none ∨ gv p = none) : rOK sw nd (oRec s i1 i2 i3 dm nb gv) := by
  have hc := both_le HD 8 0
  have hlt := oRec_lt (s := s) (i1 := i1) (i2 := i2) (i3 := i3) (dm := dm) h5 h8 hs hi hd.2 HN HG HD
  have hlen := oRec_len (s := s) (i1 := i1) (i2 := i2) (i3 := i3) (dm := dm) (nb := nb) (gv := gv)
  have hX : ∀ i, i < (oRec s i1 i2 i3 dm nb gv).length → bn (clL (hdN ++ sbL (oRec s i1 i2 i3 dm nb gv))) (13 + i) = (oRec s i1 i2 i3 dm nb gv).getD i 0 := fun i hi => rec_bn' hlt hi
  have hl := clL_len (L := hdN ++ sbL (oRec s i1 i2 i3 dm nb gv))
  rw [rec_len, hlen] at hl
  refine ⟨?_, by rw [hlen]; omega, hlt⟩
  have e5 : bn (clL (hdN ++ sbL (oRec s i1 i2 i3 dm nb gv))) 18 = nbc nb 0 8 := hX 5 (by omega)
  have e0 : bn (clL (hdN ++ sbL (oRec s i1 i2 i3 dm nb gv))) 13 = s := hX 0 (by omega)
  have e4 : bn (clL (hdN ++ sbL (oRec s i1 i2 i3 dm nb gv))) 17 = dm := hX 4 (by omega)
  have e6 : bn (clL (hdN ++ sbL (oRec s i1 i2 i3 dm nb gv))) (19 + 3 * nbc nb 0 8) = gvc gv 0 8 := by
    have := hX (6 + 3 * nbc nb 0 8) (by omega)
    rw [show 13 + (6 + 3 * nbc nb 0 8) = 19 + 3 * nbc nb 0 8 by omega, oRec_gc] at this
    exact this
  unfold rcF
  rw [e5, e6, e0, e4, hl, if_neg (by omega), if_neg (by omega), if_neg (by omega), if_neg (by omega), if_neg (by omega), if_neg (by omega), Bool.and_eq_true]
  refine ⟨rnb_ok hX HN h5 8 0 [s, i1, i2, i3, dm, nbc nb 0 8] (gvc gv 0 8 :: gvl gv 0 8) (-1) ?_ (by omega) (fun p' _ q => ?_), ?_⟩
  · unfold oRec; rw [List.append_assoc]
  · exact neg8 p' q
  · have l := nbl_len (nb := nb) 8 0
    have := rno_ok hX HG HI h8 8 0 ([s, i1, i2, i3, dm, nbc nb 0 8] ++ nbl nb 0 8 ++ [gvc gv 0 8]) [] (-1) 0 (by unfold oRec; simp) (by omega) (fun p' _ q => neg8 p' q) (by omega) (fun _ _ _ _ => Nat.zero_testBit _)
    rw [show 13 + ([s, i1, i2, i3, dm, nbc nb 0 8] ++ nbl nb 0 8 ++ [gvc gv 0 8]).length = 20 + 3 * nbc nb 0 8 by simp; omega] at this
    exact this
end OR
