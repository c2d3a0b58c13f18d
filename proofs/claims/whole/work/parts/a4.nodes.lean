/-! ===== commands, hosts, discs: both sides ===== -/
/-- when it must be over or go on -/
def dln (ph bg pa : Nat) : Nat := if ph < 3 then bg + 120 else pa + 60
def cmR (nd : Nat) (M : hM) (S : sT) (t a c hn : Nat) (lv : Bool) : Prop := ∃ wr un bl m d ph bg pa cb : Nat,
  (h_tg M a = 1 ∧ h_fr M 5 a = some (a + 1) ∧ h_tg M (a + 1) = 23 ∧ h_ln M (a + 1) = 4) ∧
  (h_fi M 0 a = nI wr ∧ S.1 50 c = nI wr ∧ wr ≤ 1) ∧
  ((h_fi M 1 a = nI un ∧ S.1 51 c = nI un ∧ un ≤ 1) ∧ (h_fi M 2 a = nI bl ∧ S.1 52 c = nI bl) ∧ (h_fi M 3 a = nI m ∧ S.1 53 c = nI m ∧ 1 ≤ m ∧ m ≤ 4 ∧ bl + m ≤ 16)) ∧
  (h_fi M 7 a = nI c ∧ S.1 48 c = nI hn ∧ h_fi M 8 a = nI d ∧ S.1 49 c = nI d ∧ d < nd) ∧
  (h_fi M 10 a = nI ph ∧ S.1 56 c = nI ph ∧ (ph ≤ 3 ∨ (10 ≤ ph ∧ ph ≤ 13))) ∧
  ((h_fi M 11 a = nI bg ∧ S.1 58 c = nI bg ∧ bg ≤ t) ∧ (h_fi M 12 a = nI pa ∧ S.1 57 c = nI pa ∧ pa ≤ t) ∧ h_fi M 13 a = S.1 59 c ∧ (ph ≤ 3 ↔ S.1 59 c = -1)) ∧
  (1 ≤ ph → ph ≤ 3 → h_fi M 9 a = S.1 60 c) ∧
  (h_fi M 6 a = nI cb ∧ S.1 55 c = nI cb ∧ cb < 16) ∧
  ((wr = 0 → ∀ k, k < 4 → h_al M (a + 1) k = S.2 54 (4 * c + k)) ∧ (wr = 1 → ∀ k, k < m → S.2 54 (4 * c + k) = h_fl M 4 a + Int32.toInt64 (nI k))) ∧
  (ph ≤ 3 → t ≤ dln ph bg pa ∧ (lv = true → t < dln ph bg pa) ∧ (ph = 3 → pa ≤ bg + 120))
def CMS (nd : Nat) (M : hM) (S : sT) (t nc : Nat) (ca hh : Nat → Nat) (lv : Nat → Bool) : Prop :=
  (h_fi M 1107 1 = nI nc ∧ S.1 47 0 = nI nc ∧ nc ≤ 300) ∧ (∀ c, c < nc → (h_ar M 7 c = some (ca c) ∧ 1000 ≤ ca c ∧ hh c < nd) ∧ cmR nd M S t (ca c) c (hh c) (lv (hh c))) ∧ (∀ c d, c < nc → d < nc → (ca c = ca d ∨ ca c = ca d + 1) → c = d) ∧ ∀ c k, nc ≤ c → c < 300 → k < 4 → S.2 54 (4 * c + k) = 0
def hoR (nd : Nat) (M : hM) (S : sT) (nc : Nat) (ca hh : Nat → Nat) (n : Nat) (R : List Nat) : Prop :=
  (h_fr M 504 (140 + n) = some (150 + n) ∧ h_fr M 505 (140 + n) = none ∧ S.1 33 n = 0) ∧
  (h_fi M 402 (150 + n) = S.1 34 n ∧ (S.1 34 n = 0 ∨ S.1 34 n = 1) ∧ (S.1 34 n = 0 → ∀ c, c < nc → hh c ≠ n)) ∧
  (∀ d, d < nd → h_ai M (160 + n) d = S.1 39 (8 * n + d)) ∧
  (h_fi M 405 (150 + n) = nI R.length ∧ R.length ≤ 4 ∧ (∀ i, i < R.length → h_ar M (170 + n) i = some (ca (R.getD i 0))) ∧ R.Pairwise (· < ·) ∧ (∀ c, c ∈ R → c < nc ∧ hh c = n) ∧ ∀ c, c < nc → hh c = n → S.1 59 c = -1 → c ∈ R) ∧
  (S.1 41 n = 0 ∧ S.1 46 n = 0 ∧ S.1 43 n = 0 ∧ ∀ i, i < 32 → S.2 42 (32 * n + i) = 0)
/-- an open WRITE: its slot, its eight fields, its values -/
abbrev oE : Type := Nat × (Nat → Int32) × (Nat → Int64)
def oE0 : oE := (0, fun _ => 0, fun _ => 0)
def rxN (e : oE) : Nat := (e.2.1 2).toNatClampNeg
def agR (lr r : Nat) : Nat := (lr + 65536 - r) % 65536
def oeR (M : hM) (t dk lr j : Nat) (e : oE) : Prop := ∃ u b m bits o r : Nat,
  e.1 < 6 ∧ (h_fi M 700 (dk + 4 + 2 * e.1) = 1 ∧ h_fi M 701 (dk + 4 + 2 * e.1) = e.2.1 1 ∧ h_fi M 702 (dk + 4 + 2 * e.1) = e.2.1 0 ∧ h_fi M 703 (dk + 4 + 2 * e.1) = e.2.1 2 ∧ h_fi M 704 (dk + 4 + 2 * e.1) = nI (16 * u + b) ∧ h_fi M 705 (dk + 4 + 2 * e.1) = e.2.1 5 ∧ h_fi M 706 (dk + 4 + 2 * e.1) = e.2.1 7 ∧ h_fi M 707 (dk + 4 + 2 * e.1) = e.2.1 6) ∧
  (e.2.1 3 = nI u ∧ e.2.1 4 = nI b ∧ e.2.1 5 = nI m ∧ u ≤ 1 ∧ 1 ≤ m ∧ m ≤ 4 ∧ b + m ≤ 16) ∧ (e.2.1 6 = nI bits ∧ bits < 16 ∧ ∀ p, p < 4 → bits.testBit p = true → h_al M (dk + 5 + 2 * e.1) p = e.2.2 p) ∧
  (e.2.1 7 = nI o ∧ o ≤ t ∧ t ≤ o + 120) ∧ e.2.1 2 = nI r ∧ r < 65536 ∧ agR lr r ≤ 4 * (t - o) + j
def olR (M : hM) (S : sT) (t n dk : Nat) (OL : List oE) (lr j : Nat) : Prop :=
  (S.1 46 n = nI OL.length ∧ OL.length ≤ 6) ∧ (∀ k, k < OL.length → (∀ i, i < 8 → S.1 44 (48 * n + 8 * k + i) = (OL.getD k oE0).2.1 i) ∧ ∀ i, i < 4 → S.2 45 (24 * n + 4 * k + i) = (OL.getD k oE0).2.2 i) ∧
  (OL.map (fun e => e.1)).Nodup ∧ (∀ e, e ∈ OL → oeR M t dk lr j e) ∧ (∀ i, i < 6 → i ∉ OL.map (fun e => e.1) → h_fi M 700 (dk + 4 + 2 * i) = 0) ∧ OL.Pairwise (fun e e' => agR lr (rxN e') < agR lr (rxN e))
def dkR (M : hM) (n dk : Nat) : Prop :=
  1000 ≤ dk ∧ (h_tg M dk = 2 ∧ h_fr M 100 dk = some 2 ∧ h_fr M 101 dk = some (140 + n) ∧ h_fr M 102 dk = some (dk + 1) ∧ h_fr M 103 dk = some (dk + 2) ∧ h_fr M 105 dk = some (dk + 3)) ∧ (h_tg M (dk + 1) = 23 ∧ h_ln M (dk + 1) = 32 ∧ h_tg M (dk + 2) = 20 ∧ h_ln M (dk + 2) = 8 ∧ h_tg M (dk + 3) = 37 ∧ h_ln M (dk + 3) = 6) ∧
  ∀ k, k < 6 → h_ar M (dk + 3) k = some (dk + 4 + 2 * k) ∧ h_tg M (dk + 4 + 2 * k) = 8 ∧ h_fr M 708 (dk + 4 + 2 * k) = some (dk + 5 + 2 * k) ∧ h_tg M (dk + 5 + 2 * k) = 23 ∧ h_ln M (dk + 5 + 2 * k) = 4
def diR (M : hM) (S : sT) (t n dk : Nat) (OL : List oE) (j : Nat) : Prop :=
  (h_fr M 504 (140 + n) = none ∧ h_fr M 505 (140 + n) = some dk ∧ S.1 33 n = 1) ∧ dkR M n dk ∧
  (∀ i, i < 32 → h_al M (dk + 1) i = S.2 42 (32 * n + i)) ∧
  (∃ lm, lm ≤ 8 ∧ h_fi M 104 dk = nI lm ∧ S.1 41 n = nI lm ∧ ∀ i, i < lm → h_ai M (dk + 2) i = S.1 40 (8 * n + i)) ∧
  ∃ lr, lr < 65536 ∧ h_fi M 106 dk = nI lr ∧ S.1 43 n = nI lr ∧ olR M S t n dk OL lr j
abbrev nG : Type := Sum (List Nat) (Nat × List oE)
def noR (nd : Nat) (M : hM) (S : sT) (t nc : Nat) (ca hh : Nat → Nat) (n : Nat) (j : Nat) : nG → Prop
  | .inl R => hoR nd M S nc ca hh n R
  | .inr q => diR M S t n q.1 q.2 j ∧ (∀ c, c < nc → hh c ≠ n) ∧ ∀ c, c < nc → ca c + 1 < q.1 ∨ q.1 + 16 ≤ ca c
def NR (nd : Nat) (M : hM) (S : sT) (t nc : Nat) (ca hh : Nat → Nat) (lv : Nat → Bool) (jj : Nat → Nat) (G : Nat → nG) : Prop :=
  CMS nd M S t nc ca hh lv ∧ (∀ n, n < nd → h_fi M 503 (140 + n) = S.1 35 n) ∧ (∀ n, n < nd → noR nd M S t nc ca hh n (jj n) (G n)) ∧ ∀ n m q r, n < nd → m < nd → n ≠ m → G n = .inr q → G m = .inr r → q.1 + 16 ≤ r.1 ∨ r.1 + 16 ≤ q.1
def nrF : List Nat := [0, 1, 2, 3, 4, 5, 6, 7, 8, 9, 10, 11, 12, 13, 100, 101, 102, 103, 104, 105, 106, 402, 405, 503, 504, 505, 700, 701, 702, 703, 704, 705, 706, 707, 708, 1107]
def nrS : List Nat := [33, 34, 35, 39, 40, 41, 42, 43, 44, 45, 46, 47, 48, 49, 50, 51, 52, 53, 54, 55, 56, 57, 58, 59, 60]
section NK
variable {nd : Nat} {M M' N : hM} {S T : sT} {t nc a c hn n j dk : Nat} {ca hh : Nat → Nat} {lv : Nat → Bool} {jj : Nat → Nat} {G : Nat → nG} {b : Bool} {F A H : List Nat} {R : List Nat} {OL : List oE} {e : oE} {lr : Nat}
theorem cmR.cg (h : cmR nd M S t a c hn b) (h1 : ∀ k, k ≤ 13 → h_fi N k a = h_fi M k a) (h2 : h_fl N 4 a = h_fl M 4 a) (h3 : h_fr N 5 a = h_fr M 5 a) (h4 : h_tg N a = h_tg M a ∧ h_tg N (a + 1) = h_tg M (a + 1) ∧ h_ln N (a + 1) = h_ln M (a + 1)) (h5 : h_al N (a + 1) = h_al M (a + 1)) (g1 : ∀ k, 48 ≤ k → k ≤ 60 → T.1 k c = S.1 k c) (g2 : ∀ k, k < 4 → T.2 54 (4 * c + k) = S.2 54 (4 * c + k)) : cmR nd N T t a c hn b := by
  obtain ⟨wr, un, bl, m, d, ph, bg, pa, cb, a1, a2, a3, a4, a5, a6, a7, a8, ⟨a9, a10⟩, a11⟩ := h
  refine ⟨wr, un, bl, m, d, ph, bg, pa, cb, ?_, ?_, ?_, ?_, ?_, ?_, ?_, ?_, ⟨?_, ?_⟩, a11⟩
  · rw [h4.1, h4.2.1, h4.2.2, h3]; exact a1
  · rw [h1 0 (by omega), g1 50 (by omega) (by omega)]; exact a2
  · rw [h1 1 (by omega), h1 2 (by omega), h1 3 (by omega), g1 51 (by omega) (by omega), g1 52 (by omega) (by omega), g1 53 (by omega) (by omega)]; exact a3
  · rw [h1 7 (by omega), h1 8 (by omega), g1 48 (by omega) (by omega), g1 49 (by omega) (by omega)]; exact a4
  · rw [h1 10 (by omega), g1 56 (by omega) (by omega)]; exact a5
  · rw [h1 11 (by omega), h1 12 (by omega), h1 13 (by omega), g1 57 (by omega) (by omega), g1 58 (by omega) (by omega), g1 59 (by omega) (by omega)]; exact a6
  · rw [h1 9 (by omega), g1 60 (by omega) (by omega)]; exact a7
  · rw [h1 6 (by omega), g1 55 (by omega) (by omega)]; exact a8
  · intro q k hk
    rw [h5, g2 k hk]; exact a9 q k hk
  · intro q k hk
    have : m ≤ 4 := a3.2.2.2.2.2.1
    rw [h2, g2 k (by omega)]; exact a10 q k hk
theorem oeR.cg (h : oeR M t dk lr j e) (h1 : ∀ k, 700 ≤ k → k ≤ 707 → h_fi N k (dk + 4 + 2 * e.1) = h_fi M k (dk + 4 + 2 * e.1)) (h2 : h_al N (dk + 5 + 2 * e.1) = h_al M (dk + 5 + 2 * e.1)) : oeR N t dk lr j e := by
  obtain ⟨u, b, m, bits, o, r, a1, a2, a3, a4, a5⟩ := h
  refine ⟨u, b, m, bits, o, r, a1, ?_, a3, ?_, a5⟩
  · rw [h1 700 (by omega) (by omega), h1 701 (by omega) (by omega), h1 702 (by omega) (by omega), h1 703 (by omega) (by omega), h1 704 (by omega) (by omega), h1 705 (by omega) (by omega), h1 706 (by omega) (by omega), h1 707 (by omega) (by omega)]; exact a2
  · rw [h2]; exact a4
theorem dkR.cg (h : dkR M n dk) (k : ∀ a, h_tg M a ≠ 0 → h_tg N a = h_tg M a ∧ h_ln N a = h_ln M a) (hf : ∀ k, k ∈ [100, 101, 102, 103, 105, 708] → h_fr N k = h_fr M k) (ha : h_ar N (dk + 3) = h_ar M (dk + 3)) : dkR N n dk := by
  obtain ⟨h1, ⟨a1, a2, a3, a4, a5, a6⟩, ⟨b1, b2, b3, b4, b5, b6⟩, h4⟩ := h
  have kt : ∀ a v, v ≠ 0 → h_tg M a = v → h_tg N a = v := fun a v hv q => by rw [(k a (by rw [q]; exact hv)).1]; exact q
  have kl : ∀ a v, v ≠ 0 → h_tg M a = v → h_ln N a = h_ln M a := fun a v hv q => (k a (by rw [q]; exact hv)).2
  refine ⟨h1, ⟨kt _ _ (by decide) a1, ?_, ?_, ?_, ?_, ?_⟩, ⟨kt _ _ (by decide) b1, by rw [kl _ _ (by decide) b1]; exact b2, kt _ _ (by decide) b3, by rw [kl _ _ (by decide) b3]; exact b4, kt _ _ (by decide) b5, by rw [kl _ _ (by decide) b5]; exact b6⟩, fun i hi => ?_⟩
  · rw [hf 100 (by decide)]; exact a2
  · rw [hf 101 (by decide)]; exact a3
  · rw [hf 102 (by decide)]; exact a4
  · rw [hf 103 (by decide)]; exact a5
  · rw [hf 105 (by decide)]; exact a6
  · obtain ⟨c1, c2, c3, c4, c5⟩ := h4 i hi
    exact ⟨by rw [ha]; exact c1, kt _ _ (by decide) c2, by rw [hf 708 (by decide)]; exact c3, kt _ _ (by decide) c4, by rw [kl _ _ (by decide) c4]; exact c5⟩
/-- a disc stays as it is -/
theorem diR.cg (h : diR M S t n dk OL j) (k : ∀ a, h_tg M a ≠ 0 → h_tg N a = h_tg M a ∧ h_ln N a = h_ln M a) (hf : ∀ k, k ∈ [100, 101, 102, 103, 105, 708] → h_fr N k = h_fr M k) (hn : h_fr N 504 (140 + n) = h_fr M 504 (140 + n) ∧ h_fr N 505 (140 + n) = h_fr M 505 (140 + n)) (hi : ∀ k a, (k = 104 ∨ k = 106 ∨ (700 ≤ k ∧ k ≤ 707)) → dk ≤ a → a < dk + 16 → h_fi N k a = h_fi M k a) (ha1 : h_al N (dk + 1) = h_al M (dk + 1)) (ha2 : h_ai N (dk + 2) = h_ai M (dk + 2)) (ha3 : h_ar N (dk + 3) = h_ar M (dk + 3)) (ha4 : ∀ i, i < 6 → h_al N (dk + 5 + 2 * i) = h_al M (dk + 5 + 2 * i)) (s1 : T.1 33 n = S.1 33 n ∧ T.1 41 n = S.1 41 n ∧ T.1 43 n = S.1 43 n ∧ T.1 46 n = S.1 46 n) (s2 : ∀ i, i < 32 → T.2 42 (32 * n + i) = S.2 42 (32 * n + i)) (s3 : ∀ i, i < 8 → T.1 40 (8 * n + i) = S.1 40 (8 * n + i)) (s4 : ∀ i, i < 48 → T.1 44 (48 * n + i) = S.1 44 (48 * n + i)) (s5 : ∀ i, i < 24 → T.2 45 (24 * n + i) = S.2 45 (24 * n + i)) : diR N T t n dk OL j := by
  obtain ⟨h1, h2, h3, ⟨lm, l1, l2, l3, l4⟩, lr, r1, r2, r3, ⟨o1, o1'⟩, o2, o3, o4, o5, o6⟩ := h
  refine ⟨by rw [hn.1, hn.2, s1.1]; exact h1, h2.cg k hf ha3, fun i hi' => ?_, ⟨lm, l1, ?_, ?_, fun i hi' => ?_⟩, lr, r1, ?_, ?_, ⟨?_, o1'⟩, fun q hq => ?_, o3, fun e he => ?_, fun i hi' q => ?_, o6⟩
  · rw [ha1, s2 i hi']; exact h3 i hi'
  · rw [hi 104 dk (by omega) (by omega) (by omega)]; exact l2
  · rw [s1.2.1]; exact l3
  · rw [ha2, s3 i (by omega)]; exact l4 i hi'
  · rw [hi 106 dk (by omega) (by omega) (by omega)]; exact r2
  · rw [s1.2.2.1]; exact r3
  · rw [s1.2.2.2]; exact o1
  · obtain ⟨y1, y2⟩ := o2 q hq
    refine ⟨fun i hi' => ?_, fun i hi' => ?_⟩
    · have := s4 (8 * q + i) (by omega)
      rw [show 48 * n + (8 * q + i) = 48 * n + 8 * q + i by omega] at this
      rw [this]; exact y1 i hi'
    · have := s5 (4 * q + i) (by omega)
      rw [show 24 * n + (4 * q + i) = 24 * n + 4 * q + i by omega] at this
      rw [this]; exact y2 i hi'
  · have q := o4 e he
    have hs : e.1 < 6 := by obtain ⟨u, b, m, bits, o, r, a1, -⟩ := q; exact a1
    exact q.cg (fun k k1 k2 => hi k _ (by omega) (by omega) (by omega)) (ha4 e.1 hs)
  · rw [hi 700 _ (by omega) (by omega) (by omega)]; exact o5 i hi' q
end NK
