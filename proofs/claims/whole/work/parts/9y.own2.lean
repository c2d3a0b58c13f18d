/-! ===== tellOwnRecord: what both find at the ports ===== -/
def nbF (S : sT) (wo : Nat → Nat) (s p : Nat) : Option (Nat × Nat) := if p < 8 then (if S.1 23 (8 * s + p) = -1 then none else some ((S.1 23 (8 * s + p)).toNatClampNeg, (S.1 11 (wo (8 * s + p))).toNatClampNeg)) else none
def gvF (S : sT) (pe : Nat → Option Nat) (s p : Nat) : Option Nat := if p < 8 then (if S.1 25 (8 * s + p) = 0 then none else (match pe (8 * s + p) with | some y => some (y - 40) | none => none)) else none
section OF
variable {sw nd rm : Nat} {M N : hM} {S T : sT} {ia : Nat → Nat → Int32} {w t zb sb : Nat} {pe : Nat → Option Nat} {wo : Nat → Nat} {flc flr : Nat → List (List Int32)} {hc : List (Nat × Int32 × List Int32)} {hs : List (Nat × List Int32)} {kR : Nat → rK} {ka : Nat → Nat → Nat} {tog : Nat → Bool} {s na nb' : Nat} {L P : List Nat}
theorem nb_facts (h : SB sw nd rm M S ia w pe wo t zb sb flc flr hc hs kR ka tog) (hss : s < sw) : nbP M s (nbF S wo s) ∧ nbR S s (nbF S wo s) wo ∧ (∀ p v c, nbF S wo s p = some (v, c) → v < sw ∧ 1 ≤ c ∧ c ≤ 9) ∧ ∀ p, nbF S wo s p ≠ none → ∃ y, pe (8 * s + p) = some y ∧ y < 40 := by
  have hI := h.st.I
  have hsw := hI.bs.1.2
  have hW := h.st.W
  have main : ∀ p, p < 8 → (S.1 23 (8 * s + p) = -1 ∧ nbF S wo s p = none) ∨ ∃ v c y, nbF S wo s p = some (v, c) ∧ v < sw ∧ S.1 23 (8 * s + p) = nI v ∧ pe (8 * s + p) = some y ∧ y < 40 ∧ wo (8 * s + p) < w ∧ S.1 14 (8 * s + p) = nI (wo (8 * s + p)) ∧ h_fi M 804 (200 + (8 * s + p)) = nI c ∧ S.1 11 (wo (8 * s + p)) = nI c ∧ 1 ≤ c ∧ c ≤ 9 := fun p hp => by
    have hx : sd sw nd (8 * s + p) := sd_sp hss hp
    obtain ⟨-, a3, -⟩ := h.px (8 * s + p) hx
    unfold nbF
    rw [if_pos hp]
    rcases a3 with a3 | ⟨⟨v, v1, v2⟩, -, y, y1, y2⟩
    · exact Or.inl ⟨a3, if_pos a3⟩
    · right
      have n1 : ¬ S.1 23 (8 * s + p) = -1 := by rw [v2]; exact nI_m1 (by omega)
      obtain ⟨-, ⟨-, w2, w3⟩, -, -, w5⟩ := hW.2.2.2.1 _ _ y1
      obtain ⟨⟨c, c1, c2, c3⟩, -⟩ := hW.2.2.2.2.1 _ w2
      refine ⟨v, c, y, ?_, v1, v2, y1, y2, w2, w3, by rw [w5]; exact c3, c3, c1, c2⟩
      rw [if_neg n1, v2, c3, nI_clamp (by omega), nI_clamp (by omega)]
  have out : ∀ p, ¬ p < 8 → nbF S wo s p = none := fun p q => by unfold nbF; rw [if_neg q]
  have hw16 := hW.1.2.2
  refine ⟨fun p hp => ?_, fun p hp => ?_, fun p v c e => ?_, fun p e => ?_⟩
  · have hx : sd sw nd (8 * s + p) := sd_sp hss hp
    obtain ⟨⟨p1, -⟩, -⟩ := h.px (8 * s + p) hx
    rcases main p hp with ⟨m1, m2⟩ | ⟨v, c, y, m1, m2, m3, m4, m5, m6, m7, m8, m9, -⟩
    · exact Or.inl ⟨m2, by rw [p1]; exact m1⟩
    · exact Or.inr ⟨v, c, m1, by omega, by rw [p1]; exact m3, m8⟩
  · rcases main p hp with ⟨m1, m2⟩ | ⟨v, c, y, m1, m2, m3, m4, m5, m6, m7, m8, m9, -⟩
    · exact Or.inl ⟨m2, m1⟩
    · exact Or.inr ⟨v, c, m1, by omega, m3, m7, by omega, m9⟩
  · by_cases hp : p < 8
    · rcases main p hp with ⟨m1, m2⟩ | ⟨v', c', y, m1, m2, m3, m4, m5, m6, m7, m8, m9, m10, m11⟩
      · rw [m2] at e; cases e
      · rw [m1] at e; cases e; exact ⟨m2, m10, m11⟩
    · rw [out p hp] at e; cases e
  · by_cases hp : p < 8
    · rcases main p hp with ⟨m1, m2⟩ | ⟨v', c', y, m1, m2, m3, m4, m5, -⟩
      · exact absurd m2 e
      · exact ⟨y, m4, m5⟩
    · exact absurd (out p hp) e
theorem gv_facts (h : SB sw nd rm M S ia w pe wo t zb sb flc flr hc hs kR ka tog) (hss : s < sw) : gvP M s (gvF S pe s) pe ∧ gvR S s (gvF S pe s) ∧ (∀ p n, gvF S pe s p = some n → n < nd) ∧ (∀ p q n, gvF S pe s p = some n → gvF S pe s q = some n → p = q) ∧ ∀ p, nbF S wo s p = none ∨ gvF S pe s p = none := by
  have hI := h.st.I
  have hsw := hI.bs.1.2
  have hnd := hI.bs.2.1.2
  have hW := h.st.W
  have main : ∀ p, p < 8 → (S.1 25 (8 * s + p) = 0 ∧ gvF S pe s p = none) ∨ ∃ n d, gvF S pe s p = some n ∧ n < nd ∧ pe (8 * s + p) = some (40 + n) ∧ 1 ≤ d ∧ d ≤ 15 ∧ S.1 25 (8 * s + p) = nI (d * 65536 + (8 * s + p) % 8 * 256 + (n + 1)) := fun p hp => by
    have hx : sd sw nd (8 * s + p) := sd_sp hss hp
    obtain ⟨-, -, a4, -⟩ := h.px (8 * s + p) hx
    unfold gvF
    rw [if_pos hp]
    rcases a4 with a4 | ⟨-, n, d, e1, e2, e3, e4⟩
    · exact Or.inl ⟨a4, if_pos a4⟩
    · right
      have hn := nd_lt hI hW e1
      have n0 : ¬ S.1 25 (8 * s + p) = 0 := by
        rw [e4]
        exact fun q => absurd ((nI_eq (b := 0) (by omega) (by omega)).mp q) (by omega)
      refine ⟨n, d, ?_, hn, e1, e2, e3, e4⟩
      rw [if_neg n0, e1]
      show some (40 + n - 40) = some n
      rw [show 40 + n - 40 = n by omega]
  have out : ∀ p, ¬ p < 8 → gvF S pe s p = none := fun p q => by unfold gvF; rw [if_neg q]
  have nz : ∀ p n d, d ≤ 15 → n < nd → S.1 25 (8 * s + p) = nI (d * 65536 + (8 * s + p) % 8 * 256 + (n + 1)) → ¬ S.1 25 (8 * s + p) = 0 := fun p n d hd hn e => by
    rw [e]
    exact fun q => absurd ((nI_eq (b := 0) (by omega) (by omega)).mp q) (by omega)
  refine ⟨fun p hp => ?_, fun p hp => ?_, fun p n e => ?_, fun p q n e1 e2 => ?_, fun p => ?_⟩
  · have hx : sd sw nd (8 * s + p) := sd_sp hss hp
    obtain ⟨⟨-, p2⟩, -⟩ := h.px (8 * s + p) hx
    rcases main p hp with ⟨m1, m2⟩ | ⟨n, d, m1, m2, m3, m4, m5, m6⟩
    · exact Or.inl ⟨m2, by rw [p2]; exact m1⟩
    · refine Or.inr ⟨n, m1, by rw [p2]; exact nz p n d m5 m2 m6, ?_⟩
      unfold ndA
      rw [m3]
      show (if 40 ≤ 40 + n then nI (40 + n - 40) else -1) = _
      rw [if_pos (by omega), show 40 + n - 40 = n by omega]
  · rcases main p hp with ⟨m1, m2⟩ | ⟨n, d, m1, m2, m3, m4, m5, m6⟩
    · exact Or.inl ⟨m2, m1⟩
    · refine Or.inr ⟨n, m1, nz p n d m5 m2 m6, ?_⟩
      rw [m6, pk_andN (by omega) 8 (by decide), show (d * 65536 + (8 * s + p) % 8 * 256 + (n + 1)) % 2 ^ 8 = n + 1 by omega, ← nI_1]
      simp
  · by_cases hp : p < 8
    · rcases main p hp with ⟨m1, m2⟩ | ⟨n', d, m1, m2, -⟩
      · rw [m2] at e; cases e
      · rw [m1] at e; cases e; exact m2
    · rw [out p hp] at e; cases e
  · by_cases hp : p < 8
    · by_cases hq : q < 8
      · rcases main p hp with ⟨m1, m2⟩ | ⟨n', d, m1, m2, m3, -⟩
        · rw [m2] at e1; cases e1
        · rcases main q hq with ⟨r1, r2⟩ | ⟨n2, d2, r1, r2, r3, -⟩
          · rw [r2] at e2; cases e2
          · rw [m1] at e1; cases e1
            rw [r1] at e2; cases e2
            have u1 := (hW.sds m3).2.2
            have u2 := (hW.sds r3).2.2
            rw [u1] at u2
            have u2 := Option.some.inj u2
            omega
      · rw [out q hq] at e2; cases e2
    · rw [out p hp] at e1; cases e1
  · by_cases hp : p < 8
    · rcases main p hp with ⟨m1, m2⟩ | ⟨n', d, m1, m2, m3, -⟩
      · exact Or.inr m2
      · left
        by_cases z : nbF S wo s p = none
        · exact z
        · obtain ⟨y, y1, y2⟩ := (nb_facts h hss).2.2.2 p z
          rw [m3] at y1
          have := Option.some.inj y1
          omega
    · exact Or.inr (out p hp)
/-! ===== comparing and numbering ===== -/
def sme (L P : List Nat) : Prop := L.length = P.length ∧ ∀ i, 4 ≤ i → i < L.length → L.getD i 0 = P.getD i 0
theorem raw_inj {a b : Nat} (ha : a < 256) (hb : b < 256) (h : (Int32.toInt8 (nI a)).toInt32 = (Int32.toInt8 (nI b)).toInt32) : a = b := by
  have h1 := i8b a ha
  rw [h, i8b b hb] at h1
  exact ((nI_eq (by omega) (by omega)).mp h1).symm
theorem f123_eq (h1 : nt1 N na (some L)) (h2 : h_tg N nb' = 7 ∧ h_fr N 600 nb' = some (nb' + 40) ∧ h_tg N (nb' + 40) = 21 ∧ h_ln N (nb' + 40) = 31) (h3 : ntp N nb' P) (hP : ∀ i, P.getD i 0 < 256) : ∃ b, f123 [.inr (.inr (some na)), .inr (.inr (some nb'))] N = some (some (.inl (b2 b)), N) ∧ (b = true ↔ sme L P) := by
  obtain ⟨⟨t1, t2, t3, t4⟩, u1, u2, u3, u4⟩ := h1
  obtain ⟨v1, v2, v3, v4⟩ := h2
  obtain ⟨w1, w2, w3⟩ := h3
  have gs1 : g_i N 6 1 (some na) = some (nI L.length) := (g_i_t (ci := 6) t1).trans (congrArg some u1)
  have gs2 : g_i N 6 1 (some nb') = some (nI P.length) := (g_i_t (ci := 6) v1).trans (congrArg some w1)
  have gl1 : g_r N 6 0 (some na) = some (some (na + 40)) := (g_r_t (ci := 6) t1).trans (congrArg some t2)
  have gl2 : g_r N 6 0 (some nb') = some (some (nb' + 40)) := (g_r_t (ci := 6) v1).trans (congrArg some v2)
  have fdef : f123 [.inr (.inr (some na)), .inr (.inr (some nb'))] N = x_go k123 (b123_0 na (some nb') N) := rfl
  by_cases c : L.length = P.length
  · have loop : ∀ d k fuel, k + d = L.length → 4 ≤ k → d < fuel → (∀ i, 4 ≤ i → i < k → L.getD i 0 = P.getD i 0) → ∃ b, drive k123 fuel 15 [.inr (.inr (some na)), .inr (.inr (some nb')), .inl (nI k)] N = some (some (.inl (b2 b)), N) ∧ (b = true ↔ ∀ i, 4 ≤ i → i < L.length → L.getD i 0 = P.getD i 0) := by
      intro d
      induction d with
      | zero =>
        intro k fuel hk h4 hf hi
        obtain ⟨g, rfl⟩ : ∃ g, fuel = g + 1 := ⟨fuel - 1, by omega⟩
        have e : nI L.length ≤ nI k := nI_le (by omega) (by omega)
        refine ⟨true, dr_end ?_, fun _ i q1 q2 => hi i q1 (by omega), fun _ => rfl⟩
        show b123_15 na (some nb') (nI k) N = _
        unfold b123_15
        rw [bd_s gs1, if_pos e]
        rfl
      | succ d ih =>
        intro k fuel hk h4 hf hi
        obtain ⟨g, rfl⟩ : ∃ g, fuel = g + 1 := ⟨fuel - 1, by omega⟩
        have e : ¬ nI L.length ≤ nI k := nI_ge (by omega) (by omega)
        obtain ⟨r1, r2, r3⟩ := u4 k (by omega)
        have a1 : al_i N 21 (some (na + 40)) (nI k) = some (Int32.toInt8 (nI (L.getD k 0))).toInt32 := (al_i_t t3 (by omega) (by omega)).trans (congrArg some r3)
        have a2 : al_i N 21 (some (nb' + 40)) (nI k) = some (Int32.toInt8 (nI (P.getD k 0))).toInt32 := (al_i_t v3 (by omega) (by omega)).trans (congrArg some (w3 k (by omega)))
        by_cases q : L.getD k 0 = P.getD k 0
        · have hb : k123 15 [.inr (.inr (some na)), .inr (.inr (some nb')), .inl (nI k)] N = some (.inr (15, [.inr (.inr (some na)), .inr (.inr (some nb')), .inl (nI (k + 1))], N)) := by
            show b123_15 na (some nb') (nI k) N = _
            unfold b123_15
            rw [bd_s gs1, if_neg e, bd_s gl1, bd_s a1, bd_s gl2, bd_s a2, if_pos (by rw [q]), nI_1]
          rw [dr_go hb]
          exact ih (k + 1) g (by omega) (by omega) (by omega) (fun i q1 q2 => by
            by_cases z : i = k
            · subst z; exact q
            · exact hi i q1 (by omega))
        · refine ⟨false, dr_end ?_, ⟨fun z => Bool.noConfusion z, fun z => absurd (z k h4 (by omega)) q⟩⟩
          show b123_15 na (some nb') (nI k) N = _
          unfold b123_15
          rw [bd_s gs1, if_neg e, bd_s gl1, bd_s a1, bd_s gl2, bd_s a2, if_neg (fun z => q (raw_inj r2 (hP k) z))]
          rfl
    have h0 : b123_0 na (some nb') N = some (.inr (15, [.inr (.inr (some na)), .inr (.inr (some nb')), .inl (nI 4)], N)) := by
      unfold b123_0
      rw [bd_s gs1, bd_s gs2, if_pos (by rw [c])]
      rfl
    by_cases l4 : 4 ≤ L.length
    · obtain ⟨b, j1, j2⟩ := loop (L.length - 4) 4 xF (by omega) (by omega) (by unfold xF; omega) (fun i q1 q2 => by omega)
      refine ⟨b, ?_, j2.trans ⟨fun z => ⟨c, z⟩, fun z => z.2⟩⟩
      rw [fdef, h0]
      exact j1
    · refine ⟨true, ?_, fun _ => ⟨c, fun i q1 q2 => by omega⟩, fun _ => rfl⟩
      rw [fdef, h0]
      have e : nI L.length ≤ nI 4 := nI_le (by omega) (by omega)
      show drive k123 xF 15 _ N = _
      obtain ⟨g, hg⟩ : ∃ g, xF = g + 1 := ⟨xF - 1, by unfold xF; omega⟩
      rw [hg]
      refine dr_end ?_
      show b123_15 na (some nb') (nI 4) N = _
      unfold b123_15
      rw [bd_s gs1, if_pos e]
      rfl
  · refine ⟨false, ?_, ⟨fun z => Bool.noConfusion z, fun z => absurd z.1 c⟩⟩
    have h0 : b123_0 na (some nb') N = some (.inl (some (.inl 0), N)) := by
      unfold b123_0
      rw [bd_s gs1, bd_s gs2, if_neg (fun z => c ((nI_eq (by omega) (by omega)).mp z))]
    rw [fdef, h0]
    rfl
theorem t8_255 (x : Int32) : Int32.toInt8 (x &&& 255) = Int32.toInt8 x := by
  apply Int8.toBitVec_inj.mp
  rw [Int32.toBitVec_toInt8, Int32.toBitVec_toInt8, Int32.toBitVec_and, BitVec.signExtend_eq_setWidth_of_le _ (by decide), BitVec.signExtend_eq_setWidth_of_le _ (by decide), BitVec.setWidth_and]
  show _ &&& BitVec.allOnes 8 = _
  rw [BitVec.and_allOnes]
theorem f119_eq {v : Int32} {b1 b2 b3 s dm : Nat} {nb : Nat → Option (Nat × Nat)} {gv : Nat → Option Nat} (hst : h_tg M na = 7 ∧ h_fr M 600 na = some (na + 40) ∧ h_tg M (na + 40) = 21 ∧ h_ln M (na + 40) = 31) (hn : noO na M N) (h : ntp N na (oRec s 0 0 0 dm nb gv)) (e1 : (v >>> ((16 : Int32) &&& 31)) &&& 255 = nI b1) (e2 : (v >>> ((8 : Int32) &&& 31)) &&& 255 = nI b2) (e3 : v &&& 255 = nI b3) : ∃ N', f119 [.inr (.inr (some na)), .inl v] N = some (none, N') ∧ noO na M N' ∧ ntp N' na (oRec s b1 b2 b3 dm nb gv) := by
  have t7 : h_tg N na = 7 := by rw [hn.2.1.2.1]; exact hst.1
  have h6 : h_fr N 600 na = some (na + 40) := by rw [hn.1.2.1]; exact hst.2.1
  have t21 : h_tg N (na + 40) = 21 := by rw [hn.2.1.2.1]; exact hst.2.2.1
  have l31 : h_ln N (na + 40) = 31 := by rw [hn.2.1.1]; exact hst.2.2.2
  have hlen := oRec_len (s := s) (i1 := 0) (i2 := 0) (i3 := 0) (dm := dm) (nb := nb) (gv := gv)
  have hlen' := oRec_len (s := s) (i1 := b1) (i2 := b2) (i3 := b3) (dm := dm) (nb := nb) (gv := gv)
  let N1 := h_qi N (na + 40) 1 (Int32.toInt8 (v >>> ((16 : Int32) &&& 31))).toInt32
  let N2 := h_qi N1 (na + 40) 2 (Int32.toInt8 (v >>> ((8 : Int32) &&& 31))).toInt32
  let N3 := h_qi N2 (na + 40) 3 (Int32.toInt8 v).toInt32
  have s1 : ∀ (K : hM) (i : Nat) (x : Int32), h_tg K (na + 40) = 21 → h_ln K (na + 40) = 31 → i < 31 → as_b K 21 (some (na + 40)) (nI i) (Int32.toInt8 x).toInt32 = some (h_qi K (na + 40) i (Int32.toInt8 x).toInt32) := fun K i x k1 k2 k3 => by
    rw [as_b_t k1 (by rw [k2]; omega) (by omega), i8_i32]
  refine ⟨N3, ?_, hn.tr (noO_q.tr (noO_q.tr noO_q)), ?_, ?_, fun i hi => ?_⟩
  · have a1 : as_b N 21 (some (na + 40)) 1 (Int32.toInt8 (v >>> ((16 : Int32) &&& 31))).toInt32 = some N1 := s1 N 1 _ t21 l31 (by omega)
    have a2 : as_b N1 21 (some (na + 40)) 2 (Int32.toInt8 (v >>> ((8 : Int32) &&& 31))).toInt32 = some N2 := s1 N1 2 _ t21 l31 (by omega)
    have a3 : as_b N2 21 (some (na + 40)) 3 (Int32.toInt8 v).toInt32 = some N3 := s1 N2 3 _ t21 l31 (by omega)
    have g0 : ∀ K : hM, h_tg K na = 7 → h_fr K 600 na = some (na + 40) → g_r K 6 0 (some na) = some (some (na + 40)) := fun K k1 k2 => (g_r_t (ci := 6) k1).trans (congrArg some k2)
    show x_out (b119_0 na v N) = _
    unfold b119_0
    rw [bd_s (g0 N t7 h6), bd_s a1, bd_s (g0 N1 t7 h6), bd_s a2, bd_s (g0 N2 t7 h6), bd_s a3]
    rfl
  · show h_fi N 601 na = _
    rw [hlen', ← hlen]; exact h.1
  · rw [hlen', ← hlen]; exact h.2.1
  · have hi0 := hi
    rw [hlen', ← hlen] at hi0
    show h_ai (h_qi (h_qi (h_qi N (na + 40) 1 (Int32.toInt8 (v >>> ((16 : Int32) &&& 31))).toInt32) (na + 40) 2 (Int32.toInt8 (v >>> ((8 : Int32) &&& 31))).toInt32) (na + 40) 3 (Int32.toInt8 v).toInt32) (na + 40) i = _
    by_cases q3 : i = 3
    · subst q3; rw [qi_eq]
      show _ = (Int32.toInt8 (nI b3)).toInt32
      rw [← e3, t8_255]
    rw [qi_ne q3]
    by_cases q2 : i = 2
    · subst q2; rw [qi_eq]
      show _ = (Int32.toInt8 (nI b2)).toInt32
      rw [← e2, t8_255]
    rw [qi_ne q2]
    by_cases q1 : i = 1
    · subst q1; rw [qi_eq]
      show _ = (Int32.toInt8 (nI b1)).toInt32
      rw [← e1, t8_255]
    rw [qi_ne q1, h.2.2 i hi0]
    match i, q1, q2, q3 with
    | 0, _, _, _ => rfl
    | j + 4, _, _, _ => rfl
end OF
