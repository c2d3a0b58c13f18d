/-! ===== the reference's frames as lists of bytes ===== -/
def frl (S : sT) (f : Nat) : List Int32 := (List.range (S.1 7 f).toNatClampNeg).map (fun i => fB S f i)
/-- all but frame f is as it was -/
def fo (f : Nat) (S T : sT) : Prop := T.2 = S.2 ∧ (∀ k i, k ≠ 6 → k ≠ 7 → T.1 k i = S.1 k i) ∧ (∀ g, g ≠ f → T.1 7 g = S.1 7 g) ∧ ∀ g i, g ≠ f → i < 80 → fB T g i = fB S g i
theorem fo.rf {f : Nat} {S : sT} : fo f S S := ⟨rfl, fun _ _ _ _ => rfl, fun _ _ => rfl, fun _ _ _ _ => rfl⟩
theorem fo.tr {f : Nat} {S T U : sT} (h : fo f S T) (g : fo f T U) : fo f S U :=
  ⟨g.1.trans h.1, fun k i a b => (g.2.1 k i a b).trans (h.2.1 k i a b), fun x a => (g.2.2.1 x a).trans (h.2.2.1 x a), fun x i a b => (g.2.2.2 x i a b).trans (h.2.2.2 x i a b)⟩
theorem frl_of {S T : sT} {f z : Nat} (hz : S.1 7 f = nI z) (hz8 : z ≤ 80) (h : T.1 7 f = S.1 7 f) (hb : ∀ i, i < 80 → fB T f i = fB S f i) : frl T f = frl S f := by
  unfold frl
  rw [h, hz, nI_clamp (by omega)]
  exact List.map_congr_left (fun i hi => hb i (by have := List.mem_range.mp hi; omega))
theorem fo.frl {f g z : Nat} {S T : sT} (h : fo f S T) (hg : g ≠ f) (hz : S.1 7 g = nI z) (hz8 : z ≤ 80) : frl T g = frl S g := frl_of hz hz8 (h.2.2.1 g hg) (fun i hi => h.2.2.2 g i hg hi)
theorem frl_len {S : sT} {f z : Nat} (hz : S.1 7 f = nI z) (hz8 : z ≤ 80) : (frl S f).length = z := by
  unfold frl
  rw [List.length_map, List.length_range, hz, nI_clamp (by omega)]
theorem frl_get {S : sT} {f z i : Nat} (hz : S.1 7 f = nI z) (hz8 : z ≤ 80) (hi : i < z) : (frl S f)[i]? = some (fB S f i) := by
  unfold frl
  rw [List.getElem?_map, hz, nI_clamp (by omega), List.getElem?_range hi]
  rfl
theorem ap1_fo {S : sT} {f z : Nat} {b : Int32} (hz : S.1 7 f = nI z) (hz8 : z < 80) : fo f S (ap1 S f b) := by
  have e : ap1 S f b = s_u (s_u S 6 (80 * f + z) b) 7 f (nI z + 1) := by
    unfold ap1
    rw [hz, nI_clamp (by omega)]
  rw [e]
  refine ⟨rfl, fun k i a b => ?_, fun g hg => ?_, fun g i hg hi => ?_⟩
  · rw [s_u_nk b, s_u_nk a]
  · rw [s_u_ni hg, s_u_nk (by decide)]
  · show (s_u _ 7 f _).1 6 (80 * g + i) = S.1 6 (80 * g + i)
    rw [s_u_nk (by decide), s_u_ni (by omega)]
theorem ap1_frl {S : sT} {f z : Nat} {b : Int32} (hz : S.1 7 f = nI z) (hz8 : z < 80) : frl (ap1 S f b) f = frl S f ++ [b] := by
  have e : ap1 S f b = s_u (s_u S 6 (80 * f + z) b) 7 f (nI z + 1) := by
    unfold ap1
    rw [hz, nI_clamp (by omega)]
  have h1 : (ap1 S f b).1 7 f = nI (z + 1) := by rw [ap1_sz, hz, nI_1]
  have hB : ∀ i, fB (ap1 S f b) f i = if i = z then b else fB S f i := by
    intro i
    show (ap1 S f b).1 6 (80 * f + i) = _
    rw [e, s_u_nk (by decide)]
    by_cases hi : i = z
    · subst hi
      rw [if_pos rfl, s_u_eq]
    · rw [if_neg hi, s_u_ni (by omega)]
      rfl
  unfold frl
  rw [h1, hz, nI_clamp (by omega), nI_clamp (by omega), List.range_succ, List.map_append]
  congr 1
  · refine List.map_congr_left (fun i hi => ?_)
    have := List.mem_range.mp hi
    rw [hB, if_neg (by omega)]
  · show [fB (ap1 S f b) f z] = [b]
    rw [hB, if_pos rfl]
/-- the n bytes of w, the highest first -/
def byL (w : Int64) : Nat → List Int32
  | 0 => []
  | n + 1 => by8 w n :: byL w n
theorem byL_len (w : Int64) : ∀ n, (byL w n).length = n
  | 0 => rfl
  | n + 1 => by
    show (byL w n).length + 1 = n + 1
    rw [byL_len w n]
theorem apN_fo {f : Nat} {w : Int64} : ∀ n S z, S.1 7 f = nI z → z + n ≤ 80 → fo f S (apN f w n S)
  | 0, _, _, _, _ => fo.rf
  | n + 1, S, z, hz, hn => (ap1_fo hz (by omega)).tr (apN_fo n (ap1 S f (by8 w n)) (z + 1) (by rw [ap1_sz, hz, nI_1]) (by omega))
theorem apN_frl {f : Nat} {w : Int64} : ∀ n S z, S.1 7 f = nI z → z + n ≤ 80 → frl (apN f w n S) f = frl S f ++ byL w n
  | 0, S, _, _, _ => (List.append_nil _).symm
  | n + 1, S, z, hz, hn => by
    have h := apN_frl (w := w) n (ap1 S f (by8 w n)) (z + 1) (by rw [ap1_sz, hz, nI_1]) (by omega)
    show frl (apN f w n (ap1 S f (by8 w n))) f = frl S f ++ (by8 w n :: byL w n)
    rw [h, ap1_frl hz (by omega), List.append_assoc]
    rfl
/-- add: what it does to a frame of z bytes -/
theorem e167_fr {S : sT} {f n z : Nat} {w : Int64} {v : Int32} (hv : v = nI n) (hf : f < 1800) (hz : S.1 7 f = nI z) (hn : z + n ≤ 80) : ∃ T, e167 (nI f) w v S = some T ∧ fo f S T ∧ T.1 7 f = nI (z + n) ∧ frl T f = frl S f ++ byL w n :=
  ⟨_, by rw [hv]; exact e167_eq hf hz hn, apN_fo n S z hz hn, apN_sz f w n S z hz, apN_frl n S z hz hn⟩
/-- the head of a frame -/
def hdL (kind to fr ox rx part : Int32) : List Int32 := byL kind.toInt64 1 ++ byL to.toInt64 3 ++ byL fr.toInt64 3 ++ byL ox.toInt64 2 ++ byL rx.toInt64 2 ++ byL part.toInt64 1 ++ byL 0 1
/-- begins: the last free frame gets a head; the others, and all else but the count of the free ones, stay -/
theorem e168_eq {S : sT} {n f : Nat} {v1 v2 v3 v4 v5 v6 : Int32} (h9 : S.1 9 0 = nI (n + 1)) (hn : n < 1800) (h8 : S.1 8 n = nI f) (hf : f < 1800) : ∃ T, e168 v1 v2 v3 v4 v5 v6 S = some (nI f, T) ∧ fo f (s_u S 9 0 (nI n)) T ∧ T.1 7 f = nI 13 ∧ frl T f = hdL v1 v2 v3 v4 v5 v6 := by
  have g9 : s_g S 9 - 1 = nI n := by
    show S.1 9 0 - 1 = nI n
    rw [h9, nI_pred]
  have g9' : s_g (s_u S 9 0 (nI n)) 9 = nI n := s_u_eq
  have g8 : (s_u S 9 0 (nI n)).1 8 n = nI f := (s_u_nk (by decide)).trans h8
  generalize hS1 : s_u S 9 0 (nI n) = S1 at g9' g8 ⊢
  have z0 : (s_u S1 7 f 0).1 7 f = nI 0 := s_u_eq
  have f0 : fo f S1 (s_u S1 7 f 0) := ⟨rfl, fun k i _ b => s_u_nk b, fun g hg => s_u_ni hg, fun g i _ _ => s_u_nk (by decide)⟩
  have l0 : frl (s_u S1 7 f 0) f = [] := by
    unfold frl
    rw [z0]
    rfl
  obtain ⟨T1, a1, b1, c1, d1⟩ := e167_fr (w := v1.toInt64) (n := 1) (v := 1) rfl hf z0 (by omega)
  obtain ⟨T2, a2, b2, c2, d2⟩ := e167_fr (w := v2.toInt64) (n := 3) (v := 3) rfl hf c1 (by omega)
  obtain ⟨T3, a3, b3, c3, d3⟩ := e167_fr (w := v3.toInt64) (n := 3) (v := 3) rfl hf c2 (by omega)
  obtain ⟨T4, a4, b4, c4, d4⟩ := e167_fr (w := v4.toInt64) (n := 2) (v := 2) rfl hf c3 (by omega)
  obtain ⟨T5, a5, b5, c5, d5⟩ := e167_fr (w := v5.toInt64) (n := 2) (v := 2) rfl hf c4 (by omega)
  obtain ⟨T6, a6, b6, c6, d6⟩ := e167_fr (w := v6.toInt64) (n := 1) (v := 1) rfl hf c5 (by omega)
  obtain ⟨T7, a7, b7, c7, d7⟩ := e167_fr (w := 0) (n := 1) (v := 1) rfl hf c6 (by omega)
  refine ⟨T7, ?_, f0.tr (b1.tr (b2.tr (b3.tr (b4.tr (b5.tr (b6.tr b7)))))), c7, ?_⟩
  · unfold e168 c168_0
    have p1 : s_p S 9 (s_g S 9 - 1) = some S1 := by rw [g9, ← hS1]; rfl
    rw [bd_s p1, g9', bd_s (s_a_t (show n < 1800 from hn) (by omega)), g8, bd_s (s_s_t (show f < 1800 from hf) (by omega))]
    rw [bd_s a1, bd_s a2, bd_s a3, bd_s a4, bd_s a5, bd_s a6, bd_s a7]
    rfl
  · rw [d7, d6, d5, d4, d3, d2, d1, l0]
    rfl
