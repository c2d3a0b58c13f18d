/-! ===== both sides: drafts and posts ===== -/
/-- the frames of both sides; those in the queues are the same -/
def PB (sw nd : Nat) (M : hM) (S : sT) (ia : Nat → Nat → Int32) (zb sb : Nat) (flc flr : Nat → List (List Int32)) (hc : List (Nat × Int32 × List Int32)) (hs : List (Nat × List Int32)) : Prop :=
  ∃ ct, FC (tru sw nd) sw nd M ia ct zb sb flc hc ∧ FR S flr hs ∧ FLb flc ∧ FLb flr ∧ (∀ p, 96 ≤ p → p < 144 → flc p = flr p) ∧ (∀ k, 0 < k → k < 9 → ct k = S.1 4 k) ∧ 1000 ≤ zb
theorem pqF_oth {u : Int32} {fl : Nat → List (List Int32)} {x p : Nat} {L : List Int32} (h : p ≠ 96 + x) : pqF u fl x L p = fl p := by
  unfold pqF
  split
  · rfl
  · split
    · exact u1_ne h
    · rfl
theorem pqF_b {u : Int32} {fl : Nat → List (List Int32)} {x : Nat} {L : List Int32} (hB : FLb fl) : FLb (pqF u fl x L) := fun y hy => by
  obtain ⟨h1, h2, h3⟩ := hB y hy
  by_cases q : 96 + y = 96 + x
  · rw [pqF_oth (show y ≠ 96 + x by omega), pqF_oth (show 48 + y ≠ 96 + x by omega)]
    refine ⟨h1, h2, ?_⟩
    unfold pqF
    split
    · exact h3
    · split
      · rename_i c
        rw [q, u1_eq, List.length_append]
        show _ + 1 ≤ 32
        omega
      · exact h3
  · rw [pqF_oth (show y ≠ 96 + x by omega), pqF_oth (show 48 + y ≠ 96 + x by omega), pqF_oth q]
    exact ⟨h1, h2, h3⟩
theorem pqF_same {u : Int32} {fl fm : Nat → List (List Int32)} {x : Nat} {L : List Int32} (hx : x < 48) (h : ∀ p, 96 ≤ p → p < 144 → fl p = fm p) : ∀ p, 96 ≤ p → p < 144 → pqF u fl x L p = pqF u fm x L p := fun p h1 h2 => by
  by_cases q : p = 96 + x
  · subst q
    unfold pqF
    rw [h _ h1 h2]
    split
    · exact h _ h1 h2
    · split
      · rw [u1_eq, u1_eq]
      · exact h _ h1 h2
  · rw [pqF_oth q, pqF_oth q]; exact h p h1 h2
section PR
variable {sw nd rm : Nat} {M : hM} {S : sT} {ia : Nat → Nat → Int32} {zb sb : Nat} {flc flr : Nat → List (List Int32)} {hc : List (Nat × Int32 × List Int32)} {hs : List (Nat × List Int32)} {a f x : Nat} {g : Int32} {L Lr : List Int32}
theorem PB.bk (h : PB sw nd M S ia zb sb flc flr hc hs) : bk M := by
  obtain ⟨ct, h1, -⟩ := h
  exact h1.1.2.2
theorem P_draft {v1 v2 v3 v4 v5 v6 : Int32} (hI : cI sw nd rm M) (h : PB sw nd M S ia zb sb flc flr hc hs) (hh : hc.length ≤ 3) (hh2 : hs.length ≤ 3) : ∃ a f M' S', f34 [.inr (.inr (some 2)), .inl v1, .inl v2, .inl v3, .inl v4] M = some (some (.inr (.inr (some a))), M') ∧ e168 v1 v2 v3 v4 v5 v6 S = some (nI f, S') ∧ f < 1800 ∧ PB sw nd M' S' ia zb sb flc flr ((a, 0, hdL v1 v2 v3 v4 0 0) :: hc) ((f, hdL v1 v2 v3 v4 v5 v6) :: hs) := by
  obtain ⟨ct, h1, h2, h3, h4, h5, h6, h7⟩ := h
  obtain ⟨a, M', m1, m2⟩ := FC_dra (v1 := v1) (v2 := v2) (v3 := v3) (v4 := v4) hI h1 h7 h3 hh
  obtain ⟨f, S', s1, s2, s3⟩ := FR_beg (v1 := v1) (v2 := v2) (v3 := v3) (v4 := v4) (v5 := v5) (v6 := v6) h2 h4 hh2
  refine ⟨a, f, M', S', m1, s1, s2, ct, m2, s3, h3, h4, h5, ?_, h7⟩
  rw [(ke168 s1).i (by decide)]
  exact h6
theorem P_load {n : Nat} {w : Int64} (h : PB sw nd M S ia zb sb flc flr ((a, g, L) :: hc) ((f, Lr) :: hs)) (hn : L.length + n ≤ 44) (h8 : n ≤ 8) (hn2 : Lr.length + n ≤ 80) : ∃ M' S', f36 [.inr (.inr (some a)), .inl (nI n), .inr (.inl w)] M = some (none, M') ∧ e167 (nI f) w (nI n) S = some S' ∧ PB sw nd M' S' ia zb sb flc flr ((a, g, L ++ byL w n) :: hc) ((f, Lr ++ byL w n) :: hs) := by
  obtain ⟨ct, h1, h2, h3, h4, h5, h6, h7⟩ := h
  obtain ⟨M', m1, m2⟩ := FC_load (w := w) h1 hn h8
  obtain ⟨S', s1, s2⟩ := FR_add (w := w) h2 hn2
  refine ⟨M', S', m1, s1, ct, m2, s2, h3, h4, h5, ?_, h7⟩
  rw [(ke167 s1).i (by decide)]
  exact h6
/-- only the class's side -/
theorem P_put {n k : Nat} {w : Int64} (h : PB sw nd M S ia zb sb flc flr ((a, g, L) :: hc) hs) (hn : k + n ≤ L.length) (h8 : n ≤ 8) : ∃ M', f35 [.inr (.inr (some a)), .inl (nI k), .inl (nI n), .inr (.inl w)] M = some (none, M') ∧ PB sw nd M' S ia zb sb flc flr ((a, g, L.take k ++ byL w n ++ L.drop (k + n)) :: hc) hs := by
  obtain ⟨ct, h1, h2, h3, h4, h5, h6, h7⟩ := h
  obtain ⟨M', m1, m2⟩ := FC_put (w := w) h1 hn h8
  exact ⟨M', m1, ct, m2, h2, h3, h4, h5, h6, h7⟩
theorem P_post (hI : cI sw nd rm M) (h : PB sw nd M S ia zb sb flc flr ((a, 0, L) :: hc) ((f, L) :: hs)) (hO : wO S) (hu : h_fi M 805 (200 + x) = upS S x) (hx : sd sw nd x) (hT : tru sw nd (clL L) = true) (hn : L.length ≤ 44) : ∃ M' S', f39 [.inr (.inr (some (200 + x))), .inr (.inr (some a))] M = some (none, M') ∧ e183 (nI x) (nI f) S = some S' ∧ PB sw nd M' S' ia zb sb (pqF (upS S x) flc x L) (pqF (upS S x) flr x L) hc hs := by
  have hx8 := hI.x8 hx
  obtain ⟨ct, h1, h2, h3, h4, h5, h6, h7⟩ := h
  obtain ⟨M', m1, m2⟩ := FC_post hI h1 hx hT (h3 x hx8).2.2
  rw [hu] at m2
  obtain ⟨S', s1, s2, s3⟩ := FR_que h2 hO hx8 (by omega) h4
  refine ⟨M', S', m1, s1, _, m2, s2, pqF_b h3, pqF_b h4, pqF_same hx8 h5, fun k k1 k2 => ?_, h7⟩
  rw [s3]
  have e : flc (96 + x) = flr (96 + x) := h5 _ (by omega) (by omega)
  unfold pqC
  rw [e]
  split
  · exact h6 k k1 k2
  · split
    · exact h6 k k1 k2
    · by_cases q : k = 5
      · subst q; rw [u1_eq, u1_eq, h6 5 (by omega) (by omega)]
      · rw [u1_ne q, u1_ne q]; exact h6 k k1 k2
theorem P_rel (hI : cI sw nd rm M) (h : PB sw nd M S ia zb sb flc flr ((a, g, L) :: hc) ((f, Lr) :: hs)) : ∃ M' S', f17 [.inr (.inr (some 2)), .inr (.inr (some a))] M = some (none, M') ∧ e171 (nI f) S = some S' ∧ PB sw nd M' S' ia zb sb flc flr hc hs := by
  obtain ⟨ct, h1, h2, h3, h4, h5, h6, h7⟩ := h
  obtain ⟨M', m1, m2⟩ := FC_rel hI h1
  obtain ⟨S', s1, s2⟩ := FR_drop h2
  refine ⟨M', S', m1, s1, ct, m2, s2, h3, h4, h5, ?_, h7⟩
  rw [(ke171 s1).i (by decide)]
  exact h6
/-- tally, and the reference's own count -/
theorem P_tly {k : Nat} (hI : cI sw nd rm M) (h : PB sw nd M S ia zb sb flc flr hc hs) (h0 : 0 < k) (h9 : k < 9) : ∃ M', f37 [.inr (.inr (some 2)), .inl (nI k)] M = some (none, M') ∧ PB sw nd M' (s_u S 4 k (S.1 4 k + 1)) ia zb sb flc flr hc hs := by
  obtain ⟨ct, h1, h2, h3, h4, h5, h6, h7⟩ := h
  obtain ⟨M', m1, m2⟩ := FC_tly hI h1 h0 h9
  refine ⟨M', m1, _, m2, h2.cg k_su (by decide), h3, h4, h5, fun j j1 j2 => ?_, h7⟩
  rw [su_eq]
  by_cases q : j = k
  · subst q; rw [u1_eq, u1_eq, h6 j h0 h9]
  · rw [u1_ne q, u1_ne q]; exact h6 j j1 j2
/-- what the reference changes elsewhere is nothing to it -/
theorem PB.ks {T : sT} {F : List Nat} (h : PB sw nd M S ia zb sb flc flr hc hs) (k : ks F S T) (hF : (4 :: frF).all (fun x => ! F.contains x) = true) : PB sw nd M T ia zb sb flc flr hc hs := by
  obtain ⟨ct, h1, h2, h3, h4, h5, h6, h7⟩ := h
  have h4f : F.contains 4 = false := by
    have := List.all_eq_true.mp hF 4 List.mem_cons_self
    simpa using this
  refine ⟨ct, h1, h2.cg k (List.all_eq_true.mpr (fun x hx => List.all_eq_true.mp hF x (List.mem_cons_of_mem _ hx))), h3, h4, h5, ?_, h7⟩
  rw [k.i h4f]
  exact h6
theorem PB.kp {M' : hM} {F : List Nat} (h : PB sw nd M S ia zb sb flc flr hc hs) (k : kp F [] M M') (hF : [200, 201, 202, 203, 300, 301, 302, 808, 907].all (fun x => ! F.contains x) = true) : PB sw nd M' S ia zb sb flc flr hc hs := by
  obtain ⟨ct, h1, h2⟩ := h
  exact ⟨ct, h1.cg k hF, h2⟩
/-- a held frame, as the class and as the reference read it -/
theorem PB.rd {t : Nat × Int32 × List Int32} (h : PB sw nd M S ia zb sb flc flr hc hs) (ht : t ∈ hc) : rd M t.1 t.2.2 ∧ h_fi M 202 t.1 = t.2.1 := by
  obtain ⟨ct, h1, -⟩ := h
  obtain ⟨k1, k2, k3, k4, k5⟩ := h1.hok ht
  refine ⟨⟨k1.1, k4, k5, ?_⟩, k2⟩
  rw [← fcC_z k4 k5]
  exact k3
theorem PB.rdS {t : Nat × List Int32} (h : PB sw nd M S ia zb sb flc flr hc hs) (ht : t ∈ hs) : rdS S t.1 t.2 := by
  obtain ⟨ct, -, h2, -⟩ := h
  obtain ⟨k1, k2, k3, k4⟩ := h2.hok ht
  exact ⟨k1, k3, k4, k2⟩
end PR
