/-! ===== the reference's frames: what they hold, and the moves ===== -/
section RT
variable {rl : Nat → List Nat} {f p x y : Nat} {l m : List Nat} {cB cC : Nat → List Int32} {fl : Nat → List (List Int32)} {hl : List (Nat × List Int32)} {L : List Int32}
theorem rT_drop (h : rT cB rl fl ((f, L) :: hl)) : ∃ l, rl 145 = f :: l ∧ rT cB (u1 (u1 rl 145 l) 144 m) fl hl := by
  obtain ⟨⟨h1, h2⟩, h3, h4⟩ := h
  refine ⟨hl.map (fun t : Nat × List Int32 => t.1), h1, ⟨by rw [u1_ne (by omega), u1_eq], fun t ht => h2 t (List.mem_cons_of_mem _ ht)⟩, fun p hp => ?_, fun p hp hq => ?_⟩
  · rw [u1_ne (by omega), u1_ne (by omega)]; exact h3 p hp
  · rw [u1_ne (by omega), u1_ne (by omega)]; exact h4 p hp hq
theorem rT_beg (h : rT cB rl fl hl) : rT cB (u1 (u1 rl 144 l) 145 (f :: rl 145)) fl ((f, cB f) :: hl) := by
  obtain ⟨⟨h1, h2⟩, h3, h4⟩ := h
  refine ⟨⟨by rw [u1_eq, h1]; rfl, fun t ht => ?_⟩, fun p hp => ?_, fun p hp hq => ?_⟩
  · rcases List.mem_cons.mp ht with rfl | ht
    · rfl
    · exact h2 t ht
  · rw [u1_ne (by omega), u1_ne (by omega)]; exact h3 p hp
  · rw [u1_ne (by omega), u1_ne (by omega)]; exact h4 p hp hq
theorem rT_con (hD : fD rl) (h : rT cB rl fl ((f, L) :: hl)) {L2 : List Int32} (e1 : ∀ p b, b ∈ rl p → b ≠ f → cC b = cB b) (e2 : cC f = L2) : rT cC rl fl ((f, L2) :: hl) := by
  obtain ⟨⟨h1, h2⟩, h3, h4⟩ := h
  have hc : rl 145 = f :: hl.map (fun t : Nat × List Int32 => t.1) := h1
  have hnn : f ∉ hl.map (fun t : Nat × List Int32 => t.1) := by
    have := hD.2 145
    rw [hc] at this
    exact (List.nodup_cons.mp this).1
  refine ⟨⟨h1, fun t ht => ?_⟩, fun p hp => ?_, fun p hp hq => ?_⟩
  · rcases List.mem_cons.mp ht with rfl | ht
    · exact e2
    · rw [e1 145 t.1 (by rw [h1]; exact List.mem_map_of_mem (List.mem_cons_of_mem _ ht)) (fun z => hnn (z ▸ List.mem_map_of_mem ht))]
      exact h2 t (List.mem_cons_of_mem _ ht)
  · rw [← h3 p hp]
    exact List.map_congr_left (fun b hb => e1 p b hb (notin hD hc (by omega) hb))
  · rw [← h4 p hp hq]
    exact List.map_congr_left (fun b hb => e1 p b hb (notin hD hc (by omega) hb))
theorem rT_que (h : rT cB rl fl ((f, clL L) :: hl)) (hx : x < 48) : ∃ l, rl 145 = f :: l ∧ rT cB (u1 (u1 rl 145 l) (96 + x) (rl (96 + x) ++ [f])) (u1 fl (96 + x) (fl (96 + x) ++ [L])) hl := by
  obtain ⟨⟨h1, h2⟩, h3, h4⟩ := h
  have g2 : cB f = clL L := h2 _ List.mem_cons_self
  refine ⟨hl.map (fun t : Nat × List Int32 => t.1), h1, ⟨by rw [u1_ne (by omega), u1_eq], fun t ht => h2 t (List.mem_cons_of_mem _ ht)⟩, fun p hp => ?_, fun p hp hq => ?_⟩
  · rw [u1_ne (by omega), u1_ne (by omega), u1_ne (by omega)]; exact h3 p hp
  · by_cases z : p = 96 + x
    · subst z; rw [u1_eq, u1_eq, List.map_append, List.map_append, h4 _ hp hq]; show _ ++ [cB f] = _ ++ [clL L]; rw [g2]
    · rw [u1_ne z, u1_ne z, u1_ne (by omega)]; exact h4 p hp hq
theorem rT_way (h : rT cB rl fl ((f, L) :: hl)) (hx : x < 48) : ∃ l, rl 145 = f :: l ∧ rT cB (u1 (u1 rl 145 l) x [f]) (u1 fl x [L]) hl := by
  obtain ⟨⟨h1, h2⟩, h3, h4⟩ := h
  have g2 : cB f = L := h2 _ List.mem_cons_self
  refine ⟨hl.map (fun t : Nat × List Int32 => t.1), h1, ⟨by rw [u1_ne (by omega), u1_eq], fun t ht => h2 t (List.mem_cons_of_mem _ ht)⟩, fun p hp => ?_, fun p hp hq => ?_⟩
  · by_cases z : p = x
    · subst z; rw [u1_eq, u1_eq]; show [cB f] = [L]; rw [g2]
    · rw [u1_ne z, u1_ne z, u1_ne (by omega)]; exact h3 p hp
  · rw [u1_ne (by omega), u1_ne (by omega), u1_ne (by omega)]; exact h4 p hp hq
theorem rT_at (h : rT cB rl fl hl) (hp : p < 96) {r : List (List Int32)} (hf : fl p = L :: r) : ∃ f l, rl p = f :: l ∧ cB f = L ∧ l.map cB = r := by
  have e := h.2.1 p hp
  rw [hf] at e
  cases hc : rl p with
  | nil => rw [hc] at e; cases e
  | cons a l =>
    rw [hc] at e
    exact ⟨a, l, rfl, (List.cons.inj e).1, (List.cons.inj e).2⟩
theorem rT_aq (h : rT cB rl fl hl) (hp : 96 ≤ p) (hq : p < 144) {r : List (List Int32)} (hf : fl p = L :: r) : ∃ f l, rl p = f :: l ∧ cB f = clL L ∧ l.map cB = r.map clL := by
  have e := h.2.2 p hp hq
  rw [hf] at e
  cases hc : rl p with
  | nil => rw [hc] at e; cases e
  | cons a l =>
    rw [hc] at e
    exact ⟨a, l, rfl, (List.cons.inj e).1, (List.cons.inj e).2⟩
theorem rT_len (h : rT cB rl fl hl) (hp : p < 144) : (rl p).length = (fl p).length := by
  by_cases q : p < 96
  · rw [← h.2.1 p q, List.length_map]
  · have := congrArg List.length (h.2.2 p (by omega) hp)
    rw [List.length_map, List.length_map] at this
    exact this
theorem rT_tak (h : rT cB rl fl hl) (hp : p < 96) {r : List (List Int32)} (hf : fl p = L :: r) (hc : rl p = f :: l) : rT cB (u1 (u1 rl p l) 145 (f :: rl 145)) (u1 fl p r) ((f, L) :: hl) := by
  obtain ⟨⟨h1, h2⟩, h3, h4⟩ := h
  have e := h3 p hp
  rw [hf, hc] at e
  obtain ⟨e1, e2⟩ := List.cons.inj e
  refine ⟨⟨by rw [u1_eq, h1]; rfl, fun t ht => ?_⟩, fun q hq => ?_, fun q hq hr => ?_⟩
  · rcases List.mem_cons.mp ht with rfl | ht
    · exact e1
    · exact h2 t ht
  · rw [u1_ne (by omega)]
    by_cases z : q = p
    · subst z; rw [u1_eq, u1_eq]; exact e2
    · rw [u1_ne z, u1_ne z]; exact h3 q hq
  · rw [u1_ne (by omega), u1_ne (by omega), u1_ne (by omega)]; exact h4 q hq hr
theorem rT_snd (h : rT cB rl fl hl) (hx : x < 48) {r : List (List Int32)} (hf : fl (96 + x) = L :: r) (hc : rl (96 + x) = f :: l) : rT cB (u1 (u1 rl (96 + x) l) x [f]) (u1 (u1 fl (96 + x) r) x [clL L]) hl := by
  obtain ⟨⟨h1, h2⟩, h3, h4⟩ := h
  have e := h4 (96 + x) (by omega) (by omega)
  rw [hf, hc] at e
  obtain ⟨e1, e2⟩ := List.cons.inj e
  refine ⟨⟨by rw [u1_ne (by omega), u1_ne (by omega)]; exact h1, h2⟩, fun q hq => ?_, fun q hq hr => ?_⟩
  · by_cases z : q = x
    · subst z; rw [u1_eq, u1_eq]; show [cB f] = [clL L]; rw [e1]
    · rw [u1_ne z, u1_ne z, u1_ne (by omega), u1_ne (by omega)]; exact h3 q hq
  · have hqx : q ≠ x := by omega
    rw [u1_ne hqx, u1_ne hqx]
    by_cases z : q = 96 + x
    · subst z; rw [u1_eq, u1_eq]; exact e2
    · rw [u1_ne z, u1_ne z]; exact h4 q hq hr
theorem rT_arr (h : rT cB rl fl hl) (hx : x < 48) (hy : y < 48) (hw : fl x = [L]) (hc : rl x = [f]) : rT cB (u1 (u1 rl x []) (48 + y) (rl (48 + y) ++ [f])) (u1 (u1 fl x []) (48 + y) (fl (48 + y) ++ [L])) hl := by
  obtain ⟨⟨h1, h2⟩, h3, h4⟩ := h
  have e := h3 x (by omega)
  rw [hw, hc] at e
  have e1 : cB f = L := (List.cons.inj e).1
  refine ⟨⟨by rw [u1_ne (by omega), u1_ne (by omega)]; exact h1, h2⟩, fun q hq => ?_, fun q hq hr => ?_⟩
  · by_cases z : q = 48 + y
    · subst z; rw [u1_eq, u1_eq, List.map_append, h3 _ hq]; show _ ++ [cB f] = _ ++ [L]; rw [e1]
    · rw [u1_ne z, u1_ne z]
      by_cases z2 : q = x
      · subst z2; rw [u1_eq, u1_eq]; rfl
      · rw [u1_ne z2, u1_ne z2]; exact h3 q hq
  · rw [u1_ne (by omega), u1_ne (by omega), u1_ne (by omega), u1_ne (by omega)]; exact h4 q hq hr
end RT
theorem mv_exr {rl : Nat → List Nat} {p q f : Nat} {l m : List Nat} (h : fD rl) (hp : rl p = f :: l) (hpq : p ≠ q) (hm : ∀ b, b ∈ m ↔ b = f ∨ b ∈ rl q) : ∀ r b, b ∈ u1 (u1 rl p l) q m r → ∃ s, b ∈ rl s := mv_ex h hp hpq hm
section FRo
variable {S : sT} {fl : Nat → List (List Int32)} {hl : List (Nat × List Int32)} {f p x y : Nat} {L : List Int32}
theorem FR.hok {t : Nat × List Int32} (h : FR S fl hl) (ht : t ∈ hl) : t.1 < 1800 ∧ frl S t.1 = t.2 ∧ S.1 7 t.1 = nI t.2.length ∧ t.2.length ≤ 80 := by
  obtain ⟨rl, c1, c2, c3, c4, c5⟩ := h
  obtain ⟨h1, z, h2, h3⟩ := c2 145 t.1 (by rw [c4.1.1]; exact List.mem_map_of_mem ht)
  have e := c4.1.2 t ht
  have : t.2.length = z := by rw [← e, frl_len h2 h3]
  exact ⟨h1, e, by rw [this]; exact h2, by omega⟩
/-- only frame f's bytes are other ones -/
theorem FR_con {T : sT} {L2 : List Int32} {z : Nat} (h : FR S fl ((f, L) :: hl)) (o : fo f S T) (hz : T.1 7 f = nI z) (hz8 : z ≤ 80) (hL : frl T f = L2) : FR T fl ((f, L2) :: hl) := by
  obtain ⟨rl, c1, c2, c3, c4, c5⟩ := h
  have ef : ∀ k, k ≠ 6 → k ≠ 7 → T.1 k = S.1 k := fun k a b => funext fun i => o.2.1 k i a b
  refine ⟨rl, c1, fun p g hg => ⟨(c2 p g hg).1, ?_⟩, ?_, ?_, c5⟩
  · by_cases q : g = f
    · subst q; exact ⟨z, hz, hz8⟩
    · rw [o.2.2.1 g q]; exact (c2 p g hg).2
  · rw [ef 8 (by decide) (by decide), ef 15 (by decide) (by decide), ef 16 (by decide) (by decide), ef 17 (by decide) (by decide), ef 18 (by decide) (by decide), ef 19 (by decide) (by decide), ef 9 (by decide) (by decide)]
    exact c3
  · refine rT_con c1 c4 (fun p b hb q => ?_) hL
    obtain ⟨-, y, hy, hy8⟩ := c2 p b hb
    exact o.frl q hy hy8
theorem FR_add {n : Nat} {w : Int64} (h : FR S fl ((f, L) :: hl)) (hn : L.length + n ≤ 80) : ∃ T, e167 (nI f) w (nI n) S = some T ∧ FR T fl ((f, L ++ byL w n) :: hl) := by
  obtain ⟨h1, h2, h3, h4⟩ := h.hok List.mem_cons_self
  obtain ⟨T, t1, t2, t3, t4⟩ := e167_fr (w := w) (v := nI n) rfl h1 h3 hn
  refine ⟨T, t1, FR_con h t2 t3 hn ?_⟩
  rw [t4]
  show frl S f ++ _ = _
  rw [show frl S f = L from h2]
theorem FR_cls (h : FR S fl ((f, L) :: hl)) (hn : L.length + 4 ≤ 80) : ∃ T, e170 (nI f) S = some T ∧ FR T fl ((f, clL L) :: hl) := by
  obtain ⟨h1, h2, h3, h4⟩ := h.hok List.mem_cons_self
  obtain ⟨T, t1, t2, t3, t4⟩ := e170_eq h1 h3 hn
  refine ⟨T, t1, FR_con h t2 t3 hn ?_⟩
  rw [t4]
  show clL (frl S f) = _
  rw [show frl S f = L from h2]
theorem FR_frs {T : sT} {fl' : Nat → List (List Int32)} {hl' : List (Nat × List Int32)} {rl rl' : Nat → List Nat} (c2 : ∀ p f, f ∈ rl p → f < 1800 ∧ ∃ z, S.1 7 f = nI z ∧ z ≤ 80) (c5 : sumL rl 146 = 1800) (e6 : T.1 6 = S.1 6) (e7 : T.1 7 = S.1 7) (hm : ∀ p a, a ∈ rl' p → ∃ q, a ∈ rl q) (hD : fD rl') (hs : sumL rl' 146 = sumL rl 146) (hS : rS (T.1 8) (T.1 15) (T.1 16) (T.1 17) (T.1 18) (T.1 19) (T.1 9 0) rl') (hT : rT (frl S) rl' fl' hl') : FR T fl' hl' := by
  have e : frl T = frl S := funext fun g => by
    unfold frl fB
    rw [e6, e7]
  refine ⟨rl', hD, fun p g hg => ?_, hS, by rw [e]; exact hT, hs.trans c5⟩
  obtain ⟨q, hq⟩ := hm p g hg
  rw [e7]
  exact c2 q g hq
theorem FR_drop (h : FR S fl ((f, L) :: hl)) : ∃ T, e171 (nI f) S = some T ∧ FR T fl hl := by
  obtain ⟨rl, c1, c2, c3, c4, c5⟩ := h
  obtain ⟨l, hl1, hT⟩ := rT_drop (m := f :: rl 144) c4
  obtain ⟨s1, s2⟩ := rS_drop (f := f) (l := l) c3
  have hlt : (rl 144).length < 1800 := by
    have e : sumL rl 146 = sumL rl 144 + (rl 144).length + (rl 145).length := rfl
    rw [hl1, List.length_cons] at e
    omega
  have mC := mv_cons c1 hl1 (q := 144) (by omega)
  refine ⟨_, e171_eq s1 hlt, FR_frs c2 c5 ?_ ?_ (mv_exr c1 hl1 (by omega) mC.1) (fD_mv c1 hl1 (by omega) mC.1 mC.2) (sumL_mv (by omega) (by omega) (by omega) (by rw [hl1]; rfl) rfl) ?_ hT⟩
  · rw [su_ne (by decide), su_ne (by decide)]
  · rw [su_ne (by decide), su_ne (by decide)]
  · rw [su_ne (show 8 ≠ 9 by decide), su_eq, su_ne (show 15 ≠ 9 by decide), su_ne (show 15 ≠ 8 by decide), su_ne (show 16 ≠ 9 by decide), su_ne (show 16 ≠ 8 by decide), su_ne (show 17 ≠ 9 by decide), su_ne (show 17 ≠ 8 by decide), su_ne (show 18 ≠ 9 by decide), su_ne (show 18 ≠ 8 by decide), su_ne (show 19 ≠ 9 by decide), su_ne (show 19 ≠ 8 by decide), su_eq, u1_eq]
    exact s2
theorem FR_free (h : FR S fl hl) (hB : FLb fl) (hh : hl.length ≤ 3) : ∀ rl : Nat → List Nat, rT (frl S) rl fl hl → sumL rl 146 = 1800 → ∃ f l, rl 144 = f :: l := by
  intro rl c4 c5
  have e1 : sumL rl 146 = sumL rl 144 + (rl 144).length + (rl 145).length := rfl
  have e3 : (rl 145).length = hl.length := by rw [c4.1.1, List.length_map]
  have e4 : sumL rl 144 = sumL rl 48 + sumL (fun p => rl (48 + p)) 96 := sumL_ap (f := rl) 48 96
  have e5 : sumL (fun p => rl (48 + p)) 96 = sumL (fun p => rl (48 + p)) 48 + sumL (fun p => rl (48 + (48 + p))) 48 := sumL_ap (f := fun p => rl (48 + p)) 48 48
  have b1 := sumL_le (f := rl) (k := 1) 48 (fun p hp => by rw [rT_len c4 (by omega)]; exact (hB p hp).1)
  have b2 := sumL_le (f := fun p => rl (48 + p)) (k := 4) 48 (fun p hp => by rw [rT_len c4 (by omega)]; exact (hB p hp).2.1)
  have b3 := sumL_le (f := fun p => rl (48 + (48 + p))) (k := 32) 48 (fun p hp => by rw [rT_len c4 (by omega), show 48 + (48 + p) = 96 + p by omega]; exact (hB p hp).2.2)
  cases hc : rl 144 with
  | nil => rw [hc, List.length_nil] at e1; omega
  | cons f l => exact ⟨f, l, rfl⟩
theorem FR_beg {v1 v2 v3 v4 v5 v6 : Int32} (h : FR S fl hl) (hB : FLb fl) (hh : hl.length ≤ 3) : ∃ f T, e168 v1 v2 v3 v4 v5 v6 S = some (nI f, T) ∧ f < 1800 ∧ FR T fl ((f, hdL v1 v2 v3 v4 v5 v6) :: hl) := by
  have h' := h
  obtain ⟨rl, c1, c2, c3, c4, c5⟩ := h
  obtain ⟨f, l, hc⟩ := FR_free h' hB hh rl c4 c5
  obtain ⟨s1, s2, s3⟩ := rS_beg c3 hc
  have hll : l.length < 1800 := by
    have e : sumL rl 146 = sumL rl 144 + (rl 144).length + (rl 145).length := rfl
    rw [hc, List.length_cons] at e
    omega
  obtain ⟨hf, z, hz, hz8⟩ := c2 144 f (by rw [hc]; exact List.mem_cons_self)
  obtain ⟨T, t1, t2, t3, t4⟩ := e168_eq (v1 := v1) (v2 := v2) (v3 := v3) (v4 := v4) (v5 := v5) (v6 := v6) s1 hll s2 hf
  refine ⟨f, T, t1, hf, ?_⟩
  have mC := mv_cons c1 hc (q := 145) (by omega)
  have hmid : FR (s_u S 9 0 (nI l.length)) fl ((f, frl S f) :: hl) := by
    refine FR_frs c2 c5 (su_ne (by decide)) (su_ne (by decide)) (mv_exr c1 hc (by omega) mC.1) (fD_mv c1 hc (by omega) mC.1 mC.2) (sumL_mv (by omega) (by omega) (by omega) (by rw [hc]; rfl) rfl) ?_ (rT_beg c4)
    rw [su_ne (show 8 ≠ 9 by decide), su_ne (show 15 ≠ 9 by decide), su_ne (show 16 ≠ 9 by decide), su_ne (show 17 ≠ 9 by decide), su_ne (show 18 ≠ 9 by decide), su_ne (show 19 ≠ 9 by decide), su_eq, u1_eq]
    exact s3
  exact FR_con hmid t2 t3 (by omega) t4
end FRo
