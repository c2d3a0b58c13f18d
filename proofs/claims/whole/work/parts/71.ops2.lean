/-! ===== moves, all in all ===== -/
section MO
variable {tr : List Int32 → Bool} {sw nd rm : Nat} {M : hM} {ia : Nat → Nat → Int32} {ct : Nat → Int32} {zb sb : Nat} {fl : Nat → List (List Int32)} {hl : List (Nat × Int32 × List Int32)} {a p q x : Nat} {g : Int32} {L : List Int32}
/-- what a move leaves as it was -/
def ms (M M' : hM) : Prop := (h_tg M' = h_tg M ∧ h_ln M' = h_ln M ∧ h_sz M' = h_sz M ∧ h_sl M' = h_sl M ∧ h_ai M' = h_ai M) ∧ h_fr M' 200 = h_fr M 200 ∧ h_fi M' 201 = h_fi M 201 ∧ h_fi M' 202 = h_fi M 202
theorem FC_ms {M' : hM} {fl' : Nat → List (List Int32)} {hl' : List (Nat × Int32 × List Int32)} {cl cl' : Nat → List Nat}
    (h1 : (∀ a, (a < 1000 ∨ h_tg M a = 20) → a ≠ 3 → h_ai M a = ia a) ∧ h_ai M 3 = ct ∧ bk M) (h2 : ∀ p a, a ∈ cl p → fOK M a) (h3 : h_sz M = zb + 2 * sumL cl 146) (h4 : h_sl M = sb + 52 * sumL cl 146 ∧ sumL cl 146 ≤ 1790)
    (e : ms M M') (hb : bk M') (hm : ∀ p a, a ∈ cl' p → ∃ q, a ∈ cl q) (hD : fD cl') (hs : sumL cl' 146 = sumL cl 146) (hS : fS sw nd (h_fr M' 203) (h_fr M' 300) (h_fr M' 301) (h_fi M' 302) (h_fr M' 808) (h_fr M' 907 2) cl') (hT : fT (fcC M) (h_fi M 202) tr cl' fl' hl') : FC tr sw nd M' ia ct zb sb fl' hl' := by
  obtain ⟨⟨e1, e2, e3, e4, e5⟩, e6, e7, e8⟩ := e
  have eC : fcC M' = fcC M := funext fun a => by
    unfold fcC fbl
    rw [e5, e7]
  refine ⟨⟨by rw [e1, e5]; exact h1.1, by rw [e5]; exact h1.2.1, hb⟩, cl', hD, fun p a ha => ?_, hS, by rw [eC, e8]; exact hT, by rw [e3, hs]; exact h3, by rw [e4, hs]; exact h4⟩
  obtain ⟨q, hq⟩ := hm p a ha
  obtain ⟨⟨d1, d2, d3, d4⟩, d5, d6⟩ := h2 q a hq
  exact ⟨⟨by rw [e1]; exact d1, by rw [e6]; exact d2, by rw [e1]; exact d3, by rw [e2]; exact d4⟩, d5, by rw [e7]; exact d6⟩
theorem mv_ex {cl : Nat → List Nat} {l m : List Nat} (h : fD cl) (hp : cl p = a :: l) (hpq : p ≠ q) (hm : ∀ b, b ∈ m ↔ b = a ∨ b ∈ cl q) : ∀ r b, b ∈ u1 (u1 cl p l) q m r → ∃ s, b ∈ cl s := fun r b hb => by
  rcases mv_mem h hp hpq hm hb with ⟨-, rfl⟩ | ⟨-, h2⟩
  · exact ⟨p, by rw [hp]; exact List.mem_cons_self⟩
  · exact ⟨r, h2⟩
/-- release: a held frame is spare -/
theorem FC_rel (hI : cI sw nd rm M) (hF : FC tr sw nd M ia ct zb sb fl ((a, g, L) :: hl)) : ∃ M', f17 [.inr (.inr (some 2)), .inr (.inr (some a))] M = some (none, M') ∧ FC tr sw nd M' ia ct zb sb fl hl := by
  obtain ⟨h1, cl, c1, c2, c3, c4, c5, c6⟩ := hF
  obtain ⟨l, hl1, hT⟩ := fT_rel (m := a :: cl 144) c4
  have ha := c2 145 a (by rw [hl1]; exact List.mem_cons_self)
  have hb := hI.bs
  have ev := f17_eq hI.sh0 ha.1.1
  refine ⟨_, ev, FC_ms h1 c2 c5 c6 ⟨⟨rfl, rfl, rfl, rfl, rfl⟩, ?_, rfl, rfl⟩ (kf17 ev h1.2.2).1 (mv_ex c1 hl1 (by omega) (mv_cons c1 hl1 (q := 144) (by omega)).1) (fD_mv c1 hl1 (by omega) (mv_cons c1 hl1 (q := 144) (by omega)).1 (mv_cons c1 hl1 (q := 144) (by omega)).2) (sumL_mv (by omega) (by omega) (by omega) (by rw [hl1]; rfl) rfl) ?_ hT⟩
  · rw [fr_ne (by decide), fr_ne (by decide)]
  · have := fS_rel c1 c3 hb.1.2 hb.2.1.2 hl1
    rw [fr_ne (show 203 ≠ 907 by decide), fr_eq, fr_ne (show 300 ≠ 907 by decide), fr_ne (show 300 ≠ 203 by decide), fr_ne (show 301 ≠ 907 by decide), fr_ne (show 301 ≠ 203 by decide), fr_ne (show 808 ≠ 907 by decide), fr_ne (show 808 ≠ 203 by decide)]
    have e : h_fr (h_pr (h_pr M 203 a (h_fr M 907 2)) 907 2 (some a)) 907 2 = some a := by rw [fr_eq]; exact u1_eq
    rw [e]
    exact this
/-- the first of a line, taken -/
theorem FC_tak (hI : cI sw nd rm M) (hF : FC tr sw nd M ia ct zb sb fl hl) (h1 : 48 ≤ p) (h2 : p < 144) (hsd : sd sw nd (p % 48)) (ht : h_tg M (lq p) = 4) {r : List (List Int32)} (hf : fl p = L :: r) : ∃ a g M', h_fr M 300 (lq p) = some a ∧ fcC M a = L ∧ h_fi M 202 a = g ∧ fOK M a ∧ f18 [.inr (.inr (some (lq p)))] M = some (some (.inr (.inr (some a))), M') ∧ FC tr sw nd M' ia ct zb sb (u1 fl p r) ((a, g, L) :: hl) ∧ fW tr p g L ∧ h_fi M 302 (lq p) = nI (r.length + 1) := by
  obtain ⟨h0, cl, c1, c2, c3, c4, c5, c6⟩ := hF
  obtain ⟨a, l, hc, hL, hw⟩ := fT_at c4 h2 hf
  have ha := c2 p a (by rw [hc]; exact List.mem_cons_self)
  have hb := hI.bs
  obtain ⟨s1, s2, s3, s4⟩ := fS_tak c1 c3 hb.1.2 hb.2.1.2 h1 h2 hc hsd
  have ev := f18_eq ht s1 ha.1.1
  have er : r.length = l.length := by
    have := c4.2.1 p h2
    rw [hf, hc] at this
    rw [← (List.cons.inj this).2, List.length_map]
  refine ⟨a, h_fi M 202 a, _, s1, hL, rfl, ha, ev, FC_ms h0 c2 c5 c6 ?_ (kf18 ev h0.2.2).1 (mv_ex c1 hc (by omega) (mv_cons c1 hc (q := 145) (by omega)).1) (fD_mv c1 hc (by omega) (mv_cons c1 hc (q := 145) (by omega)).1 (mv_cons c1 hc (q := 145) (by omega)).2) (sumL_mv (by omega) (by omega) (by omega) (by rw [hc]; rfl) rfl) ?_ (fT_tak c4 h2 hf hc), hw, by rw [er]; exact s3⟩
  · by_cases e : h_fr M 203 a = none
    · rw [if_pos e]
      exact ⟨⟨rfl, rfl, rfl, rfl, rfl⟩, rfl, rfl, rfl⟩
    · rw [if_neg e]
      exact ⟨⟨rfl, rfl, rfl, rfl, rfl⟩, rfl, rfl, rfl⟩
  · have e302 : ∀ N : hM, h_fi (h_pi N 302 (lq p) (h_fi M 302 (lq p) - 1)) 302 = u1 (h_fi N 302) (lq p) (h_fi M 302 (lq p) - 1) := fun N => fi_eq
    by_cases e : h_fr M 203 a = none
    · rw [if_pos e] at s4 ⊢
      show fS sw nd (h_fr (h_pr (h_pr (h_pr M 300 (lq p) (h_fr M 203 a)) 301 (lq p) none) 203 a none) 203) (h_fr (h_pr (h_pr (h_pr M 300 (lq p) (h_fr M 203 a)) 301 (lq p) none) 203 a none) 300) (h_fr (h_pr (h_pr (h_pr M 300 (lq p) (h_fr M 203 a)) 301 (lq p) none) 203 a none) 301) _ (h_fr M 808) (h_fr M 907 2) _
      rw [e302, fr_eq, fr_ne (show 300 ≠ 203 by decide), fr_ne (show 300 ≠ 301 by decide), fr_eq, fr_ne (show 301 ≠ 203 by decide), fr_eq]
      exact s4
    · rw [if_neg e] at s4 ⊢
      show fS sw nd (h_fr (h_pr (h_pr M 300 (lq p) (h_fr M 203 a)) 203 a none) 203) (h_fr (h_pr (h_pr M 300 (lq p) (h_fr M 203 a)) 203 a none) 300) (h_fr (h_pr (h_pr M 300 (lq p) (h_fr M 203 a)) 203 a none) 301) _ (h_fr M 808) (h_fr M 907 2) _
      rw [e302, fr_eq, fr_ne (show 300 ≠ 203 by decide), fr_eq, fr_ne (show 301 ≠ 203 by decide)]
      exact s4
/-- a line with nothing in it -/
theorem FC_tno (hF : FC tr sw nd M ia ct zb sb fl hl) (h1 : 48 ≤ p) (h2 : p < 144) (hsd : sd sw nd (p % 48)) (hf : fl p = []) : h_fr M 300 (lq p) = none := by
  obtain ⟨h0, cl, c1, c2, c3, c4, c5, c6⟩ := hF
  have := c3.2.1 p h1 h2 hsd
  rw [fT_nil c4 h2 hf] at this
  exact this.1
theorem FC_sz (hF : FC tr sw nd M ia ct zb sb fl hl) (h1 : 48 ≤ p) (h2 : p < 144) (hsd : sd sw nd (p % 48)) : h_fi M 302 (lq p) = nI (fl p).length := by
  obtain ⟨h0, cl, c1, c2, c3, c4, c5, c6⟩ := hF
  have := c3.2.1 p h1 h2 hsd
  rw [← c4.2.1 p h2, List.length_map]
  exact this.2.2
/-- a held frame, to the end of a line -/
theorem FC_add (hI : cI sw nd rm M) (hF : FC tr sw nd M ia ct zb sb fl ((a, g, L) :: hl)) (h1 : 48 ≤ p) (h2 : p < 144) (hsd : sd sw nd (p % 48)) (ht : h_tg M (lq p) = 4) (hw : fW tr p g L) : ∃ M', f38 [.inr (.inr (some (lq p))), .inr (.inr (some a))] M = some (none, M') ∧ FC tr sw nd M' ia ct zb sb (u1 fl p (fl p ++ [L])) hl := by
  obtain ⟨h0, cl, c1, c2, c3, c4, c5, c6⟩ := hF
  obtain ⟨l, hl1, hT⟩ := fT_add (p := p) c4 h2 hw
  have ha := c2 145 a (by rw [hl1]; exact List.mem_cons_self)
  have hb := hI.bs
  obtain ⟨s3, s4⟩ := fS_add c1 c3 hb.1.2 hb.2.1.2 h1 h2 hl1 hsd
  have hlast : ∀ z, h_fr M 301 (lq p) = some z → h_tg M z = 3 := fun z hz => by
    have := (c3.2.1 p h1 h2 hsd).2.1
    exact (c2 p z (List.mem_of_getLast? (this.symm.trans hz))).1.1
  have ev := f38_eq ht ha.1.1 hlast
  have mS := mv_snoc c1 hl1 (q := p) (by omega)
  refine ⟨_, ev, FC_ms h0 c2 c5 c6 ?_ (kf38 ev h0.2.2).1 (mv_ex c1 hl1 (by omega) mS.1) (fD_mv c1 hl1 (by omega) mS.1 mS.2) (sumL_mv (by omega) (by omega) (by omega) (by rw [hl1]; rfl) (by rw [List.length_append]; rfl)) ?_ hT⟩
  · cases e : h_fr M 301 (lq p) with
    | none => exact ⟨⟨rfl, rfl, rfl, rfl, rfl⟩, rfl, rfl, rfl⟩
    | some z => exact ⟨⟨rfl, rfl, rfl, rfl, rfl⟩, rfl, rfl, rfl⟩
  · have e302 : ∀ N : hM, h_fi (h_pi N 302 (lq p) (h_fi M 302 (lq p) + 1)) 302 = u1 (h_fi N 302) (lq p) (h_fi M 302 (lq p) + 1) := fun N => fi_eq
    cases e : h_fr M 301 (lq p) with
    | none =>
      rw [e] at s4
      show fS sw nd (h_fr (h_pr (h_pr (h_pr M 203 a none) 300 (lq p) (some a)) 301 (lq p) (some a)) 203) (h_fr (h_pr (h_pr (h_pr M 203 a none) 300 (lq p) (some a)) 301 (lq p) (some a)) 300) (h_fr (h_pr (h_pr (h_pr M 203 a none) 300 (lq p) (some a)) 301 (lq p) (some a)) 301) _ (h_fr M 808) (h_fr M 907 2) _
      rw [e302, fr_ne (show 203 ≠ 301 by decide), fr_ne (show 203 ≠ 300 by decide), fr_eq, fr_ne (show 300 ≠ 301 by decide), fr_eq, fr_ne (show 300 ≠ 203 by decide), fr_eq, fr_ne (show 301 ≠ 300 by decide), fr_ne (show 301 ≠ 203 by decide)]
      exact s4
    | some z =>
      rw [e] at s4
      show fS sw nd (h_fr (h_pr (h_pr (h_pr M 203 a none) 203 z (some a)) 301 (lq p) (some a)) 203) (h_fr (h_pr (h_pr (h_pr M 203 a none) 203 z (some a)) 301 (lq p) (some a)) 300) (h_fr (h_pr (h_pr (h_pr M 203 a none) 203 z (some a)) 301 (lq p) (some a)) 301) _ (h_fr M 808) (h_fr M 907 2) _
      rw [e302, fr_ne (show 203 ≠ 301 by decide), fr_eq, fr_eq, fr_ne (show 300 ≠ 301 by decide), fr_ne (show 300 ≠ 203 by decide), fr_ne (show 300 ≠ 203 by decide), fr_eq, fr_ne (show 301 ≠ 203 by decide), fr_ne (show 301 ≠ 203 by decide)]
      exact s4
/-- tally -/
theorem FC_tly (hI : cI sw nd rm M) (hF : FC tr sw nd M ia ct zb sb fl hl) {k : Nat} (h0 : 0 < k) (h9 : k < 9) : ∃ M', f37 [.inr (.inr (some 2)), .inl (nI k)] M = some (none, M') ∧ FC tr sw nd M' ia (u1 ct k (ct k + 1)) zb sb fl hl := by
  have ev := f37_eq (M := M) (k := k) hI.sh0 hI.sh4 hI.ar0 hI.ar1 h0 h9
  obtain ⟨⟨d1, d2, d3⟩, cl, c1, c2, c3, c4, c5, c6⟩ := hF
  have hai : ∀ b, b ≠ 3 → h_ai (h_qi M 3 k (h_ai M 3 k + 1)) b = h_ai M b := fun b hb => funext fun i => u2_nk hb
  have eC : ∀ b, 1000 ≤ b → fcC (h_qi M 3 k (h_ai M 3 k + 1)) b = fcC M b := fun b hb => by
    unfold fcC fbl
    rw [hai _ (by omega)]
    rfl
  refine ⟨_, ev, ⟨fun b hb h3 => ?_, ?_, (kf37 ev d3).1⟩, cl, c1, fun p a ha => c2 p a ha, c3, ?_, c5, c6⟩
  · rw [hai b h3]
    exact d1 b hb h3
  · funext i
    show (if 3 = 3 ∧ i = k then h_ai M 3 k + 1 else h_ai M 3 i) = u1 ct k (ct k + 1) i
    rw [d2]
    unfold u1
    by_cases e : i = k
    · rw [if_pos ⟨rfl, e⟩, if_pos e]
    · rw [if_neg (fun z => e z.2), if_neg e]
  · obtain ⟨⟨t1, t2⟩, t3, t4, t5⟩ := c4
    refine ⟨⟨t1, fun t ht => ?_⟩, fun p hp => ?_, fun p a hp ha => ?_, fun p a hp hq ha => ?_⟩
    · have := c2 145 t.1 (by rw [t1]; exact List.mem_map_of_mem ht)
      rw [eC _ this.2.1]
      exact t2 t ht
    · rw [← t3 p hp]
      exact List.map_congr_left (fun b hb => eC b (c2 p b hb).2.1)
    · rw [eC a (c2 p a ha).2.1]
      exact t4 p a hp ha
    · rw [eC a (c2 p a ha).2.1]
      exact t5 p a hp hq ha
end MO
