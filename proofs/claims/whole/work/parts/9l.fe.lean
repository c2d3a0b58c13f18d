/-! ===== what the frames' moves keep ===== -/
def FE (sw nd rm : Nat) (pe : Nat → Option Nat) (M : hM) (S : sT) (fl : Nat → List (List Int32)) : Prop := FLl fl ∧ (∀ k, k < 3 → S.1 5 k = 0) ∧ CRd sw nd M S fl ∧ CRu rm M S pe fl ∧ (∀ x, x < 48 → S.1 22 x = if fl x = [] then 0 else 1) ∧ ∀ x, sd sw nd x → h_fi M 813 (200 + x) = S.1 21 x
section FEs
variable {sw nd rm : Nat} {M M' : hM} {S T : sT} {ia ib : Nat → Nat → Int32} {w t x y zb sb : Nat} {pe : Nat → Option Nat} {wo : Nat → Nat} {fl fm flc flr fmc fmr : Nat → List (List Int32)} {hc : List (Nat × Int32 × List Int32)} {hs : List (Nat × List Int32)} {L : List Int32} {r : List (List Int32)} {F A G : List Nat}
theorem PB.fls (h : PB sw nd M S ia zb sb flc flr hc hs) (hc' : ∀ p, p < 144 → fmc p = flc p) (hr : ∀ p, p < 144 → fmr p = flr p) : PB sw nd M S ia zb sb fmc fmr hc hs := by
  obtain ⟨ct, h1, h2, h3, h4, h5, h6, h7⟩ := h
  refine ⟨ct, ?_, ?_, ?_, ?_, ?_, h6, h7⟩
  · obtain ⟨a1, cl, c1, c2, c3, ⟨t1, t2, t3⟩, c5⟩ := h1
    exact ⟨a1, cl, c1, c2, c3, ⟨t1, fun p hp => by rw [hc' p hp]; exact t2 p hp, t3⟩, c5⟩
  · obtain ⟨rl, r1, r2, r3, ⟨t1, t2, t3⟩, r5⟩ := h2
    exact ⟨rl, r1, r2, r3, ⟨t1, fun p hp => by rw [hr p (by omega)]; exact t2 p hp, fun p hp hq => by rw [hr p hq]; exact t3 p hp hq⟩, r5⟩
  · intro x hx
    rw [hc' x (by omega), hc' (48 + x) (by omega), hc' (96 + x) (by omega)]
    exact h3 x hx
  · intro x hx
    rw [hr x (by omega), hr (48 + x) (by omega), hr (96 + x) (by omega)]
    exact h4 x hx
  · intro p hp hq
    rw [hc' p hq, hr p hq]
    exact h5 p hp hq
theorem PB.b (h : PB sw nd M S ia zb sb flc flr hc hs) : FLb flc ∧ FLb flr := by
  obtain ⟨ct, h1, h2, h3, h4, h5⟩ := h
  exact ⟨h3, h4⟩
theorem FE.keep (h : FE sw nd rm pe M S fl) (k : kp F A M M') (hF : [806, 807, 813].all (fun x => ! F.contains x) = true) (l : ks G S T) (hG : [5, 12, 14, 20, 21, 22].all (fun x => ! G.contains x) = true) (q : qx S fl fm) (hx48 : ∀ x y, pe x = some y → x < 48 ∧ y < 48) : FE sw nd rm pe M' T fm := by
  have qF : ∀ x, x ∈ [806, 807, 813] → F.contains x = false := fun x hx => by have := List.all_eq_true.mp hF x hx; simpa using this
  have qG : ∀ x, x ∈ [5, 12, 14, 20, 21, 22] → T.1 x = S.1 x := fun x hx => l.i (by have := List.all_eq_true.mp hG x hx; simpa using this)
  have eu : ∀ z, upS T z = upS S z := fun z => by unfold upS; rw [qG 14 (by decide), qG 12 (by decide)]
  obtain ⟨h1, h2, h3, h4, h5, h6⟩ := h
  refine ⟨q.l h1, by rw [qG 5 (by decide)]; exact h2, fun x hx hu => ?_, fun x y e hu => ?_, fun x hx => ?_, fun x hx => ?_⟩
  · rw [eu] at hu
    rw [q.1 x (by omega), q.1 (48 + x) (by omega), (q.2 x hx).1 hu, qG 20 (by decide), k.fi (qF 806 (by decide)), k.fi (qF 807 (by decide))]
    exact h3 x hx hu
  · rw [eu] at hu
    obtain ⟨b1, b2⟩ := hx48 x y e
    rw [q.1 x (by omega), q.1 (48 + y) (by omega), qG 20 (by decide), k.fi (qF 806 (by decide)), k.fi (qF 807 (by decide))]
    exact h4 x y e hu
  · rw [q.1 x (by omega), qG 22 (by decide)]; exact h5 x hx
  · rw [k.fi (qF 813 (by decide)), qG 21 (by decide)]; exact h6 x hx
/-- a frame has left the buffers of x -/
theorem FE.lv (hI : cI sw nd rm M) (hW : WI sw nd M S w pe wo) (h : FE sw nd rm pe M S fl) (e : pe x = some y) (hf : fl (48 + x) = L :: r) (e806 : h_fi M' 806 = h_fi M 806) (e807 : h_fi M' 807 = u1 (h_fi M 807) (200 + y) (h_fi M 807 (200 + y) + 1)) (e813 : h_fi M' 813 = u1 (h_fi M 813) (200 + x) 0) (eu : ∀ z, upS T z = upS S z) (e5 : T.1 5 = S.1 5) (e20 : T.1 20 = u1 (S.1 20) x (S.1 20 x + 1)) (e21 : T.1 21 = u1 (S.1 21) x 0) (e22 : T.1 22 = S.1 22) (g1 : fm (48 + x) = r) (g2 : ∀ p, p < 96 → p ≠ 48 + x → fm p = fl p) (g3 : ∀ z, z < 48 → upS S z = 0 → fm (96 + z) = fl (96 + z)) (g4 : FLl fm) : FE sw nd rm pe M' T fm := by
  obtain ⟨h1, h2, h3, h4, h5, h6⟩ := h
  obtain ⟨hx, hy, e'⟩ := hW.sds e
  have hx8 := hI.x8 hx
  have hy8 := hI.x8 hy
  have hup : upS S x ≠ 0 := fun q => by
    have := (h3 x hx8 q).1.2.1
    rw [hf] at this
    cases this
  have hup2 : upS S y ≠ 0 := by rw [hW.both e]; exact hup
  refine ⟨g4, by rw [e5]; exact h2, fun z hz hu => ?_, fun z y' ez hu => ?_, fun z hz => ?_, fun z hz => ?_⟩
  · rw [eu] at hu
    have n1 : z ≠ x := fun q => hup (q ▸ hu)
    have n2 : z ≠ y := fun q => hup2 (q ▸ hu)
    rw [g2 z (by omega) (by omega), g2 (48 + z) (by omega) (by omega), g3 z hz hu, e20, u1_ne n1, e806, e807, u1_ne (by omega)]
    exact h3 z hz hu
  · rw [eu] at hu
    obtain ⟨hz, hy', ez'⟩ := hW.sds ez
    have hz8 := hI.x8 hz
    have hy8' := hI.x8 hy'
    obtain ⟨c, l, d1, d2, d3, d4⟩ := h4 z y' ez hu
    rw [e806, e807, e20, g2 z (by omega) (by omega)]
    by_cases q : z = y
    · subst q
      have : y' = x := by rw [e'] at ez; cases ez; rfl
      subst this
      rw [u1_eq, u1_eq, g1, d2, d3]
      rw [hf, List.length_cons] at d4
      exact ⟨c, l + 1, d1, nI_1 l, nI_1 l, by omega⟩
    · have n1 : y' ≠ x := fun z2 => by
        rw [z2, e] at ez'
        cases ez'
        exact q rfl
      rw [u1_ne (by omega), u1_ne n1, g2 (48 + y') (by omega) (by omega)]
      exact ⟨c, l, d1, d2, d3, d4⟩
  · rw [e22, g2 z (by omega) (by omega)]; exact h5 z hz
  · rw [e813, e21]
    by_cases q : z = x
    · subst q; rw [u1_eq, u1_eq]
    · rw [u1_ne (by omega), u1_ne q]; exact h6 z hz
theorem FLl_u (h : FLl fl) (hf : fl (48 + x) = L :: r) : FLl (u1 fl (48 + x) r) := fun p hp K hK => by
  by_cases q : p = 48 + x
  · subst q
    rw [u1_eq] at hK
    exact h _ hp K (by rw [hf]; exact List.mem_cons_of_mem _ hK)
  · rw [u1_ne q] at hK
    exact h p hp K hK
theorem FLb_u (h : FLb fl) (hx : x < 48) (hf : fl (48 + x) = L :: r) : FLb (u1 fl (48 + x) r) := fun z hz => by
  obtain ⟨b1, b2, b3⟩ := h z hz
  rw [u1_ne (show z ≠ 48 + x by omega), u1_ne (show 96 + z ≠ 48 + x by omega)]
  by_cases q : z = x
  · subst q
    rw [u1_eq]
    rw [hf, List.length_cons] at b2
    exact ⟨b1, by omega, b3⟩
  · rw [u1_ne (by omega)]
    exact ⟨b1, b2, b3⟩
/-- the first of the buffers, as both sides read it -/
theorem PB_pk (hI : cI sw nd rm M) (h : PB sw nd M S ia zb sb flc flr hc hs) (hx : sd sw nd x) (hf : flc (48 + x) = L :: r) : ∃ a, h_fr M 300 (300 + x) = some a ∧ 1000 ≤ a ∧ rd M a L ∧ (h_fi M 202 a = 0 → tru sw nd L = true) := by
  have hx8 := hI.x8 hx
  obtain ⟨ct, h1, -⟩ := h
  obtain ⟨a, g, M', a1, a2, a3, a4, -, -, a5, -⟩ := FC_tak (p := 48 + x) hI h1 (by omega) (by omega) (by rw [md_b hx8]; exact hx) (by rw [lq_b hx8]; exact hI.po7 hx) hf
  rw [lq_b hx8] at a1
  obtain ⟨b1, b2, z, b3, b4⟩ := a4
  have e := fcC_z b3 b4
  rw [a2] at e
  have hz : L.length = z := by rw [e, fbl_len]
  refine ⟨a, a1, b2, ⟨b1, by rw [hz]; exact b3, by omega, by rw [hz]; exact e.symm⟩, fun q => ?_⟩
  have a5 : if 48 + x < 96 then (g = 0 → tru sw nd L = true) else (g = 0 ∧ tru sw nd (clL L) = true) := a5
  rw [if_pos (by omega)] at a5
  exact a5 (by rw [← a3]; exact q)
theorem PB_pkS (h : PB sw nd M S ia zb sb flc flr hc hs) (hx : x < 48) (hf : flr (48 + x) = L :: r) : ∃ f, S.1 16 (x * 4) = nI f ∧ rdS S f L ∧ S.1 17 x = nI (r.length + 1) := by
  obtain ⟨ct, h1, h2, h3, h4, -⟩ := h
  obtain ⟨f, T, -, a1, -, -, -, a2, a3, a4, a5⟩ := FR_lea h2 hx h4 hf
  obtain ⟨b1, -⟩ := h2.bl hx
  rw [hf] at b1
  exact ⟨f, a2, ⟨a1, a4, a5, a3⟩, b1⟩
end FEs
