/-! ===== the class's frames: what they hold ===== -/
def fT (cB : Nat → List Int32) (fg : Nat → Int32) (tr : List Int32 → Bool) (cl : Nat → List Nat) (fl : Nat → List (List Int32)) (hl : List (Nat × Int32 × List Int32)) : Prop :=
  (cl 145 = hl.map (fun t => t.1) ∧ ∀ t, t ∈ hl → fg t.1 = t.2.1 ∧ cB t.1 = t.2.2) ∧ (∀ p, p < 144 → (cl p).map cB = fl p) ∧ (∀ p a, p < 96 → a ∈ cl p → fg a = 0 → tr (cB a) = true) ∧ ∀ p a, 96 ≤ p → p < 144 → a ∈ cl p → fg a = 0 ∧ tr (clL (cB a)) = true
section FT
variable {cB cC : Nat → List Int32} {fg fh : Nat → Int32} {tr : List Int32 → Bool} {cl : Nat → List Nat} {fl : Nat → List (List Int32)} {hl : List (Nat × Int32 × List Int32)} {a p q : Nat} {g : Int32} {L : List Int32} {l m : List Nat}
/-- held to spare -/
theorem fT_rel (h : fT cB fg tr cl fl ((a, g, L) :: hl)) : ∃ l, cl 145 = a :: l ∧ fT cB fg tr (u1 (u1 cl 145 l) 144 m) fl hl := by
  obtain ⟨⟨h1, h2⟩, h3, h4, h5⟩ := h
  refine ⟨hl.map (fun t : Nat × Int32 × List Int32 => t.1), h1, ⟨by rw [u1_ne (by omega), u1_eq], fun t ht => h2 t (List.mem_cons_of_mem _ ht)⟩, fun p hp => ?_, fun p b hp hb => ?_, fun p b hp hq hb => ?_⟩
  · rw [u1_ne (by omega), u1_ne (by omega)]; exact h3 p hp
  · rw [u1_ne (by omega), u1_ne (by omega)] at hb; exact h4 p b hp hb
  · rw [u1_ne (by omega), u1_ne (by omega)] at hb; exact h5 p b hp hq hb
/-- spare to held -/
theorem fT_dra (h : fT cB fg tr cl fl hl) : fT cB fg tr (u1 (u1 cl 144 l) 145 (a :: cl 145)) fl ((a, fg a, cB a) :: hl) := by
  obtain ⟨⟨h1, h2⟩, h3, h4, h5⟩ := h
  refine ⟨⟨by rw [u1_eq, h1]; rfl, fun t ht => ?_⟩, fun p hp => ?_, fun p b hp hb => ?_, fun p b hp hq hb => ?_⟩
  · rcases List.mem_cons.mp ht with rfl | ht
    · exact ⟨rfl, rfl⟩
    · exact h2 t ht
  · rw [u1_ne (by omega), u1_ne (by omega)]; exact h3 p hp
  · rw [u1_ne (by omega), u1_ne (by omega)] at hb; exact h4 p b hp hb
  · rw [u1_ne (by omega), u1_ne (by omega)] at hb; exact h5 p b hp hq hb
theorem fT_new (h : fT cB fg tr cl fl hl) : fT cB fg tr (u1 cl 145 (a :: cl 145)) fl ((a, fg a, cB a) :: hl) := by
  obtain ⟨⟨h1, h2⟩, h3, h4, h5⟩ := h
  refine ⟨⟨by rw [u1_eq, h1]; rfl, fun t ht => ?_⟩, fun p hp => ?_, fun p b hp hb => ?_, fun p b hp hq hb => ?_⟩
  · rcases List.mem_cons.mp ht with rfl | ht
    · exact ⟨rfl, rfl⟩
    · exact h2 t ht
  · rw [u1_ne (by omega)]; exact h3 p hp
  · rw [u1_ne (by omega)] at hb; exact h4 p b hp hb
  · rw [u1_ne (by omega)] at hb; exact h5 p b hp hq hb
/-- what holds of a frame where it is -/
def fW (tr : List Int32 → Bool) (p : Nat) (g : Int32) (L : List Int32) : Prop := if p < 96 then (g = 0 → tr L = true) else (g = 0 ∧ tr (clL L) = true)
theorem fT_at (h : fT cB fg tr cl fl hl) (hp : p < 144) {r : List (List Int32)} (hf : fl p = L :: r) : ∃ a l, cl p = a :: l ∧ cB a = L ∧ fW tr p (fg a) L := by
  obtain ⟨-, h3, h4, h5⟩ := h
  have e := h3 p hp
  rw [hf] at e
  cases hc : cl p with
  | nil => rw [hc] at e; cases e
  | cons a l =>
    rw [hc] at e
    have ea : cB a = L := (List.cons.inj e).1
    refine ⟨a, l, rfl, ea, ?_⟩
    have hm : a ∈ cl p := by rw [hc]; exact List.mem_cons_self
    unfold fW
    by_cases q : p < 96
    · rw [if_pos q, ← ea]; exact h4 p a q hm
    · rw [if_neg q, ← ea]; exact h5 p a (by omega) hp hm
theorem fT_nil (h : fT cB fg tr cl fl hl) (hp : p < 144) (hf : fl p = []) : cl p = [] := by
  have e := h.2.1 p hp
  rw [hf] at e
  exact List.map_eq_nil_iff.mp e
/-- the first of a place, held -/
theorem fT_tak (h : fT cB fg tr cl fl hl) (hp : p < 144) {r : List (List Int32)} (hf : fl p = L :: r) (hc : cl p = a :: l) : fT cB fg tr (u1 (u1 cl p l) 145 (a :: cl 145)) (u1 fl p r) ((a, fg a, L) :: hl) := by
  obtain ⟨⟨h1, h2⟩, h3, h4, h5⟩ := h
  have e := h3 p hp
  rw [hf, hc] at e
  obtain ⟨e1, e2⟩ := List.cons.inj e
  have hs : ∀ q b, q < 144 → b ∈ u1 (u1 cl p l) 145 (a :: cl 145) q → b ∈ cl q := by
    intro q b hq hb
    rw [u1_ne (by omega)] at hb
    by_cases z : q = p
    · subst z; rw [u1_eq] at hb; rw [hc]; exact List.mem_cons_of_mem _ hb
    · rw [u1_ne z] at hb; exact hb
  refine ⟨⟨by rw [u1_eq, h1]; rfl, fun t ht => ?_⟩, fun q hq => ?_, fun q b hq hb => h4 q b hq (hs q b (by omega) hb), fun q b hq hr hb => h5 q b hq hr (hs q b hr hb)⟩
  · rcases List.mem_cons.mp ht with rfl | ht
    · exact ⟨rfl, e1⟩
    · exact h2 t ht
  · rw [u1_ne (by omega)]
    by_cases z : q = p
    · subst z; rw [u1_eq, u1_eq]; exact e2
    · rw [u1_ne z, u1_ne z]; exact h3 q hq
/-- held, to the end of a place -/
theorem fT_add (h : fT cB fg tr cl fl ((a, g, L) :: hl)) (hp : p < 144) (hw : fW tr p g L) : ∃ l, cl 145 = a :: l ∧ fT cB fg tr (u1 (u1 cl 145 l) p (cl p ++ [a])) (u1 fl p (fl p ++ [L])) hl := by
  obtain ⟨⟨h1, h2⟩, h3, h4, h5⟩ := h
  obtain ⟨g1, g2⟩ := h2 _ List.mem_cons_self
  have g1 : fg a = g := g1
  have g2 : cB a = L := g2
  have hs : ∀ q b, q < 144 → b ∈ u1 (u1 cl 145 (hl.map (fun t => t.1))) p (cl p ++ [a]) q → b ∈ cl q ∨ (q = p ∧ b = a) := by
    intro q b hq hb
    by_cases z : q = p
    · subst z
      rw [u1_eq] at hb
      rcases List.mem_append.mp hb with hb | hb
      · exact Or.inl hb
      · exact Or.inr ⟨rfl, List.mem_singleton.mp hb⟩
    · rw [u1_ne z, u1_ne (by omega)] at hb; exact Or.inl hb
  refine ⟨hl.map (fun t : Nat × Int32 × List Int32 => t.1), h1, ⟨by rw [u1_ne (by omega), u1_eq], fun t ht => h2 t (List.mem_cons_of_mem _ ht)⟩, fun q hq => ?_, fun q b hq hb => ?_, fun q b hq hr hb => ?_⟩
  · by_cases z : q = p
    · subst z; rw [u1_eq, u1_eq, List.map_append, h3 q hq, ← g2]; rfl
    · rw [u1_ne z, u1_ne z, u1_ne (by omega)]; exact h3 q hq
  · rcases hs q b (by omega) hb with hb | ⟨rfl, rfl⟩
    · exact h4 q b hq hb
    · unfold fW at hw
      rw [if_pos hq] at hw
      rw [g1, g2]
      exact hw
  · rcases hs q b hr hb with hb | ⟨rfl, rfl⟩
    · exact h5 q b hq hr hb
    · unfold fW at hw
      rw [if_neg (by omega)] at hw
      rw [g1, g2]
      exact hw
/-- a held frame's contents anew -/
theorem fT_con (hD : fD cl) (h : fT cB fg tr cl fl ((a, g, L) :: hl)) {g2 : Int32} {L2 : List Int32} (e1 : ∀ b, b ≠ a → cC b = cB b ∧ fh b = fg b) (e2 : cC a = L2) (e3 : fh a = g2) : fT cC fh tr cl fl ((a, g2, L2) :: hl) := by
  obtain ⟨⟨h1, h2⟩, h3, h4, h5⟩ := h
  have hc : cl 145 = a :: hl.map (fun t => t.1) := h1
  have hna : ∀ q b, q ≠ 145 → b ∈ cl q → b ≠ a := fun q b hq hb => notin hD hc hq hb
  have hnn : a ∉ hl.map (fun t => t.1) := by
    have := hD.2 145
    rw [hc] at this
    exact (List.nodup_cons.mp this).1
  refine ⟨⟨h1, fun t ht => ?_⟩, fun p hp => ?_, fun p b hp hb hz => ?_, fun p b hp hq hb => ?_⟩
  · rcases List.mem_cons.mp ht with rfl | ht
    · exact ⟨e3, e2⟩
    · have : t.1 ≠ a := fun z => hnn (z ▸ List.mem_map_of_mem ht)
      obtain ⟨k1, k2⟩ := e1 _ this
      rw [k1, k2]
      exact h2 t (List.mem_cons_of_mem _ ht)
  · rw [← h3 p hp]
    exact List.map_congr_left (fun b hb => (e1 b (hna p b (by omega) hb)).1)
  · obtain ⟨k1, k2⟩ := e1 b (hna p b (by omega) hb)
    rw [k2] at hz
    rw [k1]
    exact h4 p b hp hb hz
  · obtain ⟨k1, k2⟩ := e1 b (hna p b (by omega) hb)
    rw [k1, k2]
    exact h5 p b hp hq hb
/-- a frame on the way: a bit of it turned over -/
theorem fT_flp (hD : fD cl) (h : fT cB fg tr cl fl hl) (hp : p < 96) (hc : cl p = [a]) {L2 : List Int32} (e1 : ∀ b, b ≠ a → cC b = cB b ∧ fh b = fg b) (e2 : cC a = L2) (e3 : fh a ≠ 0) : fT cC fh tr cl (u1 fl p [L2]) hl := by
  obtain ⟨⟨h1, h2⟩, h3, h4, h5⟩ := h
  have hna : ∀ q b, q ≠ p → b ∈ cl q → b ≠ a := fun q b hq hb => notin hD hc hq hb
  refine ⟨⟨h1, fun t ht => ?_⟩, fun q hq => ?_, fun q b hq hb hz => ?_, fun q b hq hr hb => ?_⟩
  · have : t.1 ≠ a := hna 145 t.1 (by omega) (by rw [h1]; exact List.mem_map_of_mem ht)
    obtain ⟨k1, k2⟩ := e1 _ this
    rw [k1, k2]
    exact h2 t ht
  · by_cases z : q = p
    · subst z
      rw [u1_eq, hc]
      show [cC a] = [L2]
      rw [e2]
    · rw [u1_ne z, ← h3 q hq]
      exact List.map_congr_left (fun b hb => (e1 b (hna q b z hb)).1)
  · by_cases y : b = a
    · subst y
      exact absurd hz e3
    · obtain ⟨k1, k2⟩ := e1 b y
      rw [k2] at hz
      rw [k1]
      exact h4 q b hq hb hz
  · obtain ⟨k1, k2⟩ := e1 b (hna q b (by omega) hb)
    rw [k1, k2]
    exact h5 q b hq hr hb
end FT
/-! ===== the class's frames, all in all ===== -/
def fcC (M : hM) (a : Nat) : List Int32 := fbl M (a + 1) (h_fi M 201 a).toNatClampNeg
def fOK (M : hM) (a : Nat) : Prop := isFb M a (a + 1) ∧ 1000 ≤ a ∧ ∃ z, h_fi M 201 a = nI z ∧ z ≤ 48
theorem fcC_z {M : hM} {a z : Nat} (h : h_fi M 201 a = nI z) (hz : z ≤ 48) : fcC M a = fbl M (a + 1) z := by
  unfold fcC
  rw [h, nI_clamp (by omega)]
/-- ia: the other int arrays; ct: the counts; zb, sb: the room without the frames; fl: what lies where; hl: what is held -/
def FC (tr : List Int32 → Bool) (sw nd : Nat) (M : hM) (ia : Nat → Nat → Int32) (ct : Nat → Int32) (zb sb : Nat) (fl : Nat → List (List Int32)) (hl : List (Nat × Int32 × List Int32)) : Prop :=
  ((∀ a, (a < 1000 ∨ h_tg M a = 20) → a ≠ 3 → h_ai M a = ia a) ∧ h_ai M 3 = ct ∧ bk M) ∧
  ∃ cl, fD cl ∧ (∀ p a, a ∈ cl p → fOK M a) ∧ fS sw nd (h_fr M 203) (h_fr M 300) (h_fr M 301) (h_fi M 302) (h_fr M 808) (h_fr M 907 2) cl ∧ fT (fcC M) (h_fi M 202) tr cl fl hl ∧ h_sz M = zb + 2 * sumL cl 146 ∧ h_sl M = sb + 52 * sumL cl 146 ∧ sumL cl 146 ≤ 1790
/-- what else changes is nothing to the frames -/
theorem FC.cg {tr : List Int32 → Bool} {sw nd : Nat} {M M' : hM} {ia : Nat → Nat → Int32} {ct : Nat → Int32} {zb sb : Nat} {fl : Nat → List (List Int32)} {hl : List (Nat × Int32 × List Int32)} {F : List Nat} (h : FC tr sw nd M ia ct zb sb fl hl) (k : kp F [] M M') (hF : [200, 201, 202, 203, 300, 301, 302, 808, 907].all (fun x => ! F.contains x) = true) : FC tr sw nd M' ia ct zb sb fl hl := by
  have qF : ∀ x, x ∈ [200, 201, 202, 203, 300, 301, 302, 808, 907] → F.contains x = false := fun x hx => by have := List.all_eq_true.mp hF x hx; simpa using this
  obtain ⟨⟨h1, h2, h3⟩, cl, c1, c2, c3, c4, c5, c6⟩ := h
  obtain ⟨s1, s2, s3, s4⟩ := k.2.2.2.2 (by intro q; cases q)
  have ai : ∀ a, h_ai M' a = h_ai M a := fun a => (k.2.2.2.1 a (by intro q; cases q)).1
  have eC : fcC M' = fcC M := funext fun a => by
    unfold fcC fbl
    rw [ai, k.fi (qF 201 (by decide))]
  refine ⟨⟨fun a ha h3 => ?_, by rw [ai]; exact h2, k.1⟩, cl, c1, fun p a ha => ?_, ?_, ?_, by rw [s1]; exact c5, by rw [s2]; exact c6⟩
  · rw [ai]
    rw [s3] at ha
    exact h1 a ha h3
  · obtain ⟨⟨d1, d2, d3, d4⟩, d5, d6⟩ := c2 p a ha
    refine ⟨⟨by rw [s3]; exact d1, by rw [k.fr (qF 200 (by decide))]; exact d2, by rw [s3]; exact d3, by rw [s4]; exact d4⟩, d5, ?_⟩
    rw [k.fi (qF 201 (by decide))]
    exact d6
  · rw [k.fr (qF 203 (by decide)), k.fr (qF 300 (by decide)), k.fr (qF 301 (by decide)), k.fi (qF 302 (by decide)), k.fr (qF 808 (by decide)), k.fr (qF 907 (by decide))]
    exact c3
  · rw [eC, k.fi (qF 202 (by decide))]
    exact c4
