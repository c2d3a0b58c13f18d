/-! ===== the reference's frames: who is where ===== -/
def oI (o : Option Nat) : Int32 := match o with
  | none => -1
  | some f => nI f
/-- the k-th place of x, b wide, holds the list l -/
def arL (f : Nat → Int32) (b : Nat) (l : List Nat) : Prop := ∀ i g, l[i]? = some g → f (b + i) = nI g
def rS (b8 b15 b16 b17 b18 b19 : Nat → Int32) (n9 : Int32) (rl : Nat → List Nat) : Prop :=
  (∀ x, x < 48 → b15 x = oI (rl x).head? ∧ (b17 x = nI (rl (48 + x)).length ∧ arL b16 (x * 4) (rl (48 + x))) ∧ b19 x = nI (rl (96 + x)).length ∧ arL b18 (x * 32) (rl (96 + x))) ∧ n9 = nI (rl 144).length ∧ arL b8 0 (rl 144).reverse
def rT (cB : Nat → List Int32) (rl : Nat → List Nat) (fl : Nat → List (List Int32)) (hl : List (Nat × List Int32)) : Prop :=
  (rl 145 = hl.map (fun t => t.1) ∧ ∀ t, t ∈ hl → cB t.1 = t.2) ∧ (∀ p, p < 96 → (rl p).map cB = fl p) ∧ ∀ p, 96 ≤ p → p < 144 → (rl p).map cB = (fl p).map clL
def FR (S : sT) (fl : Nat → List (List Int32)) (hl : List (Nat × List Int32)) : Prop := ∃ rl, fD rl ∧ (∀ p f, f ∈ rl p → f < 1800 ∧ ∃ z, S.1 7 f = nI z ∧ z ≤ 80) ∧ rS (S.1 8) (S.1 15) (S.1 16) (S.1 17) (S.1 18) (S.1 19) (S.1 9 0) rl ∧ rT (frl S) rl fl hl ∧ sumL rl 146 = 1800
section RS
variable {b8 b15 b16 b17 b18 b19 : Nat → Int32} {n9 : Int32} {rl : Nat → List Nat} {f p x : Nat} {l : List Nat} {cB cC : Nat → List Int32} {fl : Nat → List (List Int32)} {hl : List (Nat × List Int32)} {L : List Int32}
theorem arL_cg {g h : Nat → Int32} {b : Nat} {l : List Nat} (e : ∀ i, i < l.length → h (b + i) = g (b + i)) (a : arL g b l) : arL h b l := fun i f hi => by
  have := List.getElem?_eq_some_iff.mp hi
  rw [e i this.1]
  exact a i f hi
theorem arL_ap {g h : Nat → Int32} {b f : Nat} {l : List Nat} (a : arL g b l) (e : ∀ i, i < l.length → h (b + i) = g (b + i)) (e1 : h (b + l.length) = nI f) : arL h b (l ++ [f]) := fun i k hi => by
  by_cases q : i < l.length
  · rw [List.getElem?_append_left q] at hi
    rw [e i q]
    exact a i k hi
  · rw [List.getElem?_append_right (by omega)] at hi
    have : i - l.length = 0 := by
      by_cases z : i - l.length = 0
      · exact z
      · rw [List.getElem?_eq_none (by simp; omega)] at hi
        cases hi
    rw [this] at hi
    cases hi
    rw [show i = l.length by omega]
    exact e1
theorem arL_tl {g h : Nat → Int32} {b f : Nat} {l : List Nat} (a : arL g b (f :: l)) (e : ∀ i, i < l.length → h (b + i) = g (b + i + 1)) : g b = nI f ∧ arL h b l := by
  refine ⟨a 0 f rfl, fun i k hi => ?_⟩
  have := (List.getElem?_eq_some_iff.mp hi).1
  rw [e i this]
  exact a (i + 1) k hi
/-- held to free -/
theorem rS_drop (h : rS b8 b15 b16 b17 b18 b19 n9 rl) : n9 = nI (rl 144).length ∧ rS (u1 b8 (rl 144).length (nI f)) b15 b16 b17 b18 b19 (nI ((rl 144).length + 1)) (u1 (u1 rl 145 l) 144 (f :: rl 144)) := by
  obtain ⟨h1, h2, h3⟩ := h
  refine ⟨h2, fun x hx => ?_, by rw [u1_eq]; rfl, ?_⟩
  · rw [u1_ne (by omega), u1_ne (by omega), u1_ne (by omega), u1_ne (by omega), u1_ne (by omega), u1_ne (by omega)]
    exact h1 x hx
  · rw [u1_eq, List.reverse_cons]
    refine arL_ap h3 (fun i hi => u1_ne (by rw [List.length_reverse] at hi; omega)) ?_
    rw [List.length_reverse, Nat.zero_add, u1_eq]
/-- free to held -/
theorem rS_beg (h : rS b8 b15 b16 b17 b18 b19 n9 rl) (hp : rl 144 = f :: l) : n9 = nI (l.length + 1) ∧ b8 l.length = nI f ∧ rS b8 b15 b16 b17 b18 b19 (nI l.length) (u1 (u1 rl 144 l) 145 (f :: rl 145)) := by
  obtain ⟨h1, h2, h3⟩ := h
  rw [hp] at h2 h3
  rw [List.reverse_cons] at h3
  refine ⟨h2, ?_, fun x hx => ?_, by rw [u1_ne (by omega), u1_eq], ?_⟩
  · have := h3 l.length f (by rw [List.getElem?_append_right (by rw [List.length_reverse]; omega), List.length_reverse]; simp)
    rw [Nat.zero_add] at this
    exact this
  · rw [u1_ne (by omega), u1_ne (by omega), u1_ne (by omega), u1_ne (by omega), u1_ne (by omega), u1_ne (by omega)]
    exact h1 x hx
  · rw [u1_ne (by omega), u1_eq]
    intro i g hi
    refine h3 i g ?_
    rw [List.getElem?_append_left (List.getElem?_eq_some_iff.mp hi).1]
    exact hi
/-- held, to the end of a queue -/
theorem rS_que {b18' : Nat → Int32} (h : rS b8 b15 b16 b17 b18 b19 n9 rl) (hx : x < 48) (e1 : ∀ j, j ≠ x * 32 + (rl (96 + x)).length → b18' j = b18 j) (e2 : b18' (x * 32 + (rl (96 + x)).length) = nI f) (h32 : (rl (96 + x)).length < 32) (hb : ∀ y, y < 48 → (rl (96 + y)).length ≤ 32) : rS b8 b15 b16 b17 b18' (u1 b19 x (nI ((rl (96 + x)).length + 1))) n9 (u1 (u1 rl 145 l) (96 + x) (rl (96 + x) ++ [f])) := by
  obtain ⟨h1, h2, h3⟩ := h
  refine ⟨fun y hy => ?_, by rw [u1_ne (by omega), u1_ne (by omega)]; exact h2, by rw [u1_ne (by omega), u1_ne (by omega)]; exact h3⟩
  obtain ⟨g1, g2, g3, g4⟩ := h1 y hy
  rw [u1_ne (show y ≠ 96 + x by omega), u1_ne (show y ≠ 145 by omega), u1_ne (show 48 + y ≠ 96 + x by omega), u1_ne (show 48 + y ≠ 145 by omega)]
  refine ⟨g1, g2, ?_⟩
  by_cases e : y = x
  · subst e
    rw [u1_eq, u1_eq, List.length_append]
    exact ⟨rfl, arL_ap g4 (fun i hi => e1 _ (by omega)) e2⟩
  · rw [u1_ne e, u1_ne (by omega), u1_ne (by omega)]
    have := hb y hy
    exact ⟨g3, arL_cg (fun i hi => e1 _ (by omega)) g4⟩
/-- the first of a queue, on the way -/
theorem rS_snd {b18' : Nat → Int32} (h : rS b8 b15 b16 b17 b18 b19 n9 rl) (hx : x < 48) (hw : rl x = []) (hp : rl (96 + x) = f :: l) (e1 : ∀ j, (j < x * 32 ∨ x * 32 + 32 ≤ j) → b18' j = b18 j) (e2 : ∀ i, i < l.length → b18' (x * 32 + i) = b18 (x * 32 + i + 1)) (hb : ∀ y, y < 48 → (rl (96 + y)).length ≤ 32) : b19 x = nI (l.length + 1) ∧ b18 (x * 32) = nI f ∧ rS b8 (u1 b15 x (nI f)) b16 b17 b18' (u1 b19 x (nI l.length)) n9 (u1 (u1 rl (96 + x) l) x [f]) := by
  obtain ⟨h1, h2, h3⟩ := h
  obtain ⟨-, -, gx3, gx4⟩ := h1 x hx
  rw [hp] at gx3 gx4
  refine ⟨gx3, (arL_tl gx4 e2).1, fun y hy => ?_, by rw [u1_ne (by omega), u1_ne (by omega)]; exact h2, by rw [u1_ne (by omega), u1_ne (by omega)]; exact h3⟩
  obtain ⟨g1, g2, g3, g4⟩ := h1 y hy
  rw [u1_ne (show 48 + y ≠ x by omega), u1_ne (show 48 + y ≠ 96 + x by omega), u1_ne (show 96 + y ≠ x by omega)]
  by_cases e : y = x
  · subst e
    rw [u1_eq, u1_eq, u1_eq, u1_eq]
    exact ⟨rfl, g2, rfl, (arL_tl gx4 e2).2⟩
  · rw [u1_ne e, u1_ne e, u1_ne e, u1_ne (show y ≠ 96 + x by omega), u1_ne (show 96 + y ≠ 96 + x by omega)]
    have := hb y hy
    exact ⟨g1, g2, g3, arL_cg (fun i hi => e1 _ (by omega)) g4⟩
/-- the first of the buffers, held -/
theorem rS_lea {b16' : Nat → Int32} (h : rS b8 b15 b16 b17 b18 b19 n9 rl) (hx : x < 48) (hp : rl (48 + x) = f :: l) (e1 : ∀ j, (j < x * 4 ∨ x * 4 + 4 ≤ j) → b16' j = b16 j) (e2 : ∀ i, i < l.length → b16' (x * 4 + i) = b16 (x * 4 + i + 1)) (hb : ∀ y, y < 48 → (rl (48 + y)).length ≤ 4) : b17 x = nI (l.length + 1) ∧ b16 (x * 4) = nI f ∧ rS b8 b15 b16' (u1 b17 x (nI l.length)) b18 b19 n9 (u1 (u1 rl (48 + x) l) 145 (f :: rl 145)) := by
  obtain ⟨h1, h2, h3⟩ := h
  obtain ⟨-, ⟨gx3, gx4⟩, -⟩ := h1 x hx
  rw [hp] at gx3 gx4
  refine ⟨gx3, (arL_tl gx4 e2).1, fun y hy => ?_, by rw [u1_ne (by omega), u1_ne (by omega)]; exact h2, by rw [u1_ne (by omega), u1_ne (by omega)]; exact h3⟩
  obtain ⟨g1, ⟨g2, g3⟩, g4⟩ := h1 y hy
  rw [u1_ne (show y ≠ 145 by omega), u1_ne (show y ≠ 48 + x by omega), u1_ne (show 96 + y ≠ 145 by omega), u1_ne (show 96 + y ≠ 48 + x by omega), u1_ne (show 48 + y ≠ 145 by omega)]
  refine ⟨g1, ?_, g4⟩
  by_cases e : y = x
  · subst e
    rw [u1_eq, u1_eq]
    exact ⟨rfl, (arL_tl gx4 e2).2⟩
  · rw [u1_ne e, u1_ne (show 48 + y ≠ 48 + x by omega)]
    have := hb y hy
    exact ⟨g2, arL_cg (fun i hi => e1 _ (by omega)) g3⟩
/-- held, on the way -/
theorem rS_way (h : rS b8 b15 b16 b17 b18 b19 n9 rl) (hx : x < 48) (hw : rl x = []) : rS b8 (u1 b15 x (nI f)) b16 b17 b18 b19 n9 (u1 (u1 rl 145 l) x [f]) := by
  obtain ⟨h1, h2, h3⟩ := h
  refine ⟨fun y hy => ?_, by rw [u1_ne (by omega), u1_ne (by omega)]; exact h2, by rw [u1_ne (by omega), u1_ne (by omega)]; exact h3⟩
  obtain ⟨g1, g2, g3, g4⟩ := h1 y hy
  rw [u1_ne (show 48 + y ≠ x by omega), u1_ne (show 48 + y ≠ 145 by omega), u1_ne (show 96 + y ≠ x by omega), u1_ne (show 96 + y ≠ 145 by omega)]
  refine ⟨?_, g2, g3, g4⟩
  by_cases e : y = x
  · subst e; rw [u1_eq, u1_eq]; rfl
  · rw [u1_ne e, u1_ne e, u1_ne (by omega)]; exact g1
/-- from the way to the end of the buffers of y -/
theorem rS_arr {y : Nat} (h : rS b8 b15 b16 b17 b18 b19 n9 rl) (hx : x < 48) (hy : y < 48) (hw : rl x = [f]) (h4 : (rl (48 + y)).length < 4) (hb : ∀ y, y < 48 → (rl (48 + y)).length ≤ 4) : b15 x = nI f ∧ b17 y = nI (rl (48 + y)).length ∧ rS b8 (u1 b15 x (-1)) (u1 b16 (y * 4 + (rl (48 + y)).length) (nI f)) (u1 b17 y (nI ((rl (48 + y)).length + 1))) b18 b19 n9 (u1 (u1 rl x []) (48 + y) (rl (48 + y) ++ [f])) := by
  obtain ⟨h1, h2, h3⟩ := h
  refine ⟨by rw [(h1 x hx).1, hw]; rfl, (h1 y hy).2.1.1, fun z hz => ?_, by rw [u1_ne (by omega), u1_ne (by omega)]; exact h2, by rw [u1_ne (by omega), u1_ne (by omega)]; exact h3⟩
  obtain ⟨g1, ⟨g2, g3⟩, g4⟩ := h1 z hz
  rw [u1_ne (show 96 + z ≠ 48 + y by omega), u1_ne (show 96 + z ≠ x by omega), u1_ne (show z ≠ 48 + y by omega)]
  refine ⟨?_, ?_, g4⟩
  · by_cases e : z = x
    · subst e; rw [u1_eq, u1_eq]; rfl
    · rw [u1_ne e, u1_ne e]; exact g1
  · by_cases e : z = y
    · subst e
      rw [u1_eq, u1_eq, List.length_append]
      exact ⟨rfl, arL_ap g3 (fun i hi => u1_ne (by omega)) u1_eq⟩
    · rw [u1_ne e, u1_ne (show 48 + z ≠ 48 + y by omega), u1_ne (show 48 + z ≠ x by omega)]
      have := hb z hz
      exact ⟨g2, arL_cg (fun i hi => u1_ne (by omega)) g3⟩
end RS
