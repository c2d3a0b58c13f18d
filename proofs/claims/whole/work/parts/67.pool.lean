/-! ===== the class's frames: who is where ===== -/
theorem fr_eq {M : hM} {k a : Nat} {v : Option Nat} : h_fr (h_pr M k a v) k = u1 (h_fr M k) a v := funext fun x => by
  show u2 (h_fr M) k a v k x = u1 (h_fr M k) a v x
  unfold u2 u1
  by_cases q : x = a
  · rw [if_pos ⟨rfl, q⟩, if_pos q]
  · rw [if_neg (fun z => q z.2), if_neg q]
theorem fr_ne {M : hM} {k j a : Nat} {v : Option Nat} (h : j ≠ k) : h_fr (h_pr M k a v) j = h_fr M j := funext fun x => u2_nk h
theorem fi_eq {M : hM} {k a : Nat} {v : Int32} : h_fi (h_pi M k a v) k = u1 (h_fi M k) a v := funext fun x => by
  show u2 (h_fi M) k a v k x = u1 (h_fi M k) a v x
  unfold u2 u1
  by_cases q : x = a
  · rw [if_pos ⟨rfl, q⟩, if_pos q]
  · rw [if_neg (fun z => q z.2), if_neg q]
theorem fi_ne {M : hM} {k j a : Nat} {v : Int32} (h : j ≠ k) : h_fi (h_pi M k a v) j = h_fi M j := funext fun x => u2_nk h
/-- a frame is in one place, once -/
def fD (cl : Nat → List Nat) : Prop := (∀ p q a, a ∈ cl p → a ∈ cl q → p = q) ∧ ∀ p, (cl p).Nodup
section MV
variable {cl : Nat → List Nat} {p q r a b : Nat} {l m : List Nat}
theorem mv_mem (h : fD cl) (hp : cl p = a :: l) (hpq : p ≠ q) (hm : ∀ b, b ∈ m ↔ b = a ∨ b ∈ cl q) (hb : b ∈ u1 (u1 cl p l) q m r) : (r = q ∧ b = a) ∨ (b ≠ a ∧ b ∈ cl r) := by
  have hap : a ∈ cl p := by rw [hp]; exact List.mem_cons_self
  have hal : a ∉ l := by
    have := h.2 p
    rw [hp] at this
    exact (List.nodup_cons.mp this).1
  by_cases e1 : r = q
  · subst e1
    rw [u1_eq] at hb
    rcases (hm b).mp hb with rfl | hb
    · exact Or.inl ⟨rfl, rfl⟩
    · refine Or.inr ⟨?_, hb⟩
      intro z
      subst z
      exact hpq (h.1 _ _ _ hap hb)
  · rw [u1_ne e1] at hb
    by_cases e2 : r = p
    · subst e2
      rw [u1_eq] at hb
      exact Or.inr ⟨fun z => hal (z ▸ hb), by rw [hp]; exact List.mem_cons_of_mem _ hb⟩
    · rw [u1_ne e2] at hb
      exact Or.inr ⟨fun z => e2 (h.1 _ _ _ (z ▸ hb) hap), hb⟩
theorem fD_mv (h : fD cl) (hp : cl p = a :: l) (hpq : p ≠ q) (hm : ∀ b, b ∈ m ↔ b = a ∨ b ∈ cl q) (hn : m.Nodup) : fD (u1 (u1 cl p l) q m) := by
  refine ⟨fun r s b hr hs => ?_, fun r => ?_⟩
  · rcases mv_mem h hp hpq hm hr with ⟨h1, h2⟩ | ⟨h1, h2⟩
    · rcases mv_mem h hp hpq hm hs with ⟨h3, h4⟩ | ⟨h3, h4⟩
      · rw [h1, h3]
      · exact absurd h2 h3
    · rcases mv_mem h hp hpq hm hs with ⟨h3, h4⟩ | ⟨h3, h4⟩
      · exact absurd h4 h1
      · exact h.1 _ _ _ h2 h4
  · by_cases e1 : r = q
    · subst e1; rw [u1_eq]; exact hn
    · rw [u1_ne e1]
      by_cases e2 : r = p
      · subst e2
        rw [u1_eq]
        have := h.2 r
        rw [hp] at this
        exact (List.nodup_cons.mp this).2
      · rw [u1_ne e2]; exact h.2 r
theorem mv_cons (h : fD cl) (hp : cl p = a :: l) (hpq : p ≠ q) : (∀ b, b ∈ a :: cl q ↔ b = a ∨ b ∈ cl q) ∧ (a :: cl q).Nodup :=
  ⟨fun b => List.mem_cons, List.nodup_cons.mpr ⟨fun z => hpq (h.1 _ _ _ (by rw [hp]; exact List.mem_cons_self) z), h.2 q⟩⟩
theorem mv_snoc (h : fD cl) (hp : cl p = a :: l) (hpq : p ≠ q) : (∀ b, b ∈ cl q ++ [a] ↔ b = a ∨ b ∈ cl q) ∧ (cl q ++ [a]).Nodup := by
  refine ⟨fun b => ?_, ?_⟩
  · rw [List.mem_append, List.mem_singleton]
    exact ⟨fun z => z.symm, fun z => z.symm⟩
  · rw [List.nodup_append]
    refine ⟨h.2 q, List.nodup_cons.mpr ⟨(fun z => nomatch z), List.nodup_nil⟩, fun x hx y hy => ?_⟩
    rw [List.mem_singleton.mp hy]
    intro z
    subst z
    exact hpq (h.1 _ _ _ (by rw [hp]; exact List.mem_cons_self) hx)
/-- a new one -/
theorem fD_new (h : fD cl) (hn : ∀ p, a ∉ cl p) : fD (u1 cl q (a :: cl q)) := by
  have hh : ∀ r b, b ∈ u1 cl q (a :: cl q) r → (r = q ∧ b = a) ∨ (b ≠ a ∧ b ∈ cl r) := by
    intro r b hb
    by_cases e : r = q
    · subst e
      rw [u1_eq] at hb
      rcases List.mem_cons.mp hb with rfl | hb
      · exact Or.inl ⟨rfl, rfl⟩
      · exact Or.inr ⟨fun z => hn r (z ▸ hb), hb⟩
    · rw [u1_ne e] at hb
      exact Or.inr ⟨fun z => hn r (z ▸ hb), hb⟩
  refine ⟨fun r s b hr hs => ?_, fun r => ?_⟩
  · rcases hh _ _ hr with ⟨h1, h2⟩ | ⟨h1, h2⟩
    · rcases hh _ _ hs with ⟨h3, h4⟩ | ⟨h3, h4⟩
      · rw [h1, h3]
      · exact absurd h2 h3
    · rcases hh _ _ hs with ⟨h3, h4⟩ | ⟨h3, h4⟩
      · exact absurd h4 h1
      · exact h.1 _ _ _ h2 h4
  · by_cases e : r = q
    · subst e; rw [u1_eq]; exact List.nodup_cons.mpr ⟨hn r, h.2 r⟩
    · rw [u1_ne e]; exact h.2 r
end MV
/-- the line of a place -/
def lq (p : Nat) : Nat := if p < 96 then 252 + p else 154 + p
def lnS (nx f0 f1 : Nat → Option Nat) (n2 : Nat → Int32) (q : Nat) (l : List Nat) : Prop := ch nx (f0 q) l ∧ f1 q = l.getLast? ∧ n2 q = nI l.length
/-- how they hang together -/
def fS (sw nd : Nat) (nx f0 f1 : Nat → Option Nat) (n2 : Nat → Int32) (se : Nat → Option Nat) (sp : Option Nat) (cl : Nat → List Nat) : Prop :=
  (∀ x, sd sw nd x → se (200 + x) = (cl x).head?) ∧ (∀ p, 48 ≤ p → p < 144 → sd sw nd (p % 48) → lnS nx f0 f1 n2 (lq p) (cl p)) ∧ ch nx sp (cl 144)
theorem lnS.cg {nx ny f0 f1 : Nat → Option Nat} {n2 : Nat → Int32} {q : Nat} {l : List Nat} (h : lnS nx f0 f1 n2 q l) (he : ∀ a, a ∈ l → ny a = nx a) : lnS ny f0 f1 n2 q l := ⟨ch_cg he h.1, h.2⟩
theorem sd_lt {sw nd x : Nat} (h : sd sw nd x) (hs : sw ≤ 5) (hn : nd ≤ 8) : x < 48 := by rcases h with h | h <;> omega
section FS
variable {sw nd : Nat} {nx f0 f1 se : Nat → Option Nat} {n2 : Nat → Int32} {sp : Option Nat} {cl : Nat → List Nat} {a p q x : Nat} {l : List Nat}
theorem notin (hD : fD cl) (hp : cl p = a :: l) {r b : Nat} (hr : r ≠ p) (hb : b ∈ cl r) : b ≠ a := fun z => hr (hD.1 _ _ _ (z ▸ hb) (by rw [hp]; exact List.mem_cons_self))
/-- held to spare -/
theorem fS_rel (hD : fD cl) (h : fS sw nd nx f0 f1 n2 se sp cl) (hs : sw ≤ 5) (hn : nd ≤ 8) (hp : cl 145 = a :: l) : fS sw nd (u1 nx a sp) f0 f1 n2 se (some a) (u1 (u1 cl 145 l) 144 (a :: cl 144)) := by
  refine ⟨fun x hx => ?_, fun p h1 h2 h3 => ?_, ?_⟩
  · have := sd_lt hx hs hn
    rw [u1_ne (by omega), u1_ne (by omega)]
    exact h.1 x hx
  · rw [u1_ne (by omega), u1_ne (by omega)]
    exact (h.2.1 p h1 h2 h3).cg (fun b hb => u1_ne (notin hD hp (by omega) hb))
  · rw [u1_eq]
    refine ⟨rfl, ?_⟩
    rw [u1_eq]
    exact ch_cg (fun b hb => u1_ne (notin hD hp (by omega) hb)) h.2.2
/-- spare to held -/
theorem fS_dra (hD : fD cl) (h : fS sw nd nx f0 f1 n2 se sp cl) (hs : sw ≤ 5) (hn : nd ≤ 8) (hp : cl 144 = a :: l) : sp = some a ∧ fS sw nd (u1 nx a none) f0 f1 n2 se (nx a) (u1 (u1 cl 144 l) 145 (a :: cl 145)) := by
  have hc := h.2.2
  rw [hp] at hc
  have hal : a ∉ l := by
    have := hD.2 144
    rw [hp] at this
    exact (List.nodup_cons.mp this).1
  refine ⟨hc.1, fun x hx => ?_, fun p h1 h2 h3 => ?_, ?_⟩
  · have := sd_lt hx hs hn
    rw [u1_ne (by omega), u1_ne (by omega)]
    exact h.1 x hx
  · rw [u1_ne (by omega), u1_ne (by omega)]
    exact (h.2.1 p h1 h2 h3).cg (fun b hb => u1_ne (notin hD hp (by omega) hb))
  · rw [u1_ne (by omega), u1_eq]
    exact ch_cg (fun b hb => u1_ne (fun z => hal (z ▸ hb))) hc.2
/-- a new one, held -/
theorem fS_new (h : fS sw nd nx f0 f1 n2 se sp cl) (hs : sw ≤ 5) (hn : nd ≤ 8) (hc : ∀ p, a ∉ cl p) : fS sw nd (u1 nx a none) f0 f1 n2 se sp (u1 cl 145 (a :: cl 145)) := by
  refine ⟨fun x hx => ?_, fun p h1 h2 h3 => ?_, ?_⟩
  · have := sd_lt hx hs hn
    rw [u1_ne (by omega)]
    exact h.1 x hx
  · rw [u1_ne (by omega)]
    exact (h.2.1 p h1 h2 h3).cg (fun b hb => u1_ne (fun z => hc p (z ▸ hb)))
  · rw [u1_ne (by omega)]
    exact ch_cg (fun b hb => u1_ne (fun z => hc 144 (z ▸ hb))) h.2.2
theorem lq_ne {p r : Nat} (h : r ≠ p) (h1 : 48 ≤ p) (h2 : p < 144) (h3 : 48 ≤ r) (h4 : r < 144) : lq r ≠ lq p := by
  unfold lq
  split <;> split <;> omega
/-- the first of a line, held -/
theorem fS_tak (hD : fD cl) (h : fS sw nd nx f0 f1 n2 se sp cl) (hs : sw ≤ 5) (hn : nd ≤ 8) (h1 : 48 ≤ p) (h2 : p < 144) (hp : cl p = a :: l) (hsd : sd sw nd (p % 48)) : f0 (lq p) = some a ∧ (nx a = none ↔ l = []) ∧ n2 (lq p) = nI (l.length + 1) ∧ fS sw nd (u1 nx a none) (u1 f0 (lq p) (nx a)) (if nx a = none then u1 f1 (lq p) none else f1) (u1 n2 (lq p) (n2 (lq p) - 1)) se sp (u1 (u1 cl p l) 145 (a :: cl 145)) := by
  have hL := h.2.1 p h1 h2 hsd
  rw [hp] at hL
  obtain ⟨hc, hl, hz⟩ := hL
  have hal : a ∉ l := by
    have := hD.2 p
    rw [hp] at this
    exact (List.nodup_cons.mp this).1
  have hnn : nx a = none ↔ l = [] := by
    rw [ch_hd hc.2]
    exact List.head?_eq_none_iff
  refine ⟨hc.1, hnn, hz, fun x hx => ?_, fun r h3 h4 h5 => ?_, ?_⟩
  · have := sd_lt hx hs hn
    rw [u1_ne (by omega), u1_ne (by omega)]
    exact h.1 x hx
  · by_cases e : r = p
    · subst e
      rw [u1_ne (by omega), u1_eq]
      refine ⟨by rw [u1_eq]; exact ch_cg (fun b hb => u1_ne (fun z => hal (z ▸ hb))) hc.2, ?_, by rw [u1_eq, hz]; exact nI_pred _⟩
      by_cases q : nx a = none
      · rw [if_pos q, u1_eq, hnn.mp q]
        rfl
      · rw [if_neg q, hl]
        cases l with
        | nil => exact absurd (hnn.mpr rfl) q
        | cons c l => exact List.getLast?_cons_cons
    · rw [u1_ne (by omega), u1_ne e]
      obtain ⟨g1, g2, g3⟩ := h.2.1 r h3 h4 h5
      have hq := lq_ne e h1 h2 h3 h4
      refine ⟨by rw [u1_ne hq]; exact ch_cg (fun b hb => u1_ne (notin hD hp e hb)) g1, ?_, by rw [u1_ne hq]; exact g3⟩
      by_cases q : nx a = none
      · rw [if_pos q, u1_ne hq]; exact g2
      · rw [if_neg q]; exact g2
  · rw [u1_ne (by omega), u1_ne (by omega)]
    exact ch_cg (fun b hb => u1_ne (notin hD hp (by omega) hb)) h.2.2
/-- held, to the end of a line -/
theorem fS_add (hD : fD cl) (h : fS sw nd nx f0 f1 n2 se sp cl) (hs : sw ≤ 5) (hn : nd ≤ 8) (h1 : 48 ≤ p) (h2 : p < 144) (hp : cl 145 = a :: l) (hsd : sd sw nd (p % 48)) : n2 (lq p) = nI (cl p).length ∧ fS sw nd (match f1 (lq p) with | none => u1 nx a none | some z => u1 (u1 nx a none) z (some a)) (match f1 (lq p) with | none => u1 f0 (lq p) (some a) | some _ => f0) (u1 f1 (lq p) (some a)) (u1 n2 (lq p) (n2 (lq p) + 1)) se sp (u1 (u1 cl 145 l) p (cl p ++ [a])) := by
  obtain ⟨hc, hl, hz⟩ := h.2.1 p h1 h2 hsd
  have hoth : ∀ r, r ≠ p → r ≠ 145 → ∀ b, b ∈ cl r → (match f1 (lq p) with | none => u1 nx a none | some z => u1 (u1 nx a none) z (some a)) b = nx b := by
    intro r hr h5 b hb
    have hba : b ≠ a := notin hD hp h5 hb
    cases e : f1 (lq p) with
    | none => exact u1_ne hba
    | some z =>
      show u1 (u1 nx a none) z (some a) b = nx b
      rw [u1_ne (fun q => hr (hD.1 _ _ _ hb (by rw [q]; exact List.mem_of_getLast? (hl.symm.trans e)))), u1_ne hba]
  refine ⟨hz, fun x hx => ?_, fun r h3 h4 h5 => ?_, ?_⟩
  · have := sd_lt hx hs hn
    rw [u1_ne (by omega), u1_ne (by omega)]
    exact h.1 x hx
  · by_cases e : r = p
    · subst e
      rw [u1_eq]
      refine ⟨?_, by rw [u1_eq, List.getLast?_append]; rfl, by rw [u1_eq, hz, nI_1, List.length_append]; rfl⟩
      cases e : f1 (lq r) with
      | none =>
        have hnil : cl r = [] := by
          rw [e] at hl
          exact List.getLast?_eq_none_iff.mp hl.symm
        rw [hnil]
        show ch (u1 nx a none) (u1 f0 (lq r) (some a) (lq r)) [a]
        rw [u1_eq]
        exact ⟨rfl, u1_eq⟩
      | some z =>
        rw [e] at hl
        have hzm : z ∈ cl r := List.mem_of_getLast? hl.symm
        have hza : z ≠ a := notin hD hp (by omega) hzm
        show ch (u1 (u1 nx a none) z (some a)) (f0 (lq r)) (cl r ++ [a])
        refine ch_ad (by rw [u1_ne (Ne.symm hza), u1_eq]) (by intro q; rw [q] at hzm; cases hzm) (hD.2 r) (fun b hb q => ?_) (fun b q => ?_) hc
        · rw [u1_ne (fun y => q (by rw [← hl, y])), u1_ne (notin hD hp (by omega) hb)]
        · rw [← hl] at q
          cases q
          exact u1_eq
    · rw [u1_ne e, u1_ne (by omega)]
      obtain ⟨g1, g2, g3⟩ := h.2.1 r h3 h4 h5
      have hq := lq_ne e h1 h2 h3 h4
      refine ⟨?_, by rw [u1_ne hq]; exact g2, by rw [u1_ne hq]; exact g3⟩
      have hf : (match f1 (lq p) with | none => u1 f0 (lq p) (some a) | some _ => f0) (lq r) = f0 (lq r) := by
        cases f1 (lq p) with
        | none => exact u1_ne hq
        | some z => rfl
      rw [hf]
      exact ch_cg (hoth r e (by omega)) g1
  · rw [u1_ne (by omega), u1_ne (by omega)]
    exact ch_cg (hoth 144 (by omega) (by omega)) h.2.2
/-- held, on the way -/
theorem fS_snd (hD : fD cl) (h : fS sw nd nx f0 f1 n2 se sp cl) (hs : sw ≤ 5) (hn : nd ≤ 8) (hx : sd sw nd x) (hw : cl x = []) (hp : cl 145 = a :: l) : fS sw nd nx f0 f1 n2 (u1 se (200 + x) (some a)) sp (u1 (u1 cl 145 l) x [a]) := by
  have hx8 := sd_lt hx hs hn
  refine ⟨fun y hy => ?_, fun p h1 h2 h3 => ?_, ?_⟩
  · have := sd_lt hy hs hn
    by_cases e : y = x
    · subst e; rw [u1_eq, u1_eq]; rfl
    · rw [u1_ne (by omega), u1_ne e, u1_ne (by omega)]
      exact h.1 y hy
  · rw [u1_ne (by omega), u1_ne (by omega)]
    exact h.2.1 p h1 h2 h3
  · rw [u1_ne (by omega), u1_ne (by omega)]
    exact h.2.2
/-- from the way, held -/
theorem fS_arr (h : fS sw nd nx f0 f1 n2 se sp cl) (hs : sw ≤ 5) (hn : nd ≤ 8) (hx : sd sw nd x) (hw : cl x = [a]) : se (200 + x) = some a ∧ fS sw nd nx f0 f1 n2 (u1 se (200 + x) none) sp (u1 (u1 cl x []) 145 (a :: cl 145)) := by
  have hx8 := sd_lt hx hs hn
  refine ⟨by rw [h.1 x hx, hw]; rfl, fun y hy => ?_, fun p h1 h2 h3 => ?_, ?_⟩
  · have := sd_lt hy hs hn
    by_cases e : y = x
    · subst e; rw [u1_eq, u1_ne (by omega), u1_eq]; rfl
    · rw [u1_ne (by omega), u1_ne (by omega), u1_ne e]
      exact h.1 y hy
  · rw [u1_ne (by omega), u1_ne (by omega)]
    exact h.2.1 p h1 h2 h3
  · rw [u1_ne (by omega), u1_ne (by omega)]
    exact h.2.2
end FS
