/-! ===== a typed heap: fields by number of the field and address, arrays by address, lengths, tags, size, slots made so far ===== -/
abbrev hM : Type := (Nat → Nat → Int32) × (Nat → Nat → Int64) × (Nat → Nat → Option Nat) × (Nat → Nat → Int32) × (Nat → Nat → Int64) × (Nat → Nat → Option Nat) × (Nat → Nat) × (Nat → Nat) × Nat × Nat
def h_fi (M : hM) : Nat → Nat → Int32 := M.1
def h_fl (M : hM) : Nat → Nat → Int64 := M.2.1
def h_fr (M : hM) : Nat → Nat → Option Nat := M.2.2.1
def h_ai (M : hM) : Nat → Nat → Int32 := M.2.2.2.1
def h_al (M : hM) : Nat → Nat → Int64 := M.2.2.2.2.1
def h_ar (M : hM) : Nat → Nat → Option Nat := M.2.2.2.2.2.1
def h_ln (M : hM) : Nat → Nat := M.2.2.2.2.2.2.1
def h_tg (M : hM) : Nat → Nat := M.2.2.2.2.2.2.2.1
def h_sz (M : hM) : Nat := M.2.2.2.2.2.2.2.2.1
def h_sl (M : hM) : Nat := M.2.2.2.2.2.2.2.2.2
def u1 {α : Type} (f : Nat → α) (a : Nat) (v : α) : Nat → α := fun x => if x = a then v else f x
def u2 {α : Type} (f : Nat → Nat → α) (k a : Nat) (v : α) : Nat → Nat → α := fun x y => if x = k ∧ y = a then v else f x y
def h_pi (M : hM) (f a : Nat) (v : Int32) : hM := (u2 (h_fi M) f a v, h_fl M, h_fr M, h_ai M, h_al M, h_ar M, h_ln M, h_tg M, h_sz M, h_sl M)
def h_pl (M : hM) (f a : Nat) (v : Int64) : hM := (h_fi M, u2 (h_fl M) f a v, h_fr M, h_ai M, h_al M, h_ar M, h_ln M, h_tg M, h_sz M, h_sl M)
def h_pr (M : hM) (f a : Nat) (v : Option Nat) : hM := (h_fi M, h_fl M, u2 (h_fr M) f a v, h_ai M, h_al M, h_ar M, h_ln M, h_tg M, h_sz M, h_sl M)
def h_qi (M : hM) (a i : Nat) (v : Int32) : hM := (h_fi M, h_fl M, h_fr M, u2 (h_ai M) a i v, h_al M, h_ar M, h_ln M, h_tg M, h_sz M, h_sl M)
def h_ql (M : hM) (a i : Nat) (v : Int64) : hM := (h_fi M, h_fl M, h_fr M, h_ai M, u2 (h_al M) a i v, h_ar M, h_ln M, h_tg M, h_sz M, h_sl M)
def h_qr (M : hM) (a i : Nat) (v : Option Nat) : hM := (h_fi M, h_fl M, h_fr M, h_ai M, h_al M, u2 (h_ar M) a i v, h_ln M, h_tg M, h_sz M, h_sl M)
/-- f, but v at every first place k, whatever the second one -/
def uc {α : Type} (f : Nat → Nat → α) (a : Nat) (v : α) : Nat → Nat → α := fun x y => if y = a then v else f x y
def ur {α : Type} (f : Nat → Nat → α) (a : Nat) (g : Nat → α) : Nat → Nat → α := fun x y => if x = a then g y else f x y
/-- a new object, all its fields 0 or null -/
def h_no (M : hM) (ci n : Nat) : hM := (uc (h_fi M) (h_sz M) 0, uc (h_fl M) (h_sz M) 0, uc (h_fr M) (h_sz M) none, h_ai M, h_al M, h_ar M, h_ln M, u1 (h_tg M) (h_sz M) (ci + 1), h_sz M + 1, h_sl M + n)
/-- a new array -/
def h_na (M : hM) (t n : Nat) : hM := (h_fi M, h_fl M, h_fr M, ur (h_ai M) (h_sz M) (fun _ => 0), ur (h_al M) (h_sz M) (fun _ => 0), ur (h_ar M) (h_sz M) (fun _ => none), u1 (h_ln M) (h_sz M) n, u1 (h_tg M) (h_sz M) t, h_sz M + 1, h_sl M + n)
/-- one array's ints anew (a copy) -/
def h_ca (M : hM) (a : Nat) (g : Nat → Int32) : hM := (h_fi M, h_fl M, h_fr M, ur (h_ai M) a g, h_al M, h_ar M, h_ln M, h_tg M, h_sz M, h_sl M)
/-! ===== what a cell is ===== -/
def h_val (M : hM) (kd f a : Nat) : Value := match kd with
  | 1 => .long (h_fl M f a)
  | 2 => va_rf (h_fr M f a)
  | _ => .int (h_fi M f a)
def h_fls (M : hM) (ci a : Nat) : List Value := (List.range (xNN ci)).map (fun k => h_val M ((xkk ci).getD k 0) (100 * ci + k) a)
abbrev gX : Type := (va_G × (Nat → ClassId)) × (Heap × Nat × Nat)
/-- types of arrays by tag -/
def xTA (t : Nat) : FieldType := match t with
  | 20 => .int
  | 21 => .byte
  | 22 => .boolean
  | 23 => .long
  | 50 => .array .int
  | t => .object (xRR (t - 30))
def h_cell (G : gX) (M : hM) (a : Nat) : va_E :=
  if h_tg M a < 20 then .inr (h_tg M a - 1, h_fls M (h_tg M a - 1) a)
  else if h_tg M a < 23 then .inl (G.1.2 (h_tg M a), h_ln M a, .inl (h_ai M a))
  else if h_tg M a = 23 then .inl (G.1.2 (h_tg M a), h_ln M a, .inr (.inl (h_al M a)))
  else .inl (G.1.2 (h_tg M a), h_ln M a, .inr (.inr (.inr (.inr (h_ar M a)))))
def xW (G : gX) (M : hM) (H : Heap) : Prop := H.size = h_sz M ∧ G.2.1.size ≤ h_sz M ∧ (∀ a, a < G.2.1.size → H[a]? = G.2.1[a]?) ∧ ∀ a, h_tg M a ≠ 0 → G.2.1.size ≤ a ∧ va_at G.1.1 xCl (a, h_cell G M a) H
/-! ===== how a cell changes ===== -/
theorem h_cell_of_eq {G : gX} {M M' : hM} {a : Nat} (ht : h_tg M' a = h_tg M a) (hl : h_ln M' a = h_ln M a) (hai : h_ai M' a = h_ai M a) (hal : h_al M' a = h_al M a) (har : h_ar M' a = h_ar M a) (hfi : ∀ f, h_fi M' f a = h_fi M f a) (hfl : ∀ f, h_fl M' f a = h_fl M f a) (hfr : ∀ f, h_fr M' f a = h_fr M f a) : h_cell G M' a = h_cell G M a := by
  have hv : ∀ kd f, h_val M' kd f a = h_val M kd f a := by
    intro kd f
    unfold h_val
    rw [hfi, hfl, hfr]
  have hf : ∀ ci, h_fls M' ci a = h_fls M ci a := by
    intro ci
    unfold h_fls
    exact List.map_congr_left (fun k _ => hv _ _)
  unfold h_cell
  rw [ht, hl, hai, hal, har, hf]
theorem xW.put {G : gX} {M M' : hM} {H H1 : Heap} {a : Nat} (h : xW G M H) (ha : h_tg M a ≠ 0) (hz : h_sz M' = h_sz M) (hc : ∀ x, x ≠ a → h_cell G M' x = h_cell G M x) (ht : ∀ x, h_tg M' x = h_tg M x) (z : H1.size = H.size) (oq : ∀ q, q ≠ a → H1[q]? = H[q]?) (e : va_at G.1.1 xCl (a, h_cell G M' a) H1) : xW G M' H1 := by
  obtain ⟨h1, h2, h3, h4⟩ := h
  refine ⟨by rw [z, h1, hz], by rw [hz]; exact h2, fun x hx => ?_, fun x hx => ?_⟩
  · have := (h4 a ha).1
    rw [oq x (by omega)]
    exact h3 x hx
  · rw [ht] at hx
    by_cases hxa : x = a
    · subst hxa
      exact ⟨(h4 x hx).1, e⟩
    · refine ⟨(h4 x hx).1, ?_⟩
      rw [hc x hxa]
      exact (h4 x hx).2.kept (oq x hxa)
theorem xW.born {G : gX} {M M' : hM} {H H1 : Heap} (h : xW G M H) (hz : h_sz M' = h_sz M + 1) (hc : ∀ x, x ≠ h_sz M → h_cell G M' x = h_cell G M x) (ht : ∀ x, x ≠ h_sz M → h_tg M' x = h_tg M x) (z : H1.size = H.size + 1) (oq : ∀ q, q < H.size → H1[q]? = H[q]?) (e : va_at G.1.1 xCl (h_sz M, h_cell G M' (h_sz M)) H1) : xW G M' H1 := by
  obtain ⟨h1, h2, h3, h4⟩ := h
  refine ⟨by rw [z, h1, hz], by omega, fun x hx => ?_, fun x hx => ?_⟩
  · rw [oq x (by omega)]
    exact h3 x hx
  · by_cases hxa : x = h_sz M
    · subst hxa
      exact ⟨h2, e⟩
    · rw [ht x hxa] at hx
      refine ⟨(h4 x hx).1, ?_⟩
      rw [hc x hxa]
      exact (h4 x hx).2.kept (oq x ((h4 x hx).2.lt))
theorem u2_ne {α : Type} {f : Nat → Nat → α} {k a x y : Nat} {v : α} (h : y ≠ a) : u2 f k a v x y = f x y := if_neg (fun q => h q.2)
theorem u2_nk {α : Type} {f : Nat → Nat → α} {k a x y : Nat} {v : α} (h : x ≠ k) : u2 f k a v x y = f x y := if_neg (fun q => h q.1)
theorem u2_eq {α : Type} {f : Nat → Nat → α} {k a : Nat} {v : α} : u2 f k a v k a = v := if_pos ⟨rfl, rfl⟩
theorem h_fls_get {M : hM} {ci a k : Nat} (hk : k < xNN ci) : (h_fls M ci a)[k]? = some (h_val M ((xkk ci).getD k 0) (100 * ci + k) a) := by
  unfold h_fls
  rw [List.getElem?_map, List.getElem?_range hk]
  rfl
theorem h_fls_len {M : hM} {ci a : Nat} : (h_fls M ci a).length = xNN ci := by
  unfold h_fls
  rw [List.length_map, List.length_range]
/-- the fields behind a put: one is new -/
theorem h_fls_set {M M' : hM} {ci a k : Nat} {v : Value} (hk : k < xNN ci) (hv : h_val M' ((xkk ci).getD k 0) (100 * ci + k) a = v) (ho : ∀ j, j < xNN ci → j ≠ k → h_val M' ((xkk ci).getD j 0) (100 * ci + j) a = h_val M ((xkk ci).getD j 0) (100 * ci + j) a) : h_fls M' ci a = (h_fls M ci a).set k v := by
  apply List.ext_getElem?
  intro j
  by_cases hj : j < xNN ci
  · rw [h_fls_get hj]
    by_cases hjk : j = k
    · subst hjk
      rw [List.getElem?_set_self (by rw [h_fls_len]; exact hj), hv]
    · rw [List.getElem?_set_ne (Ne.symm hjk), h_fls_get hj, ho j hj hjk]
  · rw [List.getElem?_eq_none (by rw [h_fls_len]; omega), List.getElem?_eq_none (by rw [List.length_set, h_fls_len]; omega)]
theorem h_cell_obj {G : gX} {M : hM} {a ci : Nat} (h : h_tg M a = ci + 1) (hc : ci < 13) : h_cell G M a = .inr (ci, h_fls M ci a) := by
  unfold h_cell
  rw [h, if_pos (by omega), Nat.add_sub_cancel]
theorem h_cell_i {G : gX} {M : hM} {a t : Nat} (h : h_tg M a = t) (h1 : 20 ≤ t) (h2 : t < 23) : h_cell G M a = .inl (G.1.2 t, h_ln M a, .inl (h_ai M a)) := by
  unfold h_cell
  rw [h, if_neg (by omega), if_pos h2]
theorem h_cell_l {G : gX} {M : hM} {a : Nat} (h : h_tg M a = 23) : h_cell G M a = .inl (G.1.2 23, h_ln M a, .inr (.inl (h_al M a))) := by
  unfold h_cell
  rw [h, if_neg (by omega), if_neg (by omega), if_pos rfl]
theorem h_cell_r {G : gX} {M : hM} {a t : Nat} (h : h_tg M a = t) (h1 : 23 < t) : h_cell G M a = .inl (G.1.2 t, h_ln M a, .inr (.inr (.inr (.inr (h_ar M a))))) := by
  unfold h_cell
  rw [h, if_neg (by omega), if_neg (by omega), if_neg (by omega)]
