/-! ===== the same things under other addresses (by program: gen63.py) ===== -/
def vn (ρ : Nat → Nat) (M : hM) (a b : Nat) : Prop := b = ρ a ∧ h_tg M a ≠ 0
def vo (ρ : Nat → Nat) (M : hM) (o p : Option Nat) : Prop := p = o.map ρ ∧ ∀ a, o = some a → h_tg M a ≠ 0
def va (ρ : Nat → Nat) (M : hM) : aV → aV → Prop
  | .inl v, .inl w => w = v
  | .inr (.inl v), .inr (.inl w) => w = v
  | .inr (.inr o), .inr (.inr p) => vo ρ M o p
  | _, _ => False
def vl (ρ : Nat → Nat) (M : hM) : List aV → List aV → Prop
  | [], [] => True
  | x :: xs, y :: ys => va ρ M x y ∧ vl ρ M xs ys
  | _, _ => False
def vr (ρ : Nat → Nat) (M : hM) : Option aV → Option aV → Prop
  | none, none => True
  | some x, some y => va ρ M x y
  | _, _ => False
/-- H holds what N holds, an address a of N at ρ a; what lies at Y is as in M0 -/
def rn (Y : Nat → Prop) (M0 : hM) (ρ : Nat → Nat) (N H : hM) : Prop :=
  ((bk N ∧ bk H) ∧ h_sz N = h_sz H + 1000 ∧ h_sl N = h_sl H) ∧
  (∀ a, h_tg N a ≠ 0 → ρ a < h_sz H ∧ ¬ Y (ρ a) ∧ h_tg H (ρ a) = h_tg N a ∧ h_ln H (ρ a) = h_ln N a) ∧
  (∀ a, h_tg N a ≠ 0 → ∀ k, h_fi H k (ρ a) = h_fi N k a ∧ h_fl H k (ρ a) = h_fl N k a ∧ vo ρ N (h_fr N k a) (h_fr H k (ρ a))) ∧
  (∀ a, h_tg N a ≠ 0 → ∀ i, h_ai H (ρ a) i = h_ai N a i ∧ h_al H (ρ a) i = h_al N a i ∧ vo ρ N (h_ar N a i) (h_ar H (ρ a) i)) ∧
  (∀ a b, h_tg N a ≠ 0 → h_tg N b ≠ 0 → ρ a = ρ b → a = b) ∧
  (∀ y, Y y → y < h_sz H ∧ h_tg H y = h_tg M0 y ∧ h_ln H y = h_ln M0 y ∧ (∀ k, h_fi H k y = h_fi M0 k y ∧ h_fl H k y = h_fl M0 k y ∧ h_fr H k y = h_fr M0 k y) ∧ ∀ i, h_ai H y i = h_ai M0 y i ∧ h_al H y i = h_al M0 y i ∧ h_ar H y i = h_ar M0 y i)
/-- what has a name keeps it -/
def ex (ρ : Nat → Nat) (N : hM) (ρ' : Nat → Nat) (N' : hM) : Prop := ∀ a, h_tg N a ≠ 0 → ρ' a = ρ a ∧ h_tg N' a ≠ 0
theorem ex.rf {ρ : Nat → Nat} {N : hM} : ex ρ N ρ N := fun _ h => ⟨rfl, h⟩
theorem ex.tr {ρ ρ1 ρ2 : Nat → Nat} {N N1 N2 : hM} (h : ex ρ N ρ1 N1) (g : ex ρ1 N1 ρ2 N2) : ex ρ N ρ2 N2 := fun a ha => ⟨(g a (h a ha).2).1.trans (h a ha).1, (g a (h a ha).2).2⟩
theorem vn.up {ρ ρ1 : Nat → Nat} {N N1 : hM} {a b : Nat} (h : vn ρ N a b) (x : ex ρ N ρ1 N1) : vn ρ1 N1 a b := ⟨h.1.trans (x a h.2).1.symm, (x a h.2).2⟩
theorem vo.up {ρ ρ1 : Nat → Nat} {N N1 : hM} {o p : Option Nat} (h : vo ρ N o p) (x : ex ρ N ρ1 N1) : vo ρ1 N1 o p := by
  obtain ⟨rfl, h2⟩ := h
  cases o with
  | none => exact ⟨rfl, fun _ q => by cases q⟩
  | some a => exact ⟨congrArg some (x a (h2 a rfl)).1.symm, fun b q => by cases q; exact (x a (h2 a rfl)).2⟩
theorem vn.so {ρ : Nat → Nat} {N : hM} {a b : Nat} (h : vn ρ N a b) : vo ρ N (some a) (some b) := ⟨congrArg some h.1, fun c q => by cases q; exact h.2⟩
theorem vo_no {ρ : Nat → Nat} {N : hM} : vo ρ N none none := ⟨rfl, fun _ q => by cases q⟩
theorem vo.non {ρ : Nat → Nat} {N : hM} {o p : Option Nat} (h : vo ρ N o p) (e : o = none) : p = none := by rw [h.1, e]; rfl
theorem vo.nnn {ρ : Nat → Nat} {N : hM} {o p : Option Nat} (h : vo ρ N o p) (e : ¬ o = none) : ¬ p = none := by
  cases o with
  | none => exact absurd rfl e
  | some a => rw [h.1]; exact fun q => by cases q
theorem vo.sm {ρ : Nat → Nat} {N : hM} {a : Nat} {p : Option Nat} (h : vo ρ N (some a) p) : ∃ b, p = some b ∧ vn ρ N a b := ⟨ρ a, h.1, rfl, h.2 a rfl⟩
theorem va_i {ρ : Nat → Nat} {N : hM} {v : Int32} : va ρ N (.inl v) (.inl v) := rfl
theorem va_l {ρ : Nat → Nat} {N : hM} {v : Int64} : va ρ N (.inr (.inl v)) (.inr (.inl v)) := rfl
theorem va_r {ρ : Nat → Nat} {N : hM} {o p : Option Nat} (h : vo ρ N o p) : va ρ N (.inr (.inr o)) (.inr (.inr p)) := h
theorem vl_n {ρ : Nat → Nat} {N : hM} : vl ρ N [] [] := trivial
theorem vl_c {ρ : Nat → Nat} {N : hM} {x y : aV} {xs ys : List aV} (h : va ρ N x y) (g : vl ρ N xs ys) : vl ρ N (x :: xs) (y :: ys) := ⟨h, g⟩
theorem vl_in {ρ : Nat → Nat} {N : hM} {ys : List aV} (h : vl ρ N [] ys) : ys = [] := by
  cases ys with
  | nil => rfl
  | cons y ys => exact h.elim
theorem vl_ii {ρ : Nat → Nat} {N : hM} {v : Int32} {xs ys : List aV} (h : vl ρ N (.inl v :: xs) ys) : ∃ zs, ys = .inl v :: zs ∧ vl ρ N xs zs := by
  cases ys with
  | nil => exact h.elim
  | cons y ys =>
    rcases y with w | w | w
    · exact ⟨ys, by rw [show w = v from h.1], h.2⟩
    · exact h.1.elim
    · exact h.1.elim
theorem vl_il {ρ : Nat → Nat} {N : hM} {v : Int64} {xs ys : List aV} (h : vl ρ N (.inr (.inl v) :: xs) ys) : ∃ zs, ys = .inr (.inl v) :: zs ∧ vl ρ N xs zs := by
  cases ys with
  | nil => exact h.elim
  | cons y ys =>
    rcases y with w | w | w
    · exact h.1.elim
    · exact ⟨ys, by rw [show w = v from h.1], h.2⟩
    · exact h.1.elim
theorem vl_ir {ρ : Nat → Nat} {N : hM} {o : Option Nat} {xs ys : List aV} (h : vl ρ N (.inr (.inr o) :: xs) ys) : ∃ p zs, ys = .inr (.inr p) :: zs ∧ vo ρ N o p ∧ vl ρ N xs zs := by
  cases ys with
  | nil => exact h.elim
  | cons y ys =>
    rcases y with w | w | w
    · exact h.1.elim
    · exact h.1.elim
    · exact ⟨w, ys, rfl, h.1, h.2⟩
theorem vl_is {ρ : Nat → Nat} {N : hM} {a : Nat} {xs ys : List aV} (h : vl ρ N (.inr (.inr (some a)) :: xs) ys) : ∃ b zs, ys = .inr (.inr (some b)) :: zs ∧ vn ρ N a b ∧ vl ρ N xs zs := by
  obtain ⟨p, zs, rfl, h1, h2⟩ := vl_ir h
  obtain ⟨b, rfl, h3⟩ := h1.sm
  exact ⟨b, zs, rfl, h3, h2⟩
def vs (ρ : Nat → Nat) : xRes → xRes → Prop
  | .inl q, .inl p => vr ρ q.2 q.1 p.1
  | .inr q, .inr p => p.1 = q.1 ∧ vl ρ q.2.2 q.2.1 p.2.1
  | _, _ => False
theorem vs_n {ρ : Nat → Nat} {N H : hM} : vs ρ (.inl (none, N)) (.inl (none, H)) := trivial
theorem vs_a {ρ : Nat → Nat} {N H : hM} {x y : aV} (h : va ρ N x y) : vs ρ (.inl (some x, N)) (.inl (some y, H)) := h
theorem vs_g {ρ : Nat → Nat} {N H : hM} {k : Nat} {xs ys : List aV} (h : vl ρ N xs ys) : vs ρ (.inr (k, xs, N)) (.inr (k, ys, H)) := ⟨rfl, h⟩
def wq (Y : Nat → Prop) (M0 : hM) (ρ : Nat → Nat) (N : hM) (res : xRes) (X : Option xRes) : Prop := ∃ ρ' res', X = some res' ∧ vs ρ' res res' ∧ rn Y M0 ρ' (r_M res) (r_M res') ∧ ex ρ N ρ' (r_M res)
def wr (Y : Nat → Prop) (M0 : hM) (ρ : Nat → Nat) (N : hM) (r : Option aV) (N' : hM) (X : xO) : Prop := ∃ ρ' r' H', X = some (r', H') ∧ vr ρ' N' r r' ∧ rn Y M0 ρ' N' H' ∧ ex ρ N ρ' N'
section WQ
variable {Y : Nat → Prop} {M0 : hM} {ρ ρ1 : Nat → Nat} {N N1 : hM} {res : xRes}
theorem wq_bd {α : Type} {x : Option α} {a : α} {f : α → Option xRes} (e : x = some a) (h : wq Y M0 ρ N res (f a)) : wq Y M0 ρ N res (Option.bind x f) := by subst e; exact h
theorem wq_ip {c : Prop} [Decidable c] {x y : Option xRes} (q : c) (h : wq Y M0 ρ N res x) : wq Y M0 ρ N res (if c then x else y) := by rw [if_pos q]; exact h
theorem wq_in {c : Prop} [Decidable c] {x y : Option xRes} (q : ¬ c) (h : wq Y M0 ρ N res y) : wq Y M0 ρ N res (if c then x else y) := by rw [if_neg q]; exact h
theorem wq_up {X : Option xRes} (x : ex ρ N ρ1 N1) (h : wq Y M0 ρ1 N1 res X) : wq Y M0 ρ N res X := by
  obtain ⟨ρ', res', h1, h2, h3, h4⟩ := h
  exact ⟨ρ', res', h1, h2, h3, x.tr h4⟩
theorem wx_out {x X : Option xRes} {r : Option aV} {N' : hM} (h : x_out x = some (r, N')) (hx : ∀ res, x = some res → wq Y M0 ρ N res X) : wr Y M0 ρ N r N' (x_out X) := by
  obtain ⟨ρ', res', h1, h2, h3, h4⟩ := hx _ (x_out_ok h)
  subst h1
  cases res' with
  | inl p => exact ⟨ρ', p.1, p.2, rfl, h2, h3, h4⟩
  | inr p => exact h2.elim
theorem wd_go {blk : Nat → List aV → hM → Option xRes} (hs : ∀ ρ h as as' N H res, blk h as N = some res → rn Y M0 ρ N H → vl ρ N as as' → wq Y M0 ρ N res (blk h as' H)) : ∀ n ρ h as as' N H r N', drive blk n h as N = some (r, N') → rn Y M0 ρ N H → vl ρ N as as' → wr Y M0 ρ N r N' (drive blk n h as' H)
  | 0, _, _, _, _, _, _, _, _, hd, _, _ => by cases hd
  | n + 1, ρ, h, as, as', N, H, r, N', hd, g, ha => by
    unfold drive at hd ⊢
    cases he : blk h as N with
    | none => rw [he] at hd; cases hd
    | some res =>
      rw [he] at hd
      obtain ⟨ρ', res', h1, h2, h3, h4⟩ := hs ρ h as as' N H res he g ha
      rw [h1]
      cases res with
      | inl q =>
        cases res' with
        | inr p => exact h2.elim
        | inl p => cases hd; exact ⟨ρ', p.1, p.2, rfl, h2, h3, h4⟩
      | inr q =>
        cases res' with
        | inl p => exact h2.elim
        | inr p =>
          obtain ⟨k1, k2⟩ := h2
          obtain ⟨ρ2, r2, H2, j1, j2, j3, j4⟩ := wd_go hs n ρ' q.1 q.2.1 p.2.1 q.2.2 p.2.2 r N' hd h3 k2
          refine ⟨ρ2, r2, H2, ?_, j2, j3, h4.tr j4⟩
          show drive blk n p.1 p.2.1 p.2.2 = _
          rw [k1]
          exact j1
theorem wx_go {blk : Nat → List aV → hM → Option xRes} (hs : ∀ ρ h as as' N H res, blk h as N = some res → rn Y M0 ρ N H → vl ρ N as as' → wq Y M0 ρ N res (blk h as' H)) {x X : Option xRes} {r : Option aV} {N' : hM} (h : x_go blk x = some (r, N')) (hx : ∀ res, x = some res → wq Y M0 ρ N res X) : wr Y M0 ρ N r N' (x_go blk X) := by
  unfold x_go at h
  split at h
  · cases h
  · rename_i q
    obtain ⟨ρ', res', h1, h2, h3, h4⟩ := hx _ rfl
    subst h1
    cases res' with
    | inr p => exact h2.elim
    | inl p => cases h; exact ⟨ρ', p.1, p.2, rfl, h2, h3, h4⟩
  · rename_i q
    obtain ⟨ρ', res', h1, h2, h3, h4⟩ := hx _ rfl
    subst h1
    cases res' with
    | inl p => exact h2.elim
    | inr p =>
      obtain ⟨k1, k2⟩ := h2
      obtain ⟨ρ2, r2, H2, j1, j2, j3, j4⟩ := wd_go hs xF ρ' q.1 q.2.1 p.2.1 q.2.2 p.2.2 r N' h h3 k2
      refine ⟨ρ2, r2, H2, ?_, j2, j3, h4.tr j4⟩
      show drive blk xF p.1 p.2.1 p.2.2 = _
      rw [k1]
      exact j1
theorem wc_I {f : List aV → hM → xO} {as as' : List aV} {H : hM} {q : Int32 × hM} (e : c_I (f as N) = some q) (w : f as N = some (some (.inl q.1), q.2) → wr Y M0 ρ N (some (.inl q.1)) q.2 (f as' H)) : ∃ ρ' H', c_I (f as' H) = some (q.1, H') ∧ rn Y M0 ρ' q.2 H' ∧ ex ρ N ρ' q.2 := by
  obtain ⟨ρ', r', H', h1, h2, h3, h4⟩ := w (c_I_some e)
  rw [h1]
  rcases r' with _ | r' | r' | r'
  · exact h2.elim
  · exact ⟨ρ', H', by rw [show r' = q.1 from h2]; rfl, h3, h4⟩
  · exact h2.elim
  · exact h2.elim
theorem wc_L {f : List aV → hM → xO} {as as' : List aV} {H : hM} {q : Int64 × hM} (e : c_L (f as N) = some q) (w : f as N = some (some (.inr (.inl q.1)), q.2) → wr Y M0 ρ N (some (.inr (.inl q.1))) q.2 (f as' H)) : ∃ ρ' H', c_L (f as' H) = some (q.1, H') ∧ rn Y M0 ρ' q.2 H' ∧ ex ρ N ρ' q.2 := by
  obtain ⟨ρ', r', H', h1, h2, h3, h4⟩ := w (c_L_some e)
  rw [h1]
  rcases r' with _ | r' | r' | r'
  · exact h2.elim
  · exact h2.elim
  · exact ⟨ρ', H', by rw [show r' = q.1 from h2]; rfl, h3, h4⟩
  · exact h2.elim
theorem wc_R {f : List aV → hM → xO} {as as' : List aV} {H : hM} {q : Option Nat × hM} (e : c_R (f as N) = some q) (w : f as N = some (some (.inr (.inr q.1)), q.2) → wr Y M0 ρ N (some (.inr (.inr q.1))) q.2 (f as' H)) : ∃ ρ' p H', c_R (f as' H) = some (p, H') ∧ rn Y M0 ρ' q.2 H' ∧ ex ρ N ρ' q.2 ∧ vo ρ' q.2 q.1 p := by
  obtain ⟨ρ', r', H', h1, h2, h3, h4⟩ := w (c_R_some e)
  rw [h1]
  rcases r' with _ | r' | r' | r'
  · exact h2.elim
  · exact h2.elim
  · exact h2.elim
  · exact ⟨ρ', r', H', rfl, h3, h4, h2⟩
theorem wc_V {f : List aV → hM → xO} {as as' : List aV} {H q : hM} (e : c_V (f as N) = some q) (w : f as N = some (none, q) → wr Y M0 ρ N none q (f as' H)) : ∃ ρ' H', c_V (f as' H) = some H' ∧ rn Y M0 ρ' q H' ∧ ex ρ N ρ' q := by
  obtain ⟨ρ', r', H', h1, h2, h3, h4⟩ := w (c_V_some e)
  rw [h1]
  cases r' with
  | none => exact ⟨ρ', H', rfl, h3, h4⟩
  | some r' => exact h2.elim
end WQ
section WS
variable {Y : Nat → Prop} {M0 : hM} {ρ : Nat → Nat} {N H N1 : hM} {ci k t : Nat} {o p o2 p2 : Option Nat}
theorem w_go {a : Nat} (g : rn Y M0 ρ N H) (r : vo ρ N o p) (e : g_o N ci o = some a) : ∃ b, g_o H ci p = some b ∧ vn ρ N a b := by
  obtain ⟨rfl, ht⟩ := g_o_some e
  obtain ⟨b, rfl, rfl, h0⟩ := r.sm
  exact ⟨ρ a, if_pos ((g.2.1 a h0).2.2.1.trans ht), rfl, h0⟩
theorem w_gi {v : Int32} (g : rn Y M0 ρ N H) (r : vo ρ N o p) (e : g_i N ci k o = some v) : g_i H ci k p = some v := by
  obtain ⟨a, h1, h2⟩ := bd e
  obtain ⟨b, h3, rfl, h0⟩ := w_go g r h1
  cases h2
  unfold g_i
  rw [h3]
  exact congrArg some (g.2.2.1 a h0 _).1
theorem w_gl {v : Int64} (g : rn Y M0 ρ N H) (r : vo ρ N o p) (e : g_l N ci k o = some v) : g_l H ci k p = some v := by
  obtain ⟨a, h1, h2⟩ := bd e
  obtain ⟨b, h3, rfl, h0⟩ := w_go g r h1
  cases h2
  unfold g_l
  rw [h3]
  exact congrArg some (g.2.2.1 a h0 _).2.1
theorem w_gr {v : Option Nat} (g : rn Y M0 ρ N H) (r : vo ρ N o p) (e : g_r N ci k o = some v) : ∃ w, g_r H ci k p = some w ∧ vo ρ N v w := by
  obtain ⟨a, h1, h2⟩ := bd e
  obtain ⟨b, h3, rfl, h0⟩ := w_go g r h1
  cases h2
  refine ⟨_, ?_, (g.2.2.1 a h0 _).2.2⟩
  unfold g_r
  rw [h3]
  rfl
theorem w_ga {a : Nat} {i : Int32} (g : rn Y M0 ρ N H) (r : vo ρ N o p) (e : g_a N t o i = some a) : g_a H t p i = some (ρ a) ∧ h_tg N a ≠ 0 ∧ h_tg N a = t := by
  cases o with
  | none => cases e
  | some c =>
    obtain ⟨b, rfl, rfl, h0⟩ := r.sm
    unfold g_a at e
    dsimp only at e
    split at e
    · rename_i q
      cases e
      exact ⟨if_pos ⟨(g.2.1 a h0).2.2.1.trans q.1, q.2.1, by rw [(g.2.1 a h0).2.2.2]; exact q.2.2⟩, h0, q.1⟩
    · cases e
theorem w_ali {v i : Int32} (g : rn Y M0 ρ N H) (r : vo ρ N o p) (e : al_i N t o i = some v) : al_i H t p i = some v := by
  obtain ⟨a, h1, h2⟩ := bd e
  obtain ⟨h3, h0, -⟩ := w_ga g r h1
  cases h2
  unfold al_i
  rw [h3]
  exact congrArg some (g.2.2.2.1 a h0 _).1
theorem w_all {v : Int64} {i : Int32} (g : rn Y M0 ρ N H) (r : vo ρ N o p) (e : al_l N t o i = some v) : al_l H t p i = some v := by
  obtain ⟨a, h1, h2⟩ := bd e
  obtain ⟨h3, h0, -⟩ := w_ga g r h1
  cases h2
  unfold al_l
  rw [h3]
  exact congrArg some (g.2.2.2.1 a h0 _).2.1
theorem w_alr {v : Option Nat} {i : Int32} (g : rn Y M0 ρ N H) (r : vo ρ N o p) (e : al_r N t o i = some v) : ∃ w, al_r H t p i = some w ∧ vo ρ N v w := by
  obtain ⟨a, h1, h2⟩ := bd e
  obtain ⟨h3, h0, -⟩ := w_ga g r h1
  cases h2
  refine ⟨_, ?_, (g.2.2.2.1 a h0 _).2.2⟩
  unfold al_r
  rw [h3]
  rfl
theorem w_aln {v : Int32} (g : rn Y M0 ρ N H) (r : vo ρ N o p) (e : a_ln N t o = some v) : a_ln H t p = some v := by
  cases o with
  | none => cases e
  | some c =>
    obtain ⟨b, rfl, rfl, h0⟩ := r.sm
    unfold a_ln at e ⊢
    dsimp only at e ⊢
    split at e
    · rename_i q
      rw [if_pos ((g.2.1 c h0).2.2.1.trans q), (g.2.1 c h0).2.2.2]
      exact e
    · cases e
theorem rn_pi {f a : Nat} {v : Int32} (g : rn Y M0 ρ N H) (h0 : h_tg N a ≠ 0) : rn Y M0 ρ (h_pi N f a v) (h_pi H f (ρ a) v) := by
  obtain ⟨⟨⟨b1, b0⟩, b2, b3⟩, c2, c3, c4, c5, c6⟩ := g
  refine ⟨⟨⟨(k_hpi b1 h0).1, (k_hpi b0 (by rw [(c2 a h0).2.2.1]; exact h0)).1⟩, b2, b3⟩, c2, fun b hb k => ⟨?_, (c3 b hb k).2⟩, c4, c5, fun y hy => ?_⟩
  · show u2 (h_fi H) f (ρ a) v k (ρ b) = u2 (h_fi N) f a v k b
    by_cases e : b = a
    · subst e
      unfold u2
      by_cases q : k = f
      · rw [if_pos ⟨q, rfl⟩, if_pos ⟨q, rfl⟩]
      · rw [if_neg (fun z => q z.1), if_neg (fun z => q z.1)]
        exact (c3 b hb k).1
    · rw [u2_ne e, u2_ne (fun q => e (c5 b a hb h0 q))]
      exact (c3 b hb k).1
  · obtain ⟨d1, d2, d3, d4, d5⟩ := c6 y hy
    have hne : y ≠ ρ a := fun q => (c2 a h0).2.1 (q ▸ hy)
    exact ⟨d1, d2, d3, fun k => ⟨(u2_ne hne).trans (d4 k).1, (d4 k).2⟩, d5⟩
theorem rn_pl {f a : Nat} {v : Int64} (g : rn Y M0 ρ N H) (h0 : h_tg N a ≠ 0) : rn Y M0 ρ (h_pl N f a v) (h_pl H f (ρ a) v) := by
  obtain ⟨⟨⟨b1, b0⟩, b2, b3⟩, c2, c3, c4, c5, c6⟩ := g
  refine ⟨⟨⟨(k_hpl b1 h0).1, (k_hpl b0 (by rw [(c2 a h0).2.2.1]; exact h0)).1⟩, b2, b3⟩, c2, fun b hb k => ⟨(c3 b hb k).1, ?_, (c3 b hb k).2.2⟩, c4, c5, fun y hy => ?_⟩
  · show u2 (h_fl H) f (ρ a) v k (ρ b) = u2 (h_fl N) f a v k b
    by_cases e : b = a
    · subst e
      unfold u2
      by_cases q : k = f
      · rw [if_pos ⟨q, rfl⟩, if_pos ⟨q, rfl⟩]
      · rw [if_neg (fun z => q z.1), if_neg (fun z => q z.1)]
        exact (c3 b hb k).2.1
    · rw [u2_ne e, u2_ne (fun q => e (c5 b a hb h0 q))]
      exact (c3 b hb k).2.1
  · obtain ⟨d1, d2, d3, d4, d5⟩ := c6 y hy
    have hne : y ≠ ρ a := fun q => (c2 a h0).2.1 (q ▸ hy)
    exact ⟨d1, d2, d3, fun k => ⟨(d4 k).1, (u2_ne hne).trans (d4 k).2.1, (d4 k).2.2⟩, d5⟩
theorem rn_pr {f a : Nat} {v w : Option Nat} (g : rn Y M0 ρ N H) (h0 : h_tg N a ≠ 0) (hv : vo ρ N v w) : rn Y M0 ρ (h_pr N f a v) (h_pr H f (ρ a) w) := by
  obtain ⟨⟨⟨b1, b0⟩, b2, b3⟩, c2, c3, c4, c5, c6⟩ := g
  refine ⟨⟨⟨(k_hpr b1 h0).1, (k_hpr b0 (by rw [(c2 a h0).2.2.1]; exact h0)).1⟩, b2, b3⟩, c2, fun b hb k => ⟨(c3 b hb k).1, (c3 b hb k).2.1, ?_⟩, c4, c5, fun y hy => ?_⟩
  · show vo ρ N (u2 (h_fr N) f a v k b) (u2 (h_fr H) f (ρ a) w k (ρ b))
    by_cases e : b = a
    · subst e
      unfold u2
      by_cases q : k = f
      · rw [if_pos ⟨q, rfl⟩, if_pos ⟨q, rfl⟩]
        exact hv
      · rw [if_neg (fun z => q z.1), if_neg (fun z => q z.1)]
        exact (c3 b hb k).2.2
    · rw [u2_ne e, u2_ne (fun q => e (c5 b a hb h0 q))]
      exact (c3 b hb k).2.2
  · obtain ⟨d1, d2, d3, d4, d5⟩ := c6 y hy
    have hne : y ≠ ρ a := fun q => (c2 a h0).2.1 (q ▸ hy)
    exact ⟨d1, d2, d3, fun k => ⟨(d4 k).1, (d4 k).2.1, (u2_ne hne).trans (d4 k).2.2⟩, d5⟩
theorem rn_qi {i a : Nat} {v : Int32} (g : rn Y M0 ρ N H) (h0 : h_tg N a ≠ 0) : rn Y M0 ρ (h_qi N a i v) (h_qi H (ρ a) i v) := by
  obtain ⟨⟨⟨b1, b0⟩, b2, b3⟩, c2, c3, c4, c5, c6⟩ := g
  refine ⟨⟨⟨(k_hqi b1 rfl h0).1, (k_hqi b0 (c2 a h0).2.2.1 h0).1⟩, b2, b3⟩, c2, c3, fun b hb k => ⟨?_, (c4 b hb k).2⟩, c5, fun y hy => ?_⟩
  · show u2 (h_ai H) (ρ a) i v (ρ b) k = u2 (h_ai N) a i v b k
    by_cases e : b = a
    · subst e
      unfold u2
      by_cases q : k = i
      · rw [if_pos ⟨rfl, q⟩, if_pos ⟨rfl, q⟩]
      · rw [if_neg (fun z => q z.2), if_neg (fun z => q z.2)]
        exact (c4 b hb k).1
    · rw [u2_nk e, u2_nk (fun q => e (c5 b a hb h0 q))]
      exact (c4 b hb k).1
  · obtain ⟨d1, d2, d3, d4, d5⟩ := c6 y hy
    have hne : y ≠ ρ a := fun q => (c2 a h0).2.1 (q ▸ hy)
    exact ⟨d1, d2, d3, d4, fun k => ⟨(u2_nk hne).trans (d5 k).1, (d5 k).2⟩⟩
theorem rn_ql {i a : Nat} {v : Int64} (g : rn Y M0 ρ N H) (h0 : h_tg N a ≠ 0) : rn Y M0 ρ (h_ql N a i v) (h_ql H (ρ a) i v) := by
  obtain ⟨⟨⟨b1, b0⟩, b2, b3⟩, c2, c3, c4, c5, c6⟩ := g
  refine ⟨⟨⟨(k_hql b1 rfl h0).1, (k_hql b0 (c2 a h0).2.2.1 h0).1⟩, b2, b3⟩, c2, c3, fun b hb k => ⟨(c4 b hb k).1, ?_, (c4 b hb k).2.2⟩, c5, fun y hy => ?_⟩
  · show u2 (h_al H) (ρ a) i v (ρ b) k = u2 (h_al N) a i v b k
    by_cases e : b = a
    · subst e
      unfold u2
      by_cases q : k = i
      · rw [if_pos ⟨rfl, q⟩, if_pos ⟨rfl, q⟩]
      · rw [if_neg (fun z => q z.2), if_neg (fun z => q z.2)]
        exact (c4 b hb k).2.1
    · rw [u2_nk e, u2_nk (fun q => e (c5 b a hb h0 q))]
      exact (c4 b hb k).2.1
  · obtain ⟨d1, d2, d3, d4, d5⟩ := c6 y hy
    have hne : y ≠ ρ a := fun q => (c2 a h0).2.1 (q ▸ hy)
    exact ⟨d1, d2, d3, d4, fun k => ⟨(d5 k).1, (u2_nk hne).trans (d5 k).2.1, (d5 k).2.2⟩⟩
theorem rn_qr {i a : Nat} {v w : Option Nat} (g : rn Y M0 ρ N H) (h0 : h_tg N a ≠ 0) (hv : vo ρ N v w) : rn Y M0 ρ (h_qr N a i v) (h_qr H (ρ a) i w) := by
  obtain ⟨⟨⟨b1, b0⟩, b2, b3⟩, c2, c3, c4, c5, c6⟩ := g
  refine ⟨⟨⟨(k_hqr b1 rfl h0).1, (k_hqr b0 (c2 a h0).2.2.1 h0).1⟩, b2, b3⟩, c2, c3, fun b hb k => ⟨(c4 b hb k).1, (c4 b hb k).2.1, ?_⟩, c5, fun y hy => ?_⟩
  · show vo ρ N (u2 (h_ar N) a i v b k) (u2 (h_ar H) (ρ a) i w (ρ b) k)
    by_cases e : b = a
    · subst e
      unfold u2
      by_cases q : k = i
      · rw [if_pos ⟨rfl, q⟩, if_pos ⟨rfl, q⟩]
        exact hv
      · rw [if_neg (fun z => q z.2), if_neg (fun z => q z.2)]
        exact (c4 b hb k).2.2
    · rw [u2_nk e, u2_nk (fun q => e (c5 b a hb h0 q))]
      exact (c4 b hb k).2.2
  · obtain ⟨d1, d2, d3, d4, d5⟩ := c6 y hy
    have hne : y ≠ ρ a := fun q => (c2 a h0).2.1 (q ▸ hy)
    exact ⟨d1, d2, d3, d4, fun k => ⟨(d5 k).1, (d5 k).2.1, (u2_nk hne).trans (d5 k).2.2⟩⟩
theorem rn_ca {a : Nat} {f : Nat → Int32} (g : rn Y M0 ρ N H) (h0 : h_tg N a ≠ 0) : rn Y M0 ρ (h_ca N a f) (h_ca H (ρ a) f) := by
  obtain ⟨⟨⟨b1, b0⟩, b2, b3⟩, c2, c3, c4, c5, c6⟩ := g
  refine ⟨⟨⟨(k_hca b1 rfl h0).1, (k_hca b0 (c2 a h0).2.2.1 h0).1⟩, b2, b3⟩, c2, c3, fun b hb k => ⟨?_, (c4 b hb k).2⟩, c5, fun y hy => ?_⟩
  · show ur (h_ai H) (ρ a) f (ρ b) k = ur (h_ai N) a f b k
    unfold ur
    by_cases e : b = a
    · subst e
      rw [if_pos rfl, if_pos rfl]
    · rw [if_neg e, if_neg (fun q => e (c5 b a hb h0 q))]
      exact (c4 b hb k).1
  · obtain ⟨d1, d2, d3, d4, d5⟩ := c6 y hy
    have hne : y ≠ ρ a := fun q => (c2 a h0).2.1 (q ▸ hy)
    exact ⟨d1, d2, d3, d4, fun k => ⟨(if_neg hne).trans (d5 k).1, (d5 k).2⟩⟩
theorem w_pi {v : Int32} (g : rn Y M0 ρ N H) (r : vo ρ N o p) (e : p_i N ci k o v = some N1) : ∃ H1, p_i H ci k p v = some H1 ∧ rn Y M0 ρ N1 H1 ∧ ex ρ N ρ N1 := by
  obtain ⟨a, h1, h2⟩ := bd e
  obtain ⟨b, h3, rfl, h0⟩ := w_go g r h1
  cases h2
  exact ⟨_, by unfold p_i; rw [h3]; rfl, rn_pi g h0, fun _ q => ⟨rfl, q⟩⟩
theorem w_pz {v : Int32} (g : rn Y M0 ρ N H) (r : vo ρ N o p) (e : p_z N ci k o v = some N1) : ∃ H1, p_z H ci k p v = some H1 ∧ rn Y M0 ρ N1 H1 ∧ ex ρ N ρ N1 := by
  unfold p_z at e
  split at e
  · rename_i q
    obtain ⟨H1, h1, h2, h3⟩ := w_pi (ci := ci) (k := k) g r e
    exact ⟨H1, by unfold p_z; rw [if_pos q]; exact h1, h2, h3⟩
  · cases e
theorem w_pl {v : Int64} (g : rn Y M0 ρ N H) (r : vo ρ N o p) (e : p_l N ci k o v = some N1) : ∃ H1, p_l H ci k p v = some H1 ∧ rn Y M0 ρ N1 H1 ∧ ex ρ N ρ N1 := by
  obtain ⟨a, h1, h2⟩ := bd e
  obtain ⟨b, h3, rfl, h0⟩ := w_go g r h1
  cases h2
  exact ⟨_, by unfold p_l; rw [h3]; rfl, rn_pl g h0, fun _ q => ⟨rfl, q⟩⟩
theorem w_pr (g : rn Y M0 ρ N H) (r : vo ρ N o p) (r2 : vo ρ N o2 p2) (e : p_r N ci k o o2 = some N1) : ∃ H1, p_r H ci k p p2 = some H1 ∧ rn Y M0 ρ N1 H1 ∧ ex ρ N ρ N1 := by
  obtain ⟨a, h1, h2⟩ := bd e
  obtain ⟨b, h3, rfl, h0⟩ := w_go g r h1
  cases h2
  exact ⟨_, by unfold p_r; rw [h3]; rfl, rn_pr g h0 r2, fun _ q => ⟨rfl, q⟩⟩
theorem w_asi {i v : Int32} (g : rn Y M0 ρ N H) (r : vo ρ N o p) (e : as_i N t o i v = some N1) : ∃ H1, as_i H t p i v = some H1 ∧ rn Y M0 ρ N1 H1 ∧ ex ρ N ρ N1 := by
  obtain ⟨a, h1, h2⟩ := bd e
  obtain ⟨h3, h0, -⟩ := w_ga g r h1
  cases h2
  exact ⟨_, by unfold as_i; rw [h3]; rfl, rn_qi g h0, fun _ q => ⟨rfl, q⟩⟩
theorem w_asb {i v : Int32} (g : rn Y M0 ρ N H) (r : vo ρ N o p) (e : as_b N t o i v = some N1) : ∃ H1, as_b H t p i v = some H1 ∧ rn Y M0 ρ N1 H1 ∧ ex ρ N ρ N1 := by
  obtain ⟨a, h1, h2⟩ := bd e
  obtain ⟨h3, h0, -⟩ := w_ga g r h1
  cases h2
  exact ⟨_, by unfold as_b; rw [h3]; rfl, rn_qi g h0, fun _ q => ⟨rfl, q⟩⟩
theorem w_asl {i : Int32} {v : Int64} (g : rn Y M0 ρ N H) (r : vo ρ N o p) (e : as_l N t o i v = some N1) : ∃ H1, as_l H t p i v = some H1 ∧ rn Y M0 ρ N1 H1 ∧ ex ρ N ρ N1 := by
  obtain ⟨a, h1, h2⟩ := bd e
  obtain ⟨h3, h0, -⟩ := w_ga g r h1
  cases h2
  exact ⟨_, by unfold as_l; rw [h3]; rfl, rn_ql g h0, fun _ q => ⟨rfl, q⟩⟩
theorem w_asr {i : Int32} (g : rn Y M0 ρ N H) (r : vo ρ N o p) (r2 : vo ρ N o2 p2) (e : as_r N ci o i o2 = some N1) : ∃ H1, as_r H ci p i p2 = some H1 ∧ rn Y M0 ρ N1 H1 ∧ ex ρ N ρ N1 := by
  obtain ⟨a, h1, h2⟩ := bd e
  obtain ⟨b, h5, h6⟩ := bd h2
  obtain ⟨h3, h0, -⟩ := w_ga g r h1
  obtain ⟨c, h7, h8⟩ := w_go g r2 h5
  cases h6
  exact ⟨_, by unfold as_r; rw [h3]; show (g_o H ci p2).bind _ = _; rw [h7]; rfl, rn_qr g h0 h8.so, fun _ q => ⟨rfl, q⟩⟩
theorem w_nc {sp dp n : Int32} (g : rn Y M0 ρ N H) (r : vo ρ N o p) (r2 : vo ρ N o2 p2) (e : n_c N o sp o2 dp n = some N1) : ∃ H1, n_c H p sp p2 dp n = some H1 ∧ rn Y M0 ρ N1 H1 ∧ ex ρ N ρ N1 := by
  cases o with
  | none => cases e
  | some x =>
    cases o2 with
    | none => cases e
    | some y =>
      obtain ⟨x', rfl, rfl, hx⟩ := r.sm
      obtain ⟨y', rfl, rfl, hy⟩ := r2.sm
      unfold n_c at e ⊢
      dsimp only at e ⊢
      split at e
      · rename_i q
        cases e
        have e1 : h_ai H (ρ x) = h_ai N x := funext fun i => (g.2.2.2.1 x hx i).1
        have e2 : h_ai H (ρ y) = h_ai N y := funext fun i => (g.2.2.2.1 y hy i).1
        rw [if_pos (by rw [(g.2.1 x hx).2.2.1, (g.2.1 y hy).2.2.1, (g.2.1 x hx).2.2.2, (g.2.1 y hy).2.2.2]; exact q), e1, e2]
        exact ⟨_, rfl, rn_ca g hy, fun _ q => ⟨rfl, q⟩⟩
      · cases e
theorem rn_new {N' H' : hM} {t : Nat} (g : rn Y M0 ρ N H) (ht : t ≠ 0) (hk : kp [] [0] N N') (hH : bk H') (s1 : h_sz N' = h_sz N + 1) (s2 : h_sz H' = h_sz H + 1) (s3 : h_sl N' = h_sl H')
    (n1 : h_tg N' = u1 (h_tg N) (h_sz N) t) (n2 : h_tg H' = u1 (h_tg H) (h_sz H) t) (n3 : h_ln H' (h_sz H) = h_ln N' (h_sz N))
    (n4 : ∀ k, h_fi H' k (h_sz H) = 0 ∧ h_fl H' k (h_sz H) = 0 ∧ h_fr H' k (h_sz H) = none) (n5 : ∀ i, h_ai H' (h_sz H) i = 0 ∧ h_al H' (h_sz H) i = 0 ∧ h_ar H' (h_sz H) i = none)
    (n4' : ∀ k, h_fi N' k (h_sz N) = 0 ∧ h_fl N' k (h_sz N) = 0 ∧ h_fr N' k (h_sz N) = none) (n5' : ∀ i, h_ai N' (h_sz N) i = 0 ∧ h_al N' (h_sz N) i = 0 ∧ h_ar N' (h_sz N) i = none)
    (m1 : ∀ b, b ≠ h_sz H → h_ln H' b = h_ln H b ∧ (∀ k, h_fi H' k b = h_fi H k b ∧ h_fl H' k b = h_fl H k b ∧ h_fr H' k b = h_fr H k b) ∧ ∀ i, h_ai H' b i = h_ai H b i ∧ h_al H' b i = h_al H b i ∧ h_ar H' b i = h_ar H b i)
    (m2 : ∀ b, b ≠ h_sz N → h_ln N' b = h_ln N b ∧ (∀ k, h_fi N' k b = h_fi N k b ∧ h_fl N' k b = h_fl N k b ∧ h_fr N' k b = h_fr N k b) ∧ ∀ i, h_ai N' b i = h_ai N b i ∧ h_al N' b i = h_al N b i ∧ h_ar N' b i = h_ar N b i) :
    ∃ ρ', rn Y M0 ρ' N' H' ∧ ex ρ N ρ' N' ∧ vn ρ' N' (h_sz N) (h_sz H) := by
  obtain ⟨⟨⟨b1, b0⟩, b2, b3⟩, c2, c3, c4, c5, c6⟩ := g
  have hz : ∀ a, h_tg N a ≠ 0 → a ≠ h_sz N := fun a ha q => ha (q ▸ (b1 _ (Nat.le_refl _)).1)
  have hr : ∀ a, h_tg N a ≠ 0 → ρ a ≠ h_sz H := fun a ha q => by have := (c2 a ha).1; omega
  have ht' : ∀ a, h_tg N' a ≠ 0 → a = h_sz N ∨ (a ≠ h_sz N ∧ h_tg N a ≠ 0 ∧ h_tg N' a = h_tg N a) := fun a ha => by
    by_cases q : a = h_sz N
    · exact Or.inl q
    · have e : h_tg N' a = h_tg N a := by rw [n1]; exact if_neg q
      exact Or.inr ⟨q, e ▸ ha, e⟩
  have x : ex ρ N (u1 ρ (h_sz N) (h_sz H)) N' := fun a ha => ⟨if_neg (hz a ha), by rw [(hk.2.1 a ha).1]; exact ha⟩
  have e0 : u1 ρ (h_sz N) (h_sz H) (h_sz N) = h_sz H := if_pos rfl
  have en : ∀ a, a ≠ h_sz N → u1 ρ (h_sz N) (h_sz H) a = ρ a := fun a q => if_neg q
  have t0 : h_tg N' (h_sz N) = t := by rw [n1]; exact if_pos rfl
  refine ⟨u1 ρ (h_sz N) (h_sz H), ⟨⟨⟨hk.1, hH⟩, by omega, s3⟩, fun a ha => ?_, fun a ha k => ?_, fun a ha i => ?_, fun a b ha hb q => ?_, fun y hy => ?_⟩, x, e0.symm, by rw [t0]; exact ht⟩
  · rcases ht' a ha with rfl | ⟨q, h1, h2⟩
    · rw [e0]
      exact ⟨by omega, fun hy => by have := (c6 _ hy).1; omega, by rw [t0, n2]; exact if_pos rfl, n3⟩
    · obtain ⟨d1, d2, d3, d4⟩ := c2 a h1
      rw [en a q, n2, h2, (m1 _ (hr a h1)).1, (m2 _ q).1]
      exact ⟨by omega, d2, (if_neg (hr a h1)).trans d3, d4⟩
  · rcases ht' a ha with rfl | ⟨q, h1, h2⟩
    · rw [e0, (n4 k).1, (n4 k).2.1, (n4 k).2.2, (n4' k).1, (n4' k).2.1, (n4' k).2.2]
      exact ⟨rfl, rfl, vo_no⟩
    · obtain ⟨d1, d2, d3⟩ := c3 a h1 k
      obtain ⟨-, f1, -⟩ := m1 _ (hr a h1)
      obtain ⟨-, f2, -⟩ := m2 _ q
      rw [en a q, (f1 k).1, (f1 k).2.1, (f1 k).2.2, (f2 k).1, (f2 k).2.1, (f2 k).2.2]
      exact ⟨d1, d2, d3.up x⟩
  · rcases ht' a ha with rfl | ⟨q, h1, h2⟩
    · rw [e0, (n5 i).1, (n5 i).2.1, (n5 i).2.2, (n5' i).1, (n5' i).2.1, (n5' i).2.2]
      exact ⟨rfl, rfl, vo_no⟩
    · obtain ⟨d1, d2, d3⟩ := c4 a h1 i
      obtain ⟨-, -, f1⟩ := m1 _ (hr a h1)
      obtain ⟨-, -, f2⟩ := m2 _ q
      rw [en a q, (f1 i).1, (f1 i).2.1, (f1 i).2.2, (f2 i).1, (f2 i).2.1, (f2 i).2.2]
      exact ⟨d1, d2, d3.up x⟩
  · rcases ht' a ha with rfl | ⟨qa, h1, h2⟩
    · rcases ht' b hb with rfl | ⟨qb, h3, h4⟩
      · rfl
      · rw [e0, en b qb] at q
        exact absurd q.symm (hr b h3)
    · rcases ht' b hb with rfl | ⟨qb, h3, h4⟩
      · rw [e0, en a qa] at q
        exact absurd q (hr a h1)
      · rw [en a qa, en b qb] at q
        exact c5 a b h1 h3 q
  · obtain ⟨d1, d2, d3, d4, d5⟩ := c6 y hy
    have hyz : y ≠ h_sz H := by omega
    obtain ⟨f0, f1, f2⟩ := m1 y hyz
    refine ⟨by omega, by rw [n2]; exact (if_neg hyz).trans d2, f0.trans d3, fun k => ?_, fun i => ?_⟩
    · exact ⟨(f1 k).1.trans (d4 k).1, (f1 k).2.1.trans (d4 k).2.1, (f1 k).2.2.trans (d4 k).2.2⟩
    · exact ⟨(f2 i).1.trans (d5 i).1, (f2 i).2.1.trans (d5 i).2.1, (f2 i).2.2.trans (d5 i).2.2⟩
theorem w_no {n : Nat} (g : rn Y M0 ρ N H) (e : n_o N ci n = some N1) : ∃ ρ1 H1, n_o H ci n = some H1 ∧ rn Y M0 ρ1 N1 H1 ∧ ex ρ N ρ1 N1 ∧ vn ρ1 N1 (h_sz N) (h_sz H) := by
  have hk := k_n_o e g.1.1.1
  have hkH : kp [] [0] H (h_no H ci n) := k_n_o rfl g.1.1.2
  cases e
  obtain ⟨-, z2, z3, z4⟩ := g.1.1.2 _ (Nat.le_refl _)
  obtain ⟨-, y2, y3, y4⟩ := g.1.1.1 _ (Nat.le_refl _)
  obtain ⟨ρ', r1, r2, r3⟩ := rn_new (N' := h_no N ci n) (H' := h_no H ci n) (t := ci + 1) g (by omega) hk hkH.1 rfl rfl (by show h_sl N + n = h_sl H + n; rw [g.1.2.2]) rfl rfl (z2.trans y2.symm) (fun k => ⟨if_pos rfl, if_pos rfl, if_pos rfl⟩) z4 (fun k => ⟨if_pos rfl, if_pos rfl, if_pos rfl⟩) y4 (fun b q => ⟨rfl, fun k => ⟨if_neg q, if_neg q, if_neg q⟩, fun i => ⟨rfl, rfl, rfl⟩⟩) (fun b q => ⟨rfl, fun k => ⟨if_neg q, if_neg q, if_neg q⟩, fun i => ⟨rfl, rfl, rfl⟩⟩)
  exact ⟨ρ', _, rfl, r1, r2, r3⟩
theorem w_na {n : Int32} (g : rn Y M0 ρ N H) (ht : t ≠ 0) (e : n_a N t n = some N1) : ∃ ρ1 H1, n_a H t n = some H1 ∧ rn Y M0 ρ1 N1 H1 ∧ ex ρ N ρ1 N1 ∧ vn ρ1 N1 (h_sz N) (h_sz H) := by
  have hk := k_n_a e g.1.1.1
  unfold n_a at e
  split at e
  · rename_i q
    have eH : n_a H t n = some (h_na H t n.toNatClampNeg) := if_pos q
    have hkH := k_n_a eH g.1.1.2
    cases e
    obtain ⟨-, z2, z3, z4⟩ := g.1.1.2 _ (Nat.le_refl _)
    obtain ⟨-, y2, y3, y4⟩ := g.1.1.1 _ (Nat.le_refl _)
    obtain ⟨ρ', r1, r2, r3⟩ := rn_new (N' := h_na N t n.toNatClampNeg) (H' := h_na H t n.toNatClampNeg) (t := t) g ht hk hkH.1 rfl rfl (by show h_sl N + _ = h_sl H + _; rw [g.1.2.2]) rfl rfl ((if_pos rfl).trans (if_pos rfl).symm) z3 (fun i => ⟨if_pos rfl, if_pos rfl, if_pos rfl⟩) y3 (fun i => ⟨if_pos rfl, if_pos rfl, if_pos rfl⟩) (fun b q => ⟨if_neg q, fun k => ⟨rfl, rfl, rfl⟩, fun i => ⟨if_neg q, if_neg q, if_neg q⟩⟩) (fun b q => ⟨if_neg q, fun k => ⟨rfl, rfl, rfl⟩, fun i => ⟨if_neg q, if_neg q, if_neg q⟩⟩)
    exact ⟨ρ', _, eH, r1, r2, r3⟩
  · cases e
end WS
theorem wb0_0 {a0 : Nat} {a0_x : Nat} {v1 : Int32} {v2 : Int32} {v3 : Int32} {Y : Nat → Prop} {M0 : hM} {ρ : Nat → Nat} {M H : hM} {res : xRes} (h : b0_0 a0 v1 v2 v3 M = some res) (g : rn Y M0 ρ M H) (r_a0 : vn ρ M a0 a0_x) : wq Y M0 ρ M res (b0_0 a0_x v1 v2 v3 H) := by
  unfold b0_0 at h ⊢
  obtain ⟨M1, h1, h⟩ := bd h
  obtain ⟨_, _, e, g, x, r_z⟩ := w_na g (by decide) h1
  refine wq_bd e (wq_up x ?_)
  have r_a0 := r_a0.up x
  have r_h_sz_M := r_z
  obtain ⟨M3, h2, h⟩ := bd h
  obtain ⟨_, e, g, x⟩ := w_pr g r_a0.so r_h_sz_M.so h2
  refine wq_bd e (wq_up x ?_)
  have r_a0 := r_a0.up x
  obtain ⟨M5, h3, h⟩ := bd h
  obtain ⟨_, _, e, g, x, r_z⟩ := w_na g (by decide) h3
  refine wq_bd e (wq_up x ?_)
  have r_a0 := r_a0.up x
  have r_h_sz_M3 := r_z
  obtain ⟨M7, h4, h⟩ := bd h
  obtain ⟨_, e, g, x⟩ := w_pr g r_a0.so r_h_sz_M3.so h4
  refine wq_bd e (wq_up x ?_)
  have r_a0 := r_a0.up x
  obtain ⟨M9, h5, h⟩ := bd h
  obtain ⟨_, e, g, x⟩ := w_pi g r_a0.so h5
  refine wq_bd e (wq_up x ?_)
  have r_a0 := r_a0.up x
  obtain ⟨M11, h6, h⟩ := bd h
  obtain ⟨_, e, g, x⟩ := w_pi g r_a0.so h6
  refine wq_bd e (wq_up x ?_)
  have r_a0 := r_a0.up x
  obtain ⟨M13, h7, h⟩ := bd h
  obtain ⟨_, e, g, x⟩ := w_pi g r_a0.so h7
  refine wq_bd e (wq_up x ?_)
  cases h
  exact ⟨_, _, rfl, vs_n, g, ex.rf⟩
theorem w0 {Y : Nat → Prop} {M0 : hM} {ρ : Nat → Nat} {as as_x : List aV} {M H M' : hM} {r : Option aV} (h : f0 as M = some (r, M')) (g : rn Y M0 ρ M H) (ha : vl ρ M as as_x) : wr Y M0 ρ M r M' (f0 as_x H) := by
  unfold f0 at h
  split at h
  · rename_i a0 v1 v2 v3
    obtain ⟨a0_x, _, rfl, r_a0, ha1⟩ := vl_is ha
    obtain ⟨_, rfl, ha2⟩ := vl_ii ha1
    obtain ⟨_, rfl, ha3⟩ := vl_ii ha2
    obtain ⟨_, rfl, ha4⟩ := vl_ii ha3
    cases vl_in ha4
    exact wx_out h (fun res hx => wb0_0 hx g r_a0)
  · cases h
theorem wb1_0 {a0 : Nat} {a0_x : Nat} {Y : Nat → Prop} {M0 : hM} {ρ : Nat → Nat} {M H : hM} {res : xRes} (h : b1_0 a0 M = some res) (g : rn Y M0 ρ M H) (r_a0 : vn ρ M a0 a0_x) : wq Y M0 ρ M res (b1_0 a0_x H) := by
  unfold b1_0 at h ⊢
  cases h
  exact ⟨_, _, rfl, vs_n, g, ex.rf⟩
theorem w1 {Y : Nat → Prop} {M0 : hM} {ρ : Nat → Nat} {as as_x : List aV} {M H M' : hM} {r : Option aV} (h : f1 as M = some (r, M')) (g : rn Y M0 ρ M H) (ha : vl ρ M as as_x) : wr Y M0 ρ M r M' (f1 as_x H) := by
  unfold f1 at h
  split at h
  · rename_i a0
    obtain ⟨a0_x, _, rfl, r_a0, ha1⟩ := vl_is ha
    cases vl_in ha1
    exact wx_out h (fun res hx => wb1_0 hx g r_a0)
  · cases h
theorem wb2_0 {a0 : Nat} {a0_x : Nat} {o1 : Option Nat} {o1_x : Option Nat} {v2 : Int32} {v3 : Int32} {Y : Nat → Prop} {M0 : hM} {ρ : Nat → Nat} {M H : hM} {res : xRes} (h : b2_0 a0 o1 v2 v3 M = some res) (g : rn Y M0 ρ M H) (r_a0 : vn ρ M a0 a0_x) (r_o1 : vo ρ M o1 o1_x) : wq Y M0 ρ M res (b2_0 a0_x o1_x v2 v3 H) := by
  unfold b2_0 at h ⊢
  obtain ⟨M1, h1, h⟩ := bd h
  obtain ⟨_, _, e, g, x, r_z⟩ := w_no g h1
  refine wq_bd e (wq_up x ?_)
  have r_a0 := r_a0.up x
  have r_o1 := r_o1.up x
  have r_h_sz_M := r_z
  obtain ⟨q_3, h2, h⟩ := bd h
  obtain ⟨_, _, e, g, x⟩ := wc_V (f := f1) h2 (fun e => w1 e g (vl_c (va_r r_h_sz_M.so) vl_n))
  refine wq_bd e (wq_up x ?_)
  have r_a0 := r_a0.up x
  have r_h_sz_M := r_h_sz_M.up x
  have r_o1 := r_o1.up x
  obtain ⟨M5, h3, h⟩ := bd h
  obtain ⟨_, e, g, x⟩ := w_pr g r_a0.so r_h_sz_M.so h3
  refine wq_bd e (wq_up x ?_)
  have r_a0 := r_a0.up x
  have r_o1 := r_o1.up x
  obtain ⟨M7, h4, h⟩ := bd h
  obtain ⟨_, _, e, g, x, r_z⟩ := w_no g h4
  refine wq_bd e (wq_up x ?_)
  have r_a0 := r_a0.up x
  have r_o1 := r_o1.up x
  have r_h_sz_M5 := r_z
  obtain ⟨q_9, h5, h⟩ := bd h
  obtain ⟨_, _, e, g, x⟩ := wc_V (f := f1) h5 (fun e => w1 e g (vl_c (va_r r_h_sz_M5.so) vl_n))
  refine wq_bd e (wq_up x ?_)
  have r_a0 := r_a0.up x
  have r_h_sz_M5 := r_h_sz_M5.up x
  have r_o1 := r_o1.up x
  obtain ⟨M11, h6, h⟩ := bd h
  obtain ⟨_, e, g, x⟩ := w_pr g r_a0.so r_h_sz_M5.so h6
  refine wq_bd e (wq_up x ?_)
  have r_a0 := r_a0.up x
  have r_o1 := r_o1.up x
  obtain ⟨M13, h7, h⟩ := bd h
  obtain ⟨_, e, g, x⟩ := w_pi g r_a0.so h7
  refine wq_bd e (wq_up x ?_)
  have r_a0 := r_a0.up x
  have r_o1 := r_o1.up x
  obtain ⟨M15, h8, h⟩ := bd h
  obtain ⟨_, e, g, x⟩ := w_pi g r_a0.so h8
  refine wq_bd e (wq_up x ?_)
  have r_a0 := r_a0.up x
  have r_o1 := r_o1.up x
  obtain ⟨M17, h9, h⟩ := bd h
  obtain ⟨_, e, g, x⟩ := w_pr g r_a0.so r_o1 h9
  refine wq_bd e (wq_up x ?_)
  have r_a0 := r_a0.up x
  obtain ⟨M19, h10, h⟩ := bd h
  obtain ⟨_, e, g, x⟩ := w_pi g r_a0.so h10
  refine wq_bd e (wq_up x ?_)
  have r_a0 := r_a0.up x
  obtain ⟨M21, h11, h⟩ := bd h
  obtain ⟨_, e, g, x⟩ := w_pi g r_a0.so h11
  refine wq_bd e (wq_up x ?_)
  cases h
  exact ⟨_, _, rfl, vs_n, g, ex.rf⟩
theorem w2 {Y : Nat → Prop} {M0 : hM} {ρ : Nat → Nat} {as as_x : List aV} {M H M' : hM} {r : Option aV} (h : f2 as M = some (r, M')) (g : rn Y M0 ρ M H) (ha : vl ρ M as as_x) : wr Y M0 ρ M r M' (f2 as_x H) := by
  unfold f2 at h
  split at h
  · rename_i a0 o1 v2 v3
    obtain ⟨a0_x, _, rfl, r_a0, ha1⟩ := vl_is ha
    obtain ⟨o1_x, _, rfl, r_o1, ha2⟩ := vl_ir ha1
    obtain ⟨_, rfl, ha3⟩ := vl_ii ha2
    obtain ⟨_, rfl, ha4⟩ := vl_ii ha3
    cases vl_in ha4
    exact wx_out h (fun res hx => wb2_0 hx g r_a0 r_o1)
  · cases h
theorem wb3_0 {a0 : Nat} {a0_x : Nat} {o1 : Option Nat} {o1_x : Option Nat} {v2 : Int32} {Y : Nat → Prop} {M0 : hM} {ρ : Nat → Nat} {M H : hM} {res : xRes} (h : b3_0 a0 o1 v2 M = some res) (g : rn Y M0 ρ M H) (r_a0 : vn ρ M a0 a0_x) (r_o1 : vo ρ M o1 o1_x) : wq Y M0 ρ M res (b3_0 a0_x o1_x v2 H) := by
  unfold b3_0 at h ⊢
  obtain ⟨M1, h1, h⟩ := bd h
  obtain ⟨_, e, g, x⟩ := w_pr g r_a0.so r_o1 h1
  refine wq_bd e (wq_up x ?_)
  have r_a0 := r_a0.up x
  have r_o1 := r_o1.up x
  obtain ⟨M3, h2, h⟩ := bd h
  obtain ⟨_, e, g, x⟩ := w_pi g r_a0.so h2
  refine wq_bd e (wq_up x ?_)
  have r_a0 := r_a0.up x
  have r_o1 := r_o1.up x
  obtain ⟨M5, h3, h⟩ := bd h
  obtain ⟨_, _, e, g, x, r_z⟩ := w_no g h3
  refine wq_bd e (wq_up x ?_)
  have r_a0 := r_a0.up x
  have r_o1 := r_o1.up x
  have r_h_sz_M3 := r_z
  obtain ⟨q_7, h4, h⟩ := bd h
  obtain ⟨_, _, e, g, x⟩ := wc_V (f := f2) h4 (fun e => w2 e g (vl_c (va_r r_h_sz_M3.so) (vl_c (va_r r_o1) (vl_c va_i (vl_c va_i vl_n)))))
  refine wq_bd e (wq_up x ?_)
  have r_a0 := r_a0.up x
  have r_h_sz_M3 := r_h_sz_M3.up x
  obtain ⟨M9, h5, h⟩ := bd h
  obtain ⟨_, e, g, x⟩ := w_pr g r_a0.so r_h_sz_M3.so h5
  refine wq_bd e (wq_up x ?_)
  cases h
  exact ⟨_, _, rfl, vs_n, g, ex.rf⟩
theorem w3 {Y : Nat → Prop} {M0 : hM} {ρ : Nat → Nat} {as as_x : List aV} {M H M' : hM} {r : Option aV} (h : f3 as M = some (r, M')) (g : rn Y M0 ρ M H) (ha : vl ρ M as as_x) : wr Y M0 ρ M r M' (f3 as_x H) := by
  unfold f3 at h
  split at h
  · rename_i a0 o1 v2
    obtain ⟨a0_x, _, rfl, r_a0, ha1⟩ := vl_is ha
    obtain ⟨o1_x, _, rfl, r_o1, ha2⟩ := vl_ir ha1
    obtain ⟨_, rfl, ha3⟩ := vl_ii ha2
    cases vl_in ha3
    exact wx_out h (fun res hx => wb3_0 hx g r_a0 r_o1)
  · cases h
theorem wb4_0 {a0 : Nat} {a0_x : Nat} {o1 : Option Nat} {o1_x : Option Nat} {o2 : Option Nat} {o2_x : Option Nat} {Y : Nat → Prop} {M0 : hM} {ρ : Nat → Nat} {M H : hM} {res : xRes} (h : b4_0 a0 o1 o2 M = some res) (g : rn Y M0 ρ M H) (r_a0 : vn ρ M a0 a0_x) (r_o1 : vo ρ M o1 o1_x) (r_o2 : vo ρ M o2 o2_x) : wq Y M0 ρ M res (b4_0 a0_x o1_x o2_x H) := by
  unfold b4_0 at h ⊢
  obtain ⟨M1, h1, h⟩ := bd h
  obtain ⟨_, _, e, g, x, r_z⟩ := w_na g (by decide) h1
  refine wq_bd e (wq_up x ?_)
  have r_a0 := r_a0.up x
  have r_o2 := r_o2.up x
  have r_o1 := r_o1.up x
  have r_h_sz_M := r_z
  obtain ⟨M3, h2, h⟩ := bd h
  obtain ⟨_, e, g, x⟩ := w_pr g r_a0.so r_h_sz_M.so h2
  refine wq_bd e (wq_up x ?_)
  have r_a0 := r_a0.up x
  have r_o2 := r_o2.up x
  have r_o1 := r_o1.up x
  obtain ⟨M5, h3, h⟩ := bd h
  obtain ⟨_, e, g, x⟩ := w_pr g r_a0.so r_o1 h3
  refine wq_bd e (wq_up x ?_)
  have r_a0 := r_a0.up x
  have r_o2 := r_o2.up x
  have r_o1 := r_o1.up x
  obtain ⟨M7, h4, h⟩ := bd h
  obtain ⟨_, e, g, x⟩ := w_pr g r_a0.so r_o2 h4
  refine wq_bd e (wq_up x ?_)
  have r_a0 := r_a0.up x
  have r_o1 := r_o1.up x
  obtain ⟨v_9, h5, h⟩ := bd h
  refine wq_bd (w_gi g r_o1 h5) ?_
  obtain ⟨M11, h6, h⟩ := bd h
  obtain ⟨_, _, e, g, x, r_z⟩ := w_na g (by decide) h6
  refine wq_bd e (wq_up x ?_)
  have r_a0 := r_a0.up x
  have r_h_sz_M7 := r_z
  obtain ⟨M13, h7, h⟩ := bd h
  obtain ⟨_, e, g, x⟩ := w_pr g r_a0.so r_h_sz_M7.so h7
  refine wq_bd e (wq_up x ?_)
  cases h
  exact ⟨_, _, rfl, vs_n, g, ex.rf⟩
theorem w4 {Y : Nat → Prop} {M0 : hM} {ρ : Nat → Nat} {as as_x : List aV} {M H M' : hM} {r : Option aV} (h : f4 as M = some (r, M')) (g : rn Y M0 ρ M H) (ha : vl ρ M as as_x) : wr Y M0 ρ M r M' (f4 as_x H) := by
  unfold f4 at h
  split at h
  · rename_i a0 o1 o2
    obtain ⟨a0_x, _, rfl, r_a0, ha1⟩ := vl_is ha
    obtain ⟨o1_x, _, rfl, r_o1, ha2⟩ := vl_ir ha1
    obtain ⟨o2_x, _, rfl, r_o2, ha3⟩ := vl_ir ha2
    cases vl_in ha3
    exact wx_out h (fun res hx => wb4_0 hx g r_a0 r_o1 r_o2)
  · cases h
theorem wb5_0 {a0 : Nat} {a0_x : Nat} {Y : Nat → Prop} {M0 : hM} {ρ : Nat → Nat} {M H : hM} {res : xRes} (h : b5_0 a0 M = some res) (g : rn Y M0 ρ M H) (r_a0 : vn ρ M a0 a0_x) : wq Y M0 ρ M res (b5_0 a0_x H) := by
  unfold b5_0 at h ⊢
  obtain ⟨M1, h1, h⟩ := bd h
  obtain ⟨_, _, e, g, x, r_z⟩ := w_na g (by decide) h1
  refine wq_bd e (wq_up x ?_)
  have r_a0 := r_a0.up x
  have r_h_sz_M := r_z
  obtain ⟨M3, h2, h⟩ := bd h
  obtain ⟨_, e, g, x⟩ := w_pr g r_a0.so r_h_sz_M.so h2
  refine wq_bd e (wq_up x ?_)
  cases h
  exact ⟨_, _, rfl, vs_n, g, ex.rf⟩
theorem w5 {Y : Nat → Prop} {M0 : hM} {ρ : Nat → Nat} {as as_x : List aV} {M H M' : hM} {r : Option aV} (h : f5 as M = some (r, M')) (g : rn Y M0 ρ M H) (ha : vl ρ M as as_x) : wr Y M0 ρ M r M' (f5 as_x H) := by
  unfold f5 at h
  split at h
  · rename_i a0
    obtain ⟨a0_x, _, rfl, r_a0, ha1⟩ := vl_is ha
    cases vl_in ha1
    exact wx_out h (fun res hx => wb5_0 hx g r_a0)
  · cases h
theorem wb8_17 {si0 : Int32} {Y : Nat → Prop} {M0 : hM} {ρ : Nat → Nat} {M H : hM} {res : xRes} (h : b8_17 si0 M = some res) (g : rn Y M0 ρ M H)  : wq Y M0 ρ M res (b8_17 si0 H) := by
  unfold b8_17 at h ⊢
  rcases ite_some h with ⟨q, h⟩ | ⟨q, h⟩
  · refine wq_ip q ?_
    cases h
    exact ⟨_, _, rfl, (vs_a va_i), g, ex.rf⟩
  · refine wq_in q ?_
    cases h
theorem wb8_16  {Y : Nat → Prop} {M0 : hM} {ρ : Nat → Nat} {M H : hM} {res : xRes} (h : b8_16  M = some res) (g : rn Y M0 ρ M H)  : wq Y M0 ρ M res (b8_16  H) := by
  unfold b8_16 at h ⊢
  exact wb8_17 h g 
theorem wb8_0 {a0 : Nat} {a0_x : Nat} {v1 : Int32} {Y : Nat → Prop} {M0 : hM} {ρ : Nat → Nat} {M H : hM} {res : xRes} (h : b8_0 a0 v1 M = some res) (g : rn Y M0 ρ M H) (r_a0 : vn ρ M a0 a0_x) : wq Y M0 ρ M res (b8_0 a0_x v1 H) := by
  unfold b8_0 at h ⊢
  rcases ite_some h with ⟨q, h⟩ | ⟨q, h⟩
  · refine wq_ip q ?_
    exact wb8_16 h g 
  · refine wq_in q ?_
    obtain ⟨v_1, h1, h⟩ := bd h
    refine wq_bd (w_gi g r_a0.so h1) ?_
    rcases ite_some h with ⟨q, h⟩ | ⟨q, h⟩
    · refine wq_ip q ?_
      exact wb8_16 h g 
    · refine wq_in q ?_
      exact wb8_17 h g 
theorem w8 {Y : Nat → Prop} {M0 : hM} {ρ : Nat → Nat} {as as_x : List aV} {M H M' : hM} {r : Option aV} (h : f8 as M = some (r, M')) (g : rn Y M0 ρ M H) (ha : vl ρ M as as_x) : wr Y M0 ρ M r M' (f8 as_x H) := by
  unfold f8 at h
  split at h
  · rename_i a0 v1
    obtain ⟨a0_x, _, rfl, r_a0, ha1⟩ := vl_is ha
    obtain ⟨_, rfl, ha2⟩ := vl_ii ha1
    cases vl_in ha2
    exact wx_out h (fun res hx => wb8_0 hx g r_a0)
  · cases h
theorem wb9_0 {a0 : Nat} {a0_x : Nat} {Y : Nat → Prop} {M0 : hM} {ρ : Nat → Nat} {M H : hM} {res : xRes} (h : b9_0 a0 M = some res) (g : rn Y M0 ρ M H) (r_a0 : vn ρ M a0 a0_x) : wq Y M0 ρ M res (b9_0 a0_x H) := by
  unfold b9_0 at h ⊢
  obtain ⟨M1, h1, h⟩ := bd h
  obtain ⟨_, _, e, g, x, r_z⟩ := w_na g (by decide) h1
  refine wq_bd e (wq_up x ?_)
  have r_a0 := r_a0.up x
  have r_h_sz_M := r_z
  obtain ⟨M3, h2, h⟩ := bd h
  obtain ⟨_, e, g, x⟩ := w_pr g r_a0.so r_h_sz_M.so h2
  refine wq_bd e (wq_up x ?_)
  cases h
  exact ⟨_, _, rfl, vs_n, g, ex.rf⟩
theorem w9 {Y : Nat → Prop} {M0 : hM} {ρ : Nat → Nat} {as as_x : List aV} {M H M' : hM} {r : Option aV} (h : f9 as M = some (r, M')) (g : rn Y M0 ρ M H) (ha : vl ρ M as as_x) : wr Y M0 ρ M r M' (f9 as_x H) := by
  unfold f9 at h
  split at h
  · rename_i a0
    obtain ⟨a0_x, _, rfl, r_a0, ha1⟩ := vl_is ha
    cases vl_in ha1
    exact wx_out h (fun res hx => wb9_0 hx g r_a0)
  · cases h
theorem wb10_0 {a0 : Nat} {a0_x : Nat} {o1 : Option Nat} {o1_x : Option Nat} {o2 : Option Nat} {o2_x : Option Nat} {Y : Nat → Prop} {M0 : hM} {ρ : Nat → Nat} {M H : hM} {res : xRes} (h : b10_0 a0 o1 o2 M = some res) (g : rn Y M0 ρ M H) (r_a0 : vn ρ M a0 a0_x) (r_o1 : vo ρ M o1 o1_x) (r_o2 : vo ρ M o2 o2_x) : wq Y M0 ρ M res (b10_0 a0_x o1_x o2_x H) := by
  unfold b10_0 at h ⊢
  obtain ⟨M1, h1, h⟩ := bd h
  obtain ⟨_, _, e, g, x, r_z⟩ := w_na g (by decide) h1
  refine wq_bd e (wq_up x ?_)
  have r_a0 := r_a0.up x
  have r_o2 := r_o2.up x
  have r_o1 := r_o1.up x
  have r_h_sz_M := r_z
  obtain ⟨M3, h2, h⟩ := bd h
  obtain ⟨_, e, g, x⟩ := w_pr g r_a0.so r_h_sz_M.so h2
  refine wq_bd e (wq_up x ?_)
  have r_a0 := r_a0.up x
  have r_o2 := r_o2.up x
  have r_o1 := r_o1.up x
  obtain ⟨M5, h3, h⟩ := bd h
  obtain ⟨_, _, e, g, x, r_z⟩ := w_na g (by decide) h3
  refine wq_bd e (wq_up x ?_)
  have r_a0 := r_a0.up x
  have r_o2 := r_o2.up x
  have r_o1 := r_o1.up x
  have r_h_sz_M3 := r_z
  obtain ⟨M7, h4, h⟩ := bd h
  obtain ⟨_, e, g, x⟩ := w_pr g r_a0.so r_h_sz_M3.so h4
  refine wq_bd e (wq_up x ?_)
  have r_a0 := r_a0.up x
  have r_o2 := r_o2.up x
  have r_o1 := r_o1.up x
  obtain ⟨M9, h5, h⟩ := bd h
  obtain ⟨_, _, e, g, x, r_z⟩ := w_na g (by decide) h5
  refine wq_bd e (wq_up x ?_)
  have r_a0 := r_a0.up x
  have r_o2 := r_o2.up x
  have r_o1 := r_o1.up x
  have r_h_sz_M7 := r_z
  obtain ⟨M11, h6, h⟩ := bd h
  obtain ⟨_, e, g, x⟩ := w_pr g r_a0.so r_h_sz_M7.so h6
  refine wq_bd e (wq_up x ?_)
  have r_a0 := r_a0.up x
  have r_o2 := r_o2.up x
  have r_o1 := r_o1.up x
  obtain ⟨M13, h7, h⟩ := bd h
  obtain ⟨_, e, g, x⟩ := w_pr g r_a0.so r_o1 h7
  refine wq_bd e (wq_up x ?_)
  have r_a0 := r_a0.up x
  have r_o2 := r_o2.up x
  obtain ⟨M15, h8, h⟩ := bd h
  obtain ⟨_, e, g, x⟩ := w_pr g r_a0.so r_o2 h8
  refine wq_bd e (wq_up x ?_)
  have r_a0 := r_a0.up x
  cases h
  exact ⟨_, _, rfl, (vs_g (vl_c (va_r r_a0.so) (vl_c va_i vl_n))), g, ex.rf⟩
theorem wb10_41 {a0 : Nat} {a0_x : Nat} {v3 : Int32} {Y : Nat → Prop} {M0 : hM} {ρ : Nat → Nat} {M H : hM} {res : xRes} (h : b10_41 a0 v3 M = some res) (g : rn Y M0 ρ M H) (r_a0 : vn ρ M a0 a0_x) : wq Y M0 ρ M res (b10_41 a0_x v3 H) := by
  unfold b10_41 at h ⊢
  rcases ite_some h with ⟨q, h⟩ | ⟨q, h⟩
  · refine wq_ip q ?_
    cases h
    exact ⟨_, _, rfl, vs_n, g, ex.rf⟩
  · refine wq_in q ?_
    obtain ⟨o_17, h1, h⟩ := bd h
    obtain ⟨o_17_x, e, r_o_17⟩ := w_gr g r_a0.so h1
    refine wq_bd e ?_
    obtain ⟨M19, h2, h⟩ := bd h
    obtain ⟨_, _, e, g, x, r_z⟩ := w_no g h2
    refine wq_bd e (wq_up x ?_)
    have r_a0 := r_a0.up x
    have r_o_17 := r_o_17.up x
    have r_h_sz_M := r_z
    obtain ⟨q_21, h3, h⟩ := bd h
    obtain ⟨_, _, e, g, x⟩ := wc_V (f := f9) h3 (fun e => w9 e g (vl_c (va_r r_h_sz_M.so) vl_n))
    refine wq_bd e (wq_up x ?_)
    have r_a0 := r_a0.up x
    have r_o_17 := r_o_17.up x
    have r_h_sz_M := r_h_sz_M.up x
    obtain ⟨M23, h4, h⟩ := bd h
    obtain ⟨_, e, g, x⟩ := w_asr g r_o_17 r_h_sz_M.so h4
    refine wq_bd e (wq_up x ?_)
    have r_a0 := r_a0.up x
    cases h
    exact ⟨_, _, rfl, (vs_g (vl_c (va_r r_a0.so) (vl_c va_i vl_n))), g, ex.rf⟩
theorem w10 {Y : Nat → Prop} {M0 : hM} {ρ : Nat → Nat} {as as_x : List aV} {M H M' : hM} {r : Option aV} (h : f10 as M = some (r, M')) (g : rn Y M0 ρ M H) (ha : vl ρ M as as_x) : wr Y M0 ρ M r M' (f10 as_x H) := by
  unfold f10 at h
  split at h
  · rename_i a0 o1 o2
    obtain ⟨a0_x, _, rfl, r_a0, ha1⟩ := vl_is ha
    obtain ⟨o1_x, _, rfl, r_o1, ha2⟩ := vl_ir ha1
    obtain ⟨o2_x, _, rfl, r_o2, ha3⟩ := vl_ir ha2
    cases vl_in ha3
    show wr Y M0 ρ M r M' (x_go k10 (b10_0 a0_x o1_x o2_x H))
    refine wx_go (blk := k10) ?_ h (fun res hx => wb10_0 hx g r_a0 r_o1 r_o2)
    intro ρ h as as_x M H res hk g ha
    unfold k10 at hk
    split at hk
    · rename_i hh
      subst hh
      split at hk
      · rename_i a0 v3
        obtain ⟨a0_x, _, rfl, r_a0, ha1⟩ := vl_is ha
        obtain ⟨_, rfl, ha2⟩ := vl_ii ha1
        cases vl_in ha2
        exact wb10_41 hk g r_a0
      · cases hk
    · skip
      cases hk
  · cases h
theorem wb11_47  {Y : Nat → Prop} {M0 : hM} {ρ : Nat → Nat} {M H : hM} {res : xRes} (h : b11_47  M = some res) (g : rn Y M0 ρ M H)  : wq Y M0 ρ M res (b11_47  H) := by
  unfold b11_47 at h ⊢
  cases h
  exact ⟨_, _, rfl, (vs_a va_i), g, ex.rf⟩
theorem wb11_0 {a0 : Nat} {a0_x : Nat} {v1 : Int32} {Y : Nat → Prop} {M0 : hM} {ρ : Nat → Nat} {M H : hM} {res : xRes} (h : b11_0 a0 v1 M = some res) (g : rn Y M0 ρ M H) (r_a0 : vn ρ M a0 a0_x) : wq Y M0 ρ M res (b11_0 a0_x v1 H) := by
  unfold b11_0 at h ⊢
  obtain ⟨o_1, h1, h⟩ := bd h
  obtain ⟨o_1_x, e, r_o_1⟩ := w_gr g r_a0.so h1
  refine wq_bd e ?_
  obtain ⟨b_5, h2, h⟩ := bd h
  obtain ⟨b_5_x, e, r_b_5⟩ := w_go g r_o_1 h2
  refine wq_bd e ?_
  obtain ⟨q_3, h3, h⟩ := bd h
  obtain ⟨_, _, e, g, x⟩ := wc_I (f := f8) h3 (fun e => w8 e g (vl_c (va_r r_b_5.so) (vl_c va_i vl_n)))
  refine wq_bd e (wq_up x ?_)
  have r_a0 := r_a0.up x
  rcases ite_some h with ⟨q, h⟩ | ⟨q, h⟩
  · refine wq_ip q ?_
    cases h
    exact ⟨_, _, rfl, (vs_a va_i), g, ex.rf⟩
  · refine wq_in q ?_
    obtain ⟨o_7, h4, h⟩ := bd h
    obtain ⟨o_7_x, e, r_o_7⟩ := w_gr g r_a0.so h4
    refine wq_bd e ?_
    obtain ⟨o_9, h5, h⟩ := bd h
    obtain ⟨o_9_x, e, r_o_9⟩ := w_alr g r_o_7 h5
    refine wq_bd e ?_
    obtain ⟨o_11, h6, h⟩ := bd h
    obtain ⟨o_11_x, e, r_o_11⟩ := w_gr g r_o_9 h6
    refine wq_bd e ?_
    rcases ite_some h with ⟨q, h⟩ | ⟨q, h⟩
    · refine wq_ip (r_o_11.non q) ?_
      exact wb11_47 h g 
    · refine wq_in (r_o_11.nnn q) ?_
      obtain ⟨o_13, h7, h⟩ := bd h
      obtain ⟨o_13_x, e, r_o_13⟩ := w_gr g r_o_9 h7
      refine wq_bd e ?_
      obtain ⟨v_15, h8, h⟩ := bd h
      refine wq_bd (w_gi g r_o_13 h8) ?_
      rcases ite_some h with ⟨q, h⟩ | ⟨q, h⟩
      · refine wq_ip q ?_
        obtain ⟨o_17, h9, h⟩ := bd h
        obtain ⟨o_17_x, e, r_o_17⟩ := w_gr g r_o_9 h9
        refine wq_bd e ?_
        obtain ⟨o_19, h10, h⟩ := bd h
        obtain ⟨o_19_x, e, r_o_19⟩ := w_gr g r_o_17 h10
        refine wq_bd e ?_
        rcases ite_some h with ⟨q, h⟩ | ⟨q, h⟩
        · refine wq_ip (r_o_19.non q) ?_
          obtain ⟨M21, h11, h⟩ := bd h
          obtain ⟨_, e, g, x⟩ := w_pr g r_o_9 vo_no h11
          refine wq_bd e (wq_up x ?_)
          have r_a0 := r_a0.up x
          have r_o_9 := r_o_9.up x
          obtain ⟨M23, h12, h⟩ := bd h
          obtain ⟨_, _, e, g, x, r_z⟩ := w_no g h12
          refine wq_bd e (wq_up x ?_)
          have r_a0 := r_a0.up x
          have r_o_9 := r_o_9.up x
          have r_h_sz_M21 := r_z
          obtain ⟨o_25, h13, h⟩ := bd h
          obtain ⟨o_25_x, e, r_o_25⟩ := w_gr g r_a0.so h13
          refine wq_bd e ?_
          obtain ⟨q_27, h14, h⟩ := bd h
          obtain ⟨_, _, e, g, x⟩ := wc_V (f := f10) h14 (fun e => w10 e g (vl_c (va_r r_h_sz_M21.so) (vl_c (va_r r_o_25) (vl_c (va_r r_o_9) vl_n))))
          refine wq_bd e (wq_up x ?_)
          have r_o_9 := r_o_9.up x
          have r_h_sz_M21 := r_h_sz_M21.up x
          obtain ⟨M29, h15, h⟩ := bd h
          obtain ⟨_, e, g, x⟩ := w_pr g r_o_9 r_h_sz_M21.so h15
          refine wq_bd e (wq_up x ?_)
          cases h
          exact ⟨_, _, rfl, (vs_a va_i), g, ex.rf⟩
        · refine wq_in (r_o_19.nnn q) ?_
          exact wb11_47 h g 
      · refine wq_in q ?_
        exact wb11_47 h g 
theorem w11 {Y : Nat → Prop} {M0 : hM} {ρ : Nat → Nat} {as as_x : List aV} {M H M' : hM} {r : Option aV} (h : f11 as M = some (r, M')) (g : rn Y M0 ρ M H) (ha : vl ρ M as as_x) : wr Y M0 ρ M r M' (f11 as_x H) := by
  unfold f11 at h
  split at h
  · rename_i a0 v1
    obtain ⟨a0_x, _, rfl, r_a0, ha1⟩ := vl_is ha
    obtain ⟨_, rfl, ha2⟩ := vl_ii ha1
    cases vl_in ha2
    exact wx_out h (fun res hx => wb11_0 hx g r_a0)
  · cases h
theorem wb12_18 {si0 : Int32} {Y : Nat → Prop} {M0 : hM} {ρ : Nat → Nat} {M H : hM} {res : xRes} (h : b12_18 si0 M = some res) (g : rn Y M0 ρ M H)  : wq Y M0 ρ M res (b12_18 si0 H) := by
  unfold b12_18 at h ⊢
  rcases ite_some h with ⟨q, h⟩ | ⟨q, h⟩
  · refine wq_ip q ?_
    cases h
    exact ⟨_, _, rfl, (vs_a va_i), g, ex.rf⟩
  · refine wq_in q ?_
    cases h
theorem wb12_17  {Y : Nat → Prop} {M0 : hM} {ρ : Nat → Nat} {M H : hM} {res : xRes} (h : b12_17  M = some res) (g : rn Y M0 ρ M H)  : wq Y M0 ρ M res (b12_17  H) := by
  unfold b12_17 at h ⊢
  exact wb12_18 h g 
theorem wb12_0 {a0 : Nat} {a0_x : Nat} {v1 : Int32} {Y : Nat → Prop} {M0 : hM} {ρ : Nat → Nat} {M H : hM} {res : xRes} (h : b12_0 a0 v1 M = some res) (g : rn Y M0 ρ M H) (r_a0 : vn ρ M a0 a0_x) : wq Y M0 ρ M res (b12_0 a0_x v1 H) := by
  unfold b12_0 at h ⊢
  rcases ite_some h with ⟨q, h⟩ | ⟨q, h⟩
  · refine wq_ip q ?_
    exact wb12_17 h g 
  · refine wq_in q ?_
    obtain ⟨o_1, h1, h⟩ := bd h
    obtain ⟨o_1_x, e, r_o_1⟩ := w_gr g r_a0.so h1
    refine wq_bd e ?_
    obtain ⟨v_3, h2, h⟩ := bd h
    refine wq_bd (w_aln g r_o_1 h2) ?_
    rcases ite_some h with ⟨q, h⟩ | ⟨q, h⟩
    · refine wq_ip q ?_
      exact wb12_17 h g 
    · refine wq_in q ?_
      exact wb12_18 h g 
theorem w12 {Y : Nat → Prop} {M0 : hM} {ρ : Nat → Nat} {as as_x : List aV} {M H M' : hM} {r : Option aV} (h : f12 as M = some (r, M')) (g : rn Y M0 ρ M H) (ha : vl ρ M as as_x) : wr Y M0 ρ M r M' (f12 as_x H) := by
  unfold f12 at h
  split at h
  · rename_i a0 v1
    obtain ⟨a0_x, _, rfl, r_a0, ha1⟩ := vl_is ha
    obtain ⟨_, rfl, ha2⟩ := vl_ii ha1
    cases vl_in ha2
    exact wx_out h (fun res hx => wb12_0 hx g r_a0)
  · cases h
theorem wb13_33 {sr0 : Option Nat} {sr0_x : Option Nat} {Y : Nat → Prop} {M0 : hM} {ρ : Nat → Nat} {M H : hM} {res : xRes} (h : b13_33 sr0 M = some res) (g : rn Y M0 ρ M H) (r_sr0 : vo ρ M sr0 sr0_x) : wq Y M0 ρ M res (b13_33 sr0_x H) := by
  unfold b13_33 at h ⊢
  cases h
  exact ⟨_, _, rfl, (vs_a (va_r r_sr0)), g, ex.rf⟩
theorem wb13_32  {Y : Nat → Prop} {M0 : hM} {ρ : Nat → Nat} {M H : hM} {res : xRes} (h : b13_32  M = some res) (g : rn Y M0 ρ M H)  : wq Y M0 ρ M res (b13_32  H) := by
  unfold b13_32 at h ⊢
  exact wb13_33 h g vo_no
theorem wb13_71  {Y : Nat → Prop} {M0 : hM} {ρ : Nat → Nat} {M H : hM} {res : xRes} (h : b13_71  M = some res) (g : rn Y M0 ρ M H)  : wq Y M0 ρ M res (b13_71  H) := by
  unfold b13_71 at h ⊢
  cases h
  exact ⟨_, _, rfl, (vs_a (va_r vo_no)), g, ex.rf⟩
theorem wb13_0 {a0 : Nat} {a0_x : Nat} {v1 : Int32} {v2 : Int32} {Y : Nat → Prop} {M0 : hM} {ρ : Nat → Nat} {M H : hM} {res : xRes} (h : b13_0 a0 v1 v2 M = some res) (g : rn Y M0 ρ M H) (r_a0 : vn ρ M a0 a0_x) : wq Y M0 ρ M res (b13_0 a0_x v1 v2 H) := by
  unfold b13_0 at h ⊢
  obtain ⟨b_3, h1, h⟩ := bd h
  obtain ⟨b_3_x, e, r_b_3⟩ := w_go g r_a0.so h1
  refine wq_bd e ?_
  obtain ⟨q_1, h2, h⟩ := bd h
  obtain ⟨_, _, e, g, x⟩ := wc_I (f := f12) h2 (fun e => w12 e g (vl_c (va_r r_b_3.so) (vl_c va_i vl_n)))
  refine wq_bd e (wq_up x ?_)
  have r_a0 := r_a0.up x
  rcases ite_some h with ⟨q, h⟩ | ⟨q, h⟩
  · refine wq_ip q ?_
    rcases ite_some h with ⟨q, h⟩ | ⟨q, h⟩
    · refine wq_ip q ?_
      exact wb13_71 h g 
    · refine wq_in q ?_
      rcases ite_some h with ⟨q, h⟩ | ⟨q, h⟩
      · refine wq_ip q ?_
        obtain ⟨o_5, h3, h⟩ := bd h
        obtain ⟨o_5_x, e, r_o_5⟩ := w_gr g r_a0.so h3
        refine wq_bd e ?_
        obtain ⟨b_9, h4, h⟩ := bd h
        obtain ⟨b_9_x, e, r_b_9⟩ := w_go g r_o_5 h4
        refine wq_bd e ?_
        obtain ⟨q_7, h5, h⟩ := bd h
        obtain ⟨_, _, e, g, x⟩ := wc_I (f := f8) h5 (fun e => w8 e g (vl_c (va_r r_b_9.so) (vl_c va_i vl_n)))
        refine wq_bd e (wq_up x ?_)
        have r_a0 := r_a0.up x
        rcases ite_some h with ⟨q, h⟩ | ⟨q, h⟩
        · refine wq_ip q ?_
          exact wb13_71 h g 
        · refine wq_in q ?_
          obtain ⟨o_11, h6, h⟩ := bd h
          obtain ⟨o_11_x, e, r_o_11⟩ := w_gr g r_a0.so h6
          refine wq_bd e ?_
          obtain ⟨o_13, h7, h⟩ := bd h
          obtain ⟨o_13_x, e, r_o_13⟩ := w_alr g r_o_11 h7
          refine wq_bd e ?_
          obtain ⟨o_15, h8, h⟩ := bd h
          obtain ⟨o_15_x, e, r_o_15⟩ := w_gr g r_o_13 h8
          refine wq_bd e ?_
          cases h
          exact ⟨_, _, rfl, (vs_a (va_r r_o_15)), g, ex.rf⟩
      · refine wq_in q ?_
        exact wb13_71 h g 
  · refine wq_in q ?_
    rcases ite_some h with ⟨q, h⟩ | ⟨q, h⟩
    · refine wq_ip q ?_
      exact wb13_32 h g 
    · refine wq_in q ?_
      rcases ite_some h with ⟨q, h⟩ | ⟨q, h⟩
      · refine wq_ip q ?_
        exact wb13_32 h g 
      · refine wq_in q ?_
        obtain ⟨o_20, h9, h⟩ := bd h
        obtain ⟨o_20_x, e, r_o_20⟩ := w_gr g r_a0.so h9
        refine wq_bd e ?_
        obtain ⟨o_22, h10, h⟩ := bd h
        obtain ⟨o_22_x, e, r_o_22⟩ := w_alr g r_o_20 h10
        refine wq_bd e ?_
        obtain ⟨o_24, h11, h⟩ := bd h
        obtain ⟨o_24_x, e, r_o_24⟩ := w_gr g r_o_22 h11
        refine wq_bd e ?_
        obtain ⟨o_26, h12, h⟩ := bd h
        obtain ⟨o_26_x, e, r_o_26⟩ := w_alr g r_o_24 h12
        refine wq_bd e ?_
        exact wb13_33 h g r_o_26
theorem w13 {Y : Nat → Prop} {M0 : hM} {ρ : Nat → Nat} {as as_x : List aV} {M H M' : hM} {r : Option aV} (h : f13 as M = some (r, M')) (g : rn Y M0 ρ M H) (ha : vl ρ M as as_x) : wr Y M0 ρ M r M' (f13 as_x H) := by
  unfold f13 at h
  split at h
  · rename_i a0 v1 v2
    obtain ⟨a0_x, _, rfl, r_a0, ha1⟩ := vl_is ha
    obtain ⟨_, rfl, ha2⟩ := vl_ii ha1
    obtain ⟨_, rfl, ha3⟩ := vl_ii ha2
    cases vl_in ha3
    exact wx_out h (fun res hx => wb13_0 hx g r_a0)
  · cases h
theorem wb14_0 {a0 : Nat} {a0_x : Nat} {Y : Nat → Prop} {M0 : hM} {ρ : Nat → Nat} {M H : hM} {res : xRes} (h : b14_0 a0 M = some res) (g : rn Y M0 ρ M H) (r_a0 : vn ρ M a0 a0_x) : wq Y M0 ρ M res (b14_0 a0_x H) := by
  unfold b14_0 at h ⊢
  obtain ⟨M1, h1, h⟩ := bd h
  obtain ⟨_, e, g, x⟩ := w_pz g r_a0.so h1
  refine wq_bd e (wq_up x ?_)
  have r_a0 := r_a0.up x
  obtain ⟨o_3, h2, h⟩ := bd h
  obtain ⟨o_3_x, e, r_o_3⟩ := w_gr g r_a0.so h2
  refine wq_bd e ?_
  obtain ⟨v_5, h3, h⟩ := bd h
  refine wq_bd (w_gi g r_o_3 h3) ?_
  obtain ⟨M7, h4, h⟩ := bd h
  obtain ⟨_, e, g, x⟩ := w_pi g r_a0.so h4
  refine wq_bd e (wq_up x ?_)
  have r_a0 := r_a0.up x
  obtain ⟨M9, h5, h⟩ := bd h
  obtain ⟨_, e, g, x⟩ := w_pi g r_a0.so h5
  refine wq_bd e (wq_up x ?_)
  cases h
  exact ⟨_, _, rfl, vs_n, g, ex.rf⟩
theorem w14 {Y : Nat → Prop} {M0 : hM} {ρ : Nat → Nat} {as as_x : List aV} {M H M' : hM} {r : Option aV} (h : f14 as M = some (r, M')) (g : rn Y M0 ρ M H) (ha : vl ρ M as as_x) : wr Y M0 ρ M r M' (f14 as_x H) := by
  unfold f14 at h
  split at h
  · rename_i a0
    obtain ⟨a0_x, _, rfl, r_a0, ha1⟩ := vl_is ha
    cases vl_in ha1
    exact wx_out h (fun res hx => wb14_0 hx g r_a0)
  · cases h
theorem wb15_35  {Y : Nat → Prop} {M0 : hM} {ρ : Nat → Nat} {M H : hM} {res : xRes} (h : b15_35  M = some res) (g : rn Y M0 ρ M H)  : wq Y M0 ρ M res (b15_35  H) := by
  unfold b15_35 at h ⊢
  cases h
  exact ⟨_, _, rfl, (vs_a va_i), g, ex.rf⟩
theorem wb15_80  {Y : Nat → Prop} {M0 : hM} {ρ : Nat → Nat} {M H : hM} {res : xRes} (h : b15_80  M = some res) (g : rn Y M0 ρ M H)  : wq Y M0 ρ M res (b15_80  H) := by
  unfold b15_80 at h ⊢
  cases h
  exact ⟨_, _, rfl, (vs_a va_i), g, ex.rf⟩
theorem wb15_0 {a0 : Nat} {a0_x : Nat} {v1 : Int32} {v2 : Int32} {v3 : Int32} {v4 : Int32} {v5 : Int32} {Y : Nat → Prop} {M0 : hM} {ρ : Nat → Nat} {M H : hM} {res : xRes} (h : b15_0 a0 v1 v2 v3 v4 v5 M = some res) (g : rn Y M0 ρ M H) (r_a0 : vn ρ M a0 a0_x) : wq Y M0 ρ M res (b15_0 a0_x v1 v2 v3 v4 v5 H) := by
  unfold b15_0 at h ⊢
  obtain ⟨v_1, h1, h⟩ := bd h
  refine wq_bd (w_gi g r_a0.so h1) ?_
  rcases ite_some h with ⟨q, h⟩ | ⟨q, h⟩
  · refine wq_ip q ?_
    exact wb15_35 h g 
  · refine wq_in q ?_
    obtain ⟨b_5, h2, h⟩ := bd h
    obtain ⟨b_5_x, e, r_b_5⟩ := w_go g r_a0.so h2
    refine wq_bd e ?_
    obtain ⟨q_3, h3, h⟩ := bd h
    obtain ⟨_, _, e, g, x⟩ := wc_I (f := f12) h3 (fun e => w12 e g (vl_c (va_r r_b_5.so) (vl_c va_i vl_n)))
    refine wq_bd e (wq_up x ?_)
    have r_a0 := r_a0.up x
    rcases ite_some h with ⟨q, h⟩ | ⟨q, h⟩
    · refine wq_ip q ?_
      exact wb15_35 h g 
    · refine wq_in q ?_
      rcases ite_some h with ⟨q, h⟩ | ⟨q, h⟩
      · refine wq_ip q ?_
        exact wb15_35 h g 
      · refine wq_in q ?_
        rcases ite_some h with ⟨q, h⟩ | ⟨q, h⟩
        · refine wq_ip q ?_
          exact wb15_35 h g 
        · refine wq_in q ?_
          rcases ite_some h with ⟨q, h⟩ | ⟨q, h⟩
          · refine wq_ip q ?_
            obtain ⟨b_9, h4, h⟩ := bd h
            obtain ⟨b_9_x, e, r_b_9⟩ := w_go g r_a0.so h4
            refine wq_bd e ?_
            obtain ⟨q_7, h5, h⟩ := bd h
            obtain ⟨_, _, _, e, g, x, r_q⟩ := wc_R (f := f13) h5 (fun e => w13 e g (vl_c (va_r r_b_9.so) (vl_c va_i (vl_c va_i vl_n))))
            refine wq_bd e (wq_up x ?_)
            have r_a0 := r_a0.up x
            have r_q_7_1 := r_q
            obtain ⟨b_13, h6, h⟩ := bd h
            obtain ⟨b_13_x, e, r_b_13⟩ := w_go g r_a0.so h6
            refine wq_bd e ?_
            obtain ⟨q_11, h7, h⟩ := bd h
            obtain ⟨_, _, _, e, g, x, r_q⟩ := wc_R (f := f13) h7 (fun e => w13 e g (vl_c (va_r r_b_13.so) (vl_c va_i (vl_c va_i vl_n))))
            refine wq_bd e (wq_up x ?_)
            have r_a0 := r_a0.up x
            have r_q_7_1 := r_q_7_1.up x
            have r_q_11_1 := r_q
            rcases ite_some h with ⟨q, h⟩ | ⟨q, h⟩
            · refine wq_ip (r_q_7_1.non q) ?_
              exact wb15_80 h g 
            · refine wq_in (r_q_7_1.nnn q) ?_
              rcases ite_some h with ⟨q, h⟩ | ⟨q, h⟩
              · refine wq_ip (r_q_11_1.non q) ?_
                exact wb15_80 h g 
              · refine wq_in (r_q_11_1.nnn q) ?_
                obtain ⟨o_15, h8, h⟩ := bd h
                obtain ⟨o_15_x, e, r_o_15⟩ := w_gr g r_q_7_1 h8
                refine wq_bd e ?_
                rcases ite_some h with ⟨q, h⟩ | ⟨q, h⟩
                · refine wq_ip (r_o_15.non q) ?_
                  obtain ⟨o_17, h9, h⟩ := bd h
                  obtain ⟨o_17_x, e, r_o_17⟩ := w_gr g r_q_11_1 h9
                  refine wq_bd e ?_
                  rcases ite_some h with ⟨q, h⟩ | ⟨q, h⟩
                  · refine wq_ip (r_o_17.non q) ?_
                    obtain ⟨M19, h10, h⟩ := bd h
                    obtain ⟨_, e, g, x⟩ := w_pr g r_q_7_1 r_q_11_1 h10
                    refine wq_bd e (wq_up x ?_)
                    have r_a0 := r_a0.up x
                    have r_q_11_1 := r_q_11_1.up x
                    have r_q_7_1 := r_q_7_1.up x
                    obtain ⟨M21, h11, h⟩ := bd h
                    obtain ⟨_, e, g, x⟩ := w_pr g r_q_11_1 r_q_7_1 h11
                    refine wq_bd e (wq_up x ?_)
                    have r_a0 := r_a0.up x
                    have r_q_7_1 := r_q_7_1.up x
                    have r_q_11_1 := r_q_11_1.up x
                    obtain ⟨M23, h12, h⟩ := bd h
                    obtain ⟨_, e, g, x⟩ := w_pi g r_q_7_1 h12
                    refine wq_bd e (wq_up x ?_)
                    have r_a0 := r_a0.up x
                    have r_q_7_1 := r_q_7_1.up x
                    have r_q_11_1 := r_q_11_1.up x
                    obtain ⟨M25, h13, h⟩ := bd h
                    obtain ⟨_, e, g, x⟩ := w_pi g r_q_11_1 h13
                    refine wq_bd e (wq_up x ?_)
                    have r_a0 := r_a0.up x
                    have r_q_7_1 := r_q_7_1.up x
                    have r_q_11_1 := r_q_11_1.up x
                    obtain ⟨b_29, h14, h⟩ := bd h
                    obtain ⟨b_29_x, e, r_b_29⟩ := w_go g r_q_7_1 h14
                    refine wq_bd e ?_
                    obtain ⟨q_27, h15, h⟩ := bd h
                    obtain ⟨_, _, e, g, x⟩ := wc_V (f := f14) h15 (fun e => w14 e g (vl_c (va_r r_b_29.so) vl_n))
                    refine wq_bd e (wq_up x ?_)
                    have r_a0 := r_a0.up x
                    have r_q_7_1 := r_q_7_1.up x
                    have r_q_11_1 := r_q_11_1.up x
                    obtain ⟨b_33, h16, h⟩ := bd h
                    obtain ⟨b_33_x, e, r_b_33⟩ := w_go g r_q_11_1 h16
                    refine wq_bd e ?_
                    obtain ⟨q_31, h17, h⟩ := bd h
                    obtain ⟨_, _, e, g, x⟩ := wc_V (f := f14) h17 (fun e => w14 e g (vl_c (va_r r_b_33.so) vl_n))
                    refine wq_bd e (wq_up x ?_)
                    have r_a0 := r_a0.up x
                    have r_q_7_1 := r_q_7_1.up x
                    have r_q_11_1 := r_q_11_1.up x
                    obtain ⟨o_35, h18, h⟩ := bd h
                    obtain ⟨o_35_x, e, r_o_35⟩ := w_gr g r_a0.so h18
                    refine wq_bd e ?_
                    obtain ⟨v_37, h19, h⟩ := bd h
                    refine wq_bd (w_gi g r_a0.so h19) ?_
                    obtain ⟨M39, h20, h⟩ := bd h
                    obtain ⟨_, e, g, x⟩ := w_asr g r_o_35 r_q_7_1 h20
                    refine wq_bd e (wq_up x ?_)
                    have r_a0 := r_a0.up x
                    have r_q_11_1 := r_q_11_1.up x
                    obtain ⟨o_41, h21, h⟩ := bd h
                    obtain ⟨o_41_x, e, r_o_41⟩ := w_gr g r_a0.so h21
                    refine wq_bd e ?_
                    obtain ⟨v_43, h22, h⟩ := bd h
                    refine wq_bd (w_gi g r_a0.so h22) ?_
                    obtain ⟨M45, h23, h⟩ := bd h
                    obtain ⟨_, e, g, x⟩ := w_asr g r_o_41 r_q_11_1 h23
                    refine wq_bd e (wq_up x ?_)
                    have r_a0 := r_a0.up x
                    obtain ⟨v_47, h24, h⟩ := bd h
                    refine wq_bd (w_gi g r_a0.so h24) ?_
                    obtain ⟨M49, h25, h⟩ := bd h
                    obtain ⟨_, e, g, x⟩ := w_pi g r_a0.so h25
                    refine wq_bd e (wq_up x ?_)
                    have r_a0 := r_a0.up x
                    obtain ⟨v_51, h26, h⟩ := bd h
                    refine wq_bd (w_gi g r_a0.so h26) ?_
                    cases h
                    exact ⟨_, _, rfl, (vs_a va_i), g, ex.rf⟩
                  · refine wq_in (r_o_17.nnn q) ?_
                    exact wb15_80 h g 
                · refine wq_in (r_o_15.nnn q) ?_
                  exact wb15_80 h g 
          · refine wq_in q ?_
            exact wb15_35 h g 
theorem w15 {Y : Nat → Prop} {M0 : hM} {ρ : Nat → Nat} {as as_x : List aV} {M H M' : hM} {r : Option aV} (h : f15 as M = some (r, M')) (g : rn Y M0 ρ M H) (ha : vl ρ M as as_x) : wr Y M0 ρ M r M' (f15 as_x H) := by
  unfold f15 at h
  split at h
  · rename_i a0 v1 v2 v3 v4 v5
    obtain ⟨a0_x, _, rfl, r_a0, ha1⟩ := vl_is ha
    obtain ⟨_, rfl, ha2⟩ := vl_ii ha1
    obtain ⟨_, rfl, ha3⟩ := vl_ii ha2
    obtain ⟨_, rfl, ha4⟩ := vl_ii ha3
    obtain ⟨_, rfl, ha5⟩ := vl_ii ha4
    obtain ⟨_, rfl, ha6⟩ := vl_ii ha5
    cases vl_in ha6
    exact wx_out h (fun res hx => wb15_0 hx g r_a0)
  · cases h
theorem wb16_17 {si0 : Int32} {Y : Nat → Prop} {M0 : hM} {ρ : Nat → Nat} {M H : hM} {res : xRes} (h : b16_17 si0 M = some res) (g : rn Y M0 ρ M H)  : wq Y M0 ρ M res (b16_17 si0 H) := by
  unfold b16_17 at h ⊢
  rcases ite_some h with ⟨q, h⟩ | ⟨q, h⟩
  · refine wq_ip q ?_
    cases h
    exact ⟨_, _, rfl, (vs_a va_i), g, ex.rf⟩
  · refine wq_in q ?_
    cases h
theorem wb16_16  {Y : Nat → Prop} {M0 : hM} {ρ : Nat → Nat} {M H : hM} {res : xRes} (h : b16_16  M = some res) (g : rn Y M0 ρ M H)  : wq Y M0 ρ M res (b16_16  H) := by
  unfold b16_16 at h ⊢
  exact wb16_17 h g 
theorem wb16_0 {a0 : Nat} {a0_x : Nat} {v1 : Int32} {Y : Nat → Prop} {M0 : hM} {ρ : Nat → Nat} {M H : hM} {res : xRes} (h : b16_0 a0 v1 M = some res) (g : rn Y M0 ρ M H) (r_a0 : vn ρ M a0 a0_x) : wq Y M0 ρ M res (b16_0 a0_x v1 H) := by
  unfold b16_0 at h ⊢
  rcases ite_some h with ⟨q, h⟩ | ⟨q, h⟩
  · refine wq_ip q ?_
    exact wb16_16 h g 
  · refine wq_in q ?_
    obtain ⟨v_1, h1, h⟩ := bd h
    refine wq_bd (w_gi g r_a0.so h1) ?_
    rcases ite_some h with ⟨q, h⟩ | ⟨q, h⟩
    · refine wq_ip q ?_
      exact wb16_16 h g 
    · refine wq_in q ?_
      exact wb16_17 h g 
theorem w16 {Y : Nat → Prop} {M0 : hM} {ρ : Nat → Nat} {as as_x : List aV} {M H M' : hM} {r : Option aV} (h : f16 as M = some (r, M')) (g : rn Y M0 ρ M H) (ha : vl ρ M as as_x) : wr Y M0 ρ M r M' (f16 as_x H) := by
  unfold f16 at h
  split at h
  · rename_i a0 v1
    obtain ⟨a0_x, _, rfl, r_a0, ha1⟩ := vl_is ha
    obtain ⟨_, rfl, ha2⟩ := vl_ii ha1
    cases vl_in ha2
    exact wx_out h (fun res hx => wb16_0 hx g r_a0)
  · cases h
theorem wb17_17  {Y : Nat → Prop} {M0 : hM} {ρ : Nat → Nat} {M H : hM} {res : xRes} (h : b17_17  M = some res) (g : rn Y M0 ρ M H)  : wq Y M0 ρ M res (b17_17  H) := by
  unfold b17_17 at h ⊢
  cases h
  exact ⟨_, _, rfl, vs_n, g, ex.rf⟩
theorem wb17_0 {a0 : Nat} {a0_x : Nat} {o1 : Option Nat} {o1_x : Option Nat} {Y : Nat → Prop} {M0 : hM} {ρ : Nat → Nat} {M H : hM} {res : xRes} (h : b17_0 a0 o1 M = some res) (g : rn Y M0 ρ M H) (r_a0 : vn ρ M a0 a0_x) (r_o1 : vo ρ M o1 o1_x) : wq Y M0 ρ M res (b17_0 a0_x o1_x H) := by
  unfold b17_0 at h ⊢
  rcases ite_some h with ⟨q, h⟩ | ⟨q, h⟩
  · refine wq_ip (r_o1.non q) ?_
    exact wb17_17 h g 
  · refine wq_in (r_o1.nnn q) ?_
    obtain ⟨o_1, h1, h⟩ := bd h
    obtain ⟨o_1_x, e, r_o_1⟩ := w_gr g r_a0.so h1
    refine wq_bd e ?_
    obtain ⟨M3, h2, h⟩ := bd h
    obtain ⟨_, e, g, x⟩ := w_pr g r_o1 r_o_1 h2
    refine wq_bd e (wq_up x ?_)
    have r_a0 := r_a0.up x
    have r_o1 := r_o1.up x
    obtain ⟨M5, h3, h⟩ := bd h
    obtain ⟨_, e, g, x⟩ := w_pr g r_a0.so r_o1 h3
    refine wq_bd e (wq_up x ?_)
    exact wb17_17 h g 
theorem w17 {Y : Nat → Prop} {M0 : hM} {ρ : Nat → Nat} {as as_x : List aV} {M H M' : hM} {r : Option aV} (h : f17 as M = some (r, M')) (g : rn Y M0 ρ M H) (ha : vl ρ M as as_x) : wr Y M0 ρ M r M' (f17 as_x H) := by
  unfold f17 at h
  split at h
  · rename_i a0 o1
    obtain ⟨a0_x, _, rfl, r_a0, ha1⟩ := vl_is ha
    obtain ⟨o1_x, _, rfl, r_o1, ha2⟩ := vl_ir ha1
    cases vl_in ha2
    exact wx_out h (fun res hx => wb17_0 hx g r_a0 r_o1)
  · cases h
theorem wb18_44 {o1 : Option Nat} {o1_x : Option Nat} {Y : Nat → Prop} {M0 : hM} {ρ : Nat → Nat} {M H : hM} {res : xRes} (h : b18_44 o1 M = some res) (g : rn Y M0 ρ M H) (r_o1 : vo ρ M o1 o1_x) : wq Y M0 ρ M res (b18_44 o1_x H) := by
  unfold b18_44 at h ⊢
  cases h
  exact ⟨_, _, rfl, (vs_a (va_r r_o1)), g, ex.rf⟩
theorem wb18_29 {a0 : Nat} {a0_x : Nat} {o1 : Option Nat} {o1_x : Option Nat} {Y : Nat → Prop} {M0 : hM} {ρ : Nat → Nat} {M H : hM} {res : xRes} (h : b18_29 a0 o1 M = some res) (g : rn Y M0 ρ M H) (r_a0 : vn ρ M a0 a0_x) (r_o1 : vo ρ M o1 o1_x) : wq Y M0 ρ M res (b18_29 a0_x o1_x H) := by
  unfold b18_29 at h ⊢
  obtain ⟨M13, h1, h⟩ := bd h
  obtain ⟨_, e, g, x⟩ := w_pr g r_o1 vo_no h1
  refine wq_bd e (wq_up x ?_)
  have r_a0 := r_a0.up x
  have r_o1 := r_o1.up x
  obtain ⟨v_15, h2, h⟩ := bd h
  refine wq_bd (w_gi g r_a0.so h2) ?_
  obtain ⟨M17, h3, h⟩ := bd h
  obtain ⟨_, e, g, x⟩ := w_pi g r_a0.so h3
  refine wq_bd e (wq_up x ?_)
  have r_o1 := r_o1.up x
  exact wb18_44 h g r_o1
theorem wb18_0 {a0 : Nat} {a0_x : Nat} {Y : Nat → Prop} {M0 : hM} {ρ : Nat → Nat} {M H : hM} {res : xRes} (h : b18_0 a0 M = some res) (g : rn Y M0 ρ M H) (r_a0 : vn ρ M a0 a0_x) : wq Y M0 ρ M res (b18_0 a0_x H) := by
  unfold b18_0 at h ⊢
  obtain ⟨o_1, h1, h⟩ := bd h
  obtain ⟨o_1_x, e, r_o_1⟩ := w_gr g r_a0.so h1
  refine wq_bd e ?_
  rcases ite_some h with ⟨q, h⟩ | ⟨q, h⟩
  · refine wq_ip (r_o_1.non q) ?_
    exact wb18_44 h g r_o_1
  · refine wq_in (r_o_1.nnn q) ?_
    obtain ⟨o_3, h2, h⟩ := bd h
    obtain ⟨o_3_x, e, r_o_3⟩ := w_gr g r_o_1 h2
    refine wq_bd e ?_
    obtain ⟨M5, h3, h⟩ := bd h
    obtain ⟨_, e, g, x⟩ := w_pr g r_a0.so r_o_3 h3
    refine wq_bd e (wq_up x ?_)
    have r_a0 := r_a0.up x
    have r_o_1 := r_o_1.up x
    obtain ⟨o_7, h4, h⟩ := bd h
    obtain ⟨o_7_x, e, r_o_7⟩ := w_gr g r_a0.so h4
    refine wq_bd e ?_
    rcases ite_some h with ⟨q, h⟩ | ⟨q, h⟩
    · refine wq_ip (r_o_7.non q) ?_
      obtain ⟨M9, h5, h⟩ := bd h
      obtain ⟨_, e, g, x⟩ := w_pr g r_a0.so vo_no h5
      refine wq_bd e (wq_up x ?_)
      have r_a0 := r_a0.up x
      have r_o_1 := r_o_1.up x
      exact wb18_29 h g r_a0 r_o_1
    · refine wq_in (r_o_7.nnn q) ?_
      exact wb18_29 h g r_a0 r_o_1
theorem w18 {Y : Nat → Prop} {M0 : hM} {ρ : Nat → Nat} {as as_x : List aV} {M H M' : hM} {r : Option aV} (h : f18 as M = some (r, M')) (g : rn Y M0 ρ M H) (ha : vl ρ M as as_x) : wr Y M0 ρ M r M' (f18 as_x H) := by
  unfold f18 at h
  split at h
  · rename_i a0
    obtain ⟨a0_x, _, rfl, r_a0, ha1⟩ := vl_is ha
    cases vl_in ha1
    exact wx_out h (fun res hx => wb18_0 hx g r_a0)
  · cases h
theorem wb19_0 {a0 : Nat} {a0_x : Nat} {Y : Nat → Prop} {M0 : hM} {ρ : Nat → Nat} {M H : hM} {res : xRes} (h : b19_0 a0 M = some res) (g : rn Y M0 ρ M H) (r_a0 : vn ρ M a0 a0_x) : wq Y M0 ρ M res (b19_0 a0_x H) := by
  unfold b19_0 at h ⊢
  obtain ⟨M1, h1, h⟩ := bd h
  obtain ⟨_, e, g, x⟩ := w_pz g r_a0.so h1
  refine wq_bd e (wq_up x ?_)
  have r_a0 := r_a0.up x
  obtain ⟨M3, h2, h⟩ := bd h
  obtain ⟨_, e, g, x⟩ := w_pi g r_a0.so h2
  refine wq_bd e (wq_up x ?_)
  have r_a0 := r_a0.up x
  obtain ⟨M5, h3, h⟩ := bd h
  obtain ⟨_, e, g, x⟩ := w_pi g r_a0.so h3
  refine wq_bd e (wq_up x ?_)
  have r_a0 := r_a0.up x
  obtain ⟨M7, h4, h⟩ := bd h
  obtain ⟨_, e, g, x⟩ := w_pi g r_a0.so h4
  refine wq_bd e (wq_up x ?_)
  have r_a0 := r_a0.up x
  obtain ⟨M9, h5, h⟩ := bd h
  obtain ⟨_, e, g, x⟩ := w_pi g r_a0.so h5
  refine wq_bd e (wq_up x ?_)
  have r_a0 := r_a0.up x
  obtain ⟨M11, h6, h⟩ := bd h
  obtain ⟨_, e, g, x⟩ := w_pi g r_a0.so h6
  refine wq_bd e (wq_up x ?_)
  have r_a0 := r_a0.up x
  obtain ⟨o_13, h7, h⟩ := bd h
  obtain ⟨o_13_x, e, r_o_13⟩ := w_gr g r_a0.so h7
  refine wq_bd e ?_
  obtain ⟨o_15, h8, h⟩ := bd h
  obtain ⟨o_15_x, e, r_o_15⟩ := w_gr g r_a0.so h8
  refine wq_bd e ?_
  obtain ⟨b_19, h9, h⟩ := bd h
  obtain ⟨b_19_x, e, r_b_19⟩ := w_go g r_o_13 h9
  refine wq_bd e ?_
  obtain ⟨q_17, h10, h⟩ := bd h
  obtain ⟨_, _, e, g, x⟩ := wc_V (f := f17) h10 (fun e => w17 e g (vl_c (va_r r_b_19.so) (vl_c (va_r r_o_15) vl_n)))
  refine wq_bd e (wq_up x ?_)
  have r_a0 := r_a0.up x
  obtain ⟨M21, h11, h⟩ := bd h
  obtain ⟨_, e, g, x⟩ := w_pr g r_a0.so vo_no h11
  refine wq_bd e (wq_up x ?_)
  have r_a0 := r_a0.up x
  obtain ⟨o_23, h12, h⟩ := bd h
  obtain ⟨o_23_x, e, r_o_23⟩ := w_gr g r_a0.so h12
  refine wq_bd e ?_
  obtain ⟨v_25, h13, h⟩ := bd h
  refine wq_bd (w_gi g r_o_23 h13) ?_
  cases h
  exact ⟨_, _, rfl, (vs_g (vl_c (va_r r_a0.so) (vl_c va_i vl_n))), g, ex.rf⟩
theorem wb19_54 {a0 : Nat} {a0_x : Nat} {v1 : Int32} {Y : Nat → Prop} {M0 : hM} {ρ : Nat → Nat} {M H : hM} {res : xRes} (h : b19_54 a0 v1 M = some res) (g : rn Y M0 ρ M H) (r_a0 : vn ρ M a0 a0_x) : wq Y M0 ρ M res (b19_54 a0_x v1 H) := by
  unfold b19_54 at h ⊢
  rcases ite_some h with ⟨q, h⟩ | ⟨q, h⟩
  · refine wq_ip q ?_
    obtain ⟨o_27, h1, h⟩ := bd h
    obtain ⟨o_27_x, e, r_o_27⟩ := w_gr g r_a0.so h1
    refine wq_bd e ?_
    obtain ⟨v_29, h2, h⟩ := bd h
    refine wq_bd (w_gi g r_o_27 h2) ?_
    cases h
    exact ⟨_, _, rfl, (vs_g (vl_c (va_r r_a0.so) (vl_c va_i vl_n))), g, ex.rf⟩
  · refine wq_in q ?_
    obtain ⟨o_31, h3, h⟩ := bd h
    obtain ⟨o_31_x, e, r_o_31⟩ := w_gr g r_a0.so h3
    refine wq_bd e ?_
    obtain ⟨o_33, h4, h⟩ := bd h
    obtain ⟨o_33_x, e, r_o_33⟩ := w_gr g r_a0.so h4
    refine wq_bd e ?_
    obtain ⟨b_37, h5, h⟩ := bd h
    obtain ⟨b_37_x, e, r_b_37⟩ := w_go g r_o_33 h5
    refine wq_bd e ?_
    obtain ⟨q_35, h6, h⟩ := bd h
    obtain ⟨_, _, _, e, g, x, r_q⟩ := wc_R (f := f18) h6 (fun e => w18 e g (vl_c (va_r r_b_37.so) vl_n))
    refine wq_bd e (wq_up x ?_)
    have r_a0 := r_a0.up x
    have r_o_31 := r_o_31.up x
    have r_q_35_1 := r_q
    obtain ⟨b_41, h7, h⟩ := bd h
    obtain ⟨b_41_x, e, r_b_41⟩ := w_go g r_o_31 h7
    refine wq_bd e ?_
    obtain ⟨q_39, h8, h⟩ := bd h
    obtain ⟨_, _, e, g, x⟩ := wc_V (f := f17) h8 (fun e => w17 e g (vl_c (va_r r_b_41.so) (vl_c (va_r r_q_35_1) vl_n)))
    refine wq_bd e (wq_up x ?_)
    have r_a0 := r_a0.up x
    cases h
    exact ⟨_, _, rfl, (vs_g (vl_c (va_r r_a0.so) (vl_c va_i vl_n))), g, ex.rf⟩
theorem wb19_86 {a0 : Nat} {a0_x : Nat} {v1 : Int32} {Y : Nat → Prop} {M0 : hM} {ρ : Nat → Nat} {M H : hM} {res : xRes} (h : b19_86 a0 v1 M = some res) (g : rn Y M0 ρ M H) (r_a0 : vn ρ M a0 a0_x) : wq Y M0 ρ M res (b19_86 a0_x v1 H) := by
  unfold b19_86 at h ⊢
  rcases ite_some h with ⟨q, h⟩ | ⟨q, h⟩
  · refine wq_ip q ?_
    cases h
    exact ⟨_, _, rfl, vs_n, g, ex.rf⟩
  · refine wq_in q ?_
    obtain ⟨o_44, h1, h⟩ := bd h
    obtain ⟨o_44_x, e, r_o_44⟩ := w_gr g r_a0.so h1
    refine wq_bd e ?_
    obtain ⟨o_46, h2, h⟩ := bd h
    obtain ⟨o_46_x, e, r_o_46⟩ := w_gr g r_a0.so h2
    refine wq_bd e ?_
    obtain ⟨b_50, h3, h⟩ := bd h
    obtain ⟨b_50_x, e, r_b_50⟩ := w_go g r_o_46 h3
    refine wq_bd e ?_
    obtain ⟨q_48, h4, h⟩ := bd h
    obtain ⟨_, _, _, e, g, x, r_q⟩ := wc_R (f := f18) h4 (fun e => w18 e g (vl_c (va_r r_b_50.so) vl_n))
    refine wq_bd e (wq_up x ?_)
    have r_a0 := r_a0.up x
    have r_o_44 := r_o_44.up x
    have r_q_48_1 := r_q
    obtain ⟨b_54, h5, h⟩ := bd h
    obtain ⟨b_54_x, e, r_b_54⟩ := w_go g r_o_44 h5
    refine wq_bd e ?_
    obtain ⟨q_52, h6, h⟩ := bd h
    obtain ⟨_, _, e, g, x⟩ := wc_V (f := f17) h6 (fun e => w17 e g (vl_c (va_r r_b_54.so) (vl_c (va_r r_q_48_1) vl_n)))
    refine wq_bd e (wq_up x ?_)
    have r_a0 := r_a0.up x
    cases h
    exact ⟨_, _, rfl, (vs_g (vl_c (va_r r_a0.so) (vl_c va_i vl_n))), g, ex.rf⟩
theorem w19 {Y : Nat → Prop} {M0 : hM} {ρ : Nat → Nat} {as as_x : List aV} {M H M' : hM} {r : Option aV} (h : f19 as M = some (r, M')) (g : rn Y M0 ρ M H) (ha : vl ρ M as as_x) : wr Y M0 ρ M r M' (f19 as_x H) := by
  unfold f19 at h
  split at h
  · rename_i a0
    obtain ⟨a0_x, _, rfl, r_a0, ha1⟩ := vl_is ha
    cases vl_in ha1
    show wr Y M0 ρ M r M' (x_go k19 (b19_0 a0_x H))
    refine wx_go (blk := k19) ?_ h (fun res hx => wb19_0 hx g r_a0)
    intro ρ h as as_x M H res hk g ha
    unfold k19 at hk
    split at hk
    · rename_i hh
      subst hh
      split at hk
      · rename_i a0 v1
        obtain ⟨a0_x, _, rfl, r_a0, ha1⟩ := vl_is ha
        obtain ⟨_, rfl, ha2⟩ := vl_ii ha1
        cases vl_in ha2
        exact wb19_54 hk g r_a0
      · cases hk
    · skip
      split at hk
      · rename_i hh
        subst hh
        split at hk
        · rename_i a0 v1
          obtain ⟨a0_x, _, rfl, r_a0, ha1⟩ := vl_is ha
          obtain ⟨_, rfl, ha2⟩ := vl_ii ha1
          cases vl_in ha2
          exact wb19_86 hk g r_a0
        · cases hk
      · skip
        cases hk
  · cases h
theorem wb20_0 {a0 : Nat} {a0_x : Nat} {Y : Nat → Prop} {M0 : hM} {ρ : Nat → Nat} {M H : hM} {res : xRes} (h : b20_0 a0 M = some res) (g : rn Y M0 ρ M H) (r_a0 : vn ρ M a0 a0_x) : wq Y M0 ρ M res (b20_0 a0_x H) := by
  unfold b20_0 at h ⊢
  obtain ⟨M1, h1, h⟩ := bd h
  obtain ⟨_, e, g, x⟩ := w_pi g r_a0.so h1
  refine wq_bd e (wq_up x ?_)
  have r_a0 := r_a0.up x
  cases h
  exact ⟨_, _, rfl, (vs_g (vl_c (va_r r_a0.so) (vl_c va_i vl_n))), g, ex.rf⟩
theorem wb20_7 {a0 : Nat} {a0_x : Nat} {v1 : Int32} {Y : Nat → Prop} {M0 : hM} {ρ : Nat → Nat} {M H : hM} {res : xRes} (h : b20_7 a0 v1 M = some res) (g : rn Y M0 ρ M H) (r_a0 : vn ρ M a0 a0_x) : wq Y M0 ρ M res (b20_7 a0_x v1 H) := by
  unfold b20_7 at h ⊢
  rcases ite_some h with ⟨q, h⟩ | ⟨q, h⟩
  · refine wq_ip q ?_
    cases h
    exact ⟨_, _, rfl, vs_n, g, ex.rf⟩
  · refine wq_in q ?_
    obtain ⟨o_3, h1, h⟩ := bd h
    obtain ⟨o_3_x, e, r_o_3⟩ := w_gr g r_a0.so h1
    refine wq_bd e ?_
    obtain ⟨o_5, h2, h⟩ := bd h
    obtain ⟨o_5_x, e, r_o_5⟩ := w_alr g r_o_3 h2
    refine wq_bd e ?_
    obtain ⟨M7, h3, h⟩ := bd h
    obtain ⟨_, e, g, x⟩ := w_pz g r_o_5 h3
    refine wq_bd e (wq_up x ?_)
    have r_a0 := r_a0.up x
    cases h
    exact ⟨_, _, rfl, (vs_g (vl_c (va_r r_a0.so) (vl_c va_i vl_n))), g, ex.rf⟩
theorem w20 {Y : Nat → Prop} {M0 : hM} {ρ : Nat → Nat} {as as_x : List aV} {M H M' : hM} {r : Option aV} (h : f20 as M = some (r, M')) (g : rn Y M0 ρ M H) (ha : vl ρ M as as_x) : wr Y M0 ρ M r M' (f20 as_x H) := by
  unfold f20 at h
  split at h
  · rename_i a0
    obtain ⟨a0_x, _, rfl, r_a0, ha1⟩ := vl_is ha
    cases vl_in ha1
    show wr Y M0 ρ M r M' (x_go k20 (b20_0 a0_x H))
    refine wx_go (blk := k20) ?_ h (fun res hx => wb20_0 hx g r_a0)
    intro ρ h as as_x M H res hk g ha
    unfold k20 at hk
    split at hk
    · rename_i hh
      subst hh
      split at hk
      · rename_i a0 v1
        obtain ⟨a0_x, _, rfl, r_a0, ha1⟩ := vl_is ha
        obtain ⟨_, rfl, ha2⟩ := vl_ii ha1
        cases vl_in ha2
        exact wb20_7 hk g r_a0
      · cases hk
    · skip
      cases hk
  · cases h
theorem wb21_0 {a0 : Nat} {a0_x : Nat} {Y : Nat → Prop} {M0 : hM} {ρ : Nat → Nat} {M H : hM} {res : xRes} (h : b21_0 a0 M = some res) (g : rn Y M0 ρ M H) (r_a0 : vn ρ M a0 a0_x) : wq Y M0 ρ M res (b21_0 a0_x H) := by
  unfold b21_0 at h ⊢
  cases h
  exact ⟨_, _, rfl, (vs_g (vl_c (va_r r_a0.so) (vl_c va_i vl_n))), g, ex.rf⟩
theorem wb21_2 {a0 : Nat} {a0_x : Nat} {v1 : Int32} {Y : Nat → Prop} {M0 : hM} {ρ : Nat → Nat} {M H : hM} {res : xRes} (h : b21_2 a0 v1 M = some res) (g : rn Y M0 ρ M H) (r_a0 : vn ρ M a0 a0_x) : wq Y M0 ρ M res (b21_2 a0_x v1 H) := by
  unfold b21_2 at h ⊢
  obtain ⟨o_1, h1, h⟩ := bd h
  obtain ⟨o_1_x, e, r_o_1⟩ := w_gr g r_a0.so h1
  refine wq_bd e ?_
  obtain ⟨v_3, h2, h⟩ := bd h
  refine wq_bd (w_aln g r_o_1 h2) ?_
  rcases ite_some h with ⟨q, h⟩ | ⟨q, h⟩
  · refine wq_ip q ?_
    cases h
    exact ⟨_, _, rfl, vs_n, g, ex.rf⟩
  · refine wq_in q ?_
    obtain ⟨o_5, h3, h⟩ := bd h
    obtain ⟨o_5_x, e, r_o_5⟩ := w_gr g r_a0.so h3
    refine wq_bd e ?_
    obtain ⟨M7, h4, h⟩ := bd h
    obtain ⟨_, e, g, x⟩ := w_asi g r_o_5 h4
    refine wq_bd e (wq_up x ?_)
    have r_a0 := r_a0.up x
    cases h
    exact ⟨_, _, rfl, (vs_g (vl_c (va_r r_a0.so) (vl_c va_i vl_n))), g, ex.rf⟩
theorem w21 {Y : Nat → Prop} {M0 : hM} {ρ : Nat → Nat} {as as_x : List aV} {M H M' : hM} {r : Option aV} (h : f21 as M = some (r, M')) (g : rn Y M0 ρ M H) (ha : vl ρ M as as_x) : wr Y M0 ρ M r M' (f21 as_x H) := by
  unfold f21 at h
  split at h
  · rename_i a0
    obtain ⟨a0_x, _, rfl, r_a0, ha1⟩ := vl_is ha
    cases vl_in ha1
    show wr Y M0 ρ M r M' (x_go k21 (b21_0 a0_x H))
    refine wx_go (blk := k21) ?_ h (fun res hx => wb21_0 hx g r_a0)
    intro ρ h as as_x M H res hk g ha
    unfold k21 at hk
    split at hk
    · rename_i hh
      subst hh
      split at hk
      · rename_i a0 v1
        obtain ⟨a0_x, _, rfl, r_a0, ha1⟩ := vl_is ha
        obtain ⟨_, rfl, ha2⟩ := vl_ii ha1
        cases vl_in ha2
        exact wb21_2 hk g r_a0
      · cases hk
    · skip
      cases hk
  · cases h
theorem wb22_28  {Y : Nat → Prop} {M0 : hM} {ρ : Nat → Nat} {M H : hM} {res : xRes} (h : b22_28  M = some res) (g : rn Y M0 ρ M H)  : wq Y M0 ρ M res (b22_28  H) := by
  unfold b22_28 at h ⊢
  cases h
  exact ⟨_, _, rfl, vs_n, g, ex.rf⟩
theorem wb22_14 {a0 : Nat} {a0_x : Nat} {Y : Nat → Prop} {M0 : hM} {ρ : Nat → Nat} {M H : hM} {res : xRes} (h : b22_14 a0 M = some res) (g : rn Y M0 ρ M H) (r_a0 : vn ρ M a0 a0_x) : wq Y M0 ρ M res (b22_14 a0_x H) := by
  unfold b22_14 at h ⊢
  obtain ⟨o_10, h1, h⟩ := bd h
  obtain ⟨o_10_x, e, r_o_10⟩ := w_gr g r_a0.so h1
  refine wq_bd e ?_
  rcases ite_some h with ⟨q, h⟩ | ⟨q, h⟩
  · refine wq_ip (r_o_10.non q) ?_
    exact wb22_28 h g 
  · refine wq_in (r_o_10.nnn q) ?_
    obtain ⟨o_12, h2, h⟩ := bd h
    obtain ⟨o_12_x, e, r_o_12⟩ := w_gr g r_a0.so h2
    refine wq_bd e ?_
    obtain ⟨b_16, h3, h⟩ := bd h
    obtain ⟨b_16_x, e, r_b_16⟩ := w_go g r_o_12 h3
    refine wq_bd e ?_
    obtain ⟨q_14, h4, h⟩ := bd h
    obtain ⟨_, _, e, g, x⟩ := wc_V (f := f20) h4 (fun e => w20 e g (vl_c (va_r r_b_16.so) vl_n))
    refine wq_bd e (wq_up x ?_)
    exact wb22_28 h g 
theorem wb22_0 {a0 : Nat} {a0_x : Nat} {Y : Nat → Prop} {M0 : hM} {ρ : Nat → Nat} {M H : hM} {res : xRes} (h : b22_0 a0 M = some res) (g : rn Y M0 ρ M H) (r_a0 : vn ρ M a0 a0_x) : wq Y M0 ρ M res (b22_0 a0_x H) := by
  unfold b22_0 at h ⊢
  obtain ⟨o_1, h1, h⟩ := bd h
  obtain ⟨o_1_x, e, r_o_1⟩ := w_gr g r_a0.so h1
  refine wq_bd e ?_
  rcases ite_some h with ⟨q, h⟩ | ⟨q, h⟩
  · refine wq_ip (r_o_1.non q) ?_
    exact wb22_14 h g r_a0
  · refine wq_in (r_o_1.nnn q) ?_
    obtain ⟨o_3, h2, h⟩ := bd h
    obtain ⟨o_3_x, e, r_o_3⟩ := w_gr g r_a0.so h2
    refine wq_bd e ?_
    obtain ⟨b_7, h3, h⟩ := bd h
    obtain ⟨b_7_x, e, r_b_7⟩ := w_go g r_o_3 h3
    refine wq_bd e ?_
    obtain ⟨q_5, h4, h⟩ := bd h
    obtain ⟨_, _, e, g, x⟩ := wc_V (f := f21) h4 (fun e => w21 e g (vl_c (va_r r_b_7.so) vl_n))
    refine wq_bd e (wq_up x ?_)
    have r_a0 := r_a0.up x
    exact wb22_14 h g r_a0
theorem w22 {Y : Nat → Prop} {M0 : hM} {ρ : Nat → Nat} {as as_x : List aV} {M H M' : hM} {r : Option aV} (h : f22 as M = some (r, M')) (g : rn Y M0 ρ M H) (ha : vl ρ M as as_x) : wr Y M0 ρ M r M' (f22 as_x H) := by
  unfold f22 at h
  split at h
  · rename_i a0
    obtain ⟨a0_x, _, rfl, r_a0, ha1⟩ := vl_is ha
    cases vl_in ha1
    exact wx_out h (fun res hx => wb22_0 hx g r_a0)
  · cases h
theorem wb23_0 {a0 : Nat} {a0_x : Nat} {Y : Nat → Prop} {M0 : hM} {ρ : Nat → Nat} {M H : hM} {res : xRes} (h : b23_0 a0 M = some res) (g : rn Y M0 ρ M H) (r_a0 : vn ρ M a0 a0_x) : wq Y M0 ρ M res (b23_0 a0_x H) := by
  unfold b23_0 at h ⊢
  obtain ⟨M1, h1, h⟩ := bd h
  obtain ⟨_, e, g, x⟩ := w_pi g r_a0.so h1
  refine wq_bd e (wq_up x ?_)
  have r_a0 := r_a0.up x
  obtain ⟨b_5, h2, h⟩ := bd h
  obtain ⟨b_5_x, e, r_b_5⟩ := w_go g r_a0.so h2
  refine wq_bd e ?_
  obtain ⟨q_3, h3, h⟩ := bd h
  obtain ⟨_, _, e, g, x⟩ := wc_V (f := f22) h3 (fun e => w22 e g (vl_c (va_r r_b_5.so) vl_n))
  refine wq_bd e (wq_up x ?_)
  cases h
  exact ⟨_, _, rfl, vs_n, g, ex.rf⟩
theorem w23 {Y : Nat → Prop} {M0 : hM} {ρ : Nat → Nat} {as as_x : List aV} {M H M' : hM} {r : Option aV} (h : f23 as M = some (r, M')) (g : rn Y M0 ρ M H) (ha : vl ρ M as as_x) : wr Y M0 ρ M r M' (f23 as_x H) := by
  unfold f23 at h
  split at h
  · rename_i a0
    obtain ⟨a0_x, _, rfl, r_a0, ha1⟩ := vl_is ha
    cases vl_in ha1
    exact wx_out h (fun res hx => wb23_0 hx g r_a0)
  · cases h
theorem wb24_20  {Y : Nat → Prop} {M0 : hM} {ρ : Nat → Nat} {M H : hM} {res : xRes} (h : b24_20  M = some res) (g : rn Y M0 ρ M H)  : wq Y M0 ρ M res (b24_20  H) := by
  unfold b24_20 at h ⊢
  cases h
  exact ⟨_, _, rfl, (vs_a va_i), g, ex.rf⟩
theorem wb24_73  {Y : Nat → Prop} {M0 : hM} {ρ : Nat → Nat} {M H : hM} {res : xRes} (h : b24_73  M = some res) (g : rn Y M0 ρ M H)  : wq Y M0 ρ M res (b24_73  H) := by
  unfold b24_73 at h ⊢
  cases h
  exact ⟨_, _, rfl, (vs_a va_i), g, ex.rf⟩
theorem wb24_0 {a0 : Nat} {a0_x : Nat} {v1 : Int32} {Y : Nat → Prop} {M0 : hM} {ρ : Nat → Nat} {M H : hM} {res : xRes} (h : b24_0 a0 v1 M = some res) (g : rn Y M0 ρ M H) (r_a0 : vn ρ M a0 a0_x) : wq Y M0 ρ M res (b24_0 a0_x v1 H) := by
  unfold b24_0 at h ⊢
  obtain ⟨b_3, h1, h⟩ := bd h
  obtain ⟨b_3_x, e, r_b_3⟩ := w_go g r_a0.so h1
  refine wq_bd e ?_
  obtain ⟨q_1, h2, h⟩ := bd h
  obtain ⟨_, _, e, g, x⟩ := wc_I (f := f16) h2 (fun e => w16 e g (vl_c (va_r r_b_3.so) (vl_c va_i vl_n)))
  refine wq_bd e (wq_up x ?_)
  have r_a0 := r_a0.up x
  rcases ite_some h with ⟨q, h⟩ | ⟨q, h⟩
  · refine wq_ip q ?_
    exact wb24_20 h g 
  · refine wq_in q ?_
    obtain ⟨o_5, h3, h⟩ := bd h
    obtain ⟨o_5_x, e, r_o_5⟩ := w_gr g r_a0.so h3
    refine wq_bd e ?_
    obtain ⟨o_7, h4, h⟩ := bd h
    obtain ⟨o_7_x, e, r_o_7⟩ := w_alr g r_o_5 h4
    refine wq_bd e ?_
    obtain ⟨v_9, h5, h⟩ := bd h
    refine wq_bd (w_gi g r_o_7 h5) ?_
    rcases ite_some h with ⟨q, h⟩ | ⟨q, h⟩
    · refine wq_ip q ?_
      exact wb24_20 h g 
    · refine wq_in q ?_
      obtain ⟨o_11, h6, h⟩ := bd h
      obtain ⟨o_11_x, e, r_o_11⟩ := w_gr g r_a0.so h6
      refine wq_bd e ?_
      obtain ⟨o_13, h7, h⟩ := bd h
      obtain ⟨o_13_x, e, r_o_13⟩ := w_alr g r_o_11 h7
      refine wq_bd e ?_
      obtain ⟨b_17, h8, h⟩ := bd h
      obtain ⟨b_17_x, e, r_b_17⟩ := w_go g r_o_13 h8
      refine wq_bd e ?_
      obtain ⟨q_15, h9, h⟩ := bd h
      obtain ⟨_, _, e, g, x⟩ := wc_V (f := f19) h9 (fun e => w19 e g (vl_c (va_r r_b_17.so) vl_n))
      refine wq_bd e (wq_up x ?_)
      have r_a0 := r_a0.up x
      obtain ⟨o_19, h10, h⟩ := bd h
      obtain ⟨o_19_x, e, r_o_19⟩ := w_gr g r_a0.so h10
      refine wq_bd e ?_
      obtain ⟨o_21, h11, h⟩ := bd h
      obtain ⟨o_21_x, e, r_o_21⟩ := w_alr g r_o_19 h11
      refine wq_bd e ?_
      obtain ⟨b_25, h12, h⟩ := bd h
      obtain ⟨b_25_x, e, r_b_25⟩ := w_go g r_o_21 h12
      refine wq_bd e ?_
      obtain ⟨q_23, h13, h⟩ := bd h
      obtain ⟨_, _, e, g, x⟩ := wc_V (f := f19) h13 (fun e => w19 e g (vl_c (va_r r_b_25.so) vl_n))
      refine wq_bd e (wq_up x ?_)
      have r_a0 := r_a0.up x
      obtain ⟨o_27, h14, h⟩ := bd h
      obtain ⟨o_27_x, e, r_o_27⟩ := w_gr g r_a0.so h14
      refine wq_bd e ?_
      obtain ⟨o_29, h15, h⟩ := bd h
      obtain ⟨o_29_x, e, r_o_29⟩ := w_alr g r_o_27 h15
      refine wq_bd e ?_
      obtain ⟨v_31, h16, h⟩ := bd h
      refine wq_bd (w_gi g r_o_29 h16) ?_
      obtain ⟨o_33, h17, h⟩ := bd h
      obtain ⟨o_33_x, e, r_o_33⟩ := w_gr g r_a0.so h17
      refine wq_bd e ?_
      obtain ⟨b_37, h18, h⟩ := bd h
      obtain ⟨b_37_x, e, r_b_37⟩ := w_go g r_o_33 h18
      refine wq_bd e ?_
      obtain ⟨q_35, h19, h⟩ := bd h
      obtain ⟨_, _, e, g, x⟩ := wc_I (f := f8) h19 (fun e => w8 e g (vl_c (va_r r_b_37.so) (vl_c va_i vl_n)))
      refine wq_bd e (wq_up x ?_)
      have r_a0 := r_a0.up x
      rcases ite_some h with ⟨q, h⟩ | ⟨q, h⟩
      · refine wq_ip q ?_
        exact wb24_73 h g 
      · refine wq_in q ?_
        obtain ⟨o_39, h20, h⟩ := bd h
        obtain ⟨o_39_x, e, r_o_39⟩ := w_gr g r_a0.so h20
        refine wq_bd e ?_
        obtain ⟨o_41, h21, h⟩ := bd h
        obtain ⟨o_41_x, e, r_o_41⟩ := w_alr g r_o_39 h21
        refine wq_bd e ?_
        obtain ⟨b_45, h22, h⟩ := bd h
        obtain ⟨b_45_x, e, r_b_45⟩ := w_go g r_o_41 h22
        refine wq_bd e ?_
        obtain ⟨q_43, h23, h⟩ := bd h
        obtain ⟨_, _, e, g, x⟩ := wc_V (f := f23) h23 (fun e => w23 e g (vl_c (va_r r_b_45.so) vl_n))
        refine wq_bd e (wq_up x ?_)
        exact wb24_73 h g 
theorem w24 {Y : Nat → Prop} {M0 : hM} {ρ : Nat → Nat} {as as_x : List aV} {M H M' : hM} {r : Option aV} (h : f24 as M = some (r, M')) (g : rn Y M0 ρ M H) (ha : vl ρ M as as_x) : wr Y M0 ρ M r M' (f24 as_x H) := by
  unfold f24 at h
  split at h
  · rename_i a0 v1
    obtain ⟨a0_x, _, rfl, r_a0, ha1⟩ := vl_is ha
    obtain ⟨_, rfl, ha2⟩ := vl_ii ha1
    cases vl_in ha2
    exact wx_out h (fun res hx => wb24_0 hx g r_a0)
  · cases h
theorem wb25_20  {Y : Nat → Prop} {M0 : hM} {ρ : Nat → Nat} {M H : hM} {res : xRes} (h : b25_20  M = some res) (g : rn Y M0 ρ M H)  : wq Y M0 ρ M res (b25_20  H) := by
  unfold b25_20 at h ⊢
  cases h
  exact ⟨_, _, rfl, (vs_a va_i), g, ex.rf⟩
theorem wb25_0 {a0 : Nat} {a0_x : Nat} {v1 : Int32} {Y : Nat → Prop} {M0 : hM} {ρ : Nat → Nat} {M H : hM} {res : xRes} (h : b25_0 a0 v1 M = some res) (g : rn Y M0 ρ M H) (r_a0 : vn ρ M a0 a0_x) : wq Y M0 ρ M res (b25_0 a0_x v1 H) := by
  unfold b25_0 at h ⊢
  obtain ⟨b_3, h1, h⟩ := bd h
  obtain ⟨b_3_x, e, r_b_3⟩ := w_go g r_a0.so h1
  refine wq_bd e ?_
  obtain ⟨q_1, h2, h⟩ := bd h
  obtain ⟨_, _, e, g, x⟩ := wc_I (f := f16) h2 (fun e => w16 e g (vl_c (va_r r_b_3.so) (vl_c va_i vl_n)))
  refine wq_bd e (wq_up x ?_)
  have r_a0 := r_a0.up x
  rcases ite_some h with ⟨q, h⟩ | ⟨q, h⟩
  · refine wq_ip q ?_
    exact wb25_20 h g 
  · refine wq_in q ?_
    obtain ⟨o_5, h3, h⟩ := bd h
    obtain ⟨o_5_x, e, r_o_5⟩ := w_gr g r_a0.so h3
    refine wq_bd e ?_
    obtain ⟨o_7, h4, h⟩ := bd h
    obtain ⟨o_7_x, e, r_o_7⟩ := w_alr g r_o_5 h4
    refine wq_bd e ?_
    obtain ⟨v_9, h5, h⟩ := bd h
    refine wq_bd (w_gi g r_o_7 h5) ?_
    rcases ite_some h with ⟨q, h⟩ | ⟨q, h⟩
    · refine wq_ip q ?_
      obtain ⟨o_11, h6, h⟩ := bd h
      obtain ⟨o_11_x, e, r_o_11⟩ := w_gr g r_a0.so h6
      refine wq_bd e ?_
      obtain ⟨o_13, h7, h⟩ := bd h
      obtain ⟨o_13_x, e, r_o_13⟩ := w_alr g r_o_11 h7
      refine wq_bd e ?_
      obtain ⟨b_17, h8, h⟩ := bd h
      obtain ⟨b_17_x, e, r_b_17⟩ := w_go g r_o_13 h8
      refine wq_bd e ?_
      obtain ⟨q_15, h9, h⟩ := bd h
      obtain ⟨_, _, e, g, x⟩ := wc_V (f := f14) h9 (fun e => w14 e g (vl_c (va_r r_b_17.so) vl_n))
      refine wq_bd e (wq_up x ?_)
      have r_a0 := r_a0.up x
      obtain ⟨o_19, h10, h⟩ := bd h
      obtain ⟨o_19_x, e, r_o_19⟩ := w_gr g r_a0.so h10
      refine wq_bd e ?_
      obtain ⟨o_21, h11, h⟩ := bd h
      obtain ⟨o_21_x, e, r_o_21⟩ := w_alr g r_o_19 h11
      refine wq_bd e ?_
      obtain ⟨b_25, h12, h⟩ := bd h
      obtain ⟨b_25_x, e, r_b_25⟩ := w_go g r_o_21 h12
      refine wq_bd e ?_
      obtain ⟨q_23, h13, h⟩ := bd h
      obtain ⟨_, _, e, g, x⟩ := wc_V (f := f14) h13 (fun e => w14 e g (vl_c (va_r r_b_25.so) vl_n))
      refine wq_bd e (wq_up x ?_)
      cases h
      exact ⟨_, _, rfl, (vs_a va_i), g, ex.rf⟩
    · refine wq_in q ?_
      exact wb25_20 h g 
theorem w25 {Y : Nat → Prop} {M0 : hM} {ρ : Nat → Nat} {as as_x : List aV} {M H M' : hM} {r : Option aV} (h : f25 as M = some (r, M')) (g : rn Y M0 ρ M H) (ha : vl ρ M as as_x) : wr Y M0 ρ M r M' (f25 as_x H) := by
  unfold f25 at h
  split at h
  · rename_i a0 v1
    obtain ⟨a0_x, _, rfl, r_a0, ha1⟩ := vl_is ha
    obtain ⟨_, rfl, ha2⟩ := vl_ii ha1
    cases vl_in ha2
    exact wx_out h (fun res hx => wb25_0 hx g r_a0)
  · cases h
theorem wb26_21  {Y : Nat → Prop} {M0 : hM} {ρ : Nat → Nat} {M H : hM} {res : xRes} (h : b26_21  M = some res) (g : rn Y M0 ρ M H)  : wq Y M0 ρ M res (b26_21  H) := by
  unfold b26_21 at h ⊢
  cases h
  exact ⟨_, _, rfl, (vs_a va_i), g, ex.rf⟩
theorem wb26_69 {si0 : Int32} {si1 : Int32} {sr2 : Option Nat} {sr2_x : Option Nat} {Y : Nat → Prop} {M0 : hM} {ρ : Nat → Nat} {M H : hM} {res : xRes} (h : b26_69 si0 si1 sr2 M = some res) (g : rn Y M0 ρ M H) (r_sr2 : vo ρ M sr2 sr2_x) : wq Y M0 ρ M res (b26_69 si0 si1 sr2_x H) := by
  unfold b26_69 at h ⊢
  obtain ⟨M27, h1, h⟩ := bd h
  obtain ⟨_, e, g, x⟩ := w_asi g r_sr2 h1
  refine wq_bd e (wq_up x ?_)
  cases h
  exact ⟨_, _, rfl, (vs_a va_i), g, ex.rf⟩
theorem wb26_0 {a0 : Nat} {a0_x : Nat} {v1 : Int32} {v2 : Int32} {v3 : Int32} {Y : Nat → Prop} {M0 : hM} {ρ : Nat → Nat} {M H : hM} {res : xRes} (h : b26_0 a0 v1 v2 v3 M = some res) (g : rn Y M0 ρ M H) (r_a0 : vn ρ M a0 a0_x) : wq Y M0 ρ M res (b26_0 a0_x v1 v2 v3 H) := by
  unfold b26_0 at h ⊢
  rcases ite_some h with ⟨q, h⟩ | ⟨q, h⟩
  · refine wq_ip q ?_
    exact wb26_21 h g 
  · refine wq_in q ?_
    rcases ite_some h with ⟨q, h⟩ | ⟨q, h⟩
    · refine wq_ip q ?_
      exact wb26_21 h g 
    · refine wq_in q ?_
      obtain ⟨o_1, h1, h⟩ := bd h
      obtain ⟨o_1_x, e, r_o_1⟩ := w_gr g r_a0.so h1
      refine wq_bd e ?_
      obtain ⟨b_5, h2, h⟩ := bd h
      obtain ⟨b_5_x, e, r_b_5⟩ := w_go g r_o_1 h2
      refine wq_bd e ?_
      obtain ⟨q_3, h3, h⟩ := bd h
      obtain ⟨_, _, e, g, x⟩ := wc_I (f := f8) h3 (fun e => w8 e g (vl_c (va_r r_b_5.so) (vl_c va_i vl_n)))
      refine wq_bd e (wq_up x ?_)
      have r_a0 := r_a0.up x
      rcases ite_some h with ⟨q, h⟩ | ⟨q, h⟩
      · refine wq_ip q ?_
        exact wb26_21 h g 
      · refine wq_in q ?_
        obtain ⟨o_7, h4, h⟩ := bd h
        obtain ⟨o_7_x, e, r_o_7⟩ := w_gr g r_a0.so h4
        refine wq_bd e ?_
        obtain ⟨o_9, h5, h⟩ := bd h
        obtain ⟨o_9_x, e, r_o_9⟩ := w_gr g r_o_7 h5
        refine wq_bd e ?_
        rcases ite_some h with ⟨q, h⟩ | ⟨q, h⟩
        · refine wq_ip q ?_
          obtain ⟨o_11, h6, h⟩ := bd h
          obtain ⟨o_11_x, e, r_o_11⟩ := w_gr g r_a0.so h6
          refine wq_bd e ?_
          obtain ⟨o_13, h7, h⟩ := bd h
          obtain ⟨o_13_x, e, r_o_13⟩ := w_gr g r_o_11 h7
          refine wq_bd e ?_
          obtain ⟨v_15, h8, h⟩ := bd h
          refine wq_bd (w_ali g r_o_13 h8) ?_
          exact wb26_69 h g r_o_9
        · refine wq_in q ?_
          obtain ⟨o_17, h9, h⟩ := bd h
          obtain ⟨o_17_x, e, r_o_17⟩ := w_gr g r_a0.so h9
          refine wq_bd e ?_
          obtain ⟨o_19, h10, h⟩ := bd h
          obtain ⟨o_19_x, e, r_o_19⟩ := w_gr g r_o_17 h10
          refine wq_bd e ?_
          obtain ⟨v_21, h11, h⟩ := bd h
          refine wq_bd (w_ali g r_o_19 h11) ?_
          exact wb26_69 h g r_o_9
theorem w26 {Y : Nat → Prop} {M0 : hM} {ρ : Nat → Nat} {as as_x : List aV} {M H M' : hM} {r : Option aV} (h : f26 as M = some (r, M')) (g : rn Y M0 ρ M H) (ha : vl ρ M as as_x) : wr Y M0 ρ M r M' (f26 as_x H) := by
  unfold f26 at h
  split at h
  · rename_i a0 v1 v2 v3
    obtain ⟨a0_x, _, rfl, r_a0, ha1⟩ := vl_is ha
    obtain ⟨_, rfl, ha2⟩ := vl_ii ha1
    obtain ⟨_, rfl, ha3⟩ := vl_ii ha2
    obtain ⟨_, rfl, ha4⟩ := vl_ii ha3
    cases vl_in ha4
    exact wx_out h (fun res hx => wb26_0 hx g r_a0)
  · cases h
theorem wb27_0 {a0 : Nat} {a0_x : Nat} {v1 : Int32} {Y : Nat → Prop} {M0 : hM} {ρ : Nat → Nat} {M H : hM} {res : xRes} (h : b27_0 a0 v1 M = some res) (g : rn Y M0 ρ M H) (r_a0 : vn ρ M a0 a0_x) : wq Y M0 ρ M res (b27_0 a0_x v1 H) := by
  unfold b27_0 at h ⊢
  obtain ⟨o_1, h1, h⟩ := bd h
  obtain ⟨o_1_x, e, r_o_1⟩ := w_gr g r_a0.so h1
  refine wq_bd e ?_
  obtain ⟨M3, h2, h⟩ := bd h
  obtain ⟨_, e, g, x⟩ := w_pz g r_o_1 h2
  refine wq_bd e (wq_up x ?_)
  cases h
  exact ⟨_, _, rfl, vs_n, g, ex.rf⟩
theorem w27 {Y : Nat → Prop} {M0 : hM} {ρ : Nat → Nat} {as as_x : List aV} {M H M' : hM} {r : Option aV} (h : f27 as M = some (r, M')) (g : rn Y M0 ρ M H) (ha : vl ρ M as as_x) : wr Y M0 ρ M r M' (f27 as_x H) := by
  unfold f27 at h
  split at h
  · rename_i a0 v1
    obtain ⟨a0_x, _, rfl, r_a0, ha1⟩ := vl_is ha
    obtain ⟨_, rfl, ha2⟩ := vl_ii ha1
    cases vl_in ha2
    exact wx_out h (fun res hx => wb27_0 hx g r_a0)
  · cases h
theorem wb28_32  {Y : Nat → Prop} {M0 : hM} {ρ : Nat → Nat} {M H : hM} {res : xRes} (h : b28_32  M = some res) (g : rn Y M0 ρ M H)  : wq Y M0 ρ M res (b28_32  H) := by
  unfold b28_32 at h ⊢
  cases h
  exact ⟨_, _, rfl, (vs_a va_i), g, ex.rf⟩
theorem wb28_0 {a0 : Nat} {a0_x : Nat} {v1 : Int32} {v2 : Int32} {Y : Nat → Prop} {M0 : hM} {ρ : Nat → Nat} {M H : hM} {res : xRes} (h : b28_0 a0 v1 v2 M = some res) (g : rn Y M0 ρ M H) (r_a0 : vn ρ M a0 a0_x) : wq Y M0 ρ M res (b28_0 a0_x v1 v2 H) := by
  unfold b28_0 at h ⊢
  obtain ⟨b_3, h1, h⟩ := bd h
  obtain ⟨b_3_x, e, r_b_3⟩ := w_go g r_a0.so h1
  refine wq_bd e ?_
  obtain ⟨q_1, h2, h⟩ := bd h
  obtain ⟨_, _, e, g, x⟩ := wc_I (f := f12) h2 (fun e => w12 e g (vl_c (va_r r_b_3.so) (vl_c va_i vl_n)))
  refine wq_bd e (wq_up x ?_)
  have r_a0 := r_a0.up x
  rcases ite_some h with ⟨q, h⟩ | ⟨q, h⟩
  · refine wq_ip q ?_
    exact wb28_32 h g 
  · refine wq_in q ?_
    rcases ite_some h with ⟨q, h⟩ | ⟨q, h⟩
    · refine wq_ip q ?_
      exact wb28_32 h g 
    · refine wq_in q ?_
      rcases ite_some h with ⟨q, h⟩ | ⟨q, h⟩
      · refine wq_ip q ?_
        exact wb28_32 h g 
      · refine wq_in q ?_
        obtain ⟨o_5, h3, h⟩ := bd h
        obtain ⟨o_5_x, e, r_o_5⟩ := w_gr g r_a0.so h3
        refine wq_bd e ?_
        obtain ⟨o_7, h4, h⟩ := bd h
        obtain ⟨o_7_x, e, r_o_7⟩ := w_alr g r_o_5 h4
        refine wq_bd e ?_
        obtain ⟨v_9, h5, h⟩ := bd h
        refine wq_bd (w_gi g r_o_7 h5) ?_
        rcases ite_some h with ⟨q, h⟩ | ⟨q, h⟩
        · refine wq_ip q ?_
          exact wb28_32 h g 
        · refine wq_in q ?_
          obtain ⟨o_11, h6, h⟩ := bd h
          obtain ⟨o_11_x, e, r_o_11⟩ := w_gr g r_a0.so h6
          refine wq_bd e ?_
          obtain ⟨o_13, h7, h⟩ := bd h
          obtain ⟨o_13_x, e, r_o_13⟩ := w_alr g r_o_11 h7
          refine wq_bd e ?_
          obtain ⟨M15, h8, h⟩ := bd h
          obtain ⟨_, e, g, x⟩ := w_pi g r_o_13 h8
          refine wq_bd e (wq_up x ?_)
          cases h
          exact ⟨_, _, rfl, (vs_a va_i), g, ex.rf⟩
theorem w28 {Y : Nat → Prop} {M0 : hM} {ρ : Nat → Nat} {as as_x : List aV} {M H M' : hM} {r : Option aV} (h : f28 as M = some (r, M')) (g : rn Y M0 ρ M H) (ha : vl ρ M as as_x) : wr Y M0 ρ M r M' (f28 as_x H) := by
  unfold f28 at h
  split at h
  · rename_i a0 v1 v2
    obtain ⟨a0_x, _, rfl, r_a0, ha1⟩ := vl_is ha
    obtain ⟨_, rfl, ha2⟩ := vl_ii ha1
    obtain ⟨_, rfl, ha3⟩ := vl_ii ha2
    cases vl_in ha3
    exact wx_out h (fun res hx => wb28_0 hx g r_a0)
  · cases h
theorem wb29_17  {Y : Nat → Prop} {M0 : hM} {ρ : Nat → Nat} {M H : hM} {res : xRes} (h : b29_17  M = some res) (g : rn Y M0 ρ M H)  : wq Y M0 ρ M res (b29_17  H) := by
  unfold b29_17 at h ⊢
  cases h
  exact ⟨_, _, rfl, (vs_a (va_r vo_no)), g, ex.rf⟩
theorem wb29_44 {sr0 : Option Nat} {sr0_x : Option Nat} {Y : Nat → Prop} {M0 : hM} {ρ : Nat → Nat} {M H : hM} {res : xRes} (h : b29_44 sr0 M = some res) (g : rn Y M0 ρ M H) (r_sr0 : vo ρ M sr0 sr0_x) : wq Y M0 ρ M res (b29_44 sr0_x H) := by
  unfold b29_44 at h ⊢
  cases h
  exact ⟨_, _, rfl, (vs_a (va_r r_sr0)), g, ex.rf⟩
theorem wb29_0 {a0 : Nat} {a0_x : Nat} {v1 : Int32} {v2 : Int32} {Y : Nat → Prop} {M0 : hM} {ρ : Nat → Nat} {M H : hM} {res : xRes} (h : b29_0 a0 v1 v2 M = some res) (g : rn Y M0 ρ M H) (r_a0 : vn ρ M a0 a0_x) : wq Y M0 ρ M res (b29_0 a0_x v1 v2 H) := by
  unfold b29_0 at h ⊢
  obtain ⟨b_3, h1, h⟩ := bd h
  obtain ⟨b_3_x, e, r_b_3⟩ := w_go g r_a0.so h1
  refine wq_bd e ?_
  obtain ⟨q_1, h2, h⟩ := bd h
  obtain ⟨_, _, e, g, x⟩ := wc_I (f := f16) h2 (fun e => w16 e g (vl_c (va_r r_b_3.so) (vl_c va_i vl_n)))
  refine wq_bd e (wq_up x ?_)
  have r_a0 := r_a0.up x
  rcases ite_some h with ⟨q, h⟩ | ⟨q, h⟩
  · refine wq_ip q ?_
    exact wb29_17 h g 
  · refine wq_in q ?_
    rcases ite_some h with ⟨q, h⟩ | ⟨q, h⟩
    · refine wq_ip q ?_
      exact wb29_17 h g 
    · refine wq_in q ?_
      rcases ite_some h with ⟨q, h⟩ | ⟨q, h⟩
      · refine wq_ip q ?_
        rcases ite_some h with ⟨q, h⟩ | ⟨q, h⟩
        · refine wq_ip q ?_
          obtain ⟨o_11, h3, h⟩ := bd h
          obtain ⟨o_11_x, e, r_o_11⟩ := w_gr g r_a0.so h3
          refine wq_bd e ?_
          obtain ⟨o_13, h4, h⟩ := bd h
          obtain ⟨o_13_x, e, r_o_13⟩ := w_alr g r_o_11 h4
          refine wq_bd e ?_
          obtain ⟨o_15, h5, h⟩ := bd h
          obtain ⟨o_15_x, e, r_o_15⟩ := w_gr g r_o_13 h5
          refine wq_bd e ?_
          exact wb29_44 h g r_o_15
        · refine wq_in q ?_
          obtain ⟨o_5, h6, h⟩ := bd h
          obtain ⟨o_5_x, e, r_o_5⟩ := w_gr g r_a0.so h6
          refine wq_bd e ?_
          obtain ⟨o_7, h7, h⟩ := bd h
          obtain ⟨o_7_x, e, r_o_7⟩ := w_alr g r_o_5 h7
          refine wq_bd e ?_
          obtain ⟨o_9, h8, h⟩ := bd h
          obtain ⟨o_9_x, e, r_o_9⟩ := w_gr g r_o_7 h8
          refine wq_bd e ?_
          exact wb29_44 h g r_o_9
      · refine wq_in q ?_
        exact wb29_17 h g 
theorem w29 {Y : Nat → Prop} {M0 : hM} {ρ : Nat → Nat} {as as_x : List aV} {M H M' : hM} {r : Option aV} (h : f29 as M = some (r, M')) (g : rn Y M0 ρ M H) (ha : vl ρ M as as_x) : wr Y M0 ρ M r M' (f29 as_x H) := by
  unfold f29 at h
  split at h
  · rename_i a0 v1 v2
    obtain ⟨a0_x, _, rfl, r_a0, ha1⟩ := vl_is ha
    obtain ⟨_, rfl, ha2⟩ := vl_ii ha1
    obtain ⟨_, rfl, ha3⟩ := vl_ii ha2
    cases vl_in ha3
    exact wx_out h (fun res hx => wb29_0 hx g r_a0)
  · cases h
theorem wb30_40  {Y : Nat → Prop} {M0 : hM} {ρ : Nat → Nat} {M H : hM} {res : xRes} (h : b30_40  M = some res) (g : rn Y M0 ρ M H)  : wq Y M0 ρ M res (b30_40  H) := by
  unfold b30_40 at h ⊢
  cases h
  exact ⟨_, _, rfl, vs_n, g, ex.rf⟩
theorem wb30_0 {a0 : Nat} {a0_x : Nat} {v1 : Int32} {Y : Nat → Prop} {M0 : hM} {ρ : Nat → Nat} {M H : hM} {res : xRes} (h : b30_0 a0 v1 M = some res) (g : rn Y M0 ρ M H) (r_a0 : vn ρ M a0 a0_x) : wq Y M0 ρ M res (b30_0 a0_x v1 H) := by
  unfold b30_0 at h ⊢
  obtain ⟨v_1, h1, h⟩ := bd h
  refine wq_bd h1 ?_
  rcases ite_some h with ⟨q, h⟩ | ⟨q, h⟩
  · refine wq_ip q ?_
    exact wb30_40 h g 
  · refine wq_in q ?_
    obtain ⟨o_3, h2, h⟩ := bd h
    obtain ⟨o_3_x, e, r_o_3⟩ := w_gr g r_a0.so h2
    refine wq_bd e ?_
    obtain ⟨v_5, h3, h⟩ := bd h
    refine wq_bd (w_aln g r_o_3 h3) ?_
    rcases ite_some h with ⟨q, h⟩ | ⟨q, h⟩
    · refine wq_ip q ?_
      exact wb30_40 h g 
    · refine wq_in q ?_
      obtain ⟨o_7, h4, h⟩ := bd h
      obtain ⟨o_7_x, e, r_o_7⟩ := w_gr g r_a0.so h4
      refine wq_bd e ?_
      obtain ⟨v_9, h5, h⟩ := bd h
      refine wq_bd (w_ali g r_o_7 h5) ?_
      obtain ⟨v_11, h6, h⟩ := bd h
      refine wq_bd h6 ?_
      obtain ⟨M13, h7, h⟩ := bd h
      obtain ⟨_, e, g, x⟩ := w_asb g r_o_7 h7
      refine wq_bd e (wq_up x ?_)
      have r_a0 := r_a0.up x
      obtain ⟨M15, h8, h⟩ := bd h
      obtain ⟨_, e, g, x⟩ := w_pz g r_a0.so h8
      refine wq_bd e (wq_up x ?_)
      exact wb30_40 h g 
theorem w30 {Y : Nat → Prop} {M0 : hM} {ρ : Nat → Nat} {as as_x : List aV} {M H M' : hM} {r : Option aV} (h : f30 as M = some (r, M')) (g : rn Y M0 ρ M H) (ha : vl ρ M as as_x) : wr Y M0 ρ M r M' (f30 as_x H) := by
  unfold f30 at h
  split at h
  · rename_i a0 v1
    obtain ⟨a0_x, _, rfl, r_a0, ha1⟩ := vl_is ha
    obtain ⟨_, rfl, ha2⟩ := vl_ii ha1
    cases vl_in ha2
    exact wx_out h (fun res hx => wb30_0 hx g r_a0)
  · cases h
theorem wb31_29  {Y : Nat → Prop} {M0 : hM} {ρ : Nat → Nat} {M H : hM} {res : xRes} (h : b31_29  M = some res) (g : rn Y M0 ρ M H)  : wq Y M0 ρ M res (b31_29  H) := by
  unfold b31_29 at h ⊢
  cases h
  exact ⟨_, _, rfl, (vs_a va_i), g, ex.rf⟩
theorem wb31_0 {a0 : Nat} {a0_x : Nat} {v1 : Int32} {v2 : Int32} {v3 : Int32} {Y : Nat → Prop} {M0 : hM} {ρ : Nat → Nat} {M H : hM} {res : xRes} (h : b31_0 a0 v1 v2 v3 M = some res) (g : rn Y M0 ρ M H) (r_a0 : vn ρ M a0 a0_x) : wq Y M0 ρ M res (b31_0 a0_x v1 v2 v3 H) := by
  unfold b31_0 at h ⊢
  obtain ⟨b_3, h1, h⟩ := bd h
  obtain ⟨b_3_x, e, r_b_3⟩ := w_go g r_a0.so h1
  refine wq_bd e ?_
  obtain ⟨q_1, h2, h⟩ := bd h
  obtain ⟨_, _, _, e, g, x, r_q⟩ := wc_R (f := f29) h2 (fun e => w29 e g (vl_c (va_r r_b_3.so) (vl_c va_i (vl_c va_i vl_n))))
  refine wq_bd e (wq_up x ?_)
  have r_q_1_1 := r_q
  rcases ite_some h with ⟨q, h⟩ | ⟨q, h⟩
  · refine wq_ip (r_q_1_1.non q) ?_
    exact wb31_29 h g 
  · refine wq_in (r_q_1_1.nnn q) ?_
    rcases ite_some h with ⟨q, h⟩ | ⟨q, h⟩
    · refine wq_ip q ?_
      exact wb31_29 h g 
    · refine wq_in q ?_
      obtain ⟨v_5, h3, h⟩ := bd h
      refine wq_bd (w_gi g r_q_1_1 h3) ?_
      rcases ite_some h with ⟨q, h⟩ | ⟨q, h⟩
      · refine wq_ip q ?_
        obtain ⟨b_9, h4, h⟩ := bd h
        obtain ⟨b_9_x, e, r_b_9⟩ := w_go g r_q_1_1 h4
        refine wq_bd e ?_
        obtain ⟨q_7, h5, h⟩ := bd h
        obtain ⟨_, _, e, g, x⟩ := wc_V (f := f30) h5 (fun e => w30 e g (vl_c (va_r r_b_9.so) (vl_c va_i vl_n)))
        refine wq_bd e (wq_up x ?_)
        cases h
        exact ⟨_, _, rfl, (vs_a va_i), g, ex.rf⟩
      · refine wq_in q ?_
        exact wb31_29 h g 
theorem w31 {Y : Nat → Prop} {M0 : hM} {ρ : Nat → Nat} {as as_x : List aV} {M H M' : hM} {r : Option aV} (h : f31 as M = some (r, M')) (g : rn Y M0 ρ M H) (ha : vl ρ M as as_x) : wr Y M0 ρ M r M' (f31 as_x H) := by
  unfold f31 at h
  split at h
  · rename_i a0 v1 v2 v3
    obtain ⟨a0_x, _, rfl, r_a0, ha1⟩ := vl_is ha
    obtain ⟨_, rfl, ha2⟩ := vl_ii ha1
    obtain ⟨_, rfl, ha3⟩ := vl_ii ha2
    obtain ⟨_, rfl, ha4⟩ := vl_ii ha3
    cases vl_in ha4
    exact wx_out h (fun res hx => wb31_0 hx g r_a0)
  · cases h
theorem wb32_0 {a0 : Nat} {a0_x : Nat} {v1 : Int32} {v2 : Int32} {v3 : Int32} {v4 : Int32} {Y : Nat → Prop} {M0 : hM} {ρ : Nat → Nat} {M H : hM} {res : xRes} (h : b32_0 a0 v1 v2 v3 v4 M = some res) (g : rn Y M0 ρ M H) (r_a0 : vn ρ M a0 a0_x) : wq Y M0 ρ M res (b32_0 a0_x v1 v2 v3 v4 H) := by
  unfold b32_0 at h ⊢
  obtain ⟨M1, h1, h⟩ := bd h
  obtain ⟨_, e, g, x⟩ := w_pi g r_a0.so h1
  refine wq_bd e (wq_up x ?_)
  have r_a0 := r_a0.up x
  obtain ⟨M3, h2, h⟩ := bd h
  obtain ⟨_, e, g, x⟩ := w_pz g r_a0.so h2
  refine wq_bd e (wq_up x ?_)
  have r_a0 := r_a0.up x
  obtain ⟨o_5, h3, h⟩ := bd h
  obtain ⟨o_5_x, e, r_o_5⟩ := w_gr g r_a0.so h3
  refine wq_bd e ?_
  obtain ⟨M7, h4, h⟩ := bd h
  obtain ⟨_, e, g, x⟩ := w_asb g r_o_5 h4
  refine wq_bd e (wq_up x ?_)
  have r_a0 := r_a0.up x
  cases h
  exact ⟨_, _, rfl, (vs_g (vl_c (va_r r_a0.so) (vl_c va_i (vl_c va_i (vl_c va_i (vl_c va_i vl_n)))))), g, ex.rf⟩
theorem wb32_22 {a0 : Nat} {a0_x : Nat} {v2 : Int32} {v3 : Int32} {v4 : Int32} {v5 : Int32} {Y : Nat → Prop} {M0 : hM} {ρ : Nat → Nat} {M H : hM} {res : xRes} (h : b32_22 a0 v2 v3 v4 v5 M = some res) (g : rn Y M0 ρ M H) (r_a0 : vn ρ M a0 a0_x) : wq Y M0 ρ M res (b32_22 a0_x v2 v3 v4 v5 H) := by
  unfold b32_22 at h ⊢
  rcases ite_some h with ⟨q, h⟩ | ⟨q, h⟩
  · refine wq_ip q ?_
    obtain ⟨o_9, h1, h⟩ := bd h
    obtain ⟨o_9_x, e, r_o_9⟩ := w_gr g r_a0.so h1
    refine wq_bd e ?_
    obtain ⟨M11, h2, h⟩ := bd h
    obtain ⟨_, e, g, x⟩ := w_asb g r_o_9 h2
    refine wq_bd e (wq_up x ?_)
    have r_a0 := r_a0.up x
    obtain ⟨o_13, h3, h⟩ := bd h
    obtain ⟨o_13_x, e, r_o_13⟩ := w_gr g r_a0.so h3
    refine wq_bd e ?_
    obtain ⟨M15, h4, h⟩ := bd h
    obtain ⟨_, e, g, x⟩ := w_asb g r_o_13 h4
    refine wq_bd e (wq_up x ?_)
    have r_a0 := r_a0.up x
    cases h
    exact ⟨_, _, rfl, (vs_g (vl_c (va_r r_a0.so) (vl_c va_i vl_n))), g, ex.rf⟩
  · refine wq_in q ?_
    obtain ⟨o_17, h5, h⟩ := bd h
    obtain ⟨o_17_x, e, r_o_17⟩ := w_gr g r_a0.so h5
    refine wq_bd e ?_
    obtain ⟨M19, h6, h⟩ := bd h
    obtain ⟨_, e, g, x⟩ := w_asb g r_o_17 h6
    refine wq_bd e (wq_up x ?_)
    have r_a0 := r_a0.up x
    obtain ⟨o_21, h7, h⟩ := bd h
    obtain ⟨o_21_x, e, r_o_21⟩ := w_gr g r_a0.so h7
    refine wq_bd e ?_
    obtain ⟨M23, h8, h⟩ := bd h
    obtain ⟨_, e, g, x⟩ := w_asb g r_o_21 h8
    refine wq_bd e (wq_up x ?_)
    have r_a0 := r_a0.up x
    cases h
    exact ⟨_, _, rfl, (vs_g (vl_c (va_r r_a0.so) (vl_c va_i (vl_c va_i (vl_c va_i (vl_c va_i vl_n)))))), g, ex.rf⟩
theorem wb32_101 {a0 : Nat} {a0_x : Nat} {v5 : Int32} {Y : Nat → Prop} {M0 : hM} {ρ : Nat → Nat} {M H : hM} {res : xRes} (h : b32_101 a0 v5 M = some res) (g : rn Y M0 ρ M H) (r_a0 : vn ρ M a0 a0_x) : wq Y M0 ρ M res (b32_101 a0_x v5 H) := by
  unfold b32_101 at h ⊢
  rcases ite_some h with ⟨q, h⟩ | ⟨q, h⟩
  · refine wq_ip q ?_
    cases h
    exact ⟨_, _, rfl, vs_n, g, ex.rf⟩
  · refine wq_in q ?_
    obtain ⟨o_26, h1, h⟩ := bd h
    obtain ⟨o_26_x, e, r_o_26⟩ := w_gr g r_a0.so h1
    refine wq_bd e ?_
    obtain ⟨M28, h2, h⟩ := bd h
    obtain ⟨_, e, g, x⟩ := w_asb g r_o_26 h2
    refine wq_bd e (wq_up x ?_)
    have r_a0 := r_a0.up x
    cases h
    exact ⟨_, _, rfl, (vs_g (vl_c (va_r r_a0.so) (vl_c va_i vl_n))), g, ex.rf⟩
theorem w32 {Y : Nat → Prop} {M0 : hM} {ρ : Nat → Nat} {as as_x : List aV} {M H M' : hM} {r : Option aV} (h : f32 as M = some (r, M')) (g : rn Y M0 ρ M H) (ha : vl ρ M as as_x) : wr Y M0 ρ M r M' (f32 as_x H) := by
  unfold f32 at h
  split at h
  · rename_i a0 v1 v2 v3 v4
    obtain ⟨a0_x, _, rfl, r_a0, ha1⟩ := vl_is ha
    obtain ⟨_, rfl, ha2⟩ := vl_ii ha1
    obtain ⟨_, rfl, ha3⟩ := vl_ii ha2
    obtain ⟨_, rfl, ha4⟩ := vl_ii ha3
    obtain ⟨_, rfl, ha5⟩ := vl_ii ha4
    cases vl_in ha5
    show wr Y M0 ρ M r M' (x_go k32 (b32_0 a0_x v1 v2 v3 v4 H))
    refine wx_go (blk := k32) ?_ h (fun res hx => wb32_0 hx g r_a0)
    intro ρ h as as_x M H res hk g ha
    unfold k32 at hk
    split at hk
    · rename_i hh
      subst hh
      split at hk
      · rename_i a0 v2 v3 v4 v5
        obtain ⟨a0_x, _, rfl, r_a0, ha1⟩ := vl_is ha
        obtain ⟨_, rfl, ha2⟩ := vl_ii ha1
        obtain ⟨_, rfl, ha3⟩ := vl_ii ha2
        obtain ⟨_, rfl, ha4⟩ := vl_ii ha3
        obtain ⟨_, rfl, ha5⟩ := vl_ii ha4
        cases vl_in ha5
        exact wb32_22 hk g r_a0
      · cases hk
    · skip
      split at hk
      · rename_i hh
        subst hh
        split at hk
        · rename_i a0 v5
          obtain ⟨a0_x, _, rfl, r_a0, ha1⟩ := vl_is ha
          obtain ⟨_, rfl, ha2⟩ := vl_ii ha1
          cases vl_in ha2
          exact wb32_101 hk g r_a0
        · cases hk
      · skip
        cases hk
  · cases h
theorem wb33_0 {a0 : Nat} {a0_x : Nat} {Y : Nat → Prop} {M0 : hM} {ρ : Nat → Nat} {M H : hM} {res : xRes} (h : b33_0 a0 M = some res) (g : rn Y M0 ρ M H) (r_a0 : vn ρ M a0 a0_x) : wq Y M0 ρ M res (b33_0 a0_x H) := by
  unfold b33_0 at h ⊢
  obtain ⟨M1, h1, h⟩ := bd h
  obtain ⟨_, _, e, g, x, r_z⟩ := w_na g (by decide) h1
  refine wq_bd e (wq_up x ?_)
  have r_a0 := r_a0.up x
  have r_h_sz_M := r_z
  obtain ⟨M3, h2, h⟩ := bd h
  obtain ⟨_, e, g, x⟩ := w_pr g r_a0.so r_h_sz_M.so h2
  refine wq_bd e (wq_up x ?_)
  cases h
  exact ⟨_, _, rfl, vs_n, g, ex.rf⟩
theorem w33 {Y : Nat → Prop} {M0 : hM} {ρ : Nat → Nat} {as as_x : List aV} {M H M' : hM} {r : Option aV} (h : f33 as M = some (r, M')) (g : rn Y M0 ρ M H) (ha : vl ρ M as as_x) : wr Y M0 ρ M r M' (f33 as_x H) := by
  unfold f33 at h
  split at h
  · rename_i a0
    obtain ⟨a0_x, _, rfl, r_a0, ha1⟩ := vl_is ha
    cases vl_in ha1
    exact wx_out h (fun res hx => wb33_0 hx g r_a0)
  · cases h
theorem wb34_32 {v1 : Int32} {v2 : Int32} {v3 : Int32} {v4 : Int32} {o5 : Option Nat} {o5_x : Option Nat} {Y : Nat → Prop} {M0 : hM} {ρ : Nat → Nat} {M H : hM} {res : xRes} (h : b34_32 v1 v2 v3 v4 o5 M = some res) (g : rn Y M0 ρ M H) (r_o5 : vo ρ M o5 o5_x) : wq Y M0 ρ M res (b34_32 v1 v2 v3 v4 o5_x H) := by
  unfold b34_32 at h ⊢
  obtain ⟨M12, h1, h⟩ := bd h
  obtain ⟨_, e, g, x⟩ := w_pr g r_o5 vo_no h1
  refine wq_bd e (wq_up x ?_)
  have r_o5 := r_o5.up x
  obtain ⟨b_16, h2, h⟩ := bd h
  obtain ⟨b_16_x, e, r_b_16⟩ := w_go g r_o5 h2
  refine wq_bd e ?_
  obtain ⟨q_14, h3, h⟩ := bd h
  obtain ⟨_, _, e, g, x⟩ := wc_V (f := f32) h3 (fun e => w32 e g (vl_c (va_r r_b_16.so) (vl_c va_i (vl_c va_i (vl_c va_i (vl_c va_i vl_n))))))
  refine wq_bd e (wq_up x ?_)
  have r_o5 := r_o5.up x
  cases h
  exact ⟨_, _, rfl, (vs_a (va_r r_o5)), g, ex.rf⟩
theorem wb34_0 {a0 : Nat} {a0_x : Nat} {v1 : Int32} {v2 : Int32} {v3 : Int32} {v4 : Int32} {Y : Nat → Prop} {M0 : hM} {ρ : Nat → Nat} {M H : hM} {res : xRes} (h : b34_0 a0 v1 v2 v3 v4 M = some res) (g : rn Y M0 ρ M H) (r_a0 : vn ρ M a0 a0_x) : wq Y M0 ρ M res (b34_0 a0_x v1 v2 v3 v4 H) := by
  unfold b34_0 at h ⊢
  obtain ⟨o_1, h1, h⟩ := bd h
  obtain ⟨o_1_x, e, r_o_1⟩ := w_gr g r_a0.so h1
  refine wq_bd e ?_
  rcases ite_some h with ⟨q, h⟩ | ⟨q, h⟩
  · refine wq_ip (r_o_1.non q) ?_
    obtain ⟨M7, h2, h⟩ := bd h
    obtain ⟨_, _, e, g, x, r_z⟩ := w_no g h2
    refine wq_bd e (wq_up x ?_)
    have r_h_sz_M := r_z
    obtain ⟨q_9, h3, h⟩ := bd h
    obtain ⟨_, _, e, g, x⟩ := wc_V (f := f33) h3 (fun e => w33 e g (vl_c (va_r r_h_sz_M.so) vl_n))
    refine wq_bd e (wq_up x ?_)
    have r_h_sz_M := r_h_sz_M.up x
    exact wb34_32 h g r_h_sz_M.so
  · refine wq_in (r_o_1.nnn q) ?_
    obtain ⟨o_3, h4, h⟩ := bd h
    obtain ⟨o_3_x, e, r_o_3⟩ := w_gr g r_o_1 h4
    refine wq_bd e ?_
    obtain ⟨M5, h5, h⟩ := bd h
    obtain ⟨_, e, g, x⟩ := w_pr g r_a0.so r_o_3 h5
    refine wq_bd e (wq_up x ?_)
    have r_o_1 := r_o_1.up x
    exact wb34_32 h g r_o_1
theorem w34 {Y : Nat → Prop} {M0 : hM} {ρ : Nat → Nat} {as as_x : List aV} {M H M' : hM} {r : Option aV} (h : f34 as M = some (r, M')) (g : rn Y M0 ρ M H) (ha : vl ρ M as as_x) : wr Y M0 ρ M r M' (f34 as_x H) := by
  unfold f34 at h
  split at h
  · rename_i a0 v1 v2 v3 v4
    obtain ⟨a0_x, _, rfl, r_a0, ha1⟩ := vl_is ha
    obtain ⟨_, rfl, ha2⟩ := vl_ii ha1
    obtain ⟨_, rfl, ha3⟩ := vl_ii ha2
    obtain ⟨_, rfl, ha4⟩ := vl_ii ha3
    obtain ⟨_, rfl, ha5⟩ := vl_ii ha4
    cases vl_in ha5
    exact wx_out h (fun res hx => wb34_0 hx g r_a0)
  · cases h
theorem wb35_0 {a0 : Nat} {a0_x : Nat} {v1 : Int32} {v2 : Int32} {w3 : Int64} {Y : Nat → Prop} {M0 : hM} {ρ : Nat → Nat} {M H : hM} {res : xRes} (h : b35_0 a0 v1 v2 w3 M = some res) (g : rn Y M0 ρ M H) (r_a0 : vn ρ M a0 a0_x) : wq Y M0 ρ M res (b35_0 a0_x v1 v2 w3 H) := by
  unfold b35_0 at h ⊢
  cases h
  exact ⟨_, _, rfl, (vs_g (vl_c (va_r r_a0.so) (vl_c va_i (vl_c va_i (vl_c va_l (vl_c va_i vl_n)))))), g, ex.rf⟩
theorem wb35_50 {a0 : Nat} {a0_x : Nat} {v1 : Int32} {v2 : Int32} {w3 : Int64} {v5 : Int32} {Y : Nat → Prop} {M0 : hM} {ρ : Nat → Nat} {M H : hM} {res : xRes} (h : b35_50 a0 v1 v2 w3 v5 M = some res) (g : rn Y M0 ρ M H) (r_a0 : vn ρ M a0 a0_x) : wq Y M0 ρ M res (b35_50 a0_x v1 v2 w3 v5 H) := by
  unfold b35_50 at h ⊢
  cases h
  exact ⟨_, _, rfl, (vs_g (vl_c (va_r r_a0.so) (vl_c va_i (vl_c va_i (vl_c va_l (vl_c va_i vl_n)))))), g, ex.rf⟩
theorem wb35_3 {a0 : Nat} {a0_x : Nat} {v1 : Int32} {v2 : Int32} {w3 : Int64} {v5 : Int32} {Y : Nat → Prop} {M0 : hM} {ρ : Nat → Nat} {M H : hM} {res : xRes} (h : b35_3 a0 v1 v2 w3 v5 M = some res) (g : rn Y M0 ρ M H) (r_a0 : vn ρ M a0 a0_x) : wq Y M0 ρ M res (b35_3 a0_x v1 v2 w3 v5 H) := by
  unfold b35_3 at h ⊢
  rcases ite_some h with ⟨q, h⟩ | ⟨q, h⟩
  · refine wq_ip q ?_
    cases h
    exact ⟨_, _, rfl, vs_n, g, ex.rf⟩
  · refine wq_in q ?_
    rcases ite_some h with ⟨q, h⟩ | ⟨q, h⟩
    · refine wq_ip q ?_
      exact wb35_50 h g r_a0
    · refine wq_in q ?_
      obtain ⟨o_1, h1, h⟩ := bd h
      obtain ⟨o_1_x, e, r_o_1⟩ := w_gr g r_a0.so h1
      refine wq_bd e ?_
      obtain ⟨v_3, h2, h⟩ := bd h
      refine wq_bd (w_aln g r_o_1 h2) ?_
      rcases ite_some h with ⟨q, h⟩ | ⟨q, h⟩
      · refine wq_ip q ?_
        exact wb35_50 h g r_a0
      · refine wq_in q ?_
        obtain ⟨o_5, h3, h⟩ := bd h
        obtain ⟨o_5_x, e, r_o_5⟩ := w_gr g r_a0.so h3
        refine wq_bd e ?_
        obtain ⟨M7, h4, h⟩ := bd h
        obtain ⟨_, e, g, x⟩ := w_asb g r_o_5 h4
        refine wq_bd e (wq_up x ?_)
        have r_a0 := r_a0.up x
        exact wb35_50 h g r_a0
theorem w35 {Y : Nat → Prop} {M0 : hM} {ρ : Nat → Nat} {as as_x : List aV} {M H M' : hM} {r : Option aV} (h : f35 as M = some (r, M')) (g : rn Y M0 ρ M H) (ha : vl ρ M as as_x) : wr Y M0 ρ M r M' (f35 as_x H) := by
  unfold f35 at h
  split at h
  · rename_i a0 v1 v2 w3
    obtain ⟨a0_x, _, rfl, r_a0, ha1⟩ := vl_is ha
    obtain ⟨_, rfl, ha2⟩ := vl_ii ha1
    obtain ⟨_, rfl, ha3⟩ := vl_ii ha2
    obtain ⟨_, rfl, ha4⟩ := vl_il ha3
    cases vl_in ha4
    show wr Y M0 ρ M r M' (x_go k35 (b35_0 a0_x v1 v2 w3 H))
    refine wx_go (blk := k35) ?_ h (fun res hx => wb35_0 hx g r_a0)
    intro ρ h as as_x M H res hk g ha
    unfold k35 at hk
    split at hk
    · rename_i hh
      subst hh
      split at hk
      · rename_i a0 v1 v2 w3 v5
        obtain ⟨a0_x, _, rfl, r_a0, ha1⟩ := vl_is ha
        obtain ⟨_, rfl, ha2⟩ := vl_ii ha1
        obtain ⟨_, rfl, ha3⟩ := vl_ii ha2
        obtain ⟨_, rfl, ha4⟩ := vl_il ha3
        obtain ⟨_, rfl, ha5⟩ := vl_ii ha4
        cases vl_in ha5
        exact wb35_3 hk g r_a0
      · cases hk
    · skip
      cases hk
  · cases h
theorem wb36_0 {a0 : Nat} {a0_x : Nat} {v1 : Int32} {w2 : Int64} {Y : Nat → Prop} {M0 : hM} {ρ : Nat → Nat} {M H : hM} {res : xRes} (h : b36_0 a0 v1 w2 M = some res) (g : rn Y M0 ρ M H) (r_a0 : vn ρ M a0 a0_x) : wq Y M0 ρ M res (b36_0 a0_x v1 w2 H) := by
  unfold b36_0 at h ⊢
  obtain ⟨v_1, h1, h⟩ := bd h
  refine wq_bd (w_gi g r_a0.so h1) ?_
  obtain ⟨b_5, h2, h⟩ := bd h
  obtain ⟨b_5_x, e, r_b_5⟩ := w_go g r_a0.so h2
  refine wq_bd e ?_
  obtain ⟨q_3, h3, h⟩ := bd h
  obtain ⟨_, _, e, g, x⟩ := wc_V (f := f35) h3 (fun e => w35 e g (vl_c (va_r r_b_5.so) (vl_c va_i (vl_c va_i (vl_c va_l vl_n)))))
  refine wq_bd e (wq_up x ?_)
  have r_a0 := r_a0.up x
  obtain ⟨v_7, h4, h⟩ := bd h
  refine wq_bd (w_gi g r_a0.so h4) ?_
  obtain ⟨M9, h5, h⟩ := bd h
  obtain ⟨_, e, g, x⟩ := w_pi g r_a0.so h5
  refine wq_bd e (wq_up x ?_)
  cases h
  exact ⟨_, _, rfl, vs_n, g, ex.rf⟩
theorem w36 {Y : Nat → Prop} {M0 : hM} {ρ : Nat → Nat} {as as_x : List aV} {M H M' : hM} {r : Option aV} (h : f36 as M = some (r, M')) (g : rn Y M0 ρ M H) (ha : vl ρ M as as_x) : wr Y M0 ρ M r M' (f36 as_x H) := by
  unfold f36 at h
  split at h
  · rename_i a0 v1 w2
    obtain ⟨a0_x, _, rfl, r_a0, ha1⟩ := vl_is ha
    obtain ⟨_, rfl, ha2⟩ := vl_ii ha1
    obtain ⟨_, rfl, ha3⟩ := vl_il ha2
    cases vl_in ha3
    exact wx_out h (fun res hx => wb36_0 hx g r_a0)
  · cases h
theorem wb37_20  {Y : Nat → Prop} {M0 : hM} {ρ : Nat → Nat} {M H : hM} {res : xRes} (h : b37_20  M = some res) (g : rn Y M0 ρ M H)  : wq Y M0 ρ M res (b37_20  H) := by
  unfold b37_20 at h ⊢
  cases h
  exact ⟨_, _, rfl, vs_n, g, ex.rf⟩
theorem wb37_0 {a0 : Nat} {a0_x : Nat} {v1 : Int32} {Y : Nat → Prop} {M0 : hM} {ρ : Nat → Nat} {M H : hM} {res : xRes} (h : b37_0 a0 v1 M = some res) (g : rn Y M0 ρ M H) (r_a0 : vn ρ M a0 a0_x) : wq Y M0 ρ M res (b37_0 a0_x v1 H) := by
  unfold b37_0 at h ⊢
  rcases ite_some h with ⟨q, h⟩ | ⟨q, h⟩
  · refine wq_ip q ?_
    exact wb37_20 h g 
  · refine wq_in q ?_
    rcases ite_some h with ⟨q, h⟩ | ⟨q, h⟩
    · refine wq_ip q ?_
      exact wb37_20 h g 
    · refine wq_in q ?_
      obtain ⟨o_1, h1, h⟩ := bd h
      obtain ⟨o_1_x, e, r_o_1⟩ := w_gr g r_a0.so h1
      refine wq_bd e ?_
      obtain ⟨v_3, h2, h⟩ := bd h
      refine wq_bd (w_ali g r_o_1 h2) ?_
      obtain ⟨M5, h3, h⟩ := bd h
      obtain ⟨_, e, g, x⟩ := w_asi g r_o_1 h3
      refine wq_bd e (wq_up x ?_)
      exact wb37_20 h g 
theorem w37 {Y : Nat → Prop} {M0 : hM} {ρ : Nat → Nat} {as as_x : List aV} {M H M' : hM} {r : Option aV} (h : f37 as M = some (r, M')) (g : rn Y M0 ρ M H) (ha : vl ρ M as as_x) : wr Y M0 ρ M r M' (f37 as_x H) := by
  unfold f37 at h
  split at h
  · rename_i a0 v1
    obtain ⟨a0_x, _, rfl, r_a0, ha1⟩ := vl_is ha
    obtain ⟨_, rfl, ha2⟩ := vl_ii ha1
    cases vl_in ha2
    exact wx_out h (fun res hx => wb37_0 hx g r_a0)
  · cases h
theorem wb38_28 {a0 : Nat} {a0_x : Nat} {o1 : Option Nat} {o1_x : Option Nat} {Y : Nat → Prop} {M0 : hM} {ρ : Nat → Nat} {M H : hM} {res : xRes} (h : b38_28 a0 o1 M = some res) (g : rn Y M0 ρ M H) (r_a0 : vn ρ M a0 a0_x) (r_o1 : vo ρ M o1 o1_x) : wq Y M0 ρ M res (b38_28 a0_x o1_x H) := by
  unfold b38_28 at h ⊢
  obtain ⟨M12, h1, h⟩ := bd h
  obtain ⟨_, e, g, x⟩ := w_pr g r_a0.so r_o1 h1
  refine wq_bd e (wq_up x ?_)
  have r_a0 := r_a0.up x
  obtain ⟨v_14, h2, h⟩ := bd h
  refine wq_bd (w_gi g r_a0.so h2) ?_
  obtain ⟨M16, h3, h⟩ := bd h
  obtain ⟨_, e, g, x⟩ := w_pi g r_a0.so h3
  refine wq_bd e (wq_up x ?_)
  cases h
  exact ⟨_, _, rfl, vs_n, g, ex.rf⟩
theorem wb38_0 {a0 : Nat} {a0_x : Nat} {o1 : Option Nat} {o1_x : Option Nat} {Y : Nat → Prop} {M0 : hM} {ρ : Nat → Nat} {M H : hM} {res : xRes} (h : b38_0 a0 o1 M = some res) (g : rn Y M0 ρ M H) (r_a0 : vn ρ M a0 a0_x) (r_o1 : vo ρ M o1 o1_x) : wq Y M0 ρ M res (b38_0 a0_x o1_x H) := by
  unfold b38_0 at h ⊢
  obtain ⟨M1, h1, h⟩ := bd h
  obtain ⟨_, e, g, x⟩ := w_pr g r_o1 vo_no h1
  refine wq_bd e (wq_up x ?_)
  have r_a0 := r_a0.up x
  have r_o1 := r_o1.up x
  obtain ⟨o_3, h2, h⟩ := bd h
  obtain ⟨o_3_x, e, r_o_3⟩ := w_gr g r_a0.so h2
  refine wq_bd e ?_
  rcases ite_some h with ⟨q, h⟩ | ⟨q, h⟩
  · refine wq_ip (r_o_3.non q) ?_
    obtain ⟨M9, h3, h⟩ := bd h
    obtain ⟨_, e, g, x⟩ := w_pr g r_a0.so r_o1 h3
    refine wq_bd e (wq_up x ?_)
    have r_a0 := r_a0.up x
    have r_o1 := r_o1.up x
    exact wb38_28 h g r_a0 r_o1
  · refine wq_in (r_o_3.nnn q) ?_
    obtain ⟨o_5, h4, h⟩ := bd h
    obtain ⟨o_5_x, e, r_o_5⟩ := w_gr g r_a0.so h4
    refine wq_bd e ?_
    obtain ⟨M7, h5, h⟩ := bd h
    obtain ⟨_, e, g, x⟩ := w_pr g r_o_5 r_o1 h5
    refine wq_bd e (wq_up x ?_)
    have r_a0 := r_a0.up x
    have r_o1 := r_o1.up x
    exact wb38_28 h g r_a0 r_o1
theorem w38 {Y : Nat → Prop} {M0 : hM} {ρ : Nat → Nat} {as as_x : List aV} {M H M' : hM} {r : Option aV} (h : f38 as M = some (r, M')) (g : rn Y M0 ρ M H) (ha : vl ρ M as as_x) : wr Y M0 ρ M r M' (f38 as_x H) := by
  unfold f38 at h
  split at h
  · rename_i a0 o1
    obtain ⟨a0_x, _, rfl, r_a0, ha1⟩ := vl_is ha
    obtain ⟨o1_x, _, rfl, r_o1, ha2⟩ := vl_ir ha1
    cases vl_in ha2
    exact wx_out h (fun res hx => wb38_0 hx g r_a0 r_o1)
  · cases h
theorem wb39_43 {a0 : Nat} {a0_x : Nat} {o1 : Option Nat} {o1_x : Option Nat} {Y : Nat → Prop} {M0 : hM} {ρ : Nat → Nat} {M H : hM} {res : xRes} (h : b39_43 a0 o1 M = some res) (g : rn Y M0 ρ M H) (r_a0 : vn ρ M a0 a0_x) (r_o1 : vo ρ M o1 o1_x) : wq Y M0 ρ M res (b39_43 a0_x o1_x H) := by
  unfold b39_43 at h ⊢
  obtain ⟨o_24, h1, h⟩ := bd h
  obtain ⟨o_24_x, e, r_o_24⟩ := w_gr g r_a0.so h1
  refine wq_bd e ?_
  obtain ⟨b_28, h2, h⟩ := bd h
  obtain ⟨b_28_x, e, r_b_28⟩ := w_go g r_o_24 h2
  refine wq_bd e ?_
  obtain ⟨q_26, h3, h⟩ := bd h
  obtain ⟨_, _, e, g, x⟩ := wc_V (f := f17) h3 (fun e => w17 e g (vl_c (va_r r_b_28.so) (vl_c (va_r r_o1) vl_n)))
  refine wq_bd e (wq_up x ?_)
  cases h
  exact ⟨_, _, rfl, vs_n, g, ex.rf⟩
theorem wb39_28 {a0 : Nat} {a0_x : Nat} {o1 : Option Nat} {o1_x : Option Nat} {Y : Nat → Prop} {M0 : hM} {ρ : Nat → Nat} {M H : hM} {res : xRes} (h : b39_28 a0 o1 M = some res) (g : rn Y M0 ρ M H) (r_a0 : vn ρ M a0 a0_x) (r_o1 : vo ρ M o1 o1_x) : wq Y M0 ρ M res (b39_28 a0_x o1_x H) := by
  unfold b39_28 at h ⊢
  obtain ⟨v_15, h1, h⟩ := bd h
  refine wq_bd (w_gi g r_a0.so h1) ?_
  rcases ite_some h with ⟨q, h⟩ | ⟨q, h⟩
  · refine wq_ip q ?_
    exact wb39_43 h g r_a0 r_o1
  · refine wq_in q ?_
    obtain ⟨o_17, h2, h⟩ := bd h
    obtain ⟨o_17_x, e, r_o_17⟩ := w_gr g r_a0.so h2
    refine wq_bd e ?_
    obtain ⟨b_21, h3, h⟩ := bd h
    obtain ⟨b_21_x, e, r_b_21⟩ := w_go g r_o_17 h3
    refine wq_bd e ?_
    obtain ⟨q_19, h4, h⟩ := bd h
    obtain ⟨_, _, e, g, x⟩ := wc_V (f := f37) h4 (fun e => w37 e g (vl_c (va_r r_b_21.so) (vl_c va_i vl_n)))
    refine wq_bd e (wq_up x ?_)
    have r_a0 := r_a0.up x
    have r_o1 := r_o1.up x
    exact wb39_43 h g r_a0 r_o1
theorem wb39_0 {a0 : Nat} {a0_x : Nat} {o1 : Option Nat} {o1_x : Option Nat} {Y : Nat → Prop} {M0 : hM} {ρ : Nat → Nat} {M H : hM} {res : xRes} (h : b39_0 a0 o1 M = some res) (g : rn Y M0 ρ M H) (r_a0 : vn ρ M a0 a0_x) (r_o1 : vo ρ M o1 o1_x) : wq Y M0 ρ M res (b39_0 a0_x o1_x H) := by
  unfold b39_0 at h ⊢
  obtain ⟨v_1, h1, h⟩ := bd h
  refine wq_bd (w_gi g r_a0.so h1) ?_
  rcases ite_some h with ⟨q, h⟩ | ⟨q, h⟩
  · refine wq_ip q ?_
    exact wb39_28 h g r_a0 r_o1
  · refine wq_in q ?_
    obtain ⟨o_3, h2, h⟩ := bd h
    obtain ⟨o_3_x, e, r_o_3⟩ := w_gr g r_a0.so h2
    refine wq_bd e ?_
    obtain ⟨v_5, h3, h⟩ := bd h
    refine wq_bd (w_gi g r_o_3 h3) ?_
    rcases ite_some h with ⟨q, h⟩ | ⟨q, h⟩
    · refine wq_ip q ?_
      exact wb39_28 h g r_a0 r_o1
    · refine wq_in q ?_
      obtain ⟨o_7, h4, h⟩ := bd h
      obtain ⟨o_7_x, e, r_o_7⟩ := w_gr g r_a0.so h4
      refine wq_bd e ?_
      obtain ⟨b_11, h5, h⟩ := bd h
      obtain ⟨b_11_x, e, r_b_11⟩ := w_go g r_o_7 h5
      refine wq_bd e ?_
      obtain ⟨q_9, h6, h⟩ := bd h
      obtain ⟨_, _, e, g, x⟩ := wc_V (f := f38) h6 (fun e => w38 e g (vl_c (va_r r_b_11.so) (vl_c (va_r r_o1) vl_n)))
      refine wq_bd e (wq_up x ?_)
      cases h
      exact ⟨_, _, rfl, vs_n, g, ex.rf⟩
theorem w39 {Y : Nat → Prop} {M0 : hM} {ρ : Nat → Nat} {as as_x : List aV} {M H M' : hM} {r : Option aV} (h : f39 as M = some (r, M')) (g : rn Y M0 ρ M H) (ha : vl ρ M as as_x) : wr Y M0 ρ M r M' (f39 as_x H) := by
  unfold f39 at h
  split at h
  · rename_i a0 o1
    obtain ⟨a0_x, _, rfl, r_a0, ha1⟩ := vl_is ha
    obtain ⟨o1_x, _, rfl, r_o1, ha2⟩ := vl_ir ha1
    cases vl_in ha2
    exact wx_out h (fun res hx => wb39_0 hx g r_a0 r_o1)
  · cases h
theorem wb40_92  {Y : Nat → Prop} {M0 : hM} {ρ : Nat → Nat} {M H : hM} {res : xRes} (h : b40_92  M = some res) (g : rn Y M0 ρ M H)  : wq Y M0 ρ M res (b40_92  H) := by
  unfold b40_92 at h ⊢
  cases h
  exact ⟨_, _, rfl, vs_n, g, ex.rf⟩
theorem wb40_14 {a0 : Nat} {a0_x : Nat} {si0 : Int32} {Y : Nat → Prop} {M0 : hM} {ρ : Nat → Nat} {M H : hM} {res : xRes} (h : b40_14 a0 si0 M = some res) (g : rn Y M0 ρ M H) (r_a0 : vn ρ M a0 a0_x) : wq Y M0 ρ M res (b40_14 a0_x si0 H) := by
  unfold b40_14 at h ⊢
  obtain ⟨o_4, h1, h⟩ := bd h
  obtain ⟨o_4_x, e, r_o_4⟩ := w_gr g r_a0.so h1
  refine wq_bd e ?_
  obtain ⟨v_6, h2, h⟩ := bd h
  refine wq_bd (w_gi g r_o_4 h2) ?_
  rcases ite_some h with ⟨q, h⟩ | ⟨q, h⟩
  · refine wq_ip q ?_
    exact wb40_92 h g 
  · refine wq_in q ?_
    obtain ⟨o_8, h3, h⟩ := bd h
    obtain ⟨o_8_x, e, r_o_8⟩ := w_gr g r_a0.so h3
    refine wq_bd e ?_
    obtain ⟨v_10, h4, h⟩ := bd h
    refine wq_bd (w_gi g r_o_8 h4) ?_
    obtain ⟨o_12, h5, h⟩ := bd h
    obtain ⟨o_12_x, e, r_o_12⟩ := w_gr g r_a0.so h5
    refine wq_bd e ?_
    obtain ⟨v_14, h6, h⟩ := bd h
    refine wq_bd (w_gi g r_o_12 h6) ?_
    rcases ite_some h with ⟨q, h⟩ | ⟨q, h⟩
    · refine wq_ip q ?_
      exact wb40_92 h g 
    · refine wq_in q ?_
      obtain ⟨o_16, h7, h⟩ := bd h
      obtain ⟨o_16_x, e, r_o_16⟩ := w_gr g r_a0.so h7
      refine wq_bd e ?_
      obtain ⟨o_18, h8, h⟩ := bd h
      obtain ⟨o_18_x, e, r_o_18⟩ := w_gr g r_a0.so h8
      refine wq_bd e ?_
      obtain ⟨v_20, h9, h⟩ := bd h
      refine wq_bd (w_gi g r_o_18 h9) ?_
      obtain ⟨M22, h10, h⟩ := bd h
      obtain ⟨_, e, g, x⟩ := w_pi g r_o_16 h10
      refine wq_bd e (wq_up x ?_)
      have r_a0 := r_a0.up x
      obtain ⟨o_24, h11, h⟩ := bd h
      obtain ⟨o_24_x, e, r_o_24⟩ := w_gr g r_a0.so h11
      refine wq_bd e ?_
      obtain ⟨v_26, h12, h⟩ := bd h
      refine wq_bd (w_gi g r_a0.so h12) ?_
      obtain ⟨b_30, h13, h⟩ := bd h
      obtain ⟨b_30_x, e, r_b_30⟩ := w_go g r_o_24 h13
      refine wq_bd e ?_
      obtain ⟨q_28, h14, h⟩ := bd h
      obtain ⟨_, _, _, e, g, x, r_q⟩ := wc_R (f := f34) h14 (fun e => w34 e g (vl_c (va_r r_b_30.so) (vl_c va_i (vl_c va_i (vl_c va_i (vl_c va_i vl_n))))))
      refine wq_bd e (wq_up x ?_)
      have r_a0 := r_a0.up x
      have r_q_28_1 := r_q
      obtain ⟨v_32, h15, h⟩ := bd h
      refine wq_bd (w_gi g r_a0.so h15) ?_
      obtain ⟨b_36, h16, h⟩ := bd h
      obtain ⟨b_36_x, e, r_b_36⟩ := w_go g r_q_28_1 h16
      refine wq_bd e ?_
      obtain ⟨q_34, h17, h⟩ := bd h
      obtain ⟨_, _, e, g, x⟩ := wc_V (f := f36) h17 (fun e => w36 e g (vl_c (va_r r_b_36.so) (vl_c va_i (vl_c va_l vl_n))))
      refine wq_bd e (wq_up x ?_)
      have r_a0 := r_a0.up x
      have r_q_28_1 := r_q_28_1.up x
      obtain ⟨o_38, h18, h⟩ := bd h
      obtain ⟨o_38_x, e, r_o_38⟩ := w_gr g r_a0.so h18
      refine wq_bd e ?_
      obtain ⟨b_42, h19, h⟩ := bd h
      obtain ⟨b_42_x, e, r_b_42⟩ := w_go g r_o_38 h19
      refine wq_bd e ?_
      obtain ⟨q_40, h20, h⟩ := bd h
      obtain ⟨_, _, e, g, x⟩ := wc_V (f := f39) h20 (fun e => w39 e g (vl_c (va_r r_b_42.so) (vl_c (va_r r_q_28_1) vl_n)))
      refine wq_bd e (wq_up x ?_)
      exact wb40_92 h g 
theorem wb40_0 {a0 : Nat} {a0_x : Nat} {Y : Nat → Prop} {M0 : hM} {ρ : Nat → Nat} {M H : hM} {res : xRes} (h : b40_0 a0 M = some res) (g : rn Y M0 ρ M H) (r_a0 : vn ρ M a0 a0_x) : wq Y M0 ρ M res (b40_0 a0_x H) := by
  unfold b40_0 at h ⊢
  obtain ⟨v_1, h1, h⟩ := bd h
  refine wq_bd (w_gi g r_a0.so h1) ?_
  rcases ite_some h with ⟨q, h⟩ | ⟨q, h⟩
  · refine wq_ip q ?_
    exact wb40_14 h g r_a0
  · refine wq_in q ?_
    exact wb40_14 h g r_a0
theorem w40 {Y : Nat → Prop} {M0 : hM} {ρ : Nat → Nat} {as as_x : List aV} {M H M' : hM} {r : Option aV} (h : f40 as M = some (r, M')) (g : rn Y M0 ρ M H) (ha : vl ρ M as as_x) : wr Y M0 ρ M r M' (f40 as_x H) := by
  unfold f40 at h
  split at h
  · rename_i a0
    obtain ⟨a0_x, _, rfl, r_a0, ha1⟩ := vl_is ha
    cases vl_in ha1
    exact wx_out h (fun res hx => wb40_0 hx g r_a0)
  · cases h
theorem wb41_26 {si0 : Int32} {Y : Nat → Prop} {M0 : hM} {ρ : Nat → Nat} {M H : hM} {res : xRes} (h : b41_26 si0 M = some res) (g : rn Y M0 ρ M H)  : wq Y M0 ρ M res (b41_26 si0 H) := by
  unfold b41_26 at h ⊢
  rcases ite_some h with ⟨q, h⟩ | ⟨q, h⟩
  · refine wq_ip q ?_
    cases h
    exact ⟨_, _, rfl, (vs_a va_i), g, ex.rf⟩
  · refine wq_in q ?_
    cases h
theorem wb41_25  {Y : Nat → Prop} {M0 : hM} {ρ : Nat → Nat} {M H : hM} {res : xRes} (h : b41_25  M = some res) (g : rn Y M0 ρ M H)  : wq Y M0 ρ M res (b41_25  H) := by
  unfold b41_25 at h ⊢
  exact wb41_26 h g 
theorem wb41_0 {a0 : Nat} {a0_x : Nat} {Y : Nat → Prop} {M0 : hM} {ρ : Nat → Nat} {M H : hM} {res : xRes} (h : b41_0 a0 M = some res) (g : rn Y M0 ρ M H) (r_a0 : vn ρ M a0 a0_x) : wq Y M0 ρ M res (b41_0 a0_x H) := by
  unfold b41_0 at h ⊢
  obtain ⟨v_1, h1, h⟩ := bd h
  refine wq_bd (w_gi g r_a0.so h1) ?_
  rcases ite_some h with ⟨q, h⟩ | ⟨q, h⟩
  · refine wq_ip q ?_
    exact wb41_25 h g 
  · refine wq_in q ?_
    obtain ⟨v_3, h2, h⟩ := bd h
    refine wq_bd (w_gi g r_a0.so h2) ?_
    rcases ite_some h with ⟨q, h⟩ | ⟨q, h⟩
    · refine wq_ip q ?_
      exact wb41_25 h g 
    · refine wq_in q ?_
      obtain ⟨o_5, h3, h⟩ := bd h
      obtain ⟨o_5_x, e, r_o_5⟩ := w_gr g r_a0.so h3
      refine wq_bd e ?_
      rcases ite_some h with ⟨q, h⟩ | ⟨q, h⟩
      · refine wq_ip (r_o_5.non q) ?_
        exact wb41_26 h g 
      · refine wq_in (r_o_5.nnn q) ?_
        exact wb41_25 h g 
theorem w41 {Y : Nat → Prop} {M0 : hM} {ρ : Nat → Nat} {as as_x : List aV} {M H M' : hM} {r : Option aV} (h : f41 as M = some (r, M')) (g : rn Y M0 ρ M H) (ha : vl ρ M as as_x) : wr Y M0 ρ M r M' (f41 as_x H) := by
  unfold f41 at h
  split at h
  · rename_i a0
    obtain ⟨a0_x, _, rfl, r_a0, ha1⟩ := vl_is ha
    cases vl_in ha1
    exact wx_out h (fun res hx => wb41_0 hx g r_a0)
  · cases h
theorem wb42_0 {a0 : Nat} {a0_x : Nat} {v1 : Int32} {Y : Nat → Prop} {M0 : hM} {ρ : Nat → Nat} {M H : hM} {res : xRes} (h : b42_0 a0 v1 M = some res) (g : rn Y M0 ρ M H) (r_a0 : vn ρ M a0 a0_x) : wq Y M0 ρ M res (b42_0 a0_x v1 H) := by
  unfold b42_0 at h ⊢
  cases h
  exact ⟨_, _, rfl, (vs_g (vl_c (va_r r_a0.so) (vl_c va_i (vl_c va_i (vl_c va_i vl_n))))), g, ex.rf⟩
theorem wb42_63 {v2 : Int32} {Y : Nat → Prop} {M0 : hM} {ρ : Nat → Nat} {M H : hM} {res : xRes} (h : b42_63 v2 M = some res) (g : rn Y M0 ρ M H)  : wq Y M0 ρ M res (b42_63 v2 H) := by
  unfold b42_63 at h ⊢
  cases h
  exact ⟨_, _, rfl, (vs_a va_i), g, ex.rf⟩
theorem wb42_4 {a0 : Nat} {a0_x : Nat} {v1 : Int32} {v2 : Int32} {v3 : Int32} {Y : Nat → Prop} {M0 : hM} {ρ : Nat → Nat} {M H : hM} {res : xRes} (h : b42_4 a0 v1 v2 v3 M = some res) (g : rn Y M0 ρ M H) (r_a0 : vn ρ M a0 a0_x) : wq Y M0 ρ M res (b42_4 a0_x v1 v2 v3 H) := by
  unfold b42_4 at h ⊢
  rcases ite_some h with ⟨q, h⟩ | ⟨q, h⟩
  · refine wq_ip q ?_
    exact wb42_63 h g 
  · refine wq_in q ?_
    obtain ⟨o_1, h1, h⟩ := bd h
    obtain ⟨o_1_x, e, r_o_1⟩ := w_gr g r_a0.so h1
    refine wq_bd e ?_
    obtain ⟨v_3, h2, h⟩ := bd h
    refine wq_bd (w_aln g r_o_1 h2) ?_
    rcases ite_some h with ⟨q, h⟩ | ⟨q, h⟩
    · refine wq_ip q ?_
      exact wb42_63 h g 
    · refine wq_in q ?_
      obtain ⟨o_5, h3, h⟩ := bd h
      obtain ⟨o_5_x, e, r_o_5⟩ := w_gr g r_a0.so h3
      refine wq_bd e ?_
      obtain ⟨v_7, h4, h⟩ := bd h
      refine wq_bd (w_ali g r_o_5 h4) ?_
      obtain ⟨v_9, h5, h⟩ := bd h
      refine wq_bd h5 ?_
      obtain ⟨v_11, h6, h⟩ := bd h
      refine wq_bd h6 ?_
      cases h
      exact ⟨_, _, rfl, (vs_g (vl_c (va_r r_a0.so) (vl_c va_i (vl_c va_i (vl_c va_i vl_n))))), g, ex.rf⟩
theorem w42 {Y : Nat → Prop} {M0 : hM} {ρ : Nat → Nat} {as as_x : List aV} {M H M' : hM} {r : Option aV} (h : f42 as M = some (r, M')) (g : rn Y M0 ρ M H) (ha : vl ρ M as as_x) : wr Y M0 ρ M r M' (f42 as_x H) := by
  unfold f42 at h
  split at h
  · rename_i a0 v1
    obtain ⟨a0_x, _, rfl, r_a0, ha1⟩ := vl_is ha
    obtain ⟨_, rfl, ha2⟩ := vl_ii ha1
    cases vl_in ha2
    show wr Y M0 ρ M r M' (x_go k42 (b42_0 a0_x v1 H))
    refine wx_go (blk := k42) ?_ h (fun res hx => wb42_0 hx g r_a0)
    intro ρ h as as_x M H res hk g ha
    unfold k42 at hk
    split at hk
    · rename_i hh
      subst hh
      split at hk
      · rename_i a0 v1 v2 v3
        obtain ⟨a0_x, _, rfl, r_a0, ha1⟩ := vl_is ha
        obtain ⟨_, rfl, ha2⟩ := vl_ii ha1
        obtain ⟨_, rfl, ha3⟩ := vl_ii ha2
        obtain ⟨_, rfl, ha4⟩ := vl_ii ha3
        cases vl_in ha4
        exact wb42_4 hk g r_a0
      · cases hk
    · skip
      cases hk
  · cases h
theorem wb43_0 {a0 : Nat} {a0_x : Nat} {Y : Nat → Prop} {M0 : hM} {ρ : Nat → Nat} {M H : hM} {res : xRes} (h : b43_0 a0 M = some res) (g : rn Y M0 ρ M H) (r_a0 : vn ρ M a0 a0_x) : wq Y M0 ρ M res (b43_0 a0_x H) := by
  unfold b43_0 at h ⊢
  obtain ⟨v_1, h1, h⟩ := bd h
  refine wq_bd (w_gi g r_a0.so h1) ?_
  obtain ⟨b_5, h2, h⟩ := bd h
  obtain ⟨b_5_x, e, r_b_5⟩ := w_go g r_a0.so h2
  refine wq_bd e ?_
  obtain ⟨q_3, h3, h⟩ := bd h
  obtain ⟨_, _, e, g, x⟩ := wc_V (f := f35) h3 (fun e => w35 e g (vl_c (va_r r_b_5.so) (vl_c va_i (vl_c va_i (vl_c va_l vl_n)))))
  refine wq_bd e (wq_up x ?_)
  have r_a0 := r_a0.up x
  obtain ⟨v_7, h4, h⟩ := bd h
  refine wq_bd (w_gi g r_a0.so h4) ?_
  obtain ⟨v_9, h5, h⟩ := bd h
  refine wq_bd (w_gi g r_a0.so h5) ?_
  obtain ⟨b_13, h6, h⟩ := bd h
  obtain ⟨b_13_x, e, r_b_13⟩ := w_go g r_a0.so h6
  refine wq_bd e ?_
  obtain ⟨q_11, h7, h⟩ := bd h
  obtain ⟨_, _, e, g, x⟩ := wc_I (f := f42) h7 (fun e => w42 e g (vl_c (va_r r_b_13.so) (vl_c va_i vl_n)))
  refine wq_bd e (wq_up x ?_)
  have r_a0 := r_a0.up x
  obtain ⟨b_17, h8, h⟩ := bd h
  obtain ⟨b_17_x, e, r_b_17⟩ := w_go g r_a0.so h8
  refine wq_bd e ?_
  obtain ⟨q_15, h9, h⟩ := bd h
  obtain ⟨_, _, e, g, x⟩ := wc_V (f := f35) h9 (fun e => w35 e g (vl_c (va_r r_b_17.so) (vl_c va_i (vl_c va_i (vl_c va_l vl_n)))))
  refine wq_bd e (wq_up x ?_)
  have r_a0 := r_a0.up x
  obtain ⟨v_19, h10, h⟩ := bd h
  refine wq_bd (w_gi g r_a0.so h10) ?_
  obtain ⟨M21, h11, h⟩ := bd h
  obtain ⟨_, e, g, x⟩ := w_pi g r_a0.so h11
  refine wq_bd e (wq_up x ?_)
  cases h
  exact ⟨_, _, rfl, vs_n, g, ex.rf⟩
theorem w43 {Y : Nat → Prop} {M0 : hM} {ρ : Nat → Nat} {as as_x : List aV} {M H M' : hM} {r : Option aV} (h : f43 as M = some (r, M')) (g : rn Y M0 ρ M H) (ha : vl ρ M as as_x) : wr Y M0 ρ M r M' (f43 as_x H) := by
  unfold f43 at h
  split at h
  · rename_i a0
    obtain ⟨a0_x, _, rfl, r_a0, ha1⟩ := vl_is ha
    cases vl_in ha1
    exact wx_out h (fun res hx => wb43_0 hx g r_a0)
  · cases h
theorem wb44_0 {a0 : Nat} {a0_x : Nat} {o1 : Option Nat} {o1_x : Option Nat} {Y : Nat → Prop} {M0 : hM} {ρ : Nat → Nat} {M H : hM} {res : xRes} (h : b44_0 a0 o1 M = some res) (g : rn Y M0 ρ M H) (r_a0 : vn ρ M a0 a0_x) (r_o1 : vo ρ M o1 o1_x) : wq Y M0 ρ M res (b44_0 a0_x o1_x H) := by
  unfold b44_0 at h ⊢
  obtain ⟨M1, h1, h⟩ := bd h
  obtain ⟨_, e, g, x⟩ := w_pr g r_a0.so r_o1 h1
  refine wq_bd e (wq_up x ?_)
  have r_a0 := r_a0.up x
  obtain ⟨v_3, h2, h⟩ := bd h
  refine wq_bd (w_gi g r_a0.so h2) ?_
  obtain ⟨M5, h3, h⟩ := bd h
  obtain ⟨_, e, g, x⟩ := w_pi g r_a0.so h3
  refine wq_bd e (wq_up x ?_)
  have r_a0 := r_a0.up x
  obtain ⟨o_7, h4, h⟩ := bd h
  obtain ⟨o_7_x, e, r_o_7⟩ := w_gr g r_a0.so h4
  refine wq_bd e ?_
  obtain ⟨b_11, h5, h⟩ := bd h
  obtain ⟨b_11_x, e, r_b_11⟩ := w_go g r_o_7 h5
  refine wq_bd e ?_
  obtain ⟨q_9, h6, h⟩ := bd h
  obtain ⟨_, _, e, g, x⟩ := wc_V (f := f37) h6 (fun e => w37 e g (vl_c (va_r r_b_11.so) (vl_c va_i vl_n)))
  refine wq_bd e (wq_up x ?_)
  cases h
  exact ⟨_, _, rfl, vs_n, g, ex.rf⟩
theorem w44 {Y : Nat → Prop} {M0 : hM} {ρ : Nat → Nat} {as as_x : List aV} {M H M' : hM} {r : Option aV} (h : f44 as M = some (r, M')) (g : rn Y M0 ρ M H) (ha : vl ρ M as as_x) : wr Y M0 ρ M r M' (f44 as_x H) := by
  unfold f44 at h
  split at h
  · rename_i a0 o1
    obtain ⟨a0_x, _, rfl, r_a0, ha1⟩ := vl_is ha
    obtain ⟨o1_x, _, rfl, r_o1, ha2⟩ := vl_ir ha1
    cases vl_in ha2
    exact wx_out h (fun res hx => wb44_0 hx g r_a0 r_o1)
  · cases h
theorem wb45_38  {Y : Nat → Prop} {M0 : hM} {ρ : Nat → Nat} {M H : hM} {res : xRes} (h : b45_38  M = some res) (g : rn Y M0 ρ M H)  : wq Y M0 ρ M res (b45_38  H) := by
  unfold b45_38 at h ⊢
  cases h
  exact ⟨_, _, rfl, vs_n, g, ex.rf⟩
theorem wb45_0 {a0 : Nat} {a0_x : Nat} {Y : Nat → Prop} {M0 : hM} {ρ : Nat → Nat} {M H : hM} {res : xRes} (h : b45_0 a0 M = some res) (g : rn Y M0 ρ M H) (r_a0 : vn ρ M a0 a0_x) : wq Y M0 ρ M res (b45_0 a0_x H) := by
  unfold b45_0 at h ⊢
  obtain ⟨o_1, h1, h⟩ := bd h
  obtain ⟨o_1_x, e, r_o_1⟩ := w_gr g r_a0.so h1
  refine wq_bd e ?_
  obtain ⟨o_3, h2, h⟩ := bd h
  obtain ⟨o_3_x, e, r_o_3⟩ := w_gr g r_o_1 h2
  refine wq_bd e ?_
  rcases ite_some h with ⟨q, h⟩ | ⟨q, h⟩
  · refine wq_ip (r_o_3.non q) ?_
    exact wb45_38 h g 
  · refine wq_in (r_o_3.nnn q) ?_
    obtain ⟨b_7, h3, h⟩ := bd h
    obtain ⟨b_7_x, e, r_b_7⟩ := w_go g r_a0.so h3
    refine wq_bd e ?_
    obtain ⟨q_5, h4, h⟩ := bd h
    obtain ⟨_, _, e, g, x⟩ := wc_I (f := f41) h4 (fun e => w41 e g (vl_c (va_r r_b_7.so) vl_n))
    refine wq_bd e (wq_up x ?_)
    have r_a0 := r_a0.up x
    rcases ite_some h with ⟨q, h⟩ | ⟨q, h⟩
    · refine wq_ip q ?_
      exact wb45_38 h g 
    · refine wq_in q ?_
      obtain ⟨o_9, h5, h⟩ := bd h
      obtain ⟨o_9_x, e, r_o_9⟩ := w_gr g r_a0.so h5
      refine wq_bd e ?_
      obtain ⟨o_11, h6, h⟩ := bd h
      obtain ⟨o_11_x, e, r_o_11⟩ := w_gr g r_o_9 h6
      refine wq_bd e ?_
      obtain ⟨b_15, h7, h⟩ := bd h
      obtain ⟨b_15_x, e, r_b_15⟩ := w_go g r_o_11 h7
      refine wq_bd e ?_
      obtain ⟨q_13, h8, h⟩ := bd h
      obtain ⟨_, _, e, g, x⟩ := wc_V (f := f43) h8 (fun e => w43 e g (vl_c (va_r r_b_15.so) vl_n))
      refine wq_bd e (wq_up x ?_)
      have r_a0 := r_a0.up x
      obtain ⟨o_17, h9, h⟩ := bd h
      obtain ⟨o_17_x, e, r_o_17⟩ := w_gr g r_a0.so h9
      refine wq_bd e ?_
      obtain ⟨b_21, h10, h⟩ := bd h
      obtain ⟨b_21_x, e, r_b_21⟩ := w_go g r_o_17 h10
      refine wq_bd e ?_
      obtain ⟨q_19, h11, h⟩ := bd h
      obtain ⟨_, _, _, e, g, x, r_q⟩ := wc_R (f := f18) h11 (fun e => w18 e g (vl_c (va_r r_b_21.so) vl_n))
      refine wq_bd e (wq_up x ?_)
      have r_a0 := r_a0.up x
      have r_q_19_1 := r_q
      obtain ⟨b_25, h12, h⟩ := bd h
      obtain ⟨b_25_x, e, r_b_25⟩ := w_go g r_a0.so h12
      refine wq_bd e ?_
      obtain ⟨q_23, h13, h⟩ := bd h
      obtain ⟨_, _, e, g, x⟩ := wc_V (f := f44) h13 (fun e => w44 e g (vl_c (va_r r_b_25.so) (vl_c (va_r r_q_19_1) vl_n)))
      refine wq_bd e (wq_up x ?_)
      exact wb45_38 h g 
theorem w45 {Y : Nat → Prop} {M0 : hM} {ρ : Nat → Nat} {as as_x : List aV} {M H M' : hM} {r : Option aV} (h : f45 as M = some (r, M')) (g : rn Y M0 ρ M H) (ha : vl ρ M as as_x) : wr Y M0 ρ M r M' (f45 as_x H) := by
  unfold f45 at h
  split at h
  · rename_i a0
    obtain ⟨a0_x, _, rfl, r_a0, ha1⟩ := vl_is ha
    cases vl_in ha1
    exact wx_out h (fun res hx => wb45_0 hx g r_a0)
  · cases h
theorem wb46_0 {a0 : Nat} {a0_x : Nat} {Y : Nat → Prop} {M0 : hM} {ρ : Nat → Nat} {M H : hM} {res : xRes} (h : b46_0 a0 M = some res) (g : rn Y M0 ρ M H) (r_a0 : vn ρ M a0 a0_x) : wq Y M0 ρ M res (b46_0 a0_x H) := by
  unfold b46_0 at h ⊢
  cases h
  exact ⟨_, _, rfl, (vs_g (vl_c (va_r r_a0.so) (vl_c va_i vl_n))), g, ex.rf⟩
theorem wb46_40 {a0 : Nat} {a0_x : Nat} {v1 : Int32} {Y : Nat → Prop} {M0 : hM} {ρ : Nat → Nat} {M H : hM} {res : xRes} (h : b46_40 a0 v1 M = some res) (g : rn Y M0 ρ M H) (r_a0 : vn ρ M a0 a0_x) : wq Y M0 ρ M res (b46_40 a0_x v1 H) := by
  unfold b46_40 at h ⊢
  cases h
  exact ⟨_, _, rfl, (vs_g (vl_c (va_r r_a0.so) (vl_c va_i vl_n))), g, ex.rf⟩
theorem wb46_2 {a0 : Nat} {a0_x : Nat} {v1 : Int32} {Y : Nat → Prop} {M0 : hM} {ρ : Nat → Nat} {M H : hM} {res : xRes} (h : b46_2 a0 v1 M = some res) (g : rn Y M0 ρ M H) (r_a0 : vn ρ M a0 a0_x) : wq Y M0 ρ M res (b46_2 a0_x v1 H) := by
  unfold b46_2 at h ⊢
  rcases ite_some h with ⟨q, h⟩ | ⟨q, h⟩
  · refine wq_ip q ?_
    cases h
    exact ⟨_, _, rfl, vs_n, g, ex.rf⟩
  · refine wq_in q ?_
    obtain ⟨o_1, h1, h⟩ := bd h
    obtain ⟨o_1_x, e, r_o_1⟩ := w_gr g r_a0.so h1
    refine wq_bd e ?_
    obtain ⟨v_3, h2, h⟩ := bd h
    refine wq_bd (w_gi g r_o_1 h2) ?_
    obtain ⟨o_5, h3, h⟩ := bd h
    obtain ⟨o_5_x, e, r_o_5⟩ := w_gr g r_a0.so h3
    refine wq_bd e ?_
    obtain ⟨o_7, h4, h⟩ := bd h
    obtain ⟨o_7_x, e, r_o_7⟩ := w_alr g r_o_5 h4
    refine wq_bd e ?_
    obtain ⟨v_9, h5, h⟩ := bd h
    refine wq_bd (w_gi g r_o_7 h5) ?_
    rcases ite_some h with ⟨q, h⟩ | ⟨q, h⟩
    · refine wq_ip q ?_
      exact wb46_40 h g r_a0
    · refine wq_in q ?_
      obtain ⟨o_11, h6, h⟩ := bd h
      obtain ⟨o_11_x, e, r_o_11⟩ := w_gr g r_a0.so h6
      refine wq_bd e ?_
      obtain ⟨o_13, h7, h⟩ := bd h
      obtain ⟨o_13_x, e, r_o_13⟩ := w_alr g r_o_11 h7
      refine wq_bd e ?_
      obtain ⟨M15, h8, h⟩ := bd h
      obtain ⟨_, e, g, x⟩ := w_pz g r_o_13 h8
      refine wq_bd e (wq_up x ?_)
      have r_a0 := r_a0.up x
      exact wb46_40 h g r_a0
theorem w46 {Y : Nat → Prop} {M0 : hM} {ρ : Nat → Nat} {as as_x : List aV} {M H M' : hM} {r : Option aV} (h : f46 as M = some (r, M')) (g : rn Y M0 ρ M H) (ha : vl ρ M as as_x) : wr Y M0 ρ M r M' (f46 as_x H) := by
  unfold f46 at h
  split at h
  · rename_i a0
    obtain ⟨a0_x, _, rfl, r_a0, ha1⟩ := vl_is ha
    cases vl_in ha1
    show wr Y M0 ρ M r M' (x_go k46 (b46_0 a0_x H))
    refine wx_go (blk := k46) ?_ h (fun res hx => wb46_0 hx g r_a0)
    intro ρ h as as_x M H res hk g ha
    unfold k46 at hk
    split at hk
    · rename_i hh
      subst hh
      split at hk
      · rename_i a0 v1
        obtain ⟨a0_x, _, rfl, r_a0, ha1⟩ := vl_is ha
        obtain ⟨_, rfl, ha2⟩ := vl_ii ha1
        cases vl_in ha2
        exact wb46_2 hk g r_a0
      · cases hk
    · skip
      cases hk
  · cases h
theorem wb47_13 {si0 : Int32} {Y : Nat → Prop} {M0 : hM} {ρ : Nat → Nat} {M H : hM} {res : xRes} (h : b47_13 si0 M = some res) (g : rn Y M0 ρ M H)  : wq Y M0 ρ M res (b47_13 si0 H) := by
  unfold b47_13 at h ⊢
  rcases ite_some h with ⟨q, h⟩ | ⟨q, h⟩
  · refine wq_ip q ?_
    cases h
    exact ⟨_, _, rfl, (vs_a va_i), g, ex.rf⟩
  · refine wq_in q ?_
    cases h
theorem wb47_0 {a0 : Nat} {a0_x : Nat} {Y : Nat → Prop} {M0 : hM} {ρ : Nat → Nat} {M H : hM} {res : xRes} (h : b47_0 a0 M = some res) (g : rn Y M0 ρ M H) (r_a0 : vn ρ M a0 a0_x) : wq Y M0 ρ M res (b47_0 a0_x H) := by
  unfold b47_0 at h ⊢
  obtain ⟨v_1, h1, h⟩ := bd h
  refine wq_bd (w_gi g r_a0.so h1) ?_
  rcases ite_some h with ⟨q, h⟩ | ⟨q, h⟩
  · refine wq_ip q ?_
    exact wb47_13 h g 
  · refine wq_in q ?_
    exact wb47_13 h g 
theorem w47 {Y : Nat → Prop} {M0 : hM} {ρ : Nat → Nat} {as as_x : List aV} {M H M' : hM} {r : Option aV} (h : f47 as M = some (r, M')) (g : rn Y M0 ρ M H) (ha : vl ρ M as as_x) : wr Y M0 ρ M r M' (f47 as_x H) := by
  unfold f47 at h
  split at h
  · rename_i a0
    obtain ⟨a0_x, _, rfl, r_a0, ha1⟩ := vl_is ha
    cases vl_in ha1
    exact wx_out h (fun res hx => wb47_0 hx g r_a0)
  · cases h
theorem wb48_20 {a0 : Nat} {a0_x : Nat} {sl0 : Int64} {sl1 : Int64} {Y : Nat → Prop} {M0 : hM} {ρ : Nat → Nat} {M H : hM} {res : xRes} (h : b48_20 a0 sl0 sl1 M = some res) (g : rn Y M0 ρ M H) (r_a0 : vn ρ M a0 a0_x) : wq Y M0 ρ M res (b48_20 a0_x sl0 sl1 H) := by
  unfold b48_20 at h ⊢
  obtain ⟨v_6, h1, h⟩ := bd h
  refine wq_bd (w_gi g r_a0.so h1) ?_
  obtain ⟨v_8, h2, h⟩ := bd h
  refine wq_bd (w_gi g r_a0.so h2) ?_
  cases h
  exact ⟨_, _, rfl, (vs_a va_l), g, ex.rf⟩
theorem wb48_0 {a0 : Nat} {a0_x : Nat} {Y : Nat → Prop} {M0 : hM} {ρ : Nat → Nat} {M H : hM} {res : xRes} (h : b48_0 a0 M = some res) (g : rn Y M0 ρ M H) (r_a0 : vn ρ M a0 a0_x) : wq Y M0 ρ M res (b48_0 a0_x H) := by
  unfold b48_0 at h ⊢
  obtain ⟨v_1, h1, h⟩ := bd h
  refine wq_bd (w_gi g r_a0.so h1) ?_
  obtain ⟨v_3, h2, h⟩ := bd h
  refine wq_bd (w_gi g r_a0.so h2) ?_
  rcases ite_some h with ⟨q, h⟩ | ⟨q, h⟩
  · refine wq_ip q ?_
    exact wb48_20 h g r_a0
  · refine wq_in q ?_
    exact wb48_20 h g r_a0
theorem w48 {Y : Nat → Prop} {M0 : hM} {ρ : Nat → Nat} {as as_x : List aV} {M H M' : hM} {r : Option aV} (h : f48 as M = some (r, M')) (g : rn Y M0 ρ M H) (ha : vl ρ M as as_x) : wr Y M0 ρ M r M' (f48 as_x H) := by
  unfold f48 at h
  split at h
  · rename_i a0
    obtain ⟨a0_x, _, rfl, r_a0, ha1⟩ := vl_is ha
    cases vl_in ha1
    exact wx_out h (fun res hx => wb48_0 hx g r_a0)
  · cases h
theorem wb49_17  {Y : Nat → Prop} {M0 : hM} {ρ : Nat → Nat} {M H : hM} {res : xRes} (h : b49_17  M = some res) (g : rn Y M0 ρ M H)  : wq Y M0 ρ M res (b49_17  H) := by
  unfold b49_17 at h ⊢
  cases h
  exact ⟨_, _, rfl, vs_n, g, ex.rf⟩
theorem wb49_124 {a0 : Nat} {a0_x : Nat} {o3 : Option Nat} {o3_x : Option Nat} {Y : Nat → Prop} {M0 : hM} {ρ : Nat → Nat} {M H : hM} {res : xRes} (h : b49_124 a0 o3 M = some res) (g : rn Y M0 ρ M H) (r_a0 : vn ρ M a0 a0_x) (r_o3 : vo ρ M o3 o3_x) : wq Y M0 ρ M res (b49_124 a0_x o3_x H) := by
  unfold b49_124 at h ⊢
  obtain ⟨o_63, h1, h⟩ := bd h
  obtain ⟨o_63_x, e, r_o_63⟩ := w_gr g r_a0.so h1
  refine wq_bd e ?_
  obtain ⟨o_65, h2, h⟩ := bd h
  obtain ⟨o_65_x, e, r_o_65⟩ := w_gr g r_o_63 h2
  refine wq_bd e ?_
  obtain ⟨b_69, h3, h⟩ := bd h
  obtain ⟨b_69_x, e, r_b_69⟩ := w_go g r_o_65 h3
  refine wq_bd e ?_
  obtain ⟨q_67, h4, h⟩ := bd h
  obtain ⟨_, _, e, g, x⟩ := wc_V (f := f39) h4 (fun e => w39 e g (vl_c (va_r r_b_69.so) (vl_c (va_r r_o3) vl_n)))
  refine wq_bd e (wq_up x ?_)
  cases h
  exact ⟨_, _, rfl, vs_n, g, ex.rf⟩
theorem wb49_34 {a0 : Nat} {a0_x : Nat} {o1 : Option Nat} {o1_x : Option Nat} {si0 : Int32} {Y : Nat → Prop} {M0 : hM} {ρ : Nat → Nat} {M H : hM} {res : xRes} (h : b49_34 a0 o1 si0 M = some res) (g : rn Y M0 ρ M H) (r_a0 : vn ρ M a0 a0_x) (r_o1 : vo ρ M o1 o1_x) : wq Y M0 ρ M res (b49_34 a0_x o1_x si0 H) := by
  unfold b49_34 at h ⊢
  obtain ⟨o_16, h1, h⟩ := bd h
  obtain ⟨o_16_x, e, r_o_16⟩ := w_gr g r_a0.so h1
  refine wq_bd e ?_
  obtain ⟨v_18, h2, h⟩ := bd h
  refine wq_bd (w_gi g r_o1 h2) ?_
  obtain ⟨v_20, h3, h⟩ := bd h
  refine wq_bd h3 ?_
  obtain ⟨o_22, h4, h⟩ := bd h
  obtain ⟨o_22_x, e, r_o_22⟩ := w_gr g r_a0.so h4
  refine wq_bd e ?_
  obtain ⟨v_24, h5, h⟩ := bd h
  refine wq_bd (w_gi g r_o_22 h5) ?_
  obtain ⟨v_26, h6, h⟩ := bd h
  refine wq_bd (w_gi g r_o1 h6) ?_
  obtain ⟨b_30, h7, h⟩ := bd h
  obtain ⟨b_30_x, e, r_b_30⟩ := w_go g r_o_16 h7
  refine wq_bd e ?_
  obtain ⟨q_28, h8, h⟩ := bd h
  obtain ⟨_, _, _, e, g, x, r_q⟩ := wc_R (f := f34) h8 (fun e => w34 e g (vl_c (va_r r_b_30.so) (vl_c va_i (vl_c va_i (vl_c va_i (vl_c va_i vl_n))))))
  refine wq_bd e (wq_up x ?_)
  have r_a0 := r_a0.up x
  have r_o1 := r_o1.up x
  have r_q_28_1 := r_q
  obtain ⟨v_32, h9, h⟩ := bd h
  refine wq_bd (w_gi g r_o1 h9) ?_
  rcases ite_some h with ⟨q, h⟩ | ⟨q, h⟩
  · refine wq_ip q ?_
    obtain ⟨v_56, h10, h⟩ := bd h
    refine wq_bd (w_gi g r_o1 h10) ?_
    obtain ⟨b_60, h11, h⟩ := bd h
    obtain ⟨b_60_x, e, r_b_60⟩ := w_go g r_q_28_1 h11
    refine wq_bd e ?_
    obtain ⟨q_58, h12, h⟩ := bd h
    obtain ⟨_, _, e, g, x⟩ := wc_V (f := f36) h12 (fun e => w36 e g (vl_c (va_r r_b_60.so) (vl_c va_i (vl_c va_l vl_n))))
    refine wq_bd e (wq_up x ?_)
    have r_a0 := r_a0.up x
    have r_q_28_1 := r_q_28_1.up x
    exact wb49_124 h g r_a0 r_q_28_1
  · refine wq_in q ?_
    obtain ⟨v_34, h13, h⟩ := bd h
    refine wq_bd (w_gi g r_o1 h13) ?_
    rcases ite_some h with ⟨q, h⟩ | ⟨q, h⟩
    · refine wq_ip q ?_
      obtain ⟨o_47, h14, h⟩ := bd h
      obtain ⟨o_47_x, e, r_o_47⟩ := w_gr g r_a0.so h14
      refine wq_bd e ?_
      obtain ⟨v_49, h15, h⟩ := bd h
      refine wq_bd (w_gi g r_o_47 h15) ?_
      obtain ⟨b_53, h16, h⟩ := bd h
      obtain ⟨b_53_x, e, r_b_53⟩ := w_go g r_q_28_1 h16
      refine wq_bd e ?_
      obtain ⟨q_51, h17, h⟩ := bd h
      obtain ⟨_, _, e, g, x⟩ := wc_V (f := f36) h17 (fun e => w36 e g (vl_c (va_r r_b_53.so) (vl_c va_i (vl_c va_l vl_n))))
      refine wq_bd e (wq_up x ?_)
      have r_a0 := r_a0.up x
      have r_q_28_1 := r_q_28_1.up x
      exact wb49_124 h g r_a0 r_q_28_1
    · refine wq_in q ?_
      obtain ⟨v_36, h18, h⟩ := bd h
      refine wq_bd (w_gi g r_o1 h18) ?_
      rcases ite_some h with ⟨q, h⟩ | ⟨q, h⟩
      · refine wq_ip q ?_
        obtain ⟨b_40, h19, h⟩ := bd h
        obtain ⟨b_40_x, e, r_b_40⟩ := w_go g r_o1 h19
        refine wq_bd e ?_
        obtain ⟨q_38, h20, h⟩ := bd h
        obtain ⟨_, _, e, g, x⟩ := wc_L (f := f48) h20 (fun e => w48 e g (vl_c (va_r r_b_40.so) vl_n))
        refine wq_bd e (wq_up x ?_)
        have r_a0 := r_a0.up x
        have r_q_28_1 := r_q_28_1.up x
        obtain ⟨b_44, h21, h⟩ := bd h
        obtain ⟨b_44_x, e, r_b_44⟩ := w_go g r_q_28_1 h21
        refine wq_bd e ?_
        obtain ⟨q_42, h22, h⟩ := bd h
        obtain ⟨_, _, e, g, x⟩ := wc_V (f := f36) h22 (fun e => w36 e g (vl_c (va_r r_b_44.so) (vl_c va_i (vl_c va_l vl_n))))
        refine wq_bd e (wq_up x ?_)
        have r_a0 := r_a0.up x
        have r_q_28_1 := r_q_28_1.up x
        exact wb49_124 h g r_a0 r_q_28_1
      · refine wq_in q ?_
        exact wb49_124 h g r_a0 r_q_28_1
theorem wb49_0 {a0 : Nat} {a0_x : Nat} {o1 : Option Nat} {o1_x : Option Nat} {Y : Nat → Prop} {M0 : hM} {ρ : Nat → Nat} {M H : hM} {res : xRes} (h : b49_0 a0 o1 M = some res) (g : rn Y M0 ρ M H) (r_a0 : vn ρ M a0 a0_x) (r_o1 : vo ρ M o1 o1_x) : wq Y M0 ρ M res (b49_0 a0_x o1_x H) := by
  unfold b49_0 at h ⊢
  obtain ⟨o_1, h1, h⟩ := bd h
  obtain ⟨o_1_x, e, r_o_1⟩ := w_gr g r_a0.so h1
  refine wq_bd e ?_
  obtain ⟨v_3, h2, h⟩ := bd h
  refine wq_bd (w_gi g r_o_1 h2) ?_
  rcases ite_some h with ⟨q, h⟩ | ⟨q, h⟩
  · refine wq_ip q ?_
    exact wb49_17 h g 
  · refine wq_in q ?_
    obtain ⟨b_7, h3, h⟩ := bd h
    obtain ⟨b_7_x, e, r_b_7⟩ := w_go g r_o1 h3
    refine wq_bd e ?_
    obtain ⟨q_5, h4, h⟩ := bd h
    obtain ⟨_, _, e, g, x⟩ := wc_I (f := f47) h4 (fun e => w47 e g (vl_c (va_r r_b_7.so) vl_n))
    refine wq_bd e (wq_up x ?_)
    have r_a0 := r_a0.up x
    have r_o1 := r_o1.up x
    rcases ite_some h with ⟨q, h⟩ | ⟨q, h⟩
    · refine wq_ip q ?_
      obtain ⟨v_9, h5, h⟩ := bd h
      refine wq_bd (w_gi g r_o1 h5) ?_
      rcases ite_some h with ⟨q, h⟩ | ⟨q, h⟩
      · refine wq_ip q ?_
        exact wb49_34 h g r_a0 r_o1
      · refine wq_in q ?_
        obtain ⟨v_11, h6, h⟩ := bd h
        refine wq_bd (w_gi g r_o1 h6) ?_
        exact wb49_34 h g r_a0 r_o1
    · refine wq_in q ?_
      exact wb49_17 h g 
theorem w49 {Y : Nat → Prop} {M0 : hM} {ρ : Nat → Nat} {as as_x : List aV} {M H M' : hM} {r : Option aV} (h : f49 as M = some (r, M')) (g : rn Y M0 ρ M H) (ha : vl ρ M as as_x) : wr Y M0 ρ M r M' (f49 as_x H) := by
  unfold f49 at h
  split at h
  · rename_i a0 o1
    obtain ⟨a0_x, _, rfl, r_a0, ha1⟩ := vl_is ha
    obtain ⟨o1_x, _, rfl, r_o1, ha2⟩ := vl_ir ha1
    cases vl_in ha2
    exact wx_out h (fun res hx => wb49_0 hx g r_a0 r_o1)
  · cases h
theorem wb50_0 {a0 : Nat} {a0_x : Nat} {v1 : Int32} {v2 : Int32} {Y : Nat → Prop} {M0 : hM} {ρ : Nat → Nat} {M H : hM} {res : xRes} (h : b50_0 a0 v1 v2 M = some res) (g : rn Y M0 ρ M H) (r_a0 : vn ρ M a0 a0_x) : wq Y M0 ρ M res (b50_0 a0_x v1 v2 H) := by
  unfold b50_0 at h ⊢
  obtain ⟨M1, h1, h⟩ := bd h
  obtain ⟨_, e, g, x⟩ := w_pi g r_a0.so h1
  refine wq_bd e (wq_up x ?_)
  have r_a0 := r_a0.up x
  obtain ⟨M3, h2, h⟩ := bd h
  obtain ⟨_, e, g, x⟩ := w_pi g r_a0.so h2
  refine wq_bd e (wq_up x ?_)
  cases h
  exact ⟨_, _, rfl, vs_n, g, ex.rf⟩
theorem w50 {Y : Nat → Prop} {M0 : hM} {ρ : Nat → Nat} {as as_x : List aV} {M H M' : hM} {r : Option aV} (h : f50 as M = some (r, M')) (g : rn Y M0 ρ M H) (ha : vl ρ M as as_x) : wr Y M0 ρ M r M' (f50 as_x H) := by
  unfold f50 at h
  split at h
  · rename_i a0 v1 v2
    obtain ⟨a0_x, _, rfl, r_a0, ha1⟩ := vl_is ha
    obtain ⟨_, rfl, ha2⟩ := vl_ii ha1
    obtain ⟨_, rfl, ha3⟩ := vl_ii ha2
    cases vl_in ha3
    exact wx_out h (fun res hx => wb50_0 hx g r_a0)
  · cases h
theorem wb51_0 {a0 : Nat} {a0_x : Nat} {o1 : Option Nat} {o1_x : Option Nat} {v2 : Int32} {Y : Nat → Prop} {M0 : hM} {ρ : Nat → Nat} {M H : hM} {res : xRes} (h : b51_0 a0 o1 v2 M = some res) (g : rn Y M0 ρ M H) (r_a0 : vn ρ M a0 a0_x) (r_o1 : vo ρ M o1 o1_x) : wq Y M0 ρ M res (b51_0 a0_x o1_x v2 H) := by
  unfold b51_0 at h ⊢
  obtain ⟨M1, h1, h⟩ := bd h
  obtain ⟨_, e, g, x⟩ := w_pi g r_o1 h1
  refine wq_bd e (wq_up x ?_)
  have r_a0 := r_a0.up x
  have r_o1 := r_o1.up x
  obtain ⟨o_3, h2, h⟩ := bd h
  obtain ⟨o_3_x, e, r_o_3⟩ := w_gr g r_a0.so h2
  refine wq_bd e ?_
  obtain ⟨v_5, h3, h⟩ := bd h
  refine wq_bd (w_gi g r_o_3 h3) ?_
  obtain ⟨M7, h4, h⟩ := bd h
  obtain ⟨_, e, g, x⟩ := w_pi g r_o1 h4
  refine wq_bd e (wq_up x ?_)
  have r_a0 := r_a0.up x
  have r_o1 := r_o1.up x
  obtain ⟨b_11, h5, h⟩ := bd h
  obtain ⟨b_11_x, e, r_b_11⟩ := w_go g r_a0.so h5
  refine wq_bd e ?_
  obtain ⟨q_9, h6, h⟩ := bd h
  obtain ⟨_, _, e, g, x⟩ := wc_V (f := f49) h6 (fun e => w49 e g (vl_c (va_r r_b_11.so) (vl_c (va_r r_o1) vl_n)))
  refine wq_bd e (wq_up x ?_)
  cases h
  exact ⟨_, _, rfl, vs_n, g, ex.rf⟩
theorem w51 {Y : Nat → Prop} {M0 : hM} {ρ : Nat → Nat} {as as_x : List aV} {M H M' : hM} {r : Option aV} (h : f51 as M = some (r, M')) (g : rn Y M0 ρ M H) (ha : vl ρ M as as_x) : wr Y M0 ρ M r M' (f51 as_x H) := by
  unfold f51 at h
  split at h
  · rename_i a0 o1 v2
    obtain ⟨a0_x, _, rfl, r_a0, ha1⟩ := vl_is ha
    obtain ⟨o1_x, _, rfl, r_o1, ha2⟩ := vl_ir ha1
    obtain ⟨_, rfl, ha3⟩ := vl_ii ha2
    cases vl_in ha3
    exact wx_out h (fun res hx => wb51_0 hx g r_a0 r_o1)
  · cases h
theorem wb52_131  {Y : Nat → Prop} {M0 : hM} {ρ : Nat → Nat} {M H : hM} {res : xRes} (h : b52_131  M = some res) (g : rn Y M0 ρ M H)  : wq Y M0 ρ M res (b52_131  H) := by
  unfold b52_131 at h ⊢
  cases h
  exact ⟨_, _, rfl, vs_n, g, ex.rf⟩
theorem wb52_115 {a0 : Nat} {a0_x : Nat} {o1 : Option Nat} {o1_x : Option Nat} {v3 : Int32} {Y : Nat → Prop} {M0 : hM} {ρ : Nat → Nat} {M H : hM} {res : xRes} (h : b52_115 a0 o1 v3 M = some res) (g : rn Y M0 ρ M H) (r_a0 : vn ρ M a0 a0_x) (r_o1 : vo ρ M o1 o1_x) : wq Y M0 ρ M res (b52_115 a0_x o1_x v3 H) := by
  unfold b52_115 at h ⊢
  rcases ite_some h with ⟨q, h⟩ | ⟨q, h⟩
  · refine wq_ip q ?_
    exact wb52_131 h g 
  · refine wq_in q ?_
    obtain ⟨v_46, h1, h⟩ := bd h
    refine wq_bd h1 ?_
    rcases ite_some h with ⟨q, h⟩ | ⟨q, h⟩
    · refine wq_ip q ?_
      obtain ⟨b_50, h2, h⟩ := bd h
      obtain ⟨b_50_x, e, r_b_50⟩ := w_go g r_a0.so h2
      refine wq_bd e ?_
      obtain ⟨q_48, h3, h⟩ := bd h
      obtain ⟨_, _, e, g, x⟩ := wc_V (f := f49) h3 (fun e => w49 e g (vl_c (va_r r_b_50.so) (vl_c (va_r r_o1) vl_n)))
      refine wq_bd e (wq_up x ?_)
      exact wb52_131 h g 
    · refine wq_in q ?_
      exact wb52_131 h g 
theorem wb52_64 {a0 : Nat} {a0_x : Nat} {o1 : Option Nat} {o1_x : Option Nat} {v2 : Int32} {v3 : Int32} {Y : Nat → Prop} {M0 : hM} {ρ : Nat → Nat} {M H : hM} {res : xRes} (h : b52_64 a0 o1 v2 v3 M = some res) (g : rn Y M0 ρ M H) (r_a0 : vn ρ M a0 a0_x) (r_o1 : vo ρ M o1 o1_x) : wq Y M0 ρ M res (b52_64 a0_x o1_x v2 v3 H) := by
  unfold b52_64 at h ⊢
  obtain ⟨v_26, h1, h⟩ := bd h
  refine wq_bd (w_gi g r_o1 h1) ?_
  rcases ite_some h with ⟨q, h⟩ | ⟨q, h⟩
  · refine wq_ip q ?_
    rcases ite_some h with ⟨q, h⟩ | ⟨q, h⟩
    · refine wq_ip q ?_
      exact wb52_131 h g 
    · refine wq_in q ?_
      obtain ⟨b_42, h2, h⟩ := bd h
      obtain ⟨b_42_x, e, r_b_42⟩ := w_go g r_a0.so h2
      refine wq_bd e ?_
      obtain ⟨q_40, h3, h⟩ := bd h
      obtain ⟨_, _, e, g, x⟩ := wc_V (f := f51) h3 (fun e => w51 e g (vl_c (va_r r_b_42.so) (vl_c (va_r r_o1) (vl_c va_i vl_n))))
      refine wq_bd e (wq_up x ?_)
      exact wb52_131 h g 
  · refine wq_in q ?_
    obtain ⟨v_28, h4, h⟩ := bd h
    refine wq_bd (w_gi g r_o1 h4) ?_
    rcases ite_some h with ⟨q, h⟩ | ⟨q, h⟩
    · refine wq_ip q ?_
      rcases ite_some h with ⟨q, h⟩ | ⟨q, h⟩
      · refine wq_ip q ?_
        exact wb52_115 h g r_a0 r_o1
      · refine wq_in q ?_
        obtain ⟨o_30, h5, h⟩ := bd h
        obtain ⟨o_30_x, e, r_o_30⟩ := w_gr g r_a0.so h5
        refine wq_bd e ?_
        obtain ⟨v_32, h6, h⟩ := bd h
        refine wq_bd (w_gi g r_o_30 h6) ?_
        obtain ⟨b_36, h7, h⟩ := bd h
        obtain ⟨b_36_x, e, r_b_36⟩ := w_go g r_o1 h7
        refine wq_bd e ?_
        obtain ⟨q_34, h8, h⟩ := bd h
        obtain ⟨_, _, e, g, x⟩ := wc_V (f := f50) h8 (fun e => w50 e g (vl_c (va_r r_b_36.so) (vl_c va_i (vl_c va_i vl_n))))
        refine wq_bd e (wq_up x ?_)
        exact wb52_131 h g 
    · refine wq_in q ?_
      exact wb52_115 h g r_a0 r_o1
theorem wb52_22 {a0 : Nat} {a0_x : Nat} {o1 : Option Nat} {o1_x : Option Nat} {si0 : Int32} {Y : Nat → Prop} {M0 : hM} {ρ : Nat → Nat} {M H : hM} {res : xRes} (h : b52_22 a0 o1 si0 M = some res) (g : rn Y M0 ρ M H) (r_a0 : vn ρ M a0 a0_x) (r_o1 : vo ρ M o1 o1_x) : wq Y M0 ρ M res (b52_22 a0_x o1_x si0 H) := by
  unfold b52_22 at h ⊢
  obtain ⟨o_8, h1, h⟩ := bd h
  obtain ⟨o_8_x, e, r_o_8⟩ := w_gr g r_a0.so h1
  refine wq_bd e ?_
  obtain ⟨v_10, h2, h⟩ := bd h
  refine wq_bd (w_gi g r_o_8 h2) ?_
  obtain ⟨v_12, h3, h⟩ := bd h
  refine wq_bd (w_gi g r_o1 h3) ?_
  obtain ⟨v_14, h4, h⟩ := bd h
  refine wq_bd (w_gi g r_o1 h4) ?_
  rcases ite_some h with ⟨q, h⟩ | ⟨q, h⟩
  · refine wq_ip q ?_
    exact wb52_64 h g r_a0 r_o1
  · refine wq_in q ?_
    rcases ite_some h with ⟨q, h⟩ | ⟨q, h⟩
    · refine wq_ip q ?_
      exact wb52_64 h g r_a0 r_o1
    · refine wq_in q ?_
      obtain ⟨o_16, h5, h⟩ := bd h
      obtain ⟨o_16_x, e, r_o_16⟩ := w_gr g r_a0.so h5
      refine wq_bd e ?_
      obtain ⟨v_18, h6, h⟩ := bd h
      refine wq_bd (w_gi g r_o_16 h6) ?_
      obtain ⟨b_22, h7, h⟩ := bd h
      obtain ⟨b_22_x, e, r_b_22⟩ := w_go g r_o1 h7
      refine wq_bd e ?_
      obtain ⟨q_20, h8, h⟩ := bd h
      obtain ⟨_, _, e, g, x⟩ := wc_V (f := f50) h8 (fun e => w50 e g (vl_c (va_r r_b_22.so) (vl_c va_i (vl_c va_i vl_n))))
      refine wq_bd e (wq_up x ?_)
      exact wb52_131 h g 
theorem wb52_0 {a0 : Nat} {a0_x : Nat} {o1 : Option Nat} {o1_x : Option Nat} {Y : Nat → Prop} {M0 : hM} {ρ : Nat → Nat} {M H : hM} {res : xRes} (h : b52_0 a0 o1 M = some res) (g : rn Y M0 ρ M H) (r_a0 : vn ρ M a0 a0_x) (r_o1 : vo ρ M o1 o1_x) : wq Y M0 ρ M res (b52_0 a0_x o1_x H) := by
  unfold b52_0 at h ⊢
  obtain ⟨o_1, h1, h⟩ := bd h
  obtain ⟨o_1_x, e, r_o_1⟩ := w_gr g r_a0.so h1
  refine wq_bd e ?_
  obtain ⟨v_3, h2, h⟩ := bd h
  refine wq_bd (w_gi g r_o_1 h2) ?_
  obtain ⟨v_5, h3, h⟩ := bd h
  refine wq_bd (w_gi g r_o1 h3) ?_
  rcases ite_some h with ⟨q, h⟩ | ⟨q, h⟩
  · refine wq_ip q ?_
    exact wb52_22 h g r_a0 r_o1
  · refine wq_in q ?_
    exact wb52_22 h g r_a0 r_o1
theorem w52 {Y : Nat → Prop} {M0 : hM} {ρ : Nat → Nat} {as as_x : List aV} {M H M' : hM} {r : Option aV} (h : f52 as M = some (r, M')) (g : rn Y M0 ρ M H) (ha : vl ρ M as as_x) : wr Y M0 ρ M r M' (f52 as_x H) := by
  unfold f52 at h
  split at h
  · rename_i a0 o1
    obtain ⟨a0_x, _, rfl, r_a0, ha1⟩ := vl_is ha
    obtain ⟨o1_x, _, rfl, r_o1, ha2⟩ := vl_ir ha1
    cases vl_in ha2
    exact wx_out h (fun res hx => wb52_0 hx g r_a0 r_o1)
  · cases h
theorem wb53_0 {a0 : Nat} {a0_x : Nat} {Y : Nat → Prop} {M0 : hM} {ρ : Nat → Nat} {M H : hM} {res : xRes} (h : b53_0 a0 M = some res) (g : rn Y M0 ρ M H) (r_a0 : vn ρ M a0 a0_x) : wq Y M0 ρ M res (b53_0 a0_x H) := by
  unfold b53_0 at h ⊢
  cases h
  exact ⟨_, _, rfl, (vs_g (vl_c (va_r r_a0.so) (vl_c va_i vl_n))), g, ex.rf⟩
theorem wb53_29 {a0 : Nat} {a0_x : Nat} {v1 : Int32} {Y : Nat → Prop} {M0 : hM} {ρ : Nat → Nat} {M H : hM} {res : xRes} (h : b53_29 a0 v1 M = some res) (g : rn Y M0 ρ M H) (r_a0 : vn ρ M a0 a0_x) : wq Y M0 ρ M res (b53_29 a0_x v1 H) := by
  unfold b53_29 at h ⊢
  cases h
  exact ⟨_, _, rfl, (vs_g (vl_c (va_r r_a0.so) (vl_c va_i vl_n))), g, ex.rf⟩
theorem wb53_2 {a0 : Nat} {a0_x : Nat} {v1 : Int32} {Y : Nat → Prop} {M0 : hM} {ρ : Nat → Nat} {M H : hM} {res : xRes} (h : b53_2 a0 v1 M = some res) (g : rn Y M0 ρ M H) (r_a0 : vn ρ M a0 a0_x) : wq Y M0 ρ M res (b53_2 a0_x v1 H) := by
  unfold b53_2 at h ⊢
  obtain ⟨v_1, h1, h⟩ := bd h
  refine wq_bd (w_gi g r_a0.so h1) ?_
  rcases ite_some h with ⟨q, h⟩ | ⟨q, h⟩
  · refine wq_ip q ?_
    cases h
    exact ⟨_, _, rfl, vs_n, g, ex.rf⟩
  · refine wq_in q ?_
    obtain ⟨o_3, h2, h⟩ := bd h
    obtain ⟨o_3_x, e, r_o_3⟩ := w_gr g r_a0.so h2
    refine wq_bd e ?_
    obtain ⟨o_5, h3, h⟩ := bd h
    obtain ⟨o_5_x, e, r_o_5⟩ := w_alr g r_o_3 h3
    refine wq_bd e ?_
    obtain ⟨b_9, h4, h⟩ := bd h
    obtain ⟨b_9_x, e, r_b_9⟩ := w_go g r_o_5 h4
    refine wq_bd e ?_
    obtain ⟨q_7, h5, h⟩ := bd h
    obtain ⟨_, _, e, g, x⟩ := wc_I (f := f47) h5 (fun e => w47 e g (vl_c (va_r r_b_9.so) vl_n))
    refine wq_bd e (wq_up x ?_)
    have r_a0 := r_a0.up x
    have r_o_5 := r_o_5.up x
    rcases ite_some h with ⟨q, h⟩ | ⟨q, h⟩
    · refine wq_ip q ?_
      obtain ⟨b_13, h6, h⟩ := bd h
      obtain ⟨b_13_x, e, r_b_13⟩ := w_go g r_a0.so h6
      refine wq_bd e ?_
      obtain ⟨q_11, h7, h⟩ := bd h
      obtain ⟨_, _, e, g, x⟩ := wc_V (f := f52) h7 (fun e => w52 e g (vl_c (va_r r_b_13.so) (vl_c (va_r r_o_5) vl_n)))
      refine wq_bd e (wq_up x ?_)
      have r_a0 := r_a0.up x
      exact wb53_29 h g r_a0
    · refine wq_in q ?_
      exact wb53_29 h g r_a0
theorem w53 {Y : Nat → Prop} {M0 : hM} {ρ : Nat → Nat} {as as_x : List aV} {M H M' : hM} {r : Option aV} (h : f53 as M = some (r, M')) (g : rn Y M0 ρ M H) (ha : vl ρ M as as_x) : wr Y M0 ρ M r M' (f53 as_x H) := by
  unfold f53 at h
  split at h
  · rename_i a0
    obtain ⟨a0_x, _, rfl, r_a0, ha1⟩ := vl_is ha
    cases vl_in ha1
    show wr Y M0 ρ M r M' (x_go k53 (b53_0 a0_x H))
    refine wx_go (blk := k53) ?_ h (fun res hx => wb53_0 hx g r_a0)
    intro ρ h as as_x M H res hk g ha
    unfold k53 at hk
    split at hk
    · rename_i hh
      subst hh
      split at hk
      · rename_i a0 v1
        obtain ⟨a0_x, _, rfl, r_a0, ha1⟩ := vl_is ha
        obtain ⟨_, rfl, ha2⟩ := vl_ii ha1
        cases vl_in ha2
        exact wb53_2 hk g r_a0
      · cases hk
    · skip
      cases hk
  · cases h
theorem wb54_35 {a0 : Nat} {a0_x : Nat} {Y : Nat → Prop} {M0 : hM} {ρ : Nat → Nat} {M H : hM} {res : xRes} (h : b54_35 a0 M = some res) (g : rn Y M0 ρ M H) (r_a0 : vn ρ M a0 a0_x) : wq Y M0 ρ M res (b54_35 a0_x H) := by
  unfold b54_35 at h ⊢
  obtain ⟨o_17, h1, h⟩ := bd h
  obtain ⟨o_17_x, e, r_o_17⟩ := w_gr g r_a0.so h1
  refine wq_bd e ?_
  obtain ⟨b_21, h2, h⟩ := bd h
  obtain ⟨b_21_x, e, r_b_21⟩ := w_go g r_o_17 h2
  refine wq_bd e ?_
  obtain ⟨q_19, h3, h⟩ := bd h
  obtain ⟨_, _, _, e, g, x, r_q⟩ := wc_R (f := f18) h3 (fun e => w18 e g (vl_c (va_r r_b_21.so) vl_n))
  refine wq_bd e (wq_up x ?_)
  have r_q_19_1 := r_q
  cases h
  exact ⟨_, _, rfl, (vs_a (va_r r_q_19_1)), g, ex.rf⟩
theorem wb54_0 {a0 : Nat} {a0_x : Nat} {Y : Nat → Prop} {M0 : hM} {ρ : Nat → Nat} {M H : hM} {res : xRes} (h : b54_0 a0 M = some res) (g : rn Y M0 ρ M H) (r_a0 : vn ρ M a0 a0_x) : wq Y M0 ρ M res (b54_0 a0_x H) := by
  unfold b54_0 at h ⊢
  obtain ⟨M1, h1, h⟩ := bd h
  obtain ⟨_, e, g, x⟩ := w_pi g r_a0.so h1
  refine wq_bd e (wq_up x ?_)
  have r_a0 := r_a0.up x
  obtain ⟨o_3, h2, h⟩ := bd h
  obtain ⟨o_3_x, e, r_o_3⟩ := w_gr g r_a0.so h2
  refine wq_bd e ?_
  rcases ite_some h with ⟨q, h⟩ | ⟨q, h⟩
  · refine wq_ip (r_o_3.non q) ?_
    exact wb54_35 h g r_a0
  · refine wq_in (r_o_3.nnn q) ?_
    obtain ⟨o_5, h3, h⟩ := bd h
    obtain ⟨o_5_x, e, r_o_5⟩ := w_gr g r_a0.so h3
    refine wq_bd e ?_
    obtain ⟨v_7, h4, h⟩ := bd h
    refine wq_bd (w_gi g r_o_5 h4) ?_
    rcases ite_some h with ⟨q, h⟩ | ⟨q, h⟩
    · refine wq_ip q ?_
      exact wb54_35 h g r_a0
    · refine wq_in q ?_
      obtain ⟨o_9, h5, h⟩ := bd h
      obtain ⟨o_9_x, e, r_o_9⟩ := w_gr g r_a0.so h5
      refine wq_bd e ?_
      obtain ⟨v_11, h6, h⟩ := bd h
      refine wq_bd (w_gi g r_o_9 h6) ?_
      obtain ⟨M13, h7, h⟩ := bd h
      obtain ⟨_, e, g, x⟩ := w_pi g r_o_9 h7
      refine wq_bd e (wq_up x ?_)
      have r_a0 := r_a0.up x
      exact wb54_35 h g r_a0
theorem w54 {Y : Nat → Prop} {M0 : hM} {ρ : Nat → Nat} {as as_x : List aV} {M H M' : hM} {r : Option aV} (h : f54 as M = some (r, M')) (g : rn Y M0 ρ M H) (ha : vl ρ M as as_x) : wr Y M0 ρ M r M' (f54 as_x H) := by
  unfold f54 at h
  split at h
  · rename_i a0
    obtain ⟨a0_x, _, rfl, r_a0, ha1⟩ := vl_is ha
    cases vl_in ha1
    exact wx_out h (fun res hx => wb54_0 hx g r_a0)
  · cases h
theorem wb55_27 {si0 : Int32} {Y : Nat → Prop} {M0 : hM} {ρ : Nat → Nat} {M H : hM} {res : xRes} (h : b55_27 si0 M = some res) (g : rn Y M0 ρ M H)  : wq Y M0 ρ M res (b55_27 si0 H) := by
  unfold b55_27 at h ⊢
  cases h
  exact ⟨_, _, rfl, (vs_a va_i), g, ex.rf⟩
theorem wb55_26  {Y : Nat → Prop} {M0 : hM} {ρ : Nat → Nat} {M H : hM} {res : xRes} (h : b55_26  M = some res) (g : rn Y M0 ρ M H)  : wq Y M0 ρ M res (b55_26  H) := by
  unfold b55_26 at h ⊢
  exact wb55_27 h g 
theorem wb55_0 {a0 : Nat} {a0_x : Nat} {v1 : Int32} {Y : Nat → Prop} {M0 : hM} {ρ : Nat → Nat} {M H : hM} {res : xRes} (h : b55_0 a0 v1 M = some res) (g : rn Y M0 ρ M H) (r_a0 : vn ρ M a0 a0_x) : wq Y M0 ρ M res (b55_0 a0_x v1 H) := by
  unfold b55_0 at h ⊢
  rcases ite_some h with ⟨q, h⟩ | ⟨q, h⟩
  · refine wq_ip q ?_
    exact wb55_26 h g 
  · refine wq_in q ?_
    obtain ⟨o_1, h1, h⟩ := bd h
    obtain ⟨o_1_x, e, r_o_1⟩ := w_gr g r_a0.so h1
    refine wq_bd e ?_
    obtain ⟨v_3, h2, h⟩ := bd h
    refine wq_bd (w_aln g r_o_1 h2) ?_
    rcases ite_some h with ⟨q, h⟩ | ⟨q, h⟩
    · refine wq_ip q ?_
      exact wb55_26 h g 
    · refine wq_in q ?_
      obtain ⟨o_5, h3, h⟩ := bd h
      obtain ⟨o_5_x, e, r_o_5⟩ := w_gr g r_a0.so h3
      refine wq_bd e ?_
      obtain ⟨v_7, h4, h⟩ := bd h
      refine wq_bd (w_ali g r_o_5 h4) ?_
      exact wb55_27 h g 
theorem w55 {Y : Nat → Prop} {M0 : hM} {ρ : Nat → Nat} {as as_x : List aV} {M H M' : hM} {r : Option aV} (h : f55 as M = some (r, M')) (g : rn Y M0 ρ M H) (ha : vl ρ M as as_x) : wr Y M0 ρ M r M' (f55 as_x H) := by
  unfold f55 at h
  split at h
  · rename_i a0 v1
    obtain ⟨a0_x, _, rfl, r_a0, ha1⟩ := vl_is ha
    obtain ⟨_, rfl, ha2⟩ := vl_ii ha1
    cases vl_in ha2
    exact wx_out h (fun res hx => wb55_0 hx g r_a0)
  · cases h
theorem wb56_0 {a0 : Nat} {a0_x : Nat} {v1 : Int32} {v2 : Int32} {Y : Nat → Prop} {M0 : hM} {ρ : Nat → Nat} {M H : hM} {res : xRes} (h : b56_0 a0 v1 v2 M = some res) (g : rn Y M0 ρ M H) (r_a0 : vn ρ M a0 a0_x) : wq Y M0 ρ M res (b56_0 a0_x v1 v2 H) := by
  unfold b56_0 at h ⊢
  cases h
  exact ⟨_, _, rfl, (vs_g (vl_c (va_r r_a0.so) (vl_c va_i (vl_c va_i (vl_c va_l (vl_c va_i vl_n)))))), g, ex.rf⟩
theorem wb56_5 {a0 : Nat} {a0_x : Nat} {v1 : Int32} {v2 : Int32} {w3 : Int64} {v5 : Int32} {Y : Nat → Prop} {M0 : hM} {ρ : Nat → Nat} {M H : hM} {res : xRes} (h : b56_5 a0 v1 v2 w3 v5 M = some res) (g : rn Y M0 ρ M H) (r_a0 : vn ρ M a0 a0_x) : wq Y M0 ρ M res (b56_5 a0_x v1 v2 w3 v5 H) := by
  unfold b56_5 at h ⊢
  rcases ite_some h with ⟨q, h⟩ | ⟨q, h⟩
  · refine wq_ip q ?_
    cases h
    exact ⟨_, _, rfl, (vs_a va_l), g, ex.rf⟩
  · refine wq_in q ?_
    obtain ⟨b_3, h1, h⟩ := bd h
    obtain ⟨b_3_x, e, r_b_3⟩ := w_go g r_a0.so h1
    refine wq_bd e ?_
    obtain ⟨q_1, h2, h⟩ := bd h
    obtain ⟨_, _, e, g, x⟩ := wc_I (f := f55) h2 (fun e => w55 e g (vl_c (va_r r_b_3.so) (vl_c va_i vl_n)))
    refine wq_bd e (wq_up x ?_)
    have r_a0 := r_a0.up x
    cases h
    exact ⟨_, _, rfl, (vs_g (vl_c (va_r r_a0.so) (vl_c va_i (vl_c va_i (vl_c va_l (vl_c va_i vl_n)))))), g, ex.rf⟩
theorem w56 {Y : Nat → Prop} {M0 : hM} {ρ : Nat → Nat} {as as_x : List aV} {M H M' : hM} {r : Option aV} (h : f56 as M = some (r, M')) (g : rn Y M0 ρ M H) (ha : vl ρ M as as_x) : wr Y M0 ρ M r M' (f56 as_x H) := by
  unfold f56 at h
  split at h
  · rename_i a0 v1 v2
    obtain ⟨a0_x, _, rfl, r_a0, ha1⟩ := vl_is ha
    obtain ⟨_, rfl, ha2⟩ := vl_ii ha1
    obtain ⟨_, rfl, ha3⟩ := vl_ii ha2
    cases vl_in ha3
    show wr Y M0 ρ M r M' (x_go k56 (b56_0 a0_x v1 v2 H))
    refine wx_go (blk := k56) ?_ h (fun res hx => wb56_0 hx g r_a0)
    intro ρ h as as_x M H res hk g ha
    unfold k56 at hk
    split at hk
    · rename_i hh
      subst hh
      split at hk
      · rename_i a0 v1 v2 w3 v5
        obtain ⟨a0_x, _, rfl, r_a0, ha1⟩ := vl_is ha
        obtain ⟨_, rfl, ha2⟩ := vl_ii ha1
        obtain ⟨_, rfl, ha3⟩ := vl_ii ha2
        obtain ⟨_, rfl, ha4⟩ := vl_il ha3
        obtain ⟨_, rfl, ha5⟩ := vl_ii ha4
        cases vl_in ha5
        exact wb56_5 hk g r_a0
      · cases hk
    · skip
      cases hk
  · cases h
theorem wb57_0 {a0 : Nat} {a0_x : Nat} {Y : Nat → Prop} {M0 : hM} {ρ : Nat → Nat} {M H : hM} {res : xRes} (h : b57_0 a0 M = some res) (g : rn Y M0 ρ M H) (r_a0 : vn ρ M a0 a0_x) : wq Y M0 ρ M res (b57_0 a0_x H) := by
  unfold b57_0 at h ⊢
  obtain ⟨b_3, h1, h⟩ := bd h
  obtain ⟨b_3_x, e, r_b_3⟩ := w_go g r_a0.so h1
  refine wq_bd e ?_
  obtain ⟨q_1, h2, h⟩ := bd h
  obtain ⟨_, _, e, g, x⟩ := wc_I (f := f55) h2 (fun e => w55 e g (vl_c (va_r r_b_3.so) (vl_c va_i vl_n)))
  refine wq_bd e (wq_up x ?_)
  cases h
  exact ⟨_, _, rfl, (vs_a va_i), g, ex.rf⟩
theorem w57 {Y : Nat → Prop} {M0 : hM} {ρ : Nat → Nat} {as as_x : List aV} {M H M' : hM} {r : Option aV} (h : f57 as M = some (r, M')) (g : rn Y M0 ρ M H) (ha : vl ρ M as as_x) : wr Y M0 ρ M r M' (f57 as_x H) := by
  unfold f57 at h
  split at h
  · rename_i a0
    obtain ⟨a0_x, _, rfl, r_a0, ha1⟩ := vl_is ha
    cases vl_in ha1
    exact wx_out h (fun res hx => wb57_0 hx g r_a0)
  · cases h
theorem wb58_0 {a0 : Nat} {a0_x : Nat} {v1 : Int32} {Y : Nat → Prop} {M0 : hM} {ρ : Nat → Nat} {M H : hM} {res : xRes} (h : b58_0 a0 v1 M = some res) (g : rn Y M0 ρ M H) (r_a0 : vn ρ M a0 a0_x) : wq Y M0 ρ M res (b58_0 a0_x v1 H) := by
  unfold b58_0 at h ⊢
  obtain ⟨b_3, h1, h⟩ := bd h
  obtain ⟨b_3_x, e, r_b_3⟩ := w_go g r_a0.so h1
  refine wq_bd e ?_
  obtain ⟨q_1, h2, h⟩ := bd h
  obtain ⟨_, _, e, g, x⟩ := wc_I (f := f55) h2 (fun e => w55 e g (vl_c (va_r r_b_3.so) (vl_c va_i vl_n)))
  refine wq_bd e (wq_up x ?_)
  cases h
  exact ⟨_, _, rfl, (vs_a va_i), g, ex.rf⟩
theorem w58 {Y : Nat → Prop} {M0 : hM} {ρ : Nat → Nat} {as as_x : List aV} {M H M' : hM} {r : Option aV} (h : f58 as M = some (r, M')) (g : rn Y M0 ρ M H) (ha : vl ρ M as as_x) : wr Y M0 ρ M r M' (f58 as_x H) := by
  unfold f58 at h
  split at h
  · rename_i a0 v1
    obtain ⟨a0_x, _, rfl, r_a0, ha1⟩ := vl_is ha
    obtain ⟨_, rfl, ha2⟩ := vl_ii ha1
    cases vl_in ha2
    exact wx_out h (fun res hx => wb58_0 hx g r_a0)
  · cases h
theorem wb59_90 {si0 : Int32} {Y : Nat → Prop} {M0 : hM} {ρ : Nat → Nat} {M H : hM} {res : xRes} (h : b59_90 si0 M = some res) (g : rn Y M0 ρ M H)  : wq Y M0 ρ M res (b59_90 si0 H) := by
  unfold b59_90 at h ⊢
  rcases ite_some h with ⟨q, h⟩ | ⟨q, h⟩
  · refine wq_ip q ?_
    cases h
    exact ⟨_, _, rfl, (vs_a va_i), g, ex.rf⟩
  · refine wq_in q ?_
    cases h
theorem wb59_89  {Y : Nat → Prop} {M0 : hM} {ρ : Nat → Nat} {M H : hM} {res : xRes} (h : b59_89  M = some res) (g : rn Y M0 ρ M H)  : wq Y M0 ρ M res (b59_89  H) := by
  unfold b59_89 at h ⊢
  exact wb59_90 h g 
theorem wb59_113 {si0 : Int32} {Y : Nat → Prop} {M0 : hM} {ρ : Nat → Nat} {M H : hM} {res : xRes} (h : b59_113 si0 M = some res) (g : rn Y M0 ρ M H)  : wq Y M0 ρ M res (b59_113 si0 H) := by
  unfold b59_113 at h ⊢
  rcases ite_some h with ⟨q, h⟩ | ⟨q, h⟩
  · refine wq_ip q ?_
    cases h
    exact ⟨_, _, rfl, (vs_a va_i), g, ex.rf⟩
  · refine wq_in q ?_
    cases h
theorem wb59_112  {Y : Nat → Prop} {M0 : hM} {ρ : Nat → Nat} {M H : hM} {res : xRes} (h : b59_112  M = some res) (g : rn Y M0 ρ M H)  : wq Y M0 ρ M res (b59_112  H) := by
  unfold b59_112 at h ⊢
  exact wb59_113 h g 
theorem wb59_163 {si0 : Int32} {Y : Nat → Prop} {M0 : hM} {ρ : Nat → Nat} {M H : hM} {res : xRes} (h : b59_163 si0 M = some res) (g : rn Y M0 ρ M H)  : wq Y M0 ρ M res (b59_163 si0 H) := by
  unfold b59_163 at h ⊢
  rcases ite_some h with ⟨q, h⟩ | ⟨q, h⟩
  · refine wq_ip q ?_
    cases h
    exact ⟨_, _, rfl, (vs_a va_i), g, ex.rf⟩
  · refine wq_in q ?_
    cases h
theorem wb59_158  {Y : Nat → Prop} {M0 : hM} {ρ : Nat → Nat} {M H : hM} {res : xRes} (h : b59_158  M = some res) (g : rn Y M0 ρ M H)  : wq Y M0 ρ M res (b59_158  H) := by
  unfold b59_158 at h ⊢
  exact wb59_163 h g 
theorem wb59_162  {Y : Nat → Prop} {M0 : hM} {ρ : Nat → Nat} {M H : hM} {res : xRes} (h : b59_162  M = some res) (g : rn Y M0 ρ M H)  : wq Y M0 ρ M res (b59_162  H) := by
  unfold b59_162 at h ⊢
  exact wb59_163 h g 
theorem wb59_183 {si0 : Int32} {Y : Nat → Prop} {M0 : hM} {ρ : Nat → Nat} {M H : hM} {res : xRes} (h : b59_183 si0 M = some res) (g : rn Y M0 ρ M H)  : wq Y M0 ρ M res (b59_183 si0 H) := by
  unfold b59_183 at h ⊢
  rcases ite_some h with ⟨q, h⟩ | ⟨q, h⟩
  · refine wq_ip q ?_
    cases h
    exact ⟨_, _, rfl, (vs_a va_i), g, ex.rf⟩
  · refine wq_in q ?_
    cases h
theorem wb59_182  {Y : Nat → Prop} {M0 : hM} {ρ : Nat → Nat} {M H : hM} {res : xRes} (h : b59_182  M = some res) (g : rn Y M0 ρ M H)  : wq Y M0 ρ M res (b59_182  H) := by
  unfold b59_182 at h ⊢
  exact wb59_183 h g 
theorem wb59_194 {si0 : Int32} {Y : Nat → Prop} {M0 : hM} {ρ : Nat → Nat} {M H : hM} {res : xRes} (h : b59_194 si0 M = some res) (g : rn Y M0 ρ M H)  : wq Y M0 ρ M res (b59_194 si0 H) := by
  unfold b59_194 at h ⊢
  rcases ite_some h with ⟨q, h⟩ | ⟨q, h⟩
  · refine wq_ip q ?_
    cases h
    exact ⟨_, _, rfl, (vs_a va_i), g, ex.rf⟩
  · refine wq_in q ?_
    cases h
theorem wb59_206 {si0 : Int32} {Y : Nat → Prop} {M0 : hM} {ρ : Nat → Nat} {M H : hM} {res : xRes} (h : b59_206 si0 M = some res) (g : rn Y M0 ρ M H)  : wq Y M0 ρ M res (b59_206 si0 H) := by
  unfold b59_206 at h ⊢
  rcases ite_some h with ⟨q, h⟩ | ⟨q, h⟩
  · refine wq_ip q ?_
    cases h
    exact ⟨_, _, rfl, (vs_a va_i), g, ex.rf⟩
  · refine wq_in q ?_
    cases h
theorem wb59_226 {si0 : Int32} {Y : Nat → Prop} {M0 : hM} {ρ : Nat → Nat} {M H : hM} {res : xRes} (h : b59_226 si0 M = some res) (g : rn Y M0 ρ M H)  : wq Y M0 ρ M res (b59_226 si0 H) := by
  unfold b59_226 at h ⊢
  rcases ite_some h with ⟨q, h⟩ | ⟨q, h⟩
  · refine wq_ip q ?_
    cases h
    exact ⟨_, _, rfl, (vs_a va_i), g, ex.rf⟩
  · refine wq_in q ?_
    cases h
theorem wb59_225  {Y : Nat → Prop} {M0 : hM} {ρ : Nat → Nat} {M H : hM} {res : xRes} (h : b59_225  M = some res) (g : rn Y M0 ρ M H)  : wq Y M0 ρ M res (b59_225  H) := by
  unfold b59_225 at h ⊢
  exact wb59_226 h g 
theorem wb59_0 {a0 : Nat} {a0_x : Nat} {v1 : Int32} {o2 : Option Nat} {o2_x : Option Nat} {Y : Nat → Prop} {M0 : hM} {ρ : Nat → Nat} {M H : hM} {res : xRes} (h : b59_0 a0 v1 o2 M = some res) (g : rn Y M0 ρ M H) (r_a0 : vn ρ M a0 a0_x) (r_o2 : vo ρ M o2 o2_x) : wq Y M0 ρ M res (b59_0 a0_x v1 o2_x H) := by
  unfold b59_0 at h ⊢
  obtain ⟨b_3, h1, h⟩ := bd h
  obtain ⟨b_3_x, e, r_b_3⟩ := w_go g r_a0.so h1
  refine wq_bd e ?_
  obtain ⟨q_1, h2, h⟩ := bd h
  obtain ⟨_, _, e, g, x⟩ := wc_I (f := f57) h2 (fun e => w57 e g (vl_c (va_r r_b_3.so) vl_n))
  refine wq_bd e (wq_up x ?_)
  have r_a0 := r_a0.up x
  have r_o2 := r_o2.up x
  rcases ite_some h with ⟨q, h⟩ | ⟨q, h⟩
  · refine wq_ip q ?_
    rcases ite_some h with ⟨q, h⟩ | ⟨q, h⟩
    · refine wq_ip q ?_
      obtain ⟨b_8, h3, h⟩ := bd h
      obtain ⟨b_8_x, e, r_b_8⟩ := w_go g r_a0.so h3
      refine wq_bd e ?_
      obtain ⟨q_6, h4, h⟩ := bd h
      obtain ⟨_, _, e, g, x⟩ := wc_I (f := f58) h4 (fun e => w58 e g (vl_c (va_r r_b_8.so) (vl_c va_i vl_n)))
      refine wq_bd e (wq_up x ?_)
      have r_o2 := r_o2.up x
      obtain ⟨v_10, h5, h⟩ := bd h
      refine wq_bd (w_gi g r_o2 h5) ?_
      rcases ite_some h with ⟨q, h⟩ | ⟨q, h⟩
      · refine wq_ip q ?_
        exact wb59_89 h g 
      · refine wq_in q ?_
        exact wb59_90 h g 
    · refine wq_in q ?_
      exact wb59_89 h g 
  · refine wq_in q ?_
    rcases ite_some h with ⟨q, h⟩ | ⟨q, h⟩
    · refine wq_ip q ?_
      cases h
      exact ⟨_, _, rfl, (vs_a va_i), g, ex.rf⟩
    · refine wq_in q ?_
      rcases ite_some h with ⟨q, h⟩ | ⟨q, h⟩
      · refine wq_ip q ?_
        rcases ite_some h with ⟨q, h⟩ | ⟨q, h⟩
        · refine wq_ip q ?_
          obtain ⟨b_18, h6, h⟩ := bd h
          obtain ⟨b_18_x, e, r_b_18⟩ := w_go g r_a0.so h6
          refine wq_bd e ?_
          obtain ⟨q_16, h7, h⟩ := bd h
          obtain ⟨_, _, e, g, x⟩ := wc_I (f := f58) h7 (fun e => w58 e g (vl_c (va_r r_b_18.so) (vl_c va_i vl_n)))
          refine wq_bd e (wq_up x ?_)
          have r_o2 := r_o2.up x
          obtain ⟨b_22, h8, h⟩ := bd h
          obtain ⟨b_22_x, e, r_b_22⟩ := w_go g r_o2 h8
          refine wq_bd e ?_
          obtain ⟨q_20, h9, h⟩ := bd h
          obtain ⟨_, _, e, g, x⟩ := wc_I (f := f8) h9 (fun e => w8 e g (vl_c (va_r r_b_22.so) (vl_c va_i vl_n)))
          refine wq_bd e (wq_up x ?_)
          rcases ite_some h with ⟨q, h⟩ | ⟨q, h⟩
          · refine wq_ip q ?_
            exact wb59_112 h g 
          · refine wq_in q ?_
            exact wb59_113 h g 
        · refine wq_in q ?_
          exact wb59_112 h g 
      · refine wq_in q ?_
        rcases ite_some h with ⟨q, h⟩ | ⟨q, h⟩
        · refine wq_ip q ?_
          cases h
          exact ⟨_, _, rfl, (vs_a va_i), g, ex.rf⟩
        · refine wq_in q ?_
          rcases ite_some h with ⟨q, h⟩ | ⟨q, h⟩
          · refine wq_ip q ?_
            rcases ite_some h with ⟨q, h⟩ | ⟨q, h⟩
            · refine wq_ip q ?_
              obtain ⟨b_30, h10, h⟩ := bd h
              obtain ⟨b_30_x, e, r_b_30⟩ := w_go g r_a0.so h10
              refine wq_bd e ?_
              obtain ⟨q_28, h11, h⟩ := bd h
              obtain ⟨_, _, e, g, x⟩ := wc_I (f := f58) h11 (fun e => w58 e g (vl_c (va_r r_b_30.so) (vl_c va_i vl_n)))
              refine wq_bd e (wq_up x ?_)
              have r_o2 := r_o2.up x
              obtain ⟨b_34, h12, h⟩ := bd h
              obtain ⟨b_34_x, e, r_b_34⟩ := w_go g r_o2 h12
              refine wq_bd e ?_
              obtain ⟨q_32, h13, h⟩ := bd h
              obtain ⟨_, _, e, g, x⟩ := wc_I (f := f8) h13 (fun e => w8 e g (vl_c (va_r r_b_34.so) (vl_c va_i vl_n)))
              refine wq_bd e (wq_up x ?_)
              rcases ite_some h with ⟨q, h⟩ | ⟨q, h⟩
              · refine wq_ip q ?_
                exact wb59_112 h g 
              · refine wq_in q ?_
                exact wb59_113 h g 
            · refine wq_in q ?_
              exact wb59_112 h g 
          · refine wq_in q ?_
            rcases ite_some h with ⟨q, h⟩ | ⟨q, h⟩
            · refine wq_ip q ?_
              rcases ite_some h with ⟨q, h⟩ | ⟨q, h⟩
              · refine wq_ip q ?_
                obtain ⟨b_41, h14, h⟩ := bd h
                obtain ⟨b_41_x, e, r_b_41⟩ := w_go g r_a0.so h14
                refine wq_bd e ?_
                obtain ⟨q_39, h15, h⟩ := bd h
                obtain ⟨_, _, e, g, x⟩ := wc_I (f := f58) h15 (fun e => w58 e g (vl_c (va_r r_b_41.so) (vl_c va_i vl_n)))
                refine wq_bd e (wq_up x ?_)
                have r_a0 := r_a0.up x
                have r_o2 := r_o2.up x
                obtain ⟨b_45, h16, h⟩ := bd h
                obtain ⟨b_45_x, e, r_b_45⟩ := w_go g r_o2 h16
                refine wq_bd e ?_
                obtain ⟨q_43, h17, h⟩ := bd h
                obtain ⟨_, _, e, g, x⟩ := wc_I (f := f8) h17 (fun e => w8 e g (vl_c (va_r r_b_45.so) (vl_c va_i vl_n)))
                refine wq_bd e (wq_up x ?_)
                have r_a0 := r_a0.up x
                rcases ite_some h with ⟨q, h⟩ | ⟨q, h⟩
                · refine wq_ip q ?_
                  exact wb59_162 h g 
                · refine wq_in q ?_
                  obtain ⟨b_49, h18, h⟩ := bd h
                  obtain ⟨b_49_x, e, r_b_49⟩ := w_go g r_a0.so h18
                  refine wq_bd e ?_
                  obtain ⟨q_47, h19, h⟩ := bd h
                  obtain ⟨_, _, e, g, x⟩ := wc_L (f := f56) h19 (fun e => w56 e g (vl_c (va_r r_b_49.so) (vl_c va_i (vl_c va_i vl_n))))
                  refine wq_bd e (wq_up x ?_)
                  have r_a0 := r_a0.up x
                  rcases ite_some h with ⟨q, h⟩ | ⟨q, h⟩
                  · refine wq_ip q ?_
                    exact wb59_158 h g 
                  · refine wq_in q ?_
                    obtain ⟨b_53, h20, h⟩ := bd h
                    obtain ⟨b_53_x, e, r_b_53⟩ := w_go g r_a0.so h20
                    refine wq_bd e ?_
                    obtain ⟨q_51, h21, h⟩ := bd h
                    obtain ⟨_, _, e, g, x⟩ := wc_I (f := f58) h21 (fun e => w58 e g (vl_c (va_r r_b_53.so) (vl_c va_i vl_n)))
                    refine wq_bd e (wq_up x ?_)
                    have r_a0 := r_a0.up x
                    obtain ⟨b_57, h22, h⟩ := bd h
                    obtain ⟨b_57_x, e, r_b_57⟩ := w_go g r_a0.so h22
                    refine wq_bd e ?_
                    obtain ⟨q_55, h23, h⟩ := bd h
                    obtain ⟨_, _, e, g, x⟩ := wc_I (f := f58) h23 (fun e => w58 e g (vl_c (va_r r_b_57.so) (vl_c va_i vl_n)))
                    refine wq_bd e (wq_up x ?_)
                    rcases ite_some h with ⟨q, h⟩ | ⟨q, h⟩
                    · refine wq_ip q ?_
                      exact wb59_158 h g 
                    · refine wq_in q ?_
                      exact wb59_162 h g 
              · refine wq_in q ?_
                exact wb59_162 h g 
            · refine wq_in q ?_
              rcases ite_some h with ⟨q, h⟩ | ⟨q, h⟩
              · refine wq_ip q ?_
                rcases ite_some h with ⟨q, h⟩ | ⟨q, h⟩
                · refine wq_ip q ?_
                  obtain ⟨b_66, h24, h⟩ := bd h
                  obtain ⟨b_66_x, e, r_b_66⟩ := w_go g r_a0.so h24
                  refine wq_bd e ?_
                  obtain ⟨q_64, h25, h⟩ := bd h
                  obtain ⟨_, _, e, g, x⟩ := wc_I (f := f58) h25 (fun e => w58 e g (vl_c (va_r r_b_66.so) (vl_c va_i vl_n)))
                  refine wq_bd e (wq_up x ?_)
                  have r_o2 := r_o2.up x
                  obtain ⟨b_70, h26, h⟩ := bd h
                  obtain ⟨b_70_x, e, r_b_70⟩ := w_go g r_o2 h26
                  refine wq_bd e ?_
                  obtain ⟨q_68, h27, h⟩ := bd h
                  obtain ⟨_, _, e, g, x⟩ := wc_I (f := f8) h27 (fun e => w8 e g (vl_c (va_r r_b_70.so) (vl_c va_i vl_n)))
                  refine wq_bd e (wq_up x ?_)
                  rcases ite_some h with ⟨q, h⟩ | ⟨q, h⟩
                  · refine wq_ip q ?_
                    exact wb59_112 h g 
                  · refine wq_in q ?_
                    exact wb59_113 h g 
                · refine wq_in q ?_
                  exact wb59_112 h g 
              · refine wq_in q ?_
                rcases ite_some h with ⟨q, h⟩ | ⟨q, h⟩
                · refine wq_ip q ?_
                  cases h
                  exact ⟨_, _, rfl, (vs_a va_i), g, ex.rf⟩
                · refine wq_in q ?_
                  rcases ite_some h with ⟨q, h⟩ | ⟨q, h⟩
                  · refine wq_ip q ?_
                    rcases ite_some h with ⟨q, h⟩ | ⟨q, h⟩
                    · refine wq_ip q ?_
                      obtain ⟨b_78, h28, h⟩ := bd h
                      obtain ⟨b_78_x, e, r_b_78⟩ := w_go g r_a0.so h28
                      refine wq_bd e ?_
                      obtain ⟨q_76, h29, h⟩ := bd h
                      obtain ⟨_, _, e, g, x⟩ := wc_I (f := f58) h29 (fun e => w58 e g (vl_c (va_r r_b_78.so) (vl_c va_i vl_n)))
                      refine wq_bd e (wq_up x ?_)
                      rcases ite_some h with ⟨q, h⟩ | ⟨q, h⟩
                      · refine wq_ip q ?_
                        exact wb59_182 h g 
                      · refine wq_in q ?_
                        exact wb59_183 h g 
                    · refine wq_in q ?_
                      exact wb59_182 h g 
                  · refine wq_in q ?_
                    rcases ite_some h with ⟨q, h⟩ | ⟨q, h⟩
                    · refine wq_ip q ?_
                      rcases ite_some h with ⟨q, h⟩ | ⟨q, h⟩
                      · refine wq_ip q ?_
                        exact wb59_194 h g 
                      · refine wq_in q ?_
                        exact wb59_194 h g 
                    · refine wq_in q ?_
                      rcases ite_some h with ⟨q, h⟩ | ⟨q, h⟩
                      · refine wq_ip q ?_
                        rcases ite_some h with ⟨q, h⟩ | ⟨q, h⟩
                        · refine wq_ip q ?_
                          exact wb59_206 h g 
                        · refine wq_in q ?_
                          exact wb59_206 h g 
                      · refine wq_in q ?_
                        rcases ite_some h with ⟨q, h⟩ | ⟨q, h⟩
                        · refine wq_ip q ?_
                          rcases ite_some h with ⟨q, h⟩ | ⟨q, h⟩
                          · refine wq_ip q ?_
                            obtain ⟨b_89, h30, h⟩ := bd h
                            obtain ⟨b_89_x, e, r_b_89⟩ := w_go g r_a0.so h30
                            refine wq_bd e ?_
                            obtain ⟨q_87, h31, h⟩ := bd h
                            obtain ⟨_, _, e, g, x⟩ := wc_I (f := f58) h31 (fun e => w58 e g (vl_c (va_r r_b_89.so) (vl_c va_i vl_n)))
                            refine wq_bd e (wq_up x ?_)
                            rcases ite_some h with ⟨q, h⟩ | ⟨q, h⟩
                            · refine wq_ip q ?_
                              exact wb59_225 h g 
                            · refine wq_in q ?_
                              exact wb59_226 h g 
                          · refine wq_in q ?_
                            exact wb59_225 h g 
                        · refine wq_in q ?_
                          cases h
                          exact ⟨_, _, rfl, (vs_a va_i), g, ex.rf⟩
theorem w59 {Y : Nat → Prop} {M0 : hM} {ρ : Nat → Nat} {as as_x : List aV} {M H M' : hM} {r : Option aV} (h : f59 as M = some (r, M')) (g : rn Y M0 ρ M H) (ha : vl ρ M as as_x) : wr Y M0 ρ M r M' (f59 as_x H) := by
  unfold f59 at h
  split at h
  · rename_i a0 v1 o2
    obtain ⟨a0_x, _, rfl, r_a0, ha1⟩ := vl_is ha
    obtain ⟨_, rfl, ha2⟩ := vl_ii ha1
    obtain ⟨o2_x, _, rfl, r_o2, ha3⟩ := vl_ir ha2
    cases vl_in ha3
    exact wx_out h (fun res hx => wb59_0 hx g r_a0 r_o2)
  · cases h
theorem wb60_0 {a0 : Nat} {a0_x : Nat} {v1 : Int32} {o2 : Option Nat} {o2_x : Option Nat} {Y : Nat → Prop} {M0 : hM} {ρ : Nat → Nat} {M H : hM} {res : xRes} (h : b60_0 a0 v1 o2 M = some res) (g : rn Y M0 ρ M H) (r_a0 : vn ρ M a0 a0_x) (r_o2 : vo ρ M o2 o2_x) : wq Y M0 ρ M res (b60_0 a0_x v1 o2_x H) := by
  unfold b60_0 at h ⊢
  cases h
  exact ⟨_, _, rfl, (vs_g (vl_c (va_r r_a0.so) (vl_c va_i (vl_c (va_r r_o2) (vl_c va_i (vl_c va_i vl_n)))))), g, ex.rf⟩
theorem wb60_81  {Y : Nat → Prop} {M0 : hM} {ρ : Nat → Nat} {M H : hM} {res : xRes} (h : b60_81  M = some res) (g : rn Y M0 ρ M H)  : wq Y M0 ρ M res (b60_81  H) := by
  unfold b60_81 at h ⊢
  cases h
  exact ⟨_, _, rfl, (vs_a va_i), g, ex.rf⟩
theorem wb60_5 {a0 : Nat} {a0_x : Nat} {v1 : Int32} {o2 : Option Nat} {o2_x : Option Nat} {v3 : Int32} {v4 : Int32} {Y : Nat → Prop} {M0 : hM} {ρ : Nat → Nat} {M H : hM} {res : xRes} (h : b60_5 a0 v1 o2 v3 v4 M = some res) (g : rn Y M0 ρ M H) (r_a0 : vn ρ M a0 a0_x) (r_o2 : vo ρ M o2 o2_x) : wq Y M0 ρ M res (b60_5 a0_x v1 o2_x v3 v4 H) := by
  unfold b60_5 at h ⊢
  rcases ite_some h with ⟨q, h⟩ | ⟨q, h⟩
  · refine wq_ip q ?_
    cases h
    exact ⟨_, _, rfl, (vs_a va_i), g, ex.rf⟩
  · refine wq_in q ?_
    obtain ⟨b_3, h1, h⟩ := bd h
    obtain ⟨b_3_x, e, r_b_3⟩ := w_go g r_a0.so h1
    refine wq_bd e ?_
    obtain ⟨q_1, h2, h⟩ := bd h
    obtain ⟨_, _, e, g, x⟩ := wc_I (f := f58) h2 (fun e => w58 e g (vl_c (va_r r_b_3.so) (vl_c va_i vl_n)))
    refine wq_bd e (wq_up x ?_)
    have r_a0 := r_a0.up x
    have r_o2 := r_o2.up x
    obtain ⟨b_7, h3, h⟩ := bd h
    obtain ⟨b_7_x, e, r_b_7⟩ := w_go g r_a0.so h3
    refine wq_bd e ?_
    obtain ⟨q_5, h4, h⟩ := bd h
    obtain ⟨_, _, e, g, x⟩ := wc_I (f := f58) h4 (fun e => w58 e g (vl_c (va_r r_b_7.so) (vl_c va_i vl_n)))
    refine wq_bd e (wq_up x ?_)
    have r_a0 := r_a0.up x
    have r_o2 := r_o2.up x
    rcases ite_some h with ⟨q, h⟩ | ⟨q, h⟩
    · refine wq_ip q ?_
      exact wb60_81 h g 
    · refine wq_in q ?_
      rcases ite_some h with ⟨q, h⟩ | ⟨q, h⟩
      · refine wq_ip q ?_
        exact wb60_81 h g 
      · refine wq_in q ?_
        obtain ⟨b_11, h5, h⟩ := bd h
        obtain ⟨b_11_x, e, r_b_11⟩ := w_go g r_a0.so h5
        refine wq_bd e ?_
        obtain ⟨q_9, h6, h⟩ := bd h
        obtain ⟨_, _, e, g, x⟩ := wc_I (f := f58) h6 (fun e => w58 e g (vl_c (va_r r_b_11.so) (vl_c va_i vl_n)))
        refine wq_bd e (wq_up x ?_)
        have r_a0 := r_a0.up x
        have r_o2 := r_o2.up x
        obtain ⟨v_13, h7, h⟩ := bd h
        refine wq_bd (w_gi g r_o2 h7) ?_
        rcases ite_some h with ⟨q, h⟩ | ⟨q, h⟩
        · refine wq_ip q ?_
          exact wb60_81 h g 
        · refine wq_in q ?_
          rcases ite_some h with ⟨q, h⟩ | ⟨q, h⟩
          · refine wq_ip q ?_
            exact wb60_81 h g 
          · refine wq_in q ?_
            rcases ite_some h with ⟨q, h⟩ | ⟨q, h⟩
            · refine wq_ip q ?_
              cases h
              exact ⟨_, _, rfl, (vs_g (vl_c (va_r r_a0.so) (vl_c va_i (vl_c (va_r r_o2) (vl_c va_i (vl_c va_i vl_n)))))), g, ex.rf⟩
            · refine wq_in q ?_
              exact wb60_81 h g 
theorem w60 {Y : Nat → Prop} {M0 : hM} {ρ : Nat → Nat} {as as_x : List aV} {M H M' : hM} {r : Option aV} (h : f60 as M = some (r, M')) (g : rn Y M0 ρ M H) (ha : vl ρ M as as_x) : wr Y M0 ρ M r M' (f60 as_x H) := by
  unfold f60 at h
  split at h
  · rename_i a0 v1 o2
    obtain ⟨a0_x, _, rfl, r_a0, ha1⟩ := vl_is ha
    obtain ⟨_, rfl, ha2⟩ := vl_ii ha1
    obtain ⟨o2_x, _, rfl, r_o2, ha3⟩ := vl_ir ha2
    cases vl_in ha3
    show wr Y M0 ρ M r M' (x_go k60 (b60_0 a0_x v1 o2_x H))
    refine wx_go (blk := k60) ?_ h (fun res hx => wb60_0 hx g r_a0 r_o2)
    intro ρ h as as_x M H res hk g ha
    unfold k60 at hk
    split at hk
    · rename_i hh
      subst hh
      split at hk
      · rename_i a0 v1 o2 v3 v4
        obtain ⟨a0_x, _, rfl, r_a0, ha1⟩ := vl_is ha
        obtain ⟨_, rfl, ha2⟩ := vl_ii ha1
        obtain ⟨o2_x, _, rfl, r_o2, ha3⟩ := vl_ir ha2
        obtain ⟨_, rfl, ha4⟩ := vl_ii ha3
        obtain ⟨_, rfl, ha5⟩ := vl_ii ha4
        cases vl_in ha5
        exact wb60_5 hk g r_a0 r_o2
      · cases hk
    · skip
      cases hk
  · cases h
theorem wb61_0 {a0 : Nat} {a0_x : Nat} {v1 : Int32} {o2 : Option Nat} {o2_x : Option Nat} {Y : Nat → Prop} {M0 : hM} {ρ : Nat → Nat} {M H : hM} {res : xRes} (h : b61_0 a0 v1 o2 M = some res) (g : rn Y M0 ρ M H) (r_a0 : vn ρ M a0 a0_x) (r_o2 : vo ρ M o2 o2_x) : wq Y M0 ρ M res (b61_0 a0_x v1 o2_x H) := by
  unfold b61_0 at h ⊢
  cases h
  exact ⟨_, _, rfl, (vs_g (vl_c (va_r r_a0.so) (vl_c va_i (vl_c (va_r r_o2) (vl_c va_i (vl_c va_i (vl_c va_i vl_n))))))), g, ex.rf⟩
theorem wb61_79  {Y : Nat → Prop} {M0 : hM} {ρ : Nat → Nat} {M H : hM} {res : xRes} (h : b61_79  M = some res) (g : rn Y M0 ρ M H)  : wq Y M0 ρ M res (b61_79  H) := by
  unfold b61_79 at h ⊢
  cases h
  exact ⟨_, _, rfl, (vs_a va_i), g, ex.rf⟩
theorem wb61_8 {a0 : Nat} {a0_x : Nat} {v1 : Int32} {o2 : Option Nat} {o2_x : Option Nat} {v3 : Int32} {v4 : Int32} {v5 : Int32} {Y : Nat → Prop} {M0 : hM} {ρ : Nat → Nat} {M H : hM} {res : xRes} (h : b61_8 a0 v1 o2 v3 v4 v5 M = some res) (g : rn Y M0 ρ M H) (r_a0 : vn ρ M a0 a0_x) (r_o2 : vo ρ M o2 o2_x) : wq Y M0 ρ M res (b61_8 a0_x v1 o2_x v3 v4 v5 H) := by
  unfold b61_8 at h ⊢
  obtain ⟨b_3, h1, h⟩ := bd h
  obtain ⟨b_3_x, e, r_b_3⟩ := w_go g r_a0.so h1
  refine wq_bd e ?_
  obtain ⟨q_1, h2, h⟩ := bd h
  obtain ⟨_, _, e, g, x⟩ := wc_I (f := f58) h2 (fun e => w58 e g (vl_c (va_r r_b_3.so) (vl_c va_i vl_n)))
  refine wq_bd e (wq_up x ?_)
  have r_a0 := r_a0.up x
  have r_o2 := r_o2.up x
  rcases ite_some h with ⟨q, h⟩ | ⟨q, h⟩
  · refine wq_ip q ?_
    cases h
    exact ⟨_, _, rfl, (vs_a va_i), g, ex.rf⟩
  · refine wq_in q ?_
    obtain ⟨b_7, h3, h⟩ := bd h
    obtain ⟨b_7_x, e, r_b_7⟩ := w_go g r_a0.so h3
    refine wq_bd e ?_
    obtain ⟨q_5, h4, h⟩ := bd h
    obtain ⟨_, _, e, g, x⟩ := wc_I (f := f58) h4 (fun e => w58 e g (vl_c (va_r r_b_7.so) (vl_c va_i vl_n)))
    refine wq_bd e (wq_up x ?_)
    have r_a0 := r_a0.up x
    have r_o2 := r_o2.up x
    obtain ⟨b_11, h5, h⟩ := bd h
    obtain ⟨b_11_x, e, r_b_11⟩ := w_go g r_a0.so h5
    refine wq_bd e ?_
    obtain ⟨q_9, h6, h⟩ := bd h
    obtain ⟨_, _, e, g, x⟩ := wc_I (f := f58) h6 (fun e => w58 e g (vl_c (va_r r_b_11.so) (vl_c va_i vl_n)))
    refine wq_bd e (wq_up x ?_)
    have r_a0 := r_a0.up x
    have r_o2 := r_o2.up x
    rcases ite_some h with ⟨q, h⟩ | ⟨q, h⟩
    · refine wq_ip q ?_
      exact wb61_79 h g 
    · refine wq_in q ?_
      rcases ite_some h with ⟨q, h⟩ | ⟨q, h⟩
      · refine wq_ip q ?_
        exact wb61_79 h g 
      · refine wq_in q ?_
        obtain ⟨b_15, h7, h⟩ := bd h
        obtain ⟨b_15_x, e, r_b_15⟩ := w_go g r_o2 h7
        refine wq_bd e ?_
        obtain ⟨q_13, h8, h⟩ := bd h
        obtain ⟨_, _, e, g, x⟩ := wc_I (f := f8) h8 (fun e => w8 e g (vl_c (va_r r_b_15.so) (vl_c va_i vl_n)))
        refine wq_bd e (wq_up x ?_)
        have r_a0 := r_a0.up x
        have r_o2 := r_o2.up x
        rcases ite_some h with ⟨q, h⟩ | ⟨q, h⟩
        · refine wq_ip q ?_
          exact wb61_79 h g 
        · refine wq_in q ?_
          rcases ite_some h with ⟨q, h⟩ | ⟨q, h⟩
          · refine wq_ip q ?_
            exact wb61_79 h g 
          · refine wq_in q ?_
            cases h
            exact ⟨_, _, rfl, (vs_g (vl_c (va_r r_a0.so) (vl_c va_i (vl_c (va_r r_o2) (vl_c va_i (vl_c va_i (vl_c va_i vl_n))))))), g, ex.rf⟩
theorem w61 {Y : Nat → Prop} {M0 : hM} {ρ : Nat → Nat} {as as_x : List aV} {M H M' : hM} {r : Option aV} (h : f61 as M = some (r, M')) (g : rn Y M0 ρ M H) (ha : vl ρ M as as_x) : wr Y M0 ρ M r M' (f61 as_x H) := by
  unfold f61 at h
  split at h
  · rename_i a0 v1 o2
    obtain ⟨a0_x, _, rfl, r_a0, ha1⟩ := vl_is ha
    obtain ⟨_, rfl, ha2⟩ := vl_ii ha1
    obtain ⟨o2_x, _, rfl, r_o2, ha3⟩ := vl_ir ha2
    cases vl_in ha3
    show wr Y M0 ρ M r M' (x_go k61 (b61_0 a0_x v1 o2_x H))
    refine wx_go (blk := k61) ?_ h (fun res hx => wb61_0 hx g r_a0 r_o2)
    intro ρ h as as_x M H res hk g ha
    unfold k61 at hk
    split at hk
    · rename_i hh
      subst hh
      split at hk
      · rename_i a0 v1 o2 v3 v4 v5
        obtain ⟨a0_x, _, rfl, r_a0, ha1⟩ := vl_is ha
        obtain ⟨_, rfl, ha2⟩ := vl_ii ha1
        obtain ⟨o2_x, _, rfl, r_o2, ha3⟩ := vl_ir ha2
        obtain ⟨_, rfl, ha4⟩ := vl_ii ha3
        obtain ⟨_, rfl, ha5⟩ := vl_ii ha4
        obtain ⟨_, rfl, ha6⟩ := vl_ii ha5
        cases vl_in ha6
        exact wb61_8 hk g r_a0 r_o2
      · cases hk
    · skip
      cases hk
  · cases h
theorem wb62_37  {Y : Nat → Prop} {M0 : hM} {ρ : Nat → Nat} {M H : hM} {res : xRes} (h : b62_37  M = some res) (g : rn Y M0 ρ M H)  : wq Y M0 ρ M res (b62_37  H) := by
  unfold b62_37 at h ⊢
  cases h
  exact ⟨_, _, rfl, (vs_a va_i), g, ex.rf⟩
theorem wb62_94 {si0 : Int32} {Y : Nat → Prop} {M0 : hM} {ρ : Nat → Nat} {M H : hM} {res : xRes} (h : b62_94 si0 M = some res) (g : rn Y M0 ρ M H)  : wq Y M0 ρ M res (b62_94 si0 H) := by
  unfold b62_94 at h ⊢
  rcases ite_some h with ⟨q, h⟩ | ⟨q, h⟩
  · refine wq_ip q ?_
    cases h
    exact ⟨_, _, rfl, (vs_a va_i), g, ex.rf⟩
  · refine wq_in q ?_
    cases h
theorem wb62_93  {Y : Nat → Prop} {M0 : hM} {ρ : Nat → Nat} {M H : hM} {res : xRes} (h : b62_93  M = some res) (g : rn Y M0 ρ M H)  : wq Y M0 ρ M res (b62_93  H) := by
  unfold b62_93 at h ⊢
  exact wb62_94 h g 
theorem wb62_0 {a0 : Nat} {a0_x : Nat} {v1 : Int32} {o2 : Option Nat} {o2_x : Option Nat} {Y : Nat → Prop} {M0 : hM} {ρ : Nat → Nat} {M H : hM} {res : xRes} (h : b62_0 a0 v1 o2 M = some res) (g : rn Y M0 ρ M H) (r_a0 : vn ρ M a0 a0_x) (r_o2 : vo ρ M o2 o2_x) : wq Y M0 ρ M res (b62_0 a0_x v1 o2_x H) := by
  unfold b62_0 at h ⊢
  obtain ⟨b_3, h1, h⟩ := bd h
  obtain ⟨b_3_x, e, r_b_3⟩ := w_go g r_a0.so h1
  refine wq_bd e ?_
  obtain ⟨q_1, h2, h⟩ := bd h
  obtain ⟨_, _, e, g, x⟩ := wc_I (f := f58) h2 (fun e => w58 e g (vl_c (va_r r_b_3.so) (vl_c va_i vl_n)))
  refine wq_bd e (wq_up x ?_)
  have r_a0 := r_a0.up x
  have r_o2 := r_o2.up x
  rcases ite_some h with ⟨q, h⟩ | ⟨q, h⟩
  · refine wq_ip q ?_
    exact wb62_37 h g 
  · refine wq_in q ?_
    obtain ⟨b_7, h3, h⟩ := bd h
    obtain ⟨b_7_x, e, r_b_7⟩ := w_go g r_a0.so h3
    refine wq_bd e ?_
    obtain ⟨q_5, h4, h⟩ := bd h
    obtain ⟨_, _, e, g, x⟩ := wc_I (f := f58) h4 (fun e => w58 e g (vl_c (va_r r_b_7.so) (vl_c va_i vl_n)))
    refine wq_bd e (wq_up x ?_)
    have r_a0 := r_a0.up x
    have r_o2 := r_o2.up x
    rcases ite_some h with ⟨q, h⟩ | ⟨q, h⟩
    · refine wq_ip q ?_
      obtain ⟨b_11, h5, h⟩ := bd h
      obtain ⟨b_11_x, e, r_b_11⟩ := w_go g r_a0.so h5
      refine wq_bd e ?_
      obtain ⟨q_9, h6, h⟩ := bd h
      obtain ⟨_, _, e, g, x⟩ := wc_I (f := f58) h6 (fun e => w58 e g (vl_c (va_r r_b_11.so) (vl_c va_i vl_n)))
      refine wq_bd e (wq_up x ?_)
      have r_a0 := r_a0.up x
      have r_o2 := r_o2.up x
      obtain ⟨v_13, h7, h⟩ := bd h
      refine wq_bd (w_gi g r_o2 h7) ?_
      rcases ite_some h with ⟨q, h⟩ | ⟨q, h⟩
      · refine wq_ip q ?_
        exact wb62_93 h g 
      · refine wq_in q ?_
        obtain ⟨b_17, h8, h⟩ := bd h
        obtain ⟨b_17_x, e, r_b_17⟩ := w_go g r_a0.so h8
        refine wq_bd e ?_
        obtain ⟨q_15, h9, h⟩ := bd h
        obtain ⟨_, _, e, g, x⟩ := wc_I (f := f58) h9 (fun e => w58 e g (vl_c (va_r r_b_17.so) (vl_c va_i vl_n)))
        refine wq_bd e (wq_up x ?_)
        have r_a0 := r_a0.up x
        have r_o2 := r_o2.up x
        rcases ite_some h with ⟨q, h⟩ | ⟨q, h⟩
        · refine wq_ip q ?_
          exact wb62_93 h g 
        · refine wq_in q ?_
          obtain ⟨b_21, h10, h⟩ := bd h
          obtain ⟨b_21_x, e, r_b_21⟩ := w_go g r_a0.so h10
          refine wq_bd e ?_
          obtain ⟨q_19, h11, h⟩ := bd h
          obtain ⟨_, _, e, g, x⟩ := wc_I (f := f58) h11 (fun e => w58 e g (vl_c (va_r r_b_21.so) (vl_c va_i vl_n)))
          refine wq_bd e (wq_up x ?_)
          have r_a0 := r_a0.up x
          have r_o2 := r_o2.up x
          rcases ite_some h with ⟨q, h⟩ | ⟨q, h⟩
          · refine wq_ip q ?_
            exact wb62_93 h g 
          · refine wq_in q ?_
            obtain ⟨b_25, h12, h⟩ := bd h
            obtain ⟨b_25_x, e, r_b_25⟩ := w_go g r_a0.so h12
            refine wq_bd e ?_
            obtain ⟨q_23, h13, h⟩ := bd h
            obtain ⟨_, _, e, g, x⟩ := wc_I (f := f60) h13 (fun e => w60 e g (vl_c (va_r r_b_25.so) (vl_c va_i (vl_c (va_r r_o2) vl_n))))
            refine wq_bd e (wq_up x ?_)
            have r_a0 := r_a0.up x
            have r_o2 := r_o2.up x
            rcases ite_some h with ⟨q, h⟩ | ⟨q, h⟩
            · refine wq_ip q ?_
              exact wb62_93 h g 
            · refine wq_in q ?_
              obtain ⟨b_29, h14, h⟩ := bd h
              obtain ⟨b_29_x, e, r_b_29⟩ := w_go g r_a0.so h14
              refine wq_bd e ?_
              obtain ⟨q_27, h15, h⟩ := bd h
              obtain ⟨_, _, e, g, x⟩ := wc_I (f := f61) h15 (fun e => w61 e g (vl_c (va_r r_b_29.so) (vl_c va_i (vl_c (va_r r_o2) vl_n))))
              refine wq_bd e (wq_up x ?_)
              rcases ite_some h with ⟨q, h⟩ | ⟨q, h⟩
              · refine wq_ip q ?_
                exact wb62_93 h g 
              · refine wq_in q ?_
                exact wb62_94 h g 
    · refine wq_in q ?_
      exact wb62_37 h g 
theorem w62 {Y : Nat → Prop} {M0 : hM} {ρ : Nat → Nat} {as as_x : List aV} {M H M' : hM} {r : Option aV} (h : f62 as M = some (r, M')) (g : rn Y M0 ρ M H) (ha : vl ρ M as as_x) : wr Y M0 ρ M r M' (f62 as_x H) := by
  unfold f62 at h
  split at h
  · rename_i a0 v1 o2
    obtain ⟨a0_x, _, rfl, r_a0, ha1⟩ := vl_is ha
    obtain ⟨_, rfl, ha2⟩ := vl_ii ha1
    obtain ⟨o2_x, _, rfl, r_o2, ha3⟩ := vl_ir ha2
    cases vl_in ha3
    exact wx_out h (fun res hx => wb62_0 hx g r_a0 r_o2)
  · cases h
theorem wb63_88 {si0 : Int32} {Y : Nat → Prop} {M0 : hM} {ρ : Nat → Nat} {M H : hM} {res : xRes} (h : b63_88 si0 M = some res) (g : rn Y M0 ρ M H)  : wq Y M0 ρ M res (b63_88 si0 H) := by
  unfold b63_88 at h ⊢
  rcases ite_some h with ⟨q, h⟩ | ⟨q, h⟩
  · refine wq_ip q ?_
    cases h
    exact ⟨_, _, rfl, (vs_a va_i), g, ex.rf⟩
  · refine wq_in q ?_
    cases h
theorem wb63_83  {Y : Nat → Prop} {M0 : hM} {ρ : Nat → Nat} {M H : hM} {res : xRes} (h : b63_83  M = some res) (g : rn Y M0 ρ M H)  : wq Y M0 ρ M res (b63_83  H) := by
  unfold b63_83 at h ⊢
  exact wb63_88 h g 
theorem wb63_87  {Y : Nat → Prop} {M0 : hM} {ρ : Nat → Nat} {M H : hM} {res : xRes} (h : b63_87  M = some res) (g : rn Y M0 ρ M H)  : wq Y M0 ρ M res (b63_87  H) := by
  unfold b63_87 at h ⊢
  exact wb63_88 h g 
theorem wb63_0 {a0 : Nat} {a0_x : Nat} {o1 : Option Nat} {o1_x : Option Nat} {Y : Nat → Prop} {M0 : hM} {ρ : Nat → Nat} {M H : hM} {res : xRes} (h : b63_0 a0 o1 M = some res) (g : rn Y M0 ρ M H) (r_a0 : vn ρ M a0 a0_x) (r_o1 : vo ρ M o1 o1_x) : wq Y M0 ρ M res (b63_0 a0_x o1_x H) := by
  unfold b63_0 at h ⊢
  obtain ⟨v_1, h1, h⟩ := bd h
  refine wq_bd (w_gi g r_a0.so h1) ?_
  rcases ite_some h with ⟨q, h⟩ | ⟨q, h⟩
  · refine wq_ip q ?_
    cases h
    exact ⟨_, _, rfl, (vs_a va_i), g, ex.rf⟩
  · refine wq_in q ?_
    obtain ⟨v_3, h2, h⟩ := bd h
    refine wq_bd (w_gi g r_a0.so h2) ?_
    obtain ⟨b_7, h3, h⟩ := bd h
    obtain ⟨b_7_x, e, r_b_7⟩ := w_go g r_a0.so h3
    refine wq_bd e ?_
    obtain ⟨q_5, h4, h⟩ := bd h
    obtain ⟨_, _, e, g, x⟩ := wc_I (f := f55) h4 (fun e => w55 e g (vl_c (va_r r_b_7.so) (vl_c va_i vl_n)))
    refine wq_bd e (wq_up x ?_)
    have r_a0 := r_a0.up x
    have r_o1 := r_o1.up x
    rcases ite_some h with ⟨q, h⟩ | ⟨q, h⟩
    · refine wq_ip q ?_
      obtain ⟨v_9, h5, h⟩ := bd h
      refine wq_bd (w_gi g r_a0.so h5) ?_
      obtain ⟨b_13, h6, h⟩ := bd h
      obtain ⟨b_13_x, e, r_b_13⟩ := w_go g r_a0.so h6
      refine wq_bd e ?_
      obtain ⟨q_11, h7, h⟩ := bd h
      obtain ⟨_, _, e, g, x⟩ := wc_L (f := f56) h7 (fun e => w56 e g (vl_c (va_r r_b_13.so) (vl_c va_i (vl_c va_i vl_n))))
      refine wq_bd e (wq_up x ?_)
      have r_a0 := r_a0.up x
      have r_o1 := r_o1.up x
      obtain ⟨v_15, h8, h⟩ := bd h
      refine wq_bd (w_gi g r_a0.so h8) ?_
      obtain ⟨b_19, h9, h⟩ := bd h
      obtain ⟨b_19_x, e, r_b_19⟩ := w_go g r_a0.so h9
      refine wq_bd e ?_
      obtain ⟨q_17, h10, h⟩ := bd h
      obtain ⟨_, _, e, g, x⟩ := wc_I (f := f42) h10 (fun e => w42 e g (vl_c (va_r r_b_19.so) (vl_c va_i vl_n)))
      refine wq_bd e (wq_up x ?_)
      have r_a0 := r_a0.up x
      have r_o1 := r_o1.up x
      rcases ite_some h with ⟨q, h⟩ | ⟨q, h⟩
      · refine wq_ip q ?_
        obtain ⟨b_23, h11, h⟩ := bd h
        obtain ⟨b_23_x, e, r_b_23⟩ := w_go g r_a0.so h11
        refine wq_bd e ?_
        obtain ⟨q_21, h12, h⟩ := bd h
        obtain ⟨_, _, e, g, x⟩ := wc_I (f := f57) h12 (fun e => w57 e g (vl_c (va_r r_b_23.so) vl_n))
        refine wq_bd e (wq_up x ?_)
        have r_a0 := r_a0.up x
        have r_o1 := r_o1.up x
        rcases ite_some h with ⟨q, h⟩ | ⟨q, h⟩
        · refine wq_ip q ?_
          obtain ⟨b_32, h13, h⟩ := bd h
          obtain ⟨b_32_x, e, r_b_32⟩ := w_go g r_a0.so h13
          refine wq_bd e ?_
          obtain ⟨q_30, h14, h⟩ := bd h
          obtain ⟨_, _, e, g, x⟩ := wc_I (f := f62) h14 (fun e => w62 e g (vl_c (va_r r_b_32.so) (vl_c va_i (vl_c (va_r r_o1) vl_n))))
          refine wq_bd e (wq_up x ?_)
          rcases ite_some h with ⟨q, h⟩ | ⟨q, h⟩
          · refine wq_ip q ?_
            exact wb63_87 h g 
          · refine wq_in q ?_
            exact wb63_83 h g 
        · refine wq_in q ?_
          obtain ⟨b_27, h15, h⟩ := bd h
          obtain ⟨b_27_x, e, r_b_27⟩ := w_go g r_a0.so h15
          refine wq_bd e ?_
          obtain ⟨q_25, h16, h⟩ := bd h
          obtain ⟨_, _, e, g, x⟩ := wc_I (f := f59) h16 (fun e => w59 e g (vl_c (va_r r_b_27.so) (vl_c va_i (vl_c (va_r r_o1) vl_n))))
          refine wq_bd e (wq_up x ?_)
          rcases ite_some h with ⟨q, h⟩ | ⟨q, h⟩
          · refine wq_ip q ?_
            exact wb63_87 h g 
          · refine wq_in q ?_
            exact wb63_83 h g 
      · refine wq_in q ?_
        exact wb63_87 h g 
    · refine wq_in q ?_
      exact wb63_87 h g 
theorem w63 {Y : Nat → Prop} {M0 : hM} {ρ : Nat → Nat} {as as_x : List aV} {M H M' : hM} {r : Option aV} (h : f63 as M = some (r, M')) (g : rn Y M0 ρ M H) (ha : vl ρ M as as_x) : wr Y M0 ρ M r M' (f63 as_x H) := by
  unfold f63 at h
  split at h
  · rename_i a0 o1
    obtain ⟨a0_x, _, rfl, r_a0, ha1⟩ := vl_is ha
    obtain ⟨o1_x, _, rfl, r_o1, ha2⟩ := vl_ir ha1
    cases vl_in ha2
    exact wx_out h (fun res hx => wb63_0 hx g r_a0 r_o1)
  · cases h
theorem wb64_0 {a0 : Nat} {a0_x : Nat} {Y : Nat → Prop} {M0 : hM} {ρ : Nat → Nat} {M H : hM} {res : xRes} (h : b64_0 a0 M = some res) (g : rn Y M0 ρ M H) (r_a0 : vn ρ M a0 a0_x) : wq Y M0 ρ M res (b64_0 a0_x H) := by
  unfold b64_0 at h ⊢
  obtain ⟨b_3, h1, h⟩ := bd h
  obtain ⟨b_3_x, e, r_b_3⟩ := w_go g r_a0.so h1
  refine wq_bd e ?_
  obtain ⟨q_1, h2, h⟩ := bd h
  obtain ⟨_, _, e, g, x⟩ := wc_L (f := f56) h2 (fun e => w56 e g (vl_c (va_r r_b_3.so) (vl_c va_i (vl_c va_i vl_n))))
  refine wq_bd e (wq_up x ?_)
  cases h
  exact ⟨_, _, rfl, (vs_a va_i), g, ex.rf⟩
theorem w64 {Y : Nat → Prop} {M0 : hM} {ρ : Nat → Nat} {as as_x : List aV} {M H M' : hM} {r : Option aV} (h : f64 as M = some (r, M')) (g : rn Y M0 ρ M H) (ha : vl ρ M as as_x) : wr Y M0 ρ M r M' (f64 as_x H) := by
  unfold f64 at h
  split at h
  · rename_i a0
    obtain ⟨a0_x, _, rfl, r_a0, ha1⟩ := vl_is ha
    cases vl_in ha1
    exact wx_out h (fun res hx => wb64_0 hx g r_a0)
  · cases h
theorem wb65_0 {a0 : Nat} {a0_x : Nat} {Y : Nat → Prop} {M0 : hM} {ρ : Nat → Nat} {M H : hM} {res : xRes} (h : b65_0 a0 M = some res) (g : rn Y M0 ρ M H) (r_a0 : vn ρ M a0 a0_x) : wq Y M0 ρ M res (b65_0 a0_x H) := by
  unfold b65_0 at h ⊢
  obtain ⟨b_3, h1, h⟩ := bd h
  obtain ⟨b_3_x, e, r_b_3⟩ := w_go g r_a0.so h1
  refine wq_bd e ?_
  obtain ⟨q_1, h2, h⟩ := bd h
  obtain ⟨_, _, e, g, x⟩ := wc_L (f := f56) h2 (fun e => w56 e g (vl_c (va_r r_b_3.so) (vl_c va_i (vl_c va_i vl_n))))
  refine wq_bd e (wq_up x ?_)
  cases h
  exact ⟨_, _, rfl, (vs_a va_i), g, ex.rf⟩
theorem w65 {Y : Nat → Prop} {M0 : hM} {ρ : Nat → Nat} {as as_x : List aV} {M H M' : hM} {r : Option aV} (h : f65 as M = some (r, M')) (g : rn Y M0 ρ M H) (ha : vl ρ M as as_x) : wr Y M0 ρ M r M' (f65 as_x H) := by
  unfold f65 at h
  split at h
  · rename_i a0
    obtain ⟨a0_x, _, rfl, r_a0, ha1⟩ := vl_is ha
    cases vl_in ha1
    exact wx_out h (fun res hx => wb65_0 hx g r_a0)
  · cases h
theorem wb66_0 {a0 : Nat} {a0_x : Nat} {Y : Nat → Prop} {M0 : hM} {ρ : Nat → Nat} {M H : hM} {res : xRes} (h : b66_0 a0 M = some res) (g : rn Y M0 ρ M H) (r_a0 : vn ρ M a0 a0_x) : wq Y M0 ρ M res (b66_0 a0_x H) := by
  unfold b66_0 at h ⊢
  obtain ⟨b_3, h1, h⟩ := bd h
  obtain ⟨b_3_x, e, r_b_3⟩ := w_go g r_a0.so h1
  refine wq_bd e ?_
  obtain ⟨q_1, h2, h⟩ := bd h
  obtain ⟨_, _, e, g, x⟩ := wc_L (f := f56) h2 (fun e => w56 e g (vl_c (va_r r_b_3.so) (vl_c va_i (vl_c va_i vl_n))))
  refine wq_bd e (wq_up x ?_)
  cases h
  exact ⟨_, _, rfl, (vs_a va_i), g, ex.rf⟩
theorem w66 {Y : Nat → Prop} {M0 : hM} {ρ : Nat → Nat} {as as_x : List aV} {M H M' : hM} {r : Option aV} (h : f66 as M = some (r, M')) (g : rn Y M0 ρ M H) (ha : vl ρ M as as_x) : wr Y M0 ρ M r M' (f66 as_x H) := by
  unfold f66 at h
  split at h
  · rename_i a0
    obtain ⟨a0_x, _, rfl, r_a0, ha1⟩ := vl_is ha
    cases vl_in ha1
    exact wx_out h (fun res hx => wb66_0 hx g r_a0)
  · cases h
theorem wb67_0 {a0 : Nat} {a0_x : Nat} {v1 : Int32} {o2 : Option Nat} {o2_x : Option Nat} {v3 : Int32} {v4 : Int32} {w5 : Int64} {Y : Nat → Prop} {M0 : hM} {ρ : Nat → Nat} {M H : hM} {res : xRes} (h : b67_0 a0 v1 o2 v3 v4 w5 M = some res) (g : rn Y M0 ρ M H) (r_a0 : vn ρ M a0 a0_x) (r_o2 : vo ρ M o2 o2_x) : wq Y M0 ρ M res (b67_0 a0_x v1 o2_x v3 v4 w5 H) := by
  unfold b67_0 at h ⊢
  obtain ⟨o_1, h1, h⟩ := bd h
  obtain ⟨o_1_x, e, r_o_1⟩ := w_gr g r_a0.so h1
  refine wq_bd e ?_
  obtain ⟨b_5, h2, h⟩ := bd h
  obtain ⟨b_5_x, e, r_b_5⟩ := w_go g r_o2 h2
  refine wq_bd e ?_
  obtain ⟨q_3, h3, h⟩ := bd h
  obtain ⟨_, _, e, g, x⟩ := wc_I (f := f65) h3 (fun e => w65 e g (vl_c (va_r r_b_5.so) vl_n))
  refine wq_bd e (wq_up x ?_)
  have r_a0 := r_a0.up x
  have r_o_1 := r_o_1.up x
  have r_o2 := r_o2.up x
  obtain ⟨o_7, h4, h⟩ := bd h
  obtain ⟨o_7_x, e, r_o_7⟩ := w_gr g r_a0.so h4
  refine wq_bd e ?_
  obtain ⟨v_9, h5, h⟩ := bd h
  refine wq_bd (w_gi g r_o_7 h5) ?_
  obtain ⟨b_13, h6, h⟩ := bd h
  obtain ⟨b_13_x, e, r_b_13⟩ := w_go g r_o2 h6
  refine wq_bd e ?_
  obtain ⟨q_11, h7, h⟩ := bd h
  obtain ⟨_, _, e, g, x⟩ := wc_I (f := f66) h7 (fun e => w66 e g (vl_c (va_r r_b_13.so) vl_n))
  refine wq_bd e (wq_up x ?_)
  have r_a0 := r_a0.up x
  have r_o_1 := r_o_1.up x
  obtain ⟨b_17, h8, h⟩ := bd h
  obtain ⟨b_17_x, e, r_b_17⟩ := w_go g r_o_1 h8
  refine wq_bd e ?_
  obtain ⟨q_15, h9, h⟩ := bd h
  obtain ⟨_, _, _, e, g, x, r_q⟩ := wc_R (f := f34) h9 (fun e => w34 e g (vl_c (va_r r_b_17.so) (vl_c va_i (vl_c va_i (vl_c va_i (vl_c va_i vl_n))))))
  refine wq_bd e (wq_up x ?_)
  have r_a0 := r_a0.up x
  have r_q_15_1 := r_q
  obtain ⟨b_21, h10, h⟩ := bd h
  obtain ⟨b_21_x, e, r_b_21⟩ := w_go g r_q_15_1 h10
  refine wq_bd e ?_
  obtain ⟨q_19, h11, h⟩ := bd h
  obtain ⟨_, _, e, g, x⟩ := wc_V (f := f35) h11 (fun e => w35 e g (vl_c (va_r r_b_21.so) (vl_c va_i (vl_c va_i (vl_c va_l vl_n)))))
  refine wq_bd e (wq_up x ?_)
  have r_a0 := r_a0.up x
  have r_q_15_1 := r_q_15_1.up x
  obtain ⟨b_25, h12, h⟩ := bd h
  obtain ⟨b_25_x, e, r_b_25⟩ := w_go g r_q_15_1 h12
  refine wq_bd e ?_
  obtain ⟨q_23, h13, h⟩ := bd h
  obtain ⟨_, _, e, g, x⟩ := wc_V (f := f36) h13 (fun e => w36 e g (vl_c (va_r r_b_25.so) (vl_c va_i (vl_c va_l vl_n))))
  refine wq_bd e (wq_up x ?_)
  have r_a0 := r_a0.up x
  have r_q_15_1 := r_q_15_1.up x
  obtain ⟨o_27, h14, h⟩ := bd h
  obtain ⟨o_27_x, e, r_o_27⟩ := w_gr g r_a0.so h14
  refine wq_bd e ?_
  obtain ⟨o_29, h15, h⟩ := bd h
  obtain ⟨o_29_x, e, r_o_29⟩ := w_gr g r_o_27 h15
  refine wq_bd e ?_
  obtain ⟨b_33, h16, h⟩ := bd h
  obtain ⟨b_33_x, e, r_b_33⟩ := w_go g r_o_29 h16
  refine wq_bd e ?_
  obtain ⟨q_31, h17, h⟩ := bd h
  obtain ⟨_, _, e, g, x⟩ := wc_V (f := f39) h17 (fun e => w39 e g (vl_c (va_r r_b_33.so) (vl_c (va_r r_q_15_1) vl_n)))
  refine wq_bd e (wq_up x ?_)
  cases h
  exact ⟨_, _, rfl, vs_n, g, ex.rf⟩
theorem w67 {Y : Nat → Prop} {M0 : hM} {ρ : Nat → Nat} {as as_x : List aV} {M H M' : hM} {r : Option aV} (h : f67 as M = some (r, M')) (g : rn Y M0 ρ M H) (ha : vl ρ M as as_x) : wr Y M0 ρ M r M' (f67 as_x H) := by
  unfold f67 at h
  split at h
  · rename_i a0 v1 o2 v3 v4 w5
    obtain ⟨a0_x, _, rfl, r_a0, ha1⟩ := vl_is ha
    obtain ⟨_, rfl, ha2⟩ := vl_ii ha1
    obtain ⟨o2_x, _, rfl, r_o2, ha3⟩ := vl_ir ha2
    obtain ⟨_, rfl, ha4⟩ := vl_ii ha3
    obtain ⟨_, rfl, ha5⟩ := vl_ii ha4
    obtain ⟨_, rfl, ha6⟩ := vl_il ha5
    cases vl_in ha6
    exact wx_out h (fun res hx => wb67_0 hx g r_a0 r_o2)
  · cases h
theorem wb68_34 {si0 : Int32} {Y : Nat → Prop} {M0 : hM} {ρ : Nat → Nat} {M H : hM} {res : xRes} (h : b68_34 si0 M = some res) (g : rn Y M0 ρ M H)  : wq Y M0 ρ M res (b68_34 si0 H) := by
  unfold b68_34 at h ⊢
  rcases ite_some h with ⟨q, h⟩ | ⟨q, h⟩
  · refine wq_ip q ?_
    cases h
    exact ⟨_, _, rfl, (vs_a va_i), g, ex.rf⟩
  · refine wq_in q ?_
    cases h
theorem wb68_33  {Y : Nat → Prop} {M0 : hM} {ρ : Nat → Nat} {M H : hM} {res : xRes} (h : b68_33  M = some res) (g : rn Y M0 ρ M H)  : wq Y M0 ρ M res (b68_33  H) := by
  unfold b68_33 at h ⊢
  exact wb68_34 h g 
theorem wb68_0 {a0 : Nat} {a0_x : Nat} {o1 : Option Nat} {o1_x : Option Nat} {Y : Nat → Prop} {M0 : hM} {ρ : Nat → Nat} {M H : hM} {res : xRes} (h : b68_0 a0 o1 M = some res) (g : rn Y M0 ρ M H) (r_a0 : vn ρ M a0 a0_x) (r_o1 : vo ρ M o1 o1_x) : wq Y M0 ρ M res (b68_0 a0_x o1_x H) := by
  unfold b68_0 at h ⊢
  obtain ⟨v_1, h1, h⟩ := bd h
  refine wq_bd (w_gi g r_a0.so h1) ?_
  rcases ite_some h with ⟨q, h⟩ | ⟨q, h⟩
  · refine wq_ip q ?_
    exact wb68_33 h g 
  · refine wq_in q ?_
    obtain ⟨v_3, h2, h⟩ := bd h
    refine wq_bd (w_gi g r_a0.so h2) ?_
    obtain ⟨b_7, h3, h⟩ := bd h
    obtain ⟨b_7_x, e, r_b_7⟩ := w_go g r_o1 h3
    refine wq_bd e ?_
    obtain ⟨q_5, h4, h⟩ := bd h
    obtain ⟨_, _, e, g, x⟩ := wc_I (f := f66) h4 (fun e => w66 e g (vl_c (va_r r_b_7.so) vl_n))
    refine wq_bd e (wq_up x ?_)
    have r_a0 := r_a0.up x
    have r_o1 := r_o1.up x
    rcases ite_some h with ⟨q, h⟩ | ⟨q, h⟩
    · refine wq_ip q ?_
      obtain ⟨v_9, h5, h⟩ := bd h
      refine wq_bd (w_gi g r_a0.so h5) ?_
      obtain ⟨b_13, h6, h⟩ := bd h
      obtain ⟨b_13_x, e, r_b_13⟩ := w_go g r_o1 h6
      refine wq_bd e ?_
      obtain ⟨q_11, h7, h⟩ := bd h
      obtain ⟨_, _, e, g, x⟩ := wc_I (f := f65) h7 (fun e => w65 e g (vl_c (va_r r_b_13.so) vl_n))
      refine wq_bd e (wq_up x ?_)
      rcases ite_some h with ⟨q, h⟩ | ⟨q, h⟩
      · refine wq_ip q ?_
        exact wb68_34 h g 
      · refine wq_in q ?_
        exact wb68_33 h g 
    · refine wq_in q ?_
      exact wb68_33 h g 
theorem w68 {Y : Nat → Prop} {M0 : hM} {ρ : Nat → Nat} {as as_x : List aV} {M H M' : hM} {r : Option aV} (h : f68 as M = some (r, M')) (g : rn Y M0 ρ M H) (ha : vl ρ M as as_x) : wr Y M0 ρ M r M' (f68 as_x H) := by
  unfold f68 at h
  split at h
  · rename_i a0 o1
    obtain ⟨a0_x, _, rfl, r_a0, ha1⟩ := vl_is ha
    obtain ⟨o1_x, _, rfl, r_o1, ha2⟩ := vl_ir ha1
    cases vl_in ha2
    exact wx_out h (fun res hx => wb68_0 hx g r_a0 r_o1)
  · cases h
theorem wb69_0 {a0 : Nat} {a0_x : Nat} {o1 : Option Nat} {o1_x : Option Nat} {Y : Nat → Prop} {M0 : hM} {ρ : Nat → Nat} {M H : hM} {res : xRes} (h : b69_0 a0 o1 M = some res) (g : rn Y M0 ρ M H) (r_a0 : vn ρ M a0 a0_x) (r_o1 : vo ρ M o1 o1_x) : wq Y M0 ρ M res (b69_0 a0_x o1_x H) := by
  unfold b69_0 at h ⊢
  cases h
  exact ⟨_, _, rfl, (vs_g (vl_c (va_r r_a0.so) (vl_c (va_r r_o1) (vl_c va_i vl_n)))), g, ex.rf⟩
theorem wb69_31 {a0 : Nat} {a0_x : Nat} {o1 : Option Nat} {o1_x : Option Nat} {v2 : Int32} {Y : Nat → Prop} {M0 : hM} {ρ : Nat → Nat} {M H : hM} {res : xRes} (h : b69_31 a0 o1 v2 M = some res) (g : rn Y M0 ρ M H) (r_a0 : vn ρ M a0 a0_x) (r_o1 : vo ρ M o1 o1_x) : wq Y M0 ρ M res (b69_31 a0_x o1_x v2 H) := by
  unfold b69_31 at h ⊢
  cases h
  exact ⟨_, _, rfl, (vs_g (vl_c (va_r r_a0.so) (vl_c (va_r r_o1) (vl_c va_i vl_n)))), g, ex.rf⟩
theorem wb69_2 {a0 : Nat} {a0_x : Nat} {o1 : Option Nat} {o1_x : Option Nat} {v2 : Int32} {Y : Nat → Prop} {M0 : hM} {ρ : Nat → Nat} {M H : hM} {res : xRes} (h : b69_2 a0 o1 v2 M = some res) (g : rn Y M0 ρ M H) (r_a0 : vn ρ M a0 a0_x) (r_o1 : vo ρ M o1 o1_x) : wq Y M0 ρ M res (b69_2 a0_x o1_x v2 H) := by
  unfold b69_2 at h ⊢
  rcases ite_some h with ⟨q, h⟩ | ⟨q, h⟩
  · refine wq_ip q ?_
    obtain ⟨b_3, h1, h⟩ := bd h
    obtain ⟨b_3_x, e, r_b_3⟩ := w_go g r_a0.so h1
    refine wq_bd e ?_
    obtain ⟨q_1, h2, h⟩ := bd h
    obtain ⟨_, _, e, g, x⟩ := wc_V (f := f67) h2 (fun e => w67 e g (vl_c (va_r r_b_3.so) (vl_c va_i (vl_c (va_r r_o1) (vl_c va_i (vl_c va_i (vl_c va_l vl_n)))))))
    refine wq_bd e (wq_up x ?_)
    cases h
    exact ⟨_, _, rfl, vs_n, g, ex.rf⟩
  · refine wq_in q ?_
    obtain ⟨o_5, h3, h⟩ := bd h
    obtain ⟨o_5_x, e, r_o_5⟩ := w_gr g r_a0.so h3
    refine wq_bd e ?_
    obtain ⟨o_7, h4, h⟩ := bd h
    obtain ⟨o_7_x, e, r_o_7⟩ := w_alr g r_o_5 h4
    refine wq_bd e ?_
    obtain ⟨b_11, h5, h⟩ := bd h
    obtain ⟨b_11_x, e, r_b_11⟩ := w_go g r_o_7 h5
    refine wq_bd e ?_
    obtain ⟨q_9, h6, h⟩ := bd h
    obtain ⟨_, _, e, g, x⟩ := wc_I (f := f68) h6 (fun e => w68 e g (vl_c (va_r r_b_11.so) (vl_c (va_r r_o1) vl_n)))
    refine wq_bd e (wq_up x ?_)
    have r_a0 := r_a0.up x
    have r_o1 := r_o1.up x
    rcases ite_some h with ⟨q, h⟩ | ⟨q, h⟩
    · refine wq_ip q ?_
      exact wb69_31 h g r_a0 r_o1
    · refine wq_in q ?_
      obtain ⟨o_13, h7, h⟩ := bd h
      obtain ⟨o_13_x, e, r_o_13⟩ := w_gr g r_a0.so h7
      refine wq_bd e ?_
      obtain ⟨o_15, h8, h⟩ := bd h
      obtain ⟨o_15_x, e, r_o_15⟩ := w_alr g r_o_13 h8
      refine wq_bd e ?_
      obtain ⟨M17, h9, h⟩ := bd h
      obtain ⟨_, e, g, x⟩ := w_pz g r_o_15 h9
      refine wq_bd e (wq_up x ?_)
      have r_a0 := r_a0.up x
      have r_o1 := r_o1.up x
      exact wb69_31 h g r_a0 r_o1
theorem w69 {Y : Nat → Prop} {M0 : hM} {ρ : Nat → Nat} {as as_x : List aV} {M H M' : hM} {r : Option aV} (h : f69 as M = some (r, M')) (g : rn Y M0 ρ M H) (ha : vl ρ M as as_x) : wr Y M0 ρ M r M' (f69 as_x H) := by
  unfold f69 at h
  split at h
  · rename_i a0 o1
    obtain ⟨a0_x, _, rfl, r_a0, ha1⟩ := vl_is ha
    obtain ⟨o1_x, _, rfl, r_o1, ha2⟩ := vl_ir ha1
    cases vl_in ha2
    show wr Y M0 ρ M r M' (x_go k69 (b69_0 a0_x o1_x H))
    refine wx_go (blk := k69) ?_ h (fun res hx => wb69_0 hx g r_a0 r_o1)
    intro ρ h as as_x M H res hk g ha
    unfold k69 at hk
    split at hk
    · rename_i hh
      subst hh
      split at hk
      · rename_i a0 o1 v2
        obtain ⟨a0_x, _, rfl, r_a0, ha1⟩ := vl_is ha
        obtain ⟨o1_x, _, rfl, r_o1, ha2⟩ := vl_ir ha1
        obtain ⟨_, rfl, ha3⟩ := vl_ii ha2
        cases vl_in ha3
        exact wb69_2 hk g r_a0 r_o1
      · cases hk
    · skip
      cases hk
  · cases h
theorem wb70_0 {a0 : Nat} {a0_x : Nat} {Y : Nat → Prop} {M0 : hM} {ρ : Nat → Nat} {M H : hM} {res : xRes} (h : b70_0 a0 M = some res) (g : rn Y M0 ρ M H) (r_a0 : vn ρ M a0 a0_x) : wq Y M0 ρ M res (b70_0 a0_x H) := by
  unfold b70_0 at h ⊢
  obtain ⟨b_3, h1, h⟩ := bd h
  obtain ⟨b_3_x, e, r_b_3⟩ := w_go g r_a0.so h1
  refine wq_bd e ?_
  obtain ⟨q_1, h2, h⟩ := bd h
  obtain ⟨_, _, e, g, x⟩ := wc_L (f := f56) h2 (fun e => w56 e g (vl_c (va_r r_b_3.so) (vl_c va_i (vl_c va_i vl_n))))
  refine wq_bd e (wq_up x ?_)
  cases h
  exact ⟨_, _, rfl, (vs_a va_i), g, ex.rf⟩
theorem w70 {Y : Nat → Prop} {M0 : hM} {ρ : Nat → Nat} {as as_x : List aV} {M H M' : hM} {r : Option aV} (h : f70 as M = some (r, M')) (g : rn Y M0 ρ M H) (ha : vl ρ M as as_x) : wr Y M0 ρ M r M' (f70 as_x H) := by
  unfold f70 at h
  split at h
  · rename_i a0
    obtain ⟨a0_x, _, rfl, r_a0, ha1⟩ := vl_is ha
    cases vl_in ha1
    exact wx_out h (fun res hx => wb70_0 hx g r_a0)
  · cases h
theorem wb71_0 {a0 : Nat} {a0_x : Nat} {Y : Nat → Prop} {M0 : hM} {ρ : Nat → Nat} {M H : hM} {res : xRes} (h : b71_0 a0 M = some res) (g : rn Y M0 ρ M H) (r_a0 : vn ρ M a0 a0_x) : wq Y M0 ρ M res (b71_0 a0_x H) := by
  unfold b71_0 at h ⊢
  obtain ⟨b_3, h1, h⟩ := bd h
  obtain ⟨b_3_x, e, r_b_3⟩ := w_go g r_a0.so h1
  refine wq_bd e ?_
  obtain ⟨q_1, h2, h⟩ := bd h
  obtain ⟨_, _, e, g, x⟩ := wc_I (f := f55) h2 (fun e => w55 e g (vl_c (va_r r_b_3.so) (vl_c va_i vl_n)))
  refine wq_bd e (wq_up x ?_)
  cases h
  exact ⟨_, _, rfl, (vs_a va_i), g, ex.rf⟩
theorem w71 {Y : Nat → Prop} {M0 : hM} {ρ : Nat → Nat} {as as_x : List aV} {M H M' : hM} {r : Option aV} (h : f71 as M = some (r, M')) (g : rn Y M0 ρ M H) (ha : vl ρ M as as_x) : wr Y M0 ρ M r M' (f71 as_x H) := by
  unfold f71 at h
  split at h
  · rename_i a0
    obtain ⟨a0_x, _, rfl, r_a0, ha1⟩ := vl_is ha
    cases vl_in ha1
    exact wx_out h (fun res hx => wb71_0 hx g r_a0)
  · cases h
theorem wb72_28  {Y : Nat → Prop} {M0 : hM} {ρ : Nat → Nat} {M H : hM} {res : xRes} (h : b72_28  M = some res) (g : rn Y M0 ρ M H)  : wq Y M0 ρ M res (b72_28  H) := by
  unfold b72_28 at h ⊢
  cases h
  exact ⟨_, _, rfl, vs_n, g, ex.rf⟩
theorem wb72_0 {a0 : Nat} {a0_x : Nat} {v1 : Int32} {w2 : Int64} {Y : Nat → Prop} {M0 : hM} {ρ : Nat → Nat} {M H : hM} {res : xRes} (h : b72_0 a0 v1 w2 M = some res) (g : rn Y M0 ρ M H) (r_a0 : vn ρ M a0 a0_x) : wq Y M0 ρ M res (b72_0 a0_x v1 w2 H) := by
  unfold b72_0 at h ⊢
  rcases ite_some h with ⟨q, h⟩ | ⟨q, h⟩
  · refine wq_ip q ?_
    exact wb72_28 h g 
  · refine wq_in q ?_
    rcases ite_some h with ⟨q, h⟩ | ⟨q, h⟩
    · refine wq_ip q ?_
      exact wb72_28 h g 
    · refine wq_in q ?_
      obtain ⟨o_1, h1, h⟩ := bd h
      obtain ⟨o_1_x, e, r_o_1⟩ := w_gr g r_a0.so h1
      refine wq_bd e ?_
      obtain ⟨M3, h2, h⟩ := bd h
      obtain ⟨_, e, g, x⟩ := w_asl g r_o_1 h2
      refine wq_bd e (wq_up x ?_)
      have r_a0 := r_a0.up x
      obtain ⟨v_5, h3, h⟩ := bd h
      refine wq_bd (w_gi g r_a0.so h3) ?_
      obtain ⟨M7, h4, h⟩ := bd h
      obtain ⟨_, e, g, x⟩ := w_pi g r_a0.so h4
      refine wq_bd e (wq_up x ?_)
      exact wb72_28 h g 
theorem w72 {Y : Nat → Prop} {M0 : hM} {ρ : Nat → Nat} {as as_x : List aV} {M H M' : hM} {r : Option aV} (h : f72 as M = some (r, M')) (g : rn Y M0 ρ M H) (ha : vl ρ M as as_x) : wr Y M0 ρ M r M' (f72 as_x H) := by
  unfold f72 at h
  split at h
  · rename_i a0 v1 w2
    obtain ⟨a0_x, _, rfl, r_a0, ha1⟩ := vl_is ha
    obtain ⟨_, rfl, ha2⟩ := vl_ii ha1
    obtain ⟨_, rfl, ha3⟩ := vl_il ha2
    cases vl_in ha3
    exact wx_out h (fun res hx => wb72_0 hx g r_a0)
  · cases h
theorem wb73_20 {si0 : Int32} {Y : Nat → Prop} {M0 : hM} {ρ : Nat → Nat} {M H : hM} {res : xRes} (h : b73_20 si0 M = some res) (g : rn Y M0 ρ M H)  : wq Y M0 ρ M res (b73_20 si0 H) := by
  unfold b73_20 at h ⊢
  rcases ite_some h with ⟨q, h⟩ | ⟨q, h⟩
  · refine wq_ip q ?_
    cases h
    exact ⟨_, _, rfl, (vs_a va_i), g, ex.rf⟩
  · refine wq_in q ?_
    cases h
theorem wb73_0 {a0 : Nat} {a0_x : Nat} {Y : Nat → Prop} {M0 : hM} {ρ : Nat → Nat} {M H : hM} {res : xRes} (h : b73_0 a0 M = some res) (g : rn Y M0 ρ M H) (r_a0 : vn ρ M a0 a0_x) : wq Y M0 ρ M res (b73_0 a0_x H) := by
  unfold b73_0 at h ⊢
  obtain ⟨v_1, h1, h⟩ := bd h
  refine wq_bd (w_gi g r_a0.so h1) ?_
  obtain ⟨v_3, h2, h⟩ := bd h
  refine wq_bd (w_gi g r_a0.so h2) ?_
  rcases ite_some h with ⟨q, h⟩ | ⟨q, h⟩
  · refine wq_ip q ?_
    exact wb73_20 h g 
  · refine wq_in q ?_
    exact wb73_20 h g 
theorem w73 {Y : Nat → Prop} {M0 : hM} {ρ : Nat → Nat} {as as_x : List aV} {M H M' : hM} {r : Option aV} (h : f73 as M = some (r, M')) (g : rn Y M0 ρ M H) (ha : vl ρ M as as_x) : wr Y M0 ρ M r M' (f73 as_x H) := by
  unfold f73 at h
  split at h
  · rename_i a0
    obtain ⟨a0_x, _, rfl, r_a0, ha1⟩ := vl_is ha
    cases vl_in ha1
    exact wx_out h (fun res hx => wb73_0 hx g r_a0)
  · cases h
theorem wb74_0 {a0 : Nat} {a0_x : Nat} {o1 : Option Nat} {o1_x : Option Nat} {Y : Nat → Prop} {M0 : hM} {ρ : Nat → Nat} {M H : hM} {res : xRes} (h : b74_0 a0 o1 M = some res) (g : rn Y M0 ρ M H) (r_a0 : vn ρ M a0 a0_x) (r_o1 : vo ρ M o1 o1_x) : wq Y M0 ρ M res (b74_0 a0_x o1_x H) := by
  unfold b74_0 at h ⊢
  cases h
  exact ⟨_, _, rfl, (vs_g (vl_c (va_r r_a0.so) (vl_c (va_r r_o1) (vl_c va_i vl_n)))), g, ex.rf⟩
theorem wb74_47 {o1 : Option Nat} {o1_x : Option Nat} {Y : Nat → Prop} {M0 : hM} {ρ : Nat → Nat} {M H : hM} {res : xRes} (h : b74_47 o1 M = some res) (g : rn Y M0 ρ M H) (r_o1 : vo ρ M o1 o1_x) : wq Y M0 ρ M res (b74_47 o1_x H) := by
  unfold b74_47 at h ⊢
  obtain ⟨M21, h1, h⟩ := bd h
  obtain ⟨_, e, g, x⟩ := w_pz g r_o1 h1
  refine wq_bd e (wq_up x ?_)
  cases h
  exact ⟨_, _, rfl, vs_n, g, ex.rf⟩
theorem wb74_2 {a0 : Nat} {a0_x : Nat} {o1 : Option Nat} {o1_x : Option Nat} {v2 : Int32} {Y : Nat → Prop} {M0 : hM} {ρ : Nat → Nat} {M H : hM} {res : xRes} (h : b74_2 a0 o1 v2 M = some res) (g : rn Y M0 ρ M H) (r_a0 : vn ρ M a0 a0_x) (r_o1 : vo ρ M o1 o1_x) : wq Y M0 ρ M res (b74_2 a0_x o1_x v2 H) := by
  unfold b74_2 at h ⊢
  obtain ⟨v_1, h1, h⟩ := bd h
  refine wq_bd (w_gi g r_o1 h1) ?_
  rcases ite_some h with ⟨q, h⟩ | ⟨q, h⟩
  · refine wq_ip q ?_
    exact wb74_47 h g r_o1
  · refine wq_in q ?_
    obtain ⟨v_3, h2, h⟩ := bd h
    refine wq_bd (w_gi g r_o1 h2) ?_
    obtain ⟨o_5, h3, h⟩ := bd h
    obtain ⟨o_5_x, e, r_o_5⟩ := w_gr g r_a0.so h3
    refine wq_bd e ?_
    obtain ⟨v_7, h4, h⟩ := bd h
    refine wq_bd (w_aln g r_o_5 h4) ?_
    rcases ite_some h with ⟨q, h⟩ | ⟨q, h⟩
    · refine wq_ip q ?_
      exact wb74_47 h g r_o1
    · refine wq_in q ?_
      obtain ⟨o_9, h5, h⟩ := bd h
      obtain ⟨o_9_x, e, r_o_9⟩ := w_gr g r_a0.so h5
      refine wq_bd e ?_
      obtain ⟨v_11, h6, h⟩ := bd h
      refine wq_bd (w_gi g r_o1 h6) ?_
      obtain ⟨o_13, h7, h⟩ := bd h
      obtain ⟨o_13_x, e, r_o_13⟩ := w_gr g r_o1 h7
      refine wq_bd e ?_
      obtain ⟨w_15, h8, h⟩ := bd h
      refine wq_bd (w_all g r_o_13 h8) ?_
      obtain ⟨M17, h9, h⟩ := bd h
      obtain ⟨_, e, g, x⟩ := w_asl g r_o_9 h9
      refine wq_bd e (wq_up x ?_)
      have r_a0 := r_a0.up x
      have r_o1 := r_o1.up x
      cases h
      exact ⟨_, _, rfl, (vs_g (vl_c (va_r r_a0.so) (vl_c (va_r r_o1) (vl_c va_i vl_n)))), g, ex.rf⟩
theorem w74 {Y : Nat → Prop} {M0 : hM} {ρ : Nat → Nat} {as as_x : List aV} {M H M' : hM} {r : Option aV} (h : f74 as M = some (r, M')) (g : rn Y M0 ρ M H) (ha : vl ρ M as as_x) : wr Y M0 ρ M r M' (f74 as_x H) := by
  unfold f74 at h
  split at h
  · rename_i a0 o1
    obtain ⟨a0_x, _, rfl, r_a0, ha1⟩ := vl_is ha
    obtain ⟨o1_x, _, rfl, r_o1, ha2⟩ := vl_ir ha1
    cases vl_in ha2
    show wr Y M0 ρ M r M' (x_go k74 (b74_0 a0_x o1_x H))
    refine wx_go (blk := k74) ?_ h (fun res hx => wb74_0 hx g r_a0 r_o1)
    intro ρ h as as_x M H res hk g ha
    unfold k74 at hk
    split at hk
    · rename_i hh
      subst hh
      split at hk
      · rename_i a0 o1 v2
        obtain ⟨a0_x, _, rfl, r_a0, ha1⟩ := vl_is ha
        obtain ⟨o1_x, _, rfl, r_o1, ha2⟩ := vl_ir ha1
        obtain ⟨_, rfl, ha3⟩ := vl_ii ha2
        cases vl_in ha3
        exact wb74_2 hk g r_a0 r_o1
      · cases hk
    · skip
      cases hk
  · cases h
theorem wb75_0 {a0 : Nat} {a0_x : Nat} {o1 : Option Nat} {o1_x : Option Nat} {Y : Nat → Prop} {M0 : hM} {ρ : Nat → Nat} {M H : hM} {res : xRes} (h : b75_0 a0 o1 M = some res) (g : rn Y M0 ρ M H) (r_a0 : vn ρ M a0 a0_x) (r_o1 : vo ρ M o1 o1_x) : wq Y M0 ρ M res (b75_0 a0_x o1_x H) := by
  unfold b75_0 at h ⊢
  cases h
  exact ⟨_, _, rfl, (vs_g (vl_c (va_r r_a0.so) (vl_c (va_r r_o1) (vl_c va_i vl_n)))), g, ex.rf⟩
theorem wb75_86 {a0 : Nat} {a0_x : Nat} {o1 : Option Nat} {o1_x : Option Nat} {v2 : Int32} {Y : Nat → Prop} {M0 : hM} {ρ : Nat → Nat} {M H : hM} {res : xRes} (h : b75_86 a0 o1 v2 M = some res) (g : rn Y M0 ρ M H) (r_a0 : vn ρ M a0 a0_x) (r_o1 : vo ρ M o1 o1_x) : wq Y M0 ρ M res (b75_86 a0_x o1_x v2 H) := by
  unfold b75_86 at h ⊢
  cases h
  exact ⟨_, _, rfl, (vs_g (vl_c (va_r r_a0.so) (vl_c (va_r r_o1) (vl_c va_i vl_n)))), g, ex.rf⟩
theorem wb75_2 {a0 : Nat} {a0_x : Nat} {o1 : Option Nat} {o1_x : Option Nat} {v2 : Int32} {Y : Nat → Prop} {M0 : hM} {ρ : Nat → Nat} {M H : hM} {res : xRes} (h : b75_2 a0 o1 v2 M = some res) (g : rn Y M0 ρ M H) (r_a0 : vn ρ M a0 a0_x) (r_o1 : vo ρ M o1 o1_x) : wq Y M0 ρ M res (b75_2 a0_x o1_x v2 H) := by
  unfold b75_2 at h ⊢
  rcases ite_some h with ⟨q, h⟩ | ⟨q, h⟩
  · refine wq_ip q ?_
    cases h
    exact ⟨_, _, rfl, vs_n, g, ex.rf⟩
  · refine wq_in q ?_
    obtain ⟨o_1, h1, h⟩ := bd h
    obtain ⟨o_1_x, e, r_o_1⟩ := w_gr g r_a0.so h1
    refine wq_bd e ?_
    obtain ⟨o_3, h2, h⟩ := bd h
    obtain ⟨o_3_x, e, r_o_3⟩ := w_alr g r_o_1 h2
    refine wq_bd e ?_
    obtain ⟨b_7, h3, h⟩ := bd h
    obtain ⟨b_7_x, e, r_b_7⟩ := w_go g r_o_3 h3
    refine wq_bd e ?_
    obtain ⟨q_5, h4, h⟩ := bd h
    obtain ⟨_, _, e, g, x⟩ := wc_I (f := f68) h4 (fun e => w68 e g (vl_c (va_r r_b_7.so) (vl_c (va_r r_o1) vl_n)))
    refine wq_bd e (wq_up x ?_)
    have r_a0 := r_a0.up x
    have r_o1 := r_o1.up x
    have r_o_3 := r_o_3.up x
    rcases ite_some h with ⟨q, h⟩ | ⟨q, h⟩
    · refine wq_ip q ?_
      exact wb75_86 h g r_a0 r_o1
    · refine wq_in q ?_
      obtain ⟨v_9, h5, h⟩ := bd h
      refine wq_bd (w_gi g r_o_3 h5) ?_
      obtain ⟨b_13, h6, h⟩ := bd h
      obtain ⟨b_13_x, e, r_b_13⟩ := w_go g r_o1 h6
      refine wq_bd e ?_
      obtain ⟨q_11, h7, h⟩ := bd h
      obtain ⟨_, _, e, g, x⟩ := wc_I (f := f70) h7 (fun e => w70 e g (vl_c (va_r r_b_13.so) vl_n))
      refine wq_bd e (wq_up x ?_)
      have r_a0 := r_a0.up x
      have r_o_3 := r_o_3.up x
      have r_o1 := r_o1.up x
      rcases ite_some h with ⟨q, h⟩ | ⟨q, h⟩
      · refine wq_ip q ?_
        obtain ⟨b_17, h8, h⟩ := bd h
        obtain ⟨b_17_x, e, r_b_17⟩ := w_go g r_o1 h8
        refine wq_bd e ?_
        obtain ⟨q_15, h9, h⟩ := bd h
        obtain ⟨_, _, e, g, x⟩ := wc_I (f := f71) h9 (fun e => w71 e g (vl_c (va_r r_b_17.so) vl_n))
        refine wq_bd e (wq_up x ?_)
        have r_a0 := r_a0.up x
        have r_o_3 := r_o_3.up x
        have r_o1 := r_o1.up x
        obtain ⟨v_19, h10, h⟩ := bd h
        refine wq_bd (w_gi g r_o_3 h10) ?_
        rcases ite_some h with ⟨q, h⟩ | ⟨q, h⟩
        · refine wq_ip q ?_
          exact wb75_86 h g r_a0 r_o1
        · refine wq_in q ?_
          obtain ⟨b_23, h11, h⟩ := bd h
          obtain ⟨b_23_x, e, r_b_23⟩ := w_go g r_o1 h11
          refine wq_bd e ?_
          obtain ⟨q_21, h12, h⟩ := bd h
          obtain ⟨_, _, e, g, x⟩ := wc_I (f := f71) h12 (fun e => w71 e g (vl_c (va_r r_b_23.so) vl_n))
          refine wq_bd e (wq_up x ?_)
          have r_a0 := r_a0.up x
          have r_o_3 := r_o_3.up x
          have r_o1 := r_o1.up x
          obtain ⟨b_27, h13, h⟩ := bd h
          obtain ⟨b_27_x, e, r_b_27⟩ := w_go g r_o1 h13
          refine wq_bd e ?_
          obtain ⟨q_25, h14, h⟩ := bd h
          obtain ⟨_, _, e, g, x⟩ := wc_L (f := f56) h14 (fun e => w56 e g (vl_c (va_r r_b_27.so) (vl_c va_i (vl_c va_i vl_n))))
          refine wq_bd e (wq_up x ?_)
          have r_a0 := r_a0.up x
          have r_o_3 := r_o_3.up x
          have r_o1 := r_o1.up x
          obtain ⟨b_31, h15, h⟩ := bd h
          obtain ⟨b_31_x, e, r_b_31⟩ := w_go g r_o_3 h15
          refine wq_bd e ?_
          obtain ⟨q_29, h16, h⟩ := bd h
          obtain ⟨_, _, e, g, x⟩ := wc_V (f := f72) h16 (fun e => w72 e g (vl_c (va_r r_b_31.so) (vl_c va_i (vl_c va_l vl_n))))
          refine wq_bd e (wq_up x ?_)
          have r_a0 := r_a0.up x
          have r_o_3 := r_o_3.up x
          have r_o1 := r_o1.up x
          obtain ⟨b_35, h17, h⟩ := bd h
          obtain ⟨b_35_x, e, r_b_35⟩ := w_go g r_o_3 h17
          refine wq_bd e ?_
          obtain ⟨q_33, h18, h⟩ := bd h
          obtain ⟨_, _, e, g, x⟩ := wc_I (f := f73) h18 (fun e => w73 e g (vl_c (va_r r_b_35.so) vl_n))
          refine wq_bd e (wq_up x ?_)
          have r_a0 := r_a0.up x
          have r_o_3 := r_o_3.up x
          have r_o1 := r_o1.up x
          rcases ite_some h with ⟨q, h⟩ | ⟨q, h⟩
          · refine wq_ip q ?_
            exact wb75_86 h g r_a0 r_o1
          · refine wq_in q ?_
            obtain ⟨b_39, h19, h⟩ := bd h
            obtain ⟨b_39_x, e, r_b_39⟩ := w_go g r_a0.so h19
            refine wq_bd e ?_
            obtain ⟨q_37, h20, h⟩ := bd h
            obtain ⟨_, _, e, g, x⟩ := wc_V (f := f74) h20 (fun e => w74 e g (vl_c (va_r r_b_39.so) (vl_c (va_r r_o_3) vl_n)))
            refine wq_bd e (wq_up x ?_)
            have r_a0 := r_a0.up x
            have r_o_3 := r_o_3.up x
            have r_o1 := r_o1.up x
            obtain ⟨v_41, h21, h⟩ := bd h
            refine wq_bd (w_gi g r_o_3 h21) ?_
            obtain ⟨b_45, h22, h⟩ := bd h
            obtain ⟨b_45_x, e, r_b_45⟩ := w_go g r_a0.so h22
            refine wq_bd e ?_
            obtain ⟨q_43, h23, h⟩ := bd h
            obtain ⟨_, _, e, g, x⟩ := wc_V (f := f67) h23 (fun e => w67 e g (vl_c (va_r r_b_45.so) (vl_c va_i (vl_c (va_r r_o1) (vl_c va_i (vl_c va_i (vl_c va_l vl_n)))))))
            refine wq_bd e (wq_up x ?_)
            have r_a0 := r_a0.up x
            have r_o1 := r_o1.up x
            exact wb75_86 h g r_a0 r_o1
      · refine wq_in q ?_
        exact wb75_86 h g r_a0 r_o1
theorem w75 {Y : Nat → Prop} {M0 : hM} {ρ : Nat → Nat} {as as_x : List aV} {M H M' : hM} {r : Option aV} (h : f75 as M = some (r, M')) (g : rn Y M0 ρ M H) (ha : vl ρ M as as_x) : wr Y M0 ρ M r M' (f75 as_x H) := by
  unfold f75 at h
  split at h
  · rename_i a0 o1
    obtain ⟨a0_x, _, rfl, r_a0, ha1⟩ := vl_is ha
    obtain ⟨o1_x, _, rfl, r_o1, ha2⟩ := vl_ir ha1
    cases vl_in ha2
    show wr Y M0 ρ M r M' (x_go k75 (b75_0 a0_x o1_x H))
    refine wx_go (blk := k75) ?_ h (fun res hx => wb75_0 hx g r_a0 r_o1)
    intro ρ h as as_x M H res hk g ha
    unfold k75 at hk
    split at hk
    · rename_i hh
      subst hh
      split at hk
      · rename_i a0 o1 v2
        obtain ⟨a0_x, _, rfl, r_a0, ha1⟩ := vl_is ha
        obtain ⟨o1_x, _, rfl, r_o1, ha2⟩ := vl_ir ha1
        obtain ⟨_, rfl, ha3⟩ := vl_ii ha2
        cases vl_in ha3
        exact wb75_2 hk g r_a0 r_o1
      · cases hk
    · skip
      cases hk
  · cases h
theorem wb76_0 {a0 : Nat} {a0_x : Nat} {Y : Nat → Prop} {M0 : hM} {ρ : Nat → Nat} {M H : hM} {res : xRes} (h : b76_0 a0 M = some res) (g : rn Y M0 ρ M H) (r_a0 : vn ρ M a0 a0_x) : wq Y M0 ρ M res (b76_0 a0_x H) := by
  unfold b76_0 at h ⊢
  cases h
  exact ⟨_, _, rfl, (vs_g (vl_c (va_r r_a0.so) (vl_c va_i vl_n))), g, ex.rf⟩
theorem wb76_2 {a0 : Nat} {a0_x : Nat} {v1 : Int32} {Y : Nat → Prop} {M0 : hM} {ρ : Nat → Nat} {M H : hM} {res : xRes} (h : b76_2 a0 v1 M = some res) (g : rn Y M0 ρ M H) (r_a0 : vn ρ M a0 a0_x) : wq Y M0 ρ M res (b76_2 a0_x v1 H) := by
  unfold b76_2 at h ⊢
  rcases ite_some h with ⟨q, h⟩ | ⟨q, h⟩
  · refine wq_ip q ?_
    cases h
    exact ⟨_, _, rfl, (vs_a (va_r vo_no)), g, ex.rf⟩
  · refine wq_in q ?_
    obtain ⟨o_1, h1, h⟩ := bd h
    obtain ⟨o_1_x, e, r_o_1⟩ := w_gr g r_a0.so h1
    refine wq_bd e ?_
    obtain ⟨o_3, h2, h⟩ := bd h
    obtain ⟨o_3_x, e, r_o_3⟩ := w_alr g r_o_1 h2
    refine wq_bd e ?_
    obtain ⟨v_5, h3, h⟩ := bd h
    refine wq_bd (w_gi g r_o_3 h3) ?_
    rcases ite_some h with ⟨q, h⟩ | ⟨q, h⟩
    · refine wq_ip q ?_
      obtain ⟨o_7, h4, h⟩ := bd h
      obtain ⟨o_7_x, e, r_o_7⟩ := w_gr g r_a0.so h4
      refine wq_bd e ?_
      obtain ⟨o_9, h5, h⟩ := bd h
      obtain ⟨o_9_x, e, r_o_9⟩ := w_alr g r_o_7 h5
      refine wq_bd e ?_
      cases h
      exact ⟨_, _, rfl, (vs_a (va_r r_o_9)), g, ex.rf⟩
    · refine wq_in q ?_
      cases h
      exact ⟨_, _, rfl, (vs_g (vl_c (va_r r_a0.so) (vl_c va_i vl_n))), g, ex.rf⟩
theorem w76 {Y : Nat → Prop} {M0 : hM} {ρ : Nat → Nat} {as as_x : List aV} {M H M' : hM} {r : Option aV} (h : f76 as M = some (r, M')) (g : rn Y M0 ρ M H) (ha : vl ρ M as as_x) : wr Y M0 ρ M r M' (f76 as_x H) := by
  unfold f76 at h
  split at h
  · rename_i a0
    obtain ⟨a0_x, _, rfl, r_a0, ha1⟩ := vl_is ha
    cases vl_in ha1
    show wr Y M0 ρ M r M' (x_go k76 (b76_0 a0_x H))
    refine wx_go (blk := k76) ?_ h (fun res hx => wb76_0 hx g r_a0)
    intro ρ h as as_x M H res hk g ha
    unfold k76 at hk
    split at hk
    · rename_i hh
      subst hh
      split at hk
      · rename_i a0 v1
        obtain ⟨a0_x, _, rfl, r_a0, ha1⟩ := vl_is ha
        obtain ⟨_, rfl, ha2⟩ := vl_ii ha1
        cases vl_in ha2
        exact wb76_2 hk g r_a0
      · cases hk
    · skip
      cases hk
  · cases h
theorem wb77_0 {a0 : Nat} {a0_x : Nat} {v1 : Int32} {Y : Nat → Prop} {M0 : hM} {ρ : Nat → Nat} {M H : hM} {res : xRes} (h : b77_0 a0 v1 M = some res) (g : rn Y M0 ρ M H) (r_a0 : vn ρ M a0 a0_x) : wq Y M0 ρ M res (b77_0 a0_x v1 H) := by
  unfold b77_0 at h ⊢
  cases h
  exact ⟨_, _, rfl, (vs_g (vl_c (va_r r_a0.so) (vl_c va_i (vl_c va_i vl_n)))), g, ex.rf⟩
theorem wb77_2 {a0 : Nat} {a0_x : Nat} {v1 : Int32} {v2 : Int32} {Y : Nat → Prop} {M0 : hM} {ρ : Nat → Nat} {M H : hM} {res : xRes} (h : b77_2 a0 v1 v2 M = some res) (g : rn Y M0 ρ M H) (r_a0 : vn ρ M a0 a0_x) : wq Y M0 ρ M res (b77_2 a0_x v1 v2 H) := by
  unfold b77_2 at h ⊢
  obtain ⟨v_1, h1, h⟩ := bd h
  refine wq_bd (w_gi g r_a0.so h1) ?_
  rcases ite_some h with ⟨q, h⟩ | ⟨q, h⟩
  · refine wq_ip q ?_
    cases h
    exact ⟨_, _, rfl, (vs_a va_i), g, ex.rf⟩
  · refine wq_in q ?_
    obtain ⟨o_3, h2, h⟩ := bd h
    obtain ⟨o_3_x, e, r_o_3⟩ := w_gr g r_a0.so h2
    refine wq_bd e ?_
    obtain ⟨v_5, h3, h⟩ := bd h
    refine wq_bd (w_ali g r_o_3 h3) ?_
    rcases ite_some h with ⟨q, h⟩ | ⟨q, h⟩
    · refine wq_ip q ?_
      cases h
      exact ⟨_, _, rfl, (vs_a va_i), g, ex.rf⟩
    · refine wq_in q ?_
      cases h
      exact ⟨_, _, rfl, (vs_g (vl_c (va_r r_a0.so) (vl_c va_i (vl_c va_i vl_n)))), g, ex.rf⟩
theorem w77 {Y : Nat → Prop} {M0 : hM} {ρ : Nat → Nat} {as as_x : List aV} {M H M' : hM} {r : Option aV} (h : f77 as M = some (r, M')) (g : rn Y M0 ρ M H) (ha : vl ρ M as as_x) : wr Y M0 ρ M r M' (f77 as_x H) := by
  unfold f77 at h
  split at h
  · rename_i a0 v1
    obtain ⟨a0_x, _, rfl, r_a0, ha1⟩ := vl_is ha
    obtain ⟨_, rfl, ha2⟩ := vl_ii ha1
    cases vl_in ha2
    show wr Y M0 ρ M r M' (x_go k77 (b77_0 a0_x v1 H))
    refine wx_go (blk := k77) ?_ h (fun res hx => wb77_0 hx g r_a0)
    intro ρ h as as_x M H res hk g ha
    unfold k77 at hk
    split at hk
    · rename_i hh
      subst hh
      split at hk
      · rename_i a0 v1 v2
        obtain ⟨a0_x, _, rfl, r_a0, ha1⟩ := vl_is ha
        obtain ⟨_, rfl, ha2⟩ := vl_ii ha1
        obtain ⟨_, rfl, ha3⟩ := vl_ii ha2
        cases vl_in ha3
        exact wb77_2 hk g r_a0
      · cases hk
    · skip
      cases hk
  · cases h
theorem wb78_0 {a0 : Nat} {a0_x : Nat} {o1 : Option Nat} {o1_x : Option Nat} {v2 : Int32} {v3 : Int32} {Y : Nat → Prop} {M0 : hM} {ρ : Nat → Nat} {M H : hM} {res : xRes} (h : b78_0 a0 o1 v2 v3 M = some res) (g : rn Y M0 ρ M H) (r_a0 : vn ρ M a0 a0_x) (r_o1 : vo ρ M o1 o1_x) : wq Y M0 ρ M res (b78_0 a0_x o1_x v2 v3 H) := by
  unfold b78_0 at h ⊢
  cases h
  exact ⟨_, _, rfl, (vs_g (vl_c (va_r r_a0.so) (vl_c (va_r r_o1) (vl_c va_i (vl_c va_i (vl_c va_i vl_n)))))), g, ex.rf⟩
theorem wb78_92  {Y : Nat → Prop} {M0 : hM} {ρ : Nat → Nat} {M H : hM} {res : xRes} (h : b78_92  M = some res) (g : rn Y M0 ρ M H)  : wq Y M0 ρ M res (b78_92  H) := by
  unfold b78_92 at h ⊢
  cases h
  exact ⟨_, _, rfl, vs_n, g, ex.rf⟩
theorem wb78_3 {a0 : Nat} {a0_x : Nat} {o1 : Option Nat} {o1_x : Option Nat} {v2 : Int32} {v3 : Int32} {v4 : Int32} {Y : Nat → Prop} {M0 : hM} {ρ : Nat → Nat} {M H : hM} {res : xRes} (h : b78_3 a0 o1 v2 v3 v4 M = some res) (g : rn Y M0 ρ M H) (r_a0 : vn ρ M a0 a0_x) (r_o1 : vo ρ M o1 o1_x) : wq Y M0 ρ M res (b78_3 a0_x o1_x v2 v3 v4 H) := by
  unfold b78_3 at h ⊢
  rcases ite_some h with ⟨q, h⟩ | ⟨q, h⟩
  · refine wq_ip q ?_
    exact wb78_92 h g 
  · refine wq_in q ?_
    obtain ⟨o_1, h1, h⟩ := bd h
    obtain ⟨o_1_x, e, r_o_1⟩ := w_gr g r_a0.so h1
    refine wq_bd e ?_
    obtain ⟨v_3, h2, h⟩ := bd h
    refine wq_bd (w_aln g r_o_1 h2) ?_
    rcases ite_some h with ⟨q, h⟩ | ⟨q, h⟩
    · refine wq_ip q ?_
      exact wb78_92 h g 
    · refine wq_in q ?_
      obtain ⟨o_5, h3, h⟩ := bd h
      obtain ⟨o_5_x, e, r_o_5⟩ := w_gr g r_a0.so h3
      refine wq_bd e ?_
      obtain ⟨b_9, h4, h⟩ := bd h
      obtain ⟨b_9_x, e, r_b_9⟩ := w_go g r_o1 h4
      refine wq_bd e ?_
      obtain ⟨q_7, h5, h⟩ := bd h
      obtain ⟨_, _, e, g, x⟩ := wc_I (f := f65) h5 (fun e => w65 e g (vl_c (va_r r_b_9.so) vl_n))
      refine wq_bd e (wq_up x ?_)
      have r_a0 := r_a0.up x
      have r_o_5 := r_o_5.up x
      have r_o1 := r_o1.up x
      obtain ⟨o_11, h6, h⟩ := bd h
      obtain ⟨o_11_x, e, r_o_11⟩ := w_gr g r_a0.so h6
      refine wq_bd e ?_
      obtain ⟨v_13, h7, h⟩ := bd h
      refine wq_bd (w_gi g r_o_11 h7) ?_
      obtain ⟨b_17, h8, h⟩ := bd h
      obtain ⟨b_17_x, e, r_b_17⟩ := w_go g r_o1 h8
      refine wq_bd e ?_
      obtain ⟨q_15, h9, h⟩ := bd h
      obtain ⟨_, _, e, g, x⟩ := wc_I (f := f66) h9 (fun e => w66 e g (vl_c (va_r r_b_17.so) vl_n))
      refine wq_bd e (wq_up x ?_)
      have r_a0 := r_a0.up x
      have r_o_5 := r_o_5.up x
      have r_o1 := r_o1.up x
      obtain ⟨b_21, h10, h⟩ := bd h
      obtain ⟨b_21_x, e, r_b_21⟩ := w_go g r_o_5 h10
      refine wq_bd e ?_
      obtain ⟨q_19, h11, h⟩ := bd h
      obtain ⟨_, _, _, e, g, x, r_q⟩ := wc_R (f := f34) h11 (fun e => w34 e g (vl_c (va_r r_b_21.so) (vl_c va_i (vl_c va_i (vl_c va_i (vl_c va_i vl_n))))))
      refine wq_bd e (wq_up x ?_)
      have r_a0 := r_a0.up x
      have r_o1 := r_o1.up x
      have r_q_19_1 := r_q
      obtain ⟨b_25, h12, h⟩ := bd h
      obtain ⟨b_25_x, e, r_b_25⟩ := w_go g r_q_19_1 h12
      refine wq_bd e ?_
      obtain ⟨q_23, h13, h⟩ := bd h
      obtain ⟨_, _, e, g, x⟩ := wc_V (f := f35) h13 (fun e => w35 e g (vl_c (va_r r_b_25.so) (vl_c va_i (vl_c va_i (vl_c va_l vl_n)))))
      refine wq_bd e (wq_up x ?_)
      have r_a0 := r_a0.up x
      have r_o1 := r_o1.up x
      have r_q_19_1 := r_q_19_1.up x
      obtain ⟨o_27, h14, h⟩ := bd h
      obtain ⟨o_27_x, e, r_o_27⟩ := w_gr g r_a0.so h14
      refine wq_bd e ?_
      obtain ⟨w_29, h15, h⟩ := bd h
      refine wq_bd (w_all g r_o_27 h15) ?_
      obtain ⟨b_33, h16, h⟩ := bd h
      obtain ⟨b_33_x, e, r_b_33⟩ := w_go g r_q_19_1 h16
      refine wq_bd e ?_
      obtain ⟨q_31, h17, h⟩ := bd h
      obtain ⟨_, _, e, g, x⟩ := wc_V (f := f36) h17 (fun e => w36 e g (vl_c (va_r r_b_33.so) (vl_c va_i (vl_c va_l vl_n))))
      refine wq_bd e (wq_up x ?_)
      have r_a0 := r_a0.up x
      have r_q_19_1 := r_q_19_1.up x
      have r_o1 := r_o1.up x
      obtain ⟨o_35, h18, h⟩ := bd h
      obtain ⟨o_35_x, e, r_o_35⟩ := w_gr g r_a0.so h18
      refine wq_bd e ?_
      obtain ⟨o_37, h19, h⟩ := bd h
      obtain ⟨o_37_x, e, r_o_37⟩ := w_gr g r_o_35 h19
      refine wq_bd e ?_
      obtain ⟨b_41, h20, h⟩ := bd h
      obtain ⟨b_41_x, e, r_b_41⟩ := w_go g r_o_37 h20
      refine wq_bd e ?_
      obtain ⟨q_39, h21, h⟩ := bd h
      obtain ⟨_, _, e, g, x⟩ := wc_V (f := f39) h21 (fun e => w39 e g (vl_c (va_r r_b_41.so) (vl_c (va_r r_q_19_1) vl_n)))
      refine wq_bd e (wq_up x ?_)
      have r_a0 := r_a0.up x
      have r_o1 := r_o1.up x
      cases h
      exact ⟨_, _, rfl, (vs_g (vl_c (va_r r_a0.so) (vl_c (va_r r_o1) (vl_c va_i (vl_c va_i (vl_c va_i vl_n)))))), g, ex.rf⟩
theorem w78 {Y : Nat → Prop} {M0 : hM} {ρ : Nat → Nat} {as as_x : List aV} {M H M' : hM} {r : Option aV} (h : f78 as M = some (r, M')) (g : rn Y M0 ρ M H) (ha : vl ρ M as as_x) : wr Y M0 ρ M r M' (f78 as_x H) := by
  unfold f78 at h
  split at h
  · rename_i a0 o1 v2 v3
    obtain ⟨a0_x, _, rfl, r_a0, ha1⟩ := vl_is ha
    obtain ⟨o1_x, _, rfl, r_o1, ha2⟩ := vl_ir ha1
    obtain ⟨_, rfl, ha3⟩ := vl_ii ha2
    obtain ⟨_, rfl, ha4⟩ := vl_ii ha3
    cases vl_in ha4
    show wr Y M0 ρ M r M' (x_go k78 (b78_0 a0_x o1_x v2 v3 H))
    refine wx_go (blk := k78) ?_ h (fun res hx => wb78_0 hx g r_a0 r_o1)
    intro ρ h as as_x M H res hk g ha
    unfold k78 at hk
    split at hk
    · rename_i hh
      subst hh
      split at hk
      · rename_i a0 o1 v2 v3 v4
        obtain ⟨a0_x, _, rfl, r_a0, ha1⟩ := vl_is ha
        obtain ⟨o1_x, _, rfl, r_o1, ha2⟩ := vl_ir ha1
        obtain ⟨_, rfl, ha3⟩ := vl_ii ha2
        obtain ⟨_, rfl, ha4⟩ := vl_ii ha3
        obtain ⟨_, rfl, ha5⟩ := vl_ii ha4
        cases vl_in ha5
        exact wb78_3 hk g r_a0 r_o1
      · cases hk
    · skip
      cases hk
  · cases h
theorem wb79_0 {a0 : Nat} {a0_x : Nat} {o1 : Option Nat} {o1_x : Option Nat} {v2 : Int32} {v3 : Int32} {Y : Nat → Prop} {M0 : hM} {ρ : Nat → Nat} {M H : hM} {res : xRes} (h : b79_0 a0 o1 v2 v3 M = some res) (g : rn Y M0 ρ M H) (r_a0 : vn ρ M a0 a0_x) (r_o1 : vo ρ M o1 o1_x) : wq Y M0 ρ M res (b79_0 a0_x o1_x v2 v3 H) := by
  unfold b79_0 at h ⊢
  obtain ⟨M1, h1, h⟩ := bd h
  obtain ⟨_, e, g, x⟩ := w_pz g r_a0.so h1
  refine wq_bd e (wq_up x ?_)
  have r_a0 := r_a0.up x
  have r_o1 := r_o1.up x
  obtain ⟨b_5, h2, h⟩ := bd h
  obtain ⟨b_5_x, e, r_b_5⟩ := w_go g r_o1 h2
  refine wq_bd e ?_
  obtain ⟨q_3, h3, h⟩ := bd h
  obtain ⟨_, _, e, g, x⟩ := wc_I (f := f66) h3 (fun e => w66 e g (vl_c (va_r r_b_5.so) vl_n))
  refine wq_bd e (wq_up x ?_)
  have r_a0 := r_a0.up x
  have r_o1 := r_o1.up x
  obtain ⟨M7, h4, h⟩ := bd h
  obtain ⟨_, e, g, x⟩ := w_pi g r_a0.so h4
  refine wq_bd e (wq_up x ?_)
  have r_a0 := r_a0.up x
  have r_o1 := r_o1.up x
  obtain ⟨b_11, h5, h⟩ := bd h
  obtain ⟨b_11_x, e, r_b_11⟩ := w_go g r_o1 h5
  refine wq_bd e ?_
  obtain ⟨q_9, h6, h⟩ := bd h
  obtain ⟨_, _, e, g, x⟩ := wc_I (f := f65) h6 (fun e => w65 e g (vl_c (va_r r_b_11.so) vl_n))
  refine wq_bd e (wq_up x ?_)
  have r_a0 := r_a0.up x
  have r_o1 := r_o1.up x
  obtain ⟨M13, h7, h⟩ := bd h
  obtain ⟨_, e, g, x⟩ := w_pi g r_a0.so h7
  refine wq_bd e (wq_up x ?_)
  have r_a0 := r_a0.up x
  have r_o1 := r_o1.up x
  obtain ⟨M15, h8, h⟩ := bd h
  obtain ⟨_, e, g, x⟩ := w_pi g r_a0.so h8
  refine wq_bd e (wq_up x ?_)
  have r_a0 := r_a0.up x
  have r_o1 := r_o1.up x
  obtain ⟨b_19, h9, h⟩ := bd h
  obtain ⟨b_19_x, e, r_b_19⟩ := w_go g r_o1 h9
  refine wq_bd e ?_
  obtain ⟨q_17, h10, h⟩ := bd h
  obtain ⟨_, _, e, g, x⟩ := wc_I (f := f58) h10 (fun e => w58 e g (vl_c (va_r r_b_19.so) (vl_c va_i vl_n)))
  refine wq_bd e (wq_up x ?_)
  have r_a0 := r_a0.up x
  have r_o1 := r_o1.up x
  obtain ⟨b_23, h11, h⟩ := bd h
  obtain ⟨b_23_x, e, r_b_23⟩ := w_go g r_o1 h11
  refine wq_bd e ?_
  obtain ⟨q_21, h12, h⟩ := bd h
  obtain ⟨_, _, e, g, x⟩ := wc_I (f := f58) h12 (fun e => w58 e g (vl_c (va_r r_b_23.so) (vl_c va_i vl_n)))
  refine wq_bd e (wq_up x ?_)
  have r_a0 := r_a0.up x
  have r_o1 := r_o1.up x
  obtain ⟨M25, h13, h⟩ := bd h
  obtain ⟨_, e, g, x⟩ := w_pi g r_a0.so h13
  refine wq_bd e (wq_up x ?_)
  have r_a0 := r_a0.up x
  have r_o1 := r_o1.up x
  obtain ⟨b_29, h14, h⟩ := bd h
  obtain ⟨b_29_x, e, r_b_29⟩ := w_go g r_o1 h14
  refine wq_bd e ?_
  obtain ⟨q_27, h15, h⟩ := bd h
  obtain ⟨_, _, e, g, x⟩ := wc_I (f := f58) h15 (fun e => w58 e g (vl_c (va_r r_b_29.so) (vl_c va_i vl_n)))
  refine wq_bd e (wq_up x ?_)
  have r_a0 := r_a0.up x
  obtain ⟨M31, h16, h⟩ := bd h
  obtain ⟨_, e, g, x⟩ := w_pi g r_a0.so h16
  refine wq_bd e (wq_up x ?_)
  have r_a0 := r_a0.up x
  obtain ⟨M33, h17, h⟩ := bd h
  obtain ⟨_, e, g, x⟩ := w_pi g r_a0.so h17
  refine wq_bd e (wq_up x ?_)
  have r_a0 := r_a0.up x
  obtain ⟨M35, h18, h⟩ := bd h
  obtain ⟨_, e, g, x⟩ := w_pi g r_a0.so h18
  refine wq_bd e (wq_up x ?_)
  cases h
  exact ⟨_, _, rfl, vs_n, g, ex.rf⟩
theorem w79 {Y : Nat → Prop} {M0 : hM} {ρ : Nat → Nat} {as as_x : List aV} {M H M' : hM} {r : Option aV} (h : f79 as M = some (r, M')) (g : rn Y M0 ρ M H) (ha : vl ρ M as as_x) : wr Y M0 ρ M r M' (f79 as_x H) := by
  unfold f79 at h
  split at h
  · rename_i a0 o1 v2 v3
    obtain ⟨a0_x, _, rfl, r_a0, ha1⟩ := vl_is ha
    obtain ⟨o1_x, _, rfl, r_o1, ha2⟩ := vl_ir ha1
    obtain ⟨_, rfl, ha3⟩ := vl_ii ha2
    obtain ⟨_, rfl, ha4⟩ := vl_ii ha3
    cases vl_in ha4
    exact wx_out h (fun res hx => wb79_0 hx g r_a0 r_o1)
  · cases h
theorem wb80_177  {Y : Nat → Prop} {M0 : hM} {ρ : Nat → Nat} {M H : hM} {res : xRes} (h : b80_177  M = some res) (g : rn Y M0 ρ M H)  : wq Y M0 ρ M res (b80_177  H) := by
  unfold b80_177 at h ⊢
  cases h
  exact ⟨_, _, rfl, vs_n, g, ex.rf⟩
theorem wb80_88 {a0 : Nat} {a0_x : Nat} {o1 : Option Nat} {o1_x : Option Nat} {Y : Nat → Prop} {M0 : hM} {ρ : Nat → Nat} {M H : hM} {res : xRes} (h : b80_88 a0 o1 M = some res) (g : rn Y M0 ρ M H) (r_a0 : vn ρ M a0 a0_x) (r_o1 : vo ρ M o1 o1_x) : wq Y M0 ρ M res (b80_88 a0_x o1_x H) := by
  unfold b80_88 at h ⊢
  obtain ⟨b_39, h1, h⟩ := bd h
  obtain ⟨b_39_x, e, r_b_39⟩ := w_go g r_a0.so h1
  refine wq_bd e ?_
  obtain ⟨q_37, h2, h⟩ := bd h
  obtain ⟨_, _, e, g, x⟩ := wc_V (f := f67) h2 (fun e => w67 e g (vl_c (va_r r_b_39.so) (vl_c va_i (vl_c (va_r r_o1) (vl_c va_i (vl_c va_i (vl_c va_l vl_n)))))))
  refine wq_bd e (wq_up x ?_)
  exact wb80_177 h g 
theorem wb80_101 {a0 : Nat} {a0_x : Nat} {o1 : Option Nat} {o1_x : Option Nat} {v2 : Int32} {v3 : Int32} {v4 : Int32} {v5 : Int32} {o6 : Option Nat} {o6_x : Option Nat} {Y : Nat → Prop} {M0 : hM} {ρ : Nat → Nat} {M H : hM} {res : xRes} (h : b80_101 a0 o1 v2 v3 v4 v5 o6 M = some res) (g : rn Y M0 ρ M H) (r_a0 : vn ρ M a0 a0_x) (r_o1 : vo ρ M o1 o1_x) (r_o6 : vo ρ M o6 o6_x) : wq Y M0 ρ M res (b80_101 a0_x o1_x v2 v3 v4 v5 o6_x H) := by
  unfold b80_101 at h ⊢
  rcases ite_some h with ⟨q, h⟩ | ⟨q, h⟩
  · refine wq_ip q ?_
    obtain ⟨b_43, h1, h⟩ := bd h
    obtain ⟨b_43_x, e, r_b_43⟩ := w_go g r_a0.so h1
    refine wq_bd e ?_
    obtain ⟨q_41, h2, h⟩ := bd h
    obtain ⟨_, _, e, g, x⟩ := wc_V (f := f78) h2 (fun e => w78 e g (vl_c (va_r r_b_43.so) (vl_c (va_r r_o1) (vl_c va_i (vl_c va_i vl_n)))))
    refine wq_bd e (wq_up x ?_)
    have r_a0 := r_a0.up x
    have r_o1 := r_o1.up x
    obtain ⟨b_47, h3, h⟩ := bd h
    obtain ⟨b_47_x, e, r_b_47⟩ := w_go g r_a0.so h3
    refine wq_bd e ?_
    obtain ⟨q_45, h4, h⟩ := bd h
    obtain ⟨_, _, e, g, x⟩ := wc_V (f := f67) h4 (fun e => w67 e g (vl_c (va_r r_b_47.so) (vl_c va_i (vl_c (va_r r_o1) (vl_c va_i (vl_c va_i (vl_c va_l vl_n)))))))
    refine wq_bd e (wq_up x ?_)
    exact wb80_177 h g 
  · refine wq_in q ?_
    obtain ⟨v_49, h5, h⟩ := bd h
    refine wq_bd (w_gi g r_a0.so h5) ?_
    obtain ⟨M51, h6, h⟩ := bd h
    obtain ⟨_, e, g, x⟩ := w_pi g r_a0.so h6
    refine wq_bd e (wq_up x ?_)
    have r_a0 := r_a0.up x
    have r_o6 := r_o6.up x
    have r_o1 := r_o1.up x
    obtain ⟨v_53, h7, h⟩ := bd h
    refine wq_bd (w_gi g r_a0.so h7) ?_
    obtain ⟨o_55, h8, h⟩ := bd h
    obtain ⟨o_55_x, e, r_o_55⟩ := w_gr g r_a0.so h8
    refine wq_bd e ?_
    obtain ⟨v_57, h9, h⟩ := bd h
    refine wq_bd (w_gi g r_o_55 h9) ?_
    obtain ⟨b_61, h10, h⟩ := bd h
    obtain ⟨b_61_x, e, r_b_61⟩ := w_go g r_o6 h10
    refine wq_bd e ?_
    obtain ⟨q_59, h11, h⟩ := bd h
    obtain ⟨_, _, e, g, x⟩ := wc_V (f := f79) h11 (fun e => w79 e g (vl_c (va_r r_b_61.so) (vl_c (va_r r_o1) (vl_c va_i (vl_c va_i vl_n)))))
    refine wq_bd e (wq_up x ?_)
    have r_a0 := r_a0.up x
    have r_o1 := r_o1.up x
    obtain ⟨v_63, h12, h⟩ := bd h
    refine wq_bd (w_gi g r_a0.so h12) ?_
    obtain ⟨b_67, h13, h⟩ := bd h
    obtain ⟨b_67_x, e, r_b_67⟩ := w_go g r_a0.so h13
    refine wq_bd e ?_
    obtain ⟨q_65, h14, h⟩ := bd h
    obtain ⟨_, _, e, g, x⟩ := wc_V (f := f67) h14 (fun e => w67 e g (vl_c (va_r r_b_67.so) (vl_c va_i (vl_c (va_r r_o1) (vl_c va_i (vl_c va_i (vl_c va_l vl_n)))))))
    refine wq_bd e (wq_up x ?_)
    exact wb80_177 h g 
theorem wb80_20 {a0 : Nat} {a0_x : Nat} {o1 : Option Nat} {o1_x : Option Nat} {v2 : Int32} {si0 : Int32} {Y : Nat → Prop} {M0 : hM} {ρ : Nat → Nat} {M H : hM} {res : xRes} (h : b80_20 a0 o1 v2 si0 M = some res) (g : rn Y M0 ρ M H) (r_a0 : vn ρ M a0 a0_x) (r_o1 : vo ρ M o1 o1_x) : wq Y M0 ρ M res (b80_20 a0_x o1_x v2 si0 H) := by
  unfold b80_20 at h ⊢
  obtain ⟨b_12, h1, h⟩ := bd h
  obtain ⟨b_12_x, e, r_b_12⟩ := w_go g r_o1 h1
  refine wq_bd e ?_
  obtain ⟨q_10, h2, h⟩ := bd h
  obtain ⟨_, _, e, g, x⟩ := wc_I (f := f58) h2 (fun e => w58 e g (vl_c (va_r r_b_12.so) (vl_c va_i vl_n)))
  refine wq_bd e (wq_up x ?_)
  have r_a0 := r_a0.up x
  have r_o1 := r_o1.up x
  obtain ⟨b_16, h3, h⟩ := bd h
  obtain ⟨b_16_x, e, r_b_16⟩ := w_go g r_o1 h3
  refine wq_bd e ?_
  obtain ⟨q_14, h4, h⟩ := bd h
  obtain ⟨_, _, e, g, x⟩ := wc_I (f := f58) h4 (fun e => w58 e g (vl_c (va_r r_b_16.so) (vl_c va_i vl_n)))
  refine wq_bd e (wq_up x ?_)
  have r_a0 := r_a0.up x
  have r_o1 := r_o1.up x
  obtain ⟨b_20, h5, h⟩ := bd h
  obtain ⟨b_20_x, e, r_b_20⟩ := w_go g r_a0.so h5
  refine wq_bd e ?_
  obtain ⟨q_18, h6, h⟩ := bd h
  obtain ⟨_, _, _, e, g, x, r_q⟩ := wc_R (f := f76) h6 (fun e => w76 e g (vl_c (va_r r_b_20.so) vl_n))
  refine wq_bd e (wq_up x ?_)
  have r_a0 := r_a0.up x
  have r_o1 := r_o1.up x
  have r_q_18_1 := r_q
  obtain ⟨b_24, h7, h⟩ := bd h
  obtain ⟨b_24_x, e, r_b_24⟩ := w_go g r_o1 h7
  refine wq_bd e ?_
  obtain ⟨q_22, h8, h⟩ := bd h
  obtain ⟨_, _, e, g, x⟩ := wc_I (f := f65) h8 (fun e => w65 e g (vl_c (va_r r_b_24.so) vl_n))
  refine wq_bd e (wq_up x ?_)
  have r_a0 := r_a0.up x
  have r_q_18_1 := r_q_18_1.up x
  have r_o1 := r_o1.up x
  obtain ⟨b_28, h9, h⟩ := bd h
  obtain ⟨b_28_x, e, r_b_28⟩ := w_go g r_a0.so h9
  refine wq_bd e ?_
  obtain ⟨q_26, h10, h⟩ := bd h
  obtain ⟨_, _, e, g, x⟩ := wc_I (f := f77) h10 (fun e => w77 e g (vl_c (va_r r_b_28.so) (vl_c va_i vl_n)))
  refine wq_bd e (wq_up x ?_)
  have r_a0 := r_a0.up x
  have r_q_18_1 := r_q_18_1.up x
  have r_o1 := r_o1.up x
  rcases ite_some h with ⟨q, h⟩ | ⟨q, h⟩
  · refine wq_ip q ?_
    exact wb80_88 h g r_a0 r_o1
  · refine wq_in q ?_
    rcases ite_some h with ⟨q, h⟩ | ⟨q, h⟩
    · refine wq_ip q ?_
      exact wb80_88 h g r_a0 r_o1
    · refine wq_in q ?_
      rcases ite_some h with ⟨q, h⟩ | ⟨q, h⟩
      · refine wq_ip q ?_
        exact wb80_88 h g r_a0 r_o1
      · refine wq_in q ?_
        rcases ite_some h with ⟨q, h⟩ | ⟨q, h⟩
        · refine wq_ip q ?_
          exact wb80_88 h g r_a0 r_o1
        · refine wq_in q ?_
          rcases ite_some h with ⟨q, h⟩ | ⟨q, h⟩
          · refine wq_ip q ?_
            exact wb80_88 h g r_a0 r_o1
          · refine wq_in q ?_
            rcases ite_some h with ⟨q, h⟩ | ⟨q, h⟩
            · refine wq_ip q ?_
              exact wb80_101 h g r_a0 r_o1 r_q_18_1
            · refine wq_in q ?_
              rcases ite_some h with ⟨q, h⟩ | ⟨q, h⟩
              · refine wq_ip (r_q_18_1.non q) ?_
                exact wb80_88 h g r_a0 r_o1
              · refine wq_in (r_q_18_1.nnn q) ?_
                exact wb80_101 h g r_a0 r_o1 r_q_18_1
theorem wb80_0 {a0 : Nat} {a0_x : Nat} {o1 : Option Nat} {o1_x : Option Nat} {Y : Nat → Prop} {M0 : hM} {ρ : Nat → Nat} {M H : hM} {res : xRes} (h : b80_0 a0 o1 M = some res) (g : rn Y M0 ρ M H) (r_a0 : vn ρ M a0 a0_x) (r_o1 : vo ρ M o1 o1_x) : wq Y M0 ρ M res (b80_0 a0_x o1_x H) := by
  unfold b80_0 at h ⊢
  obtain ⟨b_3, h1, h⟩ := bd h
  obtain ⟨b_3_x, e, r_b_3⟩ := w_go g r_o1 h1
  refine wq_bd e ?_
  obtain ⟨q_1, h2, h⟩ := bd h
  obtain ⟨_, _, e, g, x⟩ := wc_I (f := f58) h2 (fun e => w58 e g (vl_c (va_r r_b_3.so) (vl_c va_i vl_n)))
  refine wq_bd e (wq_up x ?_)
  have r_a0 := r_a0.up x
  have r_o1 := r_o1.up x
  obtain ⟨b_7, h3, h⟩ := bd h
  obtain ⟨b_7_x, e, r_b_7⟩ := w_go g r_o1 h3
  refine wq_bd e ?_
  obtain ⟨q_5, h4, h⟩ := bd h
  obtain ⟨_, _, e, g, x⟩ := wc_I (f := f58) h4 (fun e => w58 e g (vl_c (va_r r_b_7.so) (vl_c va_i vl_n)))
  refine wq_bd e (wq_up x ?_)
  have r_a0 := r_a0.up x
  have r_o1 := r_o1.up x
  rcases ite_some h with ⟨q, h⟩ | ⟨q, h⟩
  · refine wq_ip q ?_
    exact wb80_20 h g r_a0 r_o1
  · refine wq_in q ?_
    exact wb80_20 h g r_a0 r_o1
theorem w80 {Y : Nat → Prop} {M0 : hM} {ρ : Nat → Nat} {as as_x : List aV} {M H M' : hM} {r : Option aV} (h : f80 as M = some (r, M')) (g : rn Y M0 ρ M H) (ha : vl ρ M as as_x) : wr Y M0 ρ M r M' (f80 as_x H) := by
  unfold f80 at h
  split at h
  · rename_i a0 o1
    obtain ⟨a0_x, _, rfl, r_a0, ha1⟩ := vl_is ha
    obtain ⟨o1_x, _, rfl, r_o1, ha2⟩ := vl_ir ha1
    cases vl_in ha2
    exact wx_out h (fun res hx => wb80_0 hx g r_a0 r_o1)
  · cases h
theorem wb81_43 {a0 : Nat} {a0_x : Nat} {v1 : Int32} {Y : Nat → Prop} {M0 : hM} {ρ : Nat → Nat} {M H : hM} {res : xRes} (h : b81_43 a0 v1 M = some res) (g : rn Y M0 ρ M H) (r_a0 : vn ρ M a0 a0_x) : wq Y M0 ρ M res (b81_43 a0_x v1 H) := by
  unfold b81_43 at h ⊢
  obtain ⟨o_19, h1, h⟩ := bd h
  obtain ⟨o_19_x, e, r_o_19⟩ := w_gr g r_a0.so h1
  refine wq_bd e ?_
  obtain ⟨v_21, h2, h⟩ := bd h
  refine wq_bd (w_gi g r_a0.so h2) ?_
  obtain ⟨M23, h3, h⟩ := bd h
  obtain ⟨_, e, g, x⟩ := w_asi g r_o_19 h3
  refine wq_bd e (wq_up x ?_)
  have r_a0 := r_a0.up x
  obtain ⟨v_25, h4, h⟩ := bd h
  refine wq_bd (w_gi g r_a0.so h4) ?_
  obtain ⟨M27, h5, h⟩ := bd h
  obtain ⟨_, e, g, x⟩ := w_pi g r_a0.so h5
  refine wq_bd e (wq_up x ?_)
  cases h
  exact ⟨_, _, rfl, vs_n, g, ex.rf⟩
theorem wb81_0 {a0 : Nat} {a0_x : Nat} {v1 : Int32} {Y : Nat → Prop} {M0 : hM} {ρ : Nat → Nat} {M H : hM} {res : xRes} (h : b81_0 a0 v1 M = some res) (g : rn Y M0 ρ M H) (r_a0 : vn ρ M a0 a0_x) : wq Y M0 ρ M res (b81_0 a0_x v1 H) := by
  unfold b81_0 at h ⊢
  obtain ⟨b_3, h1, h⟩ := bd h
  obtain ⟨b_3_x, e, r_b_3⟩ := w_go g r_a0.so h1
  refine wq_bd e ?_
  obtain ⟨q_1, h2, h⟩ := bd h
  obtain ⟨_, _, e, g, x⟩ := wc_I (f := f77) h2 (fun e => w77 e g (vl_c (va_r r_b_3.so) (vl_c va_i vl_n)))
  refine wq_bd e (wq_up x ?_)
  have r_a0 := r_a0.up x
  rcases ite_some h with ⟨q, h⟩ | ⟨q, h⟩
  · refine wq_ip q ?_
    obtain ⟨v_5, h3, h⟩ := bd h
    refine wq_bd (w_gi g r_a0.so h3) ?_
    rcases ite_some h with ⟨q, h⟩ | ⟨q, h⟩
    · refine wq_ip q ?_
      obtain ⟨o_7, h4, h⟩ := bd h
      obtain ⟨o_7_x, e, r_o_7⟩ := w_gr g r_a0.so h4
      refine wq_bd e ?_
      obtain ⟨o_9, h5, h⟩ := bd h
      obtain ⟨o_9_x, e, r_o_9⟩ := w_gr g r_a0.so h5
      refine wq_bd e ?_
      obtain ⟨M11, h6, h⟩ := bd h
      obtain ⟨_, e, g, x⟩ := w_nc g r_o_7 r_o_9 h6
      refine wq_bd e (wq_up x ?_)
      have r_a0 := r_a0.up x
      obtain ⟨v_13, h7, h⟩ := bd h
      refine wq_bd (w_gi g r_a0.so h7) ?_
      obtain ⟨M15, h8, h⟩ := bd h
      obtain ⟨_, e, g, x⟩ := w_pi g r_a0.so h8
      refine wq_bd e (wq_up x ?_)
      have r_a0 := r_a0.up x
      exact wb81_43 h g r_a0
    · refine wq_in q ?_
      exact wb81_43 h g r_a0
  · refine wq_in q ?_
    cases h
    exact ⟨_, _, rfl, vs_n, g, ex.rf⟩
theorem w81 {Y : Nat → Prop} {M0 : hM} {ρ : Nat → Nat} {as as_x : List aV} {M H M' : hM} {r : Option aV} (h : f81 as M = some (r, M')) (g : rn Y M0 ρ M H) (ha : vl ρ M as as_x) : wr Y M0 ρ M r M' (f81 as_x H) := by
  unfold f81 at h
  split at h
  · rename_i a0 v1
    obtain ⟨a0_x, _, rfl, r_a0, ha1⟩ := vl_is ha
    obtain ⟨_, rfl, ha2⟩ := vl_ii ha1
    cases vl_in ha2
    exact wx_out h (fun res hx => wb81_0 hx g r_a0)
  · cases h
theorem wb82_93  {Y : Nat → Prop} {M0 : hM} {ρ : Nat → Nat} {M H : hM} {res : xRes} (h : b82_93  M = some res) (g : rn Y M0 ρ M H)  : wq Y M0 ρ M res (b82_93  H) := by
  unfold b82_93 at h ⊢
  cases h
  exact ⟨_, _, rfl, vs_n, g, ex.rf⟩
theorem wb82_0 {a0 : Nat} {a0_x : Nat} {o1 : Option Nat} {o1_x : Option Nat} {Y : Nat → Prop} {M0 : hM} {ρ : Nat → Nat} {M H : hM} {res : xRes} (h : b82_0 a0 o1 M = some res) (g : rn Y M0 ρ M H) (r_a0 : vn ρ M a0 a0_x) (r_o1 : vo ρ M o1 o1_x) : wq Y M0 ρ M res (b82_0 a0_x o1_x H) := by
  unfold b82_0 at h ⊢
  obtain ⟨b_3, h1, h⟩ := bd h
  obtain ⟨b_3_x, e, r_b_3⟩ := w_go g r_o1 h1
  refine wq_bd e ?_
  obtain ⟨q_1, h2, h⟩ := bd h
  obtain ⟨_, _, e, g, x⟩ := wc_I (f := f57) h2 (fun e => w57 e g (vl_c (va_r r_b_3.so) vl_n))
  refine wq_bd e (wq_up x ?_)
  have r_a0 := r_a0.up x
  have r_o1 := r_o1.up x
  rcases ite_some h with ⟨q, h⟩ | ⟨q, h⟩
  · refine wq_ip q ?_
    obtain ⟨b_8, h3, h⟩ := bd h
    obtain ⟨b_8_x, e, r_b_8⟩ := w_go g r_o1 h3
    refine wq_bd e ?_
    obtain ⟨q_6, h4, h⟩ := bd h
    obtain ⟨_, _, e, g, x⟩ := wc_I (f := f65) h4 (fun e => w65 e g (vl_c (va_r r_b_8.so) vl_n))
    refine wq_bd e (wq_up x ?_)
    have r_a0 := r_a0.up x
    have r_o1 := r_o1.up x
    obtain ⟨b_12, h5, h⟩ := bd h
    obtain ⟨b_12_x, e, r_b_12⟩ := w_go g r_a0.so h5
    refine wq_bd e ?_
    obtain ⟨q_10, h6, h⟩ := bd h
    obtain ⟨_, _, e, g, x⟩ := wc_V (f := f81) h6 (fun e => w81 e g (vl_c (va_r r_b_12.so) (vl_c va_i vl_n)))
    refine wq_bd e (wq_up x ?_)
    have r_a0 := r_a0.up x
    have r_o1 := r_o1.up x
    obtain ⟨b_16, h7, h⟩ := bd h
    obtain ⟨b_16_x, e, r_b_16⟩ := w_go g r_a0.so h7
    refine wq_bd e ?_
    obtain ⟨q_14, h8, h⟩ := bd h
    obtain ⟨_, _, e, g, x⟩ := wc_V (f := f67) h8 (fun e => w67 e g (vl_c (va_r r_b_16.so) (vl_c va_i (vl_c (va_r r_o1) (vl_c va_i (vl_c va_i (vl_c va_l vl_n)))))))
    refine wq_bd e (wq_up x ?_)
    exact wb82_93 h g 
  · refine wq_in q ?_
    rcases ite_some h with ⟨q, h⟩ | ⟨q, h⟩
    · refine wq_ip q ?_
      exact wb82_93 h g 
    · refine wq_in q ?_
      rcases ite_some h with ⟨q, h⟩ | ⟨q, h⟩
      · refine wq_ip q ?_
        obtain ⟨b_22, h9, h⟩ := bd h
        obtain ⟨b_22_x, e, r_b_22⟩ := w_go g r_a0.so h9
        refine wq_bd e ?_
        obtain ⟨q_20, h10, h⟩ := bd h
        obtain ⟨_, _, e, g, x⟩ := wc_V (f := f80) h10 (fun e => w80 e g (vl_c (va_r r_b_22.so) (vl_c (va_r r_o1) vl_n)))
        refine wq_bd e (wq_up x ?_)
        exact wb82_93 h g 
      · refine wq_in q ?_
        rcases ite_some h with ⟨q, h⟩ | ⟨q, h⟩
        · refine wq_ip q ?_
          exact wb82_93 h g 
        · refine wq_in q ?_
          rcases ite_some h with ⟨q, h⟩ | ⟨q, h⟩
          · refine wq_ip q ?_
            obtain ⟨b_28, h11, h⟩ := bd h
            obtain ⟨b_28_x, e, r_b_28⟩ := w_go g r_a0.so h11
            refine wq_bd e ?_
            obtain ⟨q_26, h12, h⟩ := bd h
            obtain ⟨_, _, e, g, x⟩ := wc_V (f := f75) h12 (fun e => w75 e g (vl_c (va_r r_b_28.so) (vl_c (va_r r_o1) vl_n)))
            refine wq_bd e (wq_up x ?_)
            exact wb82_93 h g 
          · refine wq_in q ?_
            rcases ite_some h with ⟨q, h⟩ | ⟨q, h⟩
            · refine wq_ip q ?_
              exact wb82_93 h g 
            · refine wq_in q ?_
              rcases ite_some h with ⟨q, h⟩ | ⟨q, h⟩
              · refine wq_ip q ?_
                obtain ⟨b_34, h13, h⟩ := bd h
                obtain ⟨b_34_x, e, r_b_34⟩ := w_go g r_a0.so h13
                refine wq_bd e ?_
                obtain ⟨q_32, h14, h⟩ := bd h
                obtain ⟨_, _, e, g, x⟩ := wc_V (f := f69) h14 (fun e => w69 e g (vl_c (va_r r_b_34.so) (vl_c (va_r r_o1) vl_n)))
                refine wq_bd e (wq_up x ?_)
                exact wb82_93 h g 
              · refine wq_in q ?_
                exact wb82_93 h g 
theorem w82 {Y : Nat → Prop} {M0 : hM} {ρ : Nat → Nat} {as as_x : List aV} {M H M' : hM} {r : Option aV} (h : f82 as M = some (r, M')) (g : rn Y M0 ρ M H) (ha : vl ρ M as as_x) : wr Y M0 ρ M r M' (f82 as_x H) := by
  unfold f82 at h
  split at h
  · rename_i a0 o1
    obtain ⟨a0_x, _, rfl, r_a0, ha1⟩ := vl_is ha
    obtain ⟨o1_x, _, rfl, r_o1, ha2⟩ := vl_ir ha1
    cases vl_in ha2
    exact wx_out h (fun res hx => wb82_0 hx g r_a0 r_o1)
  · cases h
theorem wb83_0 {a0 : Nat} {a0_x : Nat} {o1 : Option Nat} {o1_x : Option Nat} {v2 : Int32} {Y : Nat → Prop} {M0 : hM} {ρ : Nat → Nat} {M H : hM} {res : xRes} (h : b83_0 a0 o1 v2 M = some res) (g : rn Y M0 ρ M H) (r_a0 : vn ρ M a0 a0_x) (r_o1 : vo ρ M o1 o1_x) : wq Y M0 ρ M res (b83_0 a0_x o1_x v2 H) := by
  unfold b83_0 at h ⊢
  cases h
  exact ⟨_, _, rfl, (vs_g (vl_c (va_r r_a0.so) (vl_c (va_r r_o1) (vl_c va_i (vl_c va_i vl_n))))), g, ex.rf⟩
theorem wb83_54 {a0 : Nat} {a0_x : Nat} {o1 : Option Nat} {o1_x : Option Nat} {v2 : Int32} {v3 : Int32} {Y : Nat → Prop} {M0 : hM} {ρ : Nat → Nat} {M H : hM} {res : xRes} (h : b83_54 a0 o1 v2 v3 M = some res) (g : rn Y M0 ρ M H) (r_a0 : vn ρ M a0 a0_x) (r_o1 : vo ρ M o1 o1_x) : wq Y M0 ρ M res (b83_54 a0_x o1_x v2 v3 H) := by
  unfold b83_54 at h ⊢
  cases h
  exact ⟨_, _, rfl, (vs_g (vl_c (va_r r_a0.so) (vl_c (va_r r_o1) (vl_c va_i (vl_c va_i vl_n))))), g, ex.rf⟩
theorem wb83_2 {a0 : Nat} {a0_x : Nat} {o1 : Option Nat} {o1_x : Option Nat} {v2 : Int32} {v3 : Int32} {Y : Nat → Prop} {M0 : hM} {ρ : Nat → Nat} {M H : hM} {res : xRes} (h : b83_2 a0 o1 v2 v3 M = some res) (g : rn Y M0 ρ M H) (r_a0 : vn ρ M a0 a0_x) (r_o1 : vo ρ M o1 o1_x) : wq Y M0 ρ M res (b83_2 a0_x o1_x v2 v3 H) := by
  unfold b83_2 at h ⊢
  obtain ⟨v_1, h1, h⟩ := bd h
  refine wq_bd (w_gi g r_a0.so h1) ?_
  rcases ite_some h with ⟨q, h⟩ | ⟨q, h⟩
  · refine wq_ip q ?_
    cases h
    exact ⟨_, _, rfl, (vs_a (va_r vo_no)), g, ex.rf⟩
  · refine wq_in q ?_
    obtain ⟨o_3, h2, h⟩ := bd h
    obtain ⟨o_3_x, e, r_o_3⟩ := w_gr g r_a0.so h2
    refine wq_bd e ?_
    obtain ⟨o_5, h3, h⟩ := bd h
    obtain ⟨o_5_x, e, r_o_5⟩ := w_alr g r_o_3 h3
    refine wq_bd e ?_
    obtain ⟨v_7, h4, h⟩ := bd h
    refine wq_bd (w_gi g r_o_5 h4) ?_
    rcases ite_some h with ⟨q, h⟩ | ⟨q, h⟩
    · refine wq_ip q ?_
      obtain ⟨v_9, h5, h⟩ := bd h
      refine wq_bd (w_gi g r_o_5 h5) ?_
      obtain ⟨b_13, h6, h⟩ := bd h
      obtain ⟨b_13_x, e, r_b_13⟩ := w_go g r_o1 h6
      refine wq_bd e ?_
      obtain ⟨q_11, h7, h⟩ := bd h
      obtain ⟨_, _, e, g, x⟩ := wc_I (f := f66) h7 (fun e => w66 e g (vl_c (va_r r_b_13.so) vl_n))
      refine wq_bd e (wq_up x ?_)
      have r_a0 := r_a0.up x
      have r_o_5 := r_o_5.up x
      have r_o1 := r_o1.up x
      rcases ite_some h with ⟨q, h⟩ | ⟨q, h⟩
      · refine wq_ip q ?_
        obtain ⟨v_15, h8, h⟩ := bd h
        refine wq_bd (w_gi g r_o_5 h8) ?_
        obtain ⟨b_19, h9, h⟩ := bd h
        obtain ⟨b_19_x, e, r_b_19⟩ := w_go g r_o1 h9
        refine wq_bd e ?_
        obtain ⟨q_17, h10, h⟩ := bd h
        obtain ⟨_, _, e, g, x⟩ := wc_I (f := f65) h10 (fun e => w65 e g (vl_c (va_r r_b_19.so) vl_n))
        refine wq_bd e (wq_up x ?_)
        have r_a0 := r_a0.up x
        have r_o_5 := r_o_5.up x
        have r_o1 := r_o1.up x
        rcases ite_some h with ⟨q, h⟩ | ⟨q, h⟩
        · refine wq_ip q ?_
          cases h
          exact ⟨_, _, rfl, (vs_a (va_r r_o_5)), g, ex.rf⟩
        · refine wq_in q ?_
          exact wb83_54 h g r_a0 r_o1
      · refine wq_in q ?_
        exact wb83_54 h g r_a0 r_o1
    · refine wq_in q ?_
      exact wb83_54 h g r_a0 r_o1
theorem w83 {Y : Nat → Prop} {M0 : hM} {ρ : Nat → Nat} {as as_x : List aV} {M H M' : hM} {r : Option aV} (h : f83 as M = some (r, M')) (g : rn Y M0 ρ M H) (ha : vl ρ M as as_x) : wr Y M0 ρ M r M' (f83 as_x H) := by
  unfold f83 at h
  split at h
  · rename_i a0 o1 v2
    obtain ⟨a0_x, _, rfl, r_a0, ha1⟩ := vl_is ha
    obtain ⟨o1_x, _, rfl, r_o1, ha2⟩ := vl_ir ha1
    obtain ⟨_, rfl, ha3⟩ := vl_ii ha2
    cases vl_in ha3
    show wr Y M0 ρ M r M' (x_go k83 (b83_0 a0_x o1_x v2 H))
    refine wx_go (blk := k83) ?_ h (fun res hx => wb83_0 hx g r_a0 r_o1)
    intro ρ h as as_x M H res hk g ha
    unfold k83 at hk
    split at hk
    · rename_i hh
      subst hh
      split at hk
      · rename_i a0 o1 v2 v3
        obtain ⟨a0_x, _, rfl, r_a0, ha1⟩ := vl_is ha
        obtain ⟨o1_x, _, rfl, r_o1, ha2⟩ := vl_ir ha1
        obtain ⟨_, rfl, ha3⟩ := vl_ii ha2
        obtain ⟨_, rfl, ha4⟩ := vl_ii ha3
        cases vl_in ha4
        exact wb83_2 hk g r_a0 r_o1
      · cases hk
    · skip
      cases hk
  · cases h
theorem wb84_24  {Y : Nat → Prop} {M0 : hM} {ρ : Nat → Nat} {M H : hM} {res : xRes} (h : b84_24  M = some res) (g : rn Y M0 ρ M H)  : wq Y M0 ρ M res (b84_24  H) := by
  unfold b84_24 at h ⊢
  cases h
  exact ⟨_, _, rfl, vs_n, g, ex.rf⟩
theorem wb84_0 {a0 : Nat} {a0_x : Nat} {o1 : Option Nat} {o1_x : Option Nat} {Y : Nat → Prop} {M0 : hM} {ρ : Nat → Nat} {M H : hM} {res : xRes} (h : b84_0 a0 o1 M = some res) (g : rn Y M0 ρ M H) (r_a0 : vn ρ M a0 a0_x) (r_o1 : vo ρ M o1 o1_x) : wq Y M0 ρ M res (b84_0 a0_x o1_x H) := by
  unfold b84_0 at h ⊢
  obtain ⟨b_3, h1, h⟩ := bd h
  obtain ⟨b_3_x, e, r_b_3⟩ := w_go g r_a0.so h1
  refine wq_bd e ?_
  obtain ⟨q_1, h2, h⟩ := bd h
  obtain ⟨_, _, _, e, g, x, r_q⟩ := wc_R (f := f83) h2 (fun e => w83 e g (vl_c (va_r r_b_3.so) (vl_c (va_r r_o1) (vl_c va_i vl_n))))
  refine wq_bd e (wq_up x ?_)
  have r_a0 := r_a0.up x
  have r_q_1_1 := r_q
  rcases ite_some h with ⟨q, h⟩ | ⟨q, h⟩
  · refine wq_ip (r_q_1_1.non q) ?_
    exact wb84_24 h g 
  · refine wq_in (r_q_1_1.nnn q) ?_
    obtain ⟨o_5, h3, h⟩ := bd h
    obtain ⟨o_5_x, e, r_o_5⟩ := w_gr g r_a0.so h3
    refine wq_bd e ?_
    obtain ⟨v_7, h4, h⟩ := bd h
    refine wq_bd (w_gi g r_o_5 h4) ?_
    obtain ⟨b_11, h5, h⟩ := bd h
    obtain ⟨b_11_x, e, r_b_11⟩ := w_go g r_q_1_1 h5
    refine wq_bd e ?_
    obtain ⟨q_9, h6, h⟩ := bd h
    obtain ⟨_, _, e, g, x⟩ := wc_V (f := f50) h6 (fun e => w50 e g (vl_c (va_r r_b_11.so) (vl_c va_i (vl_c va_i vl_n))))
    refine wq_bd e (wq_up x ?_)
    exact wb84_24 h g 
theorem w84 {Y : Nat → Prop} {M0 : hM} {ρ : Nat → Nat} {as as_x : List aV} {M H M' : hM} {r : Option aV} (h : f84 as M = some (r, M')) (g : rn Y M0 ρ M H) (ha : vl ρ M as as_x) : wr Y M0 ρ M r M' (f84 as_x H) := by
  unfold f84 at h
  split at h
  · rename_i a0 o1
    obtain ⟨a0_x, _, rfl, r_a0, ha1⟩ := vl_is ha
    obtain ⟨o1_x, _, rfl, r_o1, ha2⟩ := vl_ir ha1
    cases vl_in ha2
    exact wx_out h (fun res hx => wb84_0 hx g r_a0 r_o1)
  · cases h
theorem wb85_20 {si0 : Int32} {Y : Nat → Prop} {M0 : hM} {ρ : Nat → Nat} {M H : hM} {res : xRes} (h : b85_20 si0 M = some res) (g : rn Y M0 ρ M H)  : wq Y M0 ρ M res (b85_20 si0 H) := by
  unfold b85_20 at h ⊢
  rcases ite_some h with ⟨q, h⟩ | ⟨q, h⟩
  · refine wq_ip q ?_
    cases h
    exact ⟨_, _, rfl, (vs_a va_i), g, ex.rf⟩
  · refine wq_in q ?_
    cases h
theorem wb85_0 {a0 : Nat} {a0_x : Nat} {Y : Nat → Prop} {M0 : hM} {ρ : Nat → Nat} {M H : hM} {res : xRes} (h : b85_0 a0 M = some res) (g : rn Y M0 ρ M H) (r_a0 : vn ρ M a0 a0_x) : wq Y M0 ρ M res (b85_0 a0_x H) := by
  unfold b85_0 at h ⊢
  obtain ⟨v_1, h1, h⟩ := bd h
  refine wq_bd (w_gi g r_a0.so h1) ?_
  obtain ⟨v_3, h2, h⟩ := bd h
  refine wq_bd (w_gi g r_a0.so h2) ?_
  rcases ite_some h with ⟨q, h⟩ | ⟨q, h⟩
  · refine wq_ip q ?_
    exact wb85_20 h g 
  · refine wq_in q ?_
    exact wb85_20 h g 
theorem w85 {Y : Nat → Prop} {M0 : hM} {ρ : Nat → Nat} {as as_x : List aV} {M H M' : hM} {r : Option aV} (h : f85 as M = some (r, M')) (g : rn Y M0 ρ M H) (ha : vl ρ M as as_x) : wr Y M0 ρ M r M' (f85 as_x H) := by
  unfold f85 at h
  split at h
  · rename_i a0
    obtain ⟨a0_x, _, rfl, r_a0, ha1⟩ := vl_is ha
    cases vl_in ha1
    exact wx_out h (fun res hx => wb85_0 hx g r_a0)
  · cases h
theorem wb86_94  {Y : Nat → Prop} {M0 : hM} {ρ : Nat → Nat} {M H : hM} {res : xRes} (h : b86_94  M = some res) (g : rn Y M0 ρ M H)  : wq Y M0 ρ M res (b86_94  H) := by
  unfold b86_94 at h ⊢
  cases h
  exact ⟨_, _, rfl, vs_n, g, ex.rf⟩
theorem wb86_72 {a0 : Nat} {a0_x : Nat} {o2 : Option Nat} {o2_x : Option Nat} {Y : Nat → Prop} {M0 : hM} {ρ : Nat → Nat} {M H : hM} {res : xRes} (h : b86_72 a0 o2 M = some res) (g : rn Y M0 ρ M H) (r_a0 : vn ρ M a0 a0_x) (r_o2 : vo ρ M o2 o2_x) : wq Y M0 ρ M res (b86_72 a0_x o2_x H) := by
  unfold b86_72 at h ⊢
  obtain ⟨o_44, h1, h⟩ := bd h
  obtain ⟨o_44_x, e, r_o_44⟩ := w_gr g r_a0.so h1
  refine wq_bd e ?_
  obtain ⟨v_46, h2, h⟩ := bd h
  refine wq_bd (w_gi g r_o_44 h2) ?_
  obtain ⟨b_50, h3, h⟩ := bd h
  obtain ⟨b_50_x, e, r_b_50⟩ := w_go g r_o2 h3
  refine wq_bd e ?_
  obtain ⟨q_48, h4, h⟩ := bd h
  obtain ⟨_, _, e, g, x⟩ := wc_V (f := f50) h4 (fun e => w50 e g (vl_c (va_r r_b_50.so) (vl_c va_i (vl_c va_i vl_n))))
  refine wq_bd e (wq_up x ?_)
  exact wb86_94 h g 
theorem wb86_0 {a0 : Nat} {a0_x : Nat} {o1 : Option Nat} {o1_x : Option Nat} {Y : Nat → Prop} {M0 : hM} {ρ : Nat → Nat} {M H : hM} {res : xRes} (h : b86_0 a0 o1 M = some res) (g : rn Y M0 ρ M H) (r_a0 : vn ρ M a0 a0_x) (r_o1 : vo ρ M o1 o1_x) : wq Y M0 ρ M res (b86_0 a0_x o1_x H) := by
  unfold b86_0 at h ⊢
  obtain ⟨b_3, h1, h⟩ := bd h
  obtain ⟨b_3_x, e, r_b_3⟩ := w_go g r_a0.so h1
  refine wq_bd e ?_
  obtain ⟨q_1, h2, h⟩ := bd h
  obtain ⟨_, _, _, e, g, x, r_q⟩ := wc_R (f := f83) h2 (fun e => w83 e g (vl_c (va_r r_b_3.so) (vl_c (va_r r_o1) (vl_c va_i vl_n))))
  refine wq_bd e (wq_up x ?_)
  have r_a0 := r_a0.up x
  have r_o1 := r_o1.up x
  have r_q_1_1 := r_q
  rcases ite_some h with ⟨q, h⟩ | ⟨q, h⟩
  · refine wq_ip (r_q_1_1.non q) ?_
    cases h
    exact ⟨_, _, rfl, vs_n, g, ex.rf⟩
  · refine wq_in (r_q_1_1.nnn q) ?_
    obtain ⟨b_7, h3, h⟩ := bd h
    obtain ⟨b_7_x, e, r_b_7⟩ := w_go g r_o1 h3
    refine wq_bd e ?_
    obtain ⟨q_5, h4, h⟩ := bd h
    obtain ⟨_, _, e, g, x⟩ := wc_I (f := f58) h4 (fun e => w58 e g (vl_c (va_r r_b_7.so) (vl_c va_i vl_n)))
    refine wq_bd e (wq_up x ?_)
    have r_a0 := r_a0.up x
    have r_q_1_1 := r_q_1_1.up x
    rcases ite_some h with ⟨q, h⟩ | ⟨q, h⟩
    · refine wq_ip q ?_
      obtain ⟨v_9, h5, h⟩ := bd h
      refine wq_bd (w_gi g r_q_1_1 h5) ?_
      rcases ite_some h with ⟨q, h⟩ | ⟨q, h⟩
      · refine wq_ip q ?_
        obtain ⟨b_13, h6, h⟩ := bd h
        obtain ⟨b_13_x, e, r_b_13⟩ := w_go g r_q_1_1 h6
        refine wq_bd e ?_
        obtain ⟨q_11, h7, h⟩ := bd h
        obtain ⟨_, _, e, g, x⟩ := wc_I (f := f85) h7 (fun e => w85 e g (vl_c (va_r r_b_13.so) vl_n))
        refine wq_bd e (wq_up x ?_)
        have r_a0 := r_a0.up x
        have r_q_1_1 := r_q_1_1.up x
        rcases ite_some h with ⟨q, h⟩ | ⟨q, h⟩
        · refine wq_ip q ?_
          obtain ⟨b_17, h8, h⟩ := bd h
          obtain ⟨b_17_x, e, r_b_17⟩ := w_go g r_a0.so h8
          refine wq_bd e ?_
          obtain ⟨q_15, h9, h⟩ := bd h
          obtain ⟨_, _, e, g, x⟩ := wc_V (f := f51) h9 (fun e => w51 e g (vl_c (va_r r_b_17.so) (vl_c (va_r r_q_1_1) (vl_c va_i vl_n))))
          refine wq_bd e (wq_up x ?_)
          exact wb86_94 h g 
        · refine wq_in q ?_
          exact wb86_72 h g r_a0 r_q_1_1
      · refine wq_in q ?_
        exact wb86_72 h g r_a0 r_q_1_1
    · refine wq_in q ?_
      obtain ⟨o_21, h10, h⟩ := bd h
      obtain ⟨o_21_x, e, r_o_21⟩ := w_gr g r_a0.so h10
      refine wq_bd e ?_
      obtain ⟨v_23, h11, h⟩ := bd h
      refine wq_bd (w_gi g r_o_21 h11) ?_
      obtain ⟨b_27, h12, h⟩ := bd h
      obtain ⟨b_27_x, e, r_b_27⟩ := w_go g r_q_1_1 h12
      refine wq_bd e ?_
      obtain ⟨q_25, h13, h⟩ := bd h
      obtain ⟨_, _, e, g, x⟩ := wc_V (f := f50) h13 (fun e => w50 e g (vl_c (va_r r_b_27.so) (vl_c va_i (vl_c va_i vl_n))))
      refine wq_bd e (wq_up x ?_)
      have r_a0 := r_a0.up x
      have r_q_1_1 := r_q_1_1.up x
      obtain ⟨v_29, h14, h⟩ := bd h
      refine wq_bd (w_gi g r_q_1_1 h14) ?_
      obtain ⟨o_31, h15, h⟩ := bd h
      obtain ⟨o_31_x, e, r_o_31⟩ := w_gr g r_a0.so h15
      refine wq_bd e ?_
      obtain ⟨v_33, h16, h⟩ := bd h
      refine wq_bd (w_aln g r_o_31 h16) ?_
      rcases ite_some h with ⟨q, h⟩ | ⟨q, h⟩
      · refine wq_ip q ?_
        exact wb86_94 h g 
      · refine wq_in q ?_
        obtain ⟨o_35, h17, h⟩ := bd h
        obtain ⟨o_35_x, e, r_o_35⟩ := w_gr g r_a0.so h17
        refine wq_bd e ?_
        obtain ⟨v_37, h18, h⟩ := bd h
        refine wq_bd (w_gi g r_q_1_1 h18) ?_
        obtain ⟨M39, h19, h⟩ := bd h
        obtain ⟨_, e, g, x⟩ := w_asi g r_o_35 h19
        refine wq_bd e (wq_up x ?_)
        exact wb86_94 h g 
theorem w86 {Y : Nat → Prop} {M0 : hM} {ρ : Nat → Nat} {as as_x : List aV} {M H M' : hM} {r : Option aV} (h : f86 as M = some (r, M')) (g : rn Y M0 ρ M H) (ha : vl ρ M as as_x) : wr Y M0 ρ M r M' (f86 as_x H) := by
  unfold f86 at h
  split at h
  · rename_i a0 o1
    obtain ⟨a0_x, _, rfl, r_a0, ha1⟩ := vl_is ha
    obtain ⟨o1_x, _, rfl, r_o1, ha2⟩ := vl_ir ha1
    cases vl_in ha2
    exact wx_out h (fun res hx => wb86_0 hx g r_a0 r_o1)
  · cases h
theorem wb87_28  {Y : Nat → Prop} {M0 : hM} {ρ : Nat → Nat} {M H : hM} {res : xRes} (h : b87_28  M = some res) (g : rn Y M0 ρ M H)  : wq Y M0 ρ M res (b87_28  H) := by
  unfold b87_28 at h ⊢
  cases h
  exact ⟨_, _, rfl, vs_n, g, ex.rf⟩
theorem wb87_0 {a0 : Nat} {a0_x : Nat} {v1 : Int32} {w2 : Int64} {Y : Nat → Prop} {M0 : hM} {ρ : Nat → Nat} {M H : hM} {res : xRes} (h : b87_0 a0 v1 w2 M = some res) (g : rn Y M0 ρ M H) (r_a0 : vn ρ M a0 a0_x) : wq Y M0 ρ M res (b87_0 a0_x v1 w2 H) := by
  unfold b87_0 at h ⊢
  rcases ite_some h with ⟨q, h⟩ | ⟨q, h⟩
  · refine wq_ip q ?_
    exact wb87_28 h g 
  · refine wq_in q ?_
    rcases ite_some h with ⟨q, h⟩ | ⟨q, h⟩
    · refine wq_ip q ?_
      exact wb87_28 h g 
    · refine wq_in q ?_
      obtain ⟨o_1, h1, h⟩ := bd h
      obtain ⟨o_1_x, e, r_o_1⟩ := w_gr g r_a0.so h1
      refine wq_bd e ?_
      obtain ⟨M3, h2, h⟩ := bd h
      obtain ⟨_, e, g, x⟩ := w_asl g r_o_1 h2
      refine wq_bd e (wq_up x ?_)
      have r_a0 := r_a0.up x
      obtain ⟨v_5, h3, h⟩ := bd h
      refine wq_bd (w_gi g r_a0.so h3) ?_
      obtain ⟨M7, h4, h⟩ := bd h
      obtain ⟨_, e, g, x⟩ := w_pi g r_a0.so h4
      refine wq_bd e (wq_up x ?_)
      exact wb87_28 h g 
theorem w87 {Y : Nat → Prop} {M0 : hM} {ρ : Nat → Nat} {as as_x : List aV} {M H M' : hM} {r : Option aV} (h : f87 as M = some (r, M')) (g : rn Y M0 ρ M H) (ha : vl ρ M as as_x) : wr Y M0 ρ M r M' (f87 as_x H) := by
  unfold f87 at h
  split at h
  · rename_i a0 v1 w2
    obtain ⟨a0_x, _, rfl, r_a0, ha1⟩ := vl_is ha
    obtain ⟨_, rfl, ha2⟩ := vl_ii ha1
    obtain ⟨_, rfl, ha3⟩ := vl_il ha2
    cases vl_in ha3
    exact wx_out h (fun res hx => wb87_0 hx g r_a0)
  · cases h
theorem wb88_45  {Y : Nat → Prop} {M0 : hM} {ρ : Nat → Nat} {M H : hM} {res : xRes} (h : b88_45  M = some res) (g : rn Y M0 ρ M H)  : wq Y M0 ρ M res (b88_45  H) := by
  unfold b88_45 at h ⊢
  cases h
  exact ⟨_, _, rfl, vs_n, g, ex.rf⟩
theorem wb88_0 {a0 : Nat} {a0_x : Nat} {o1 : Option Nat} {o1_x : Option Nat} {Y : Nat → Prop} {M0 : hM} {ρ : Nat → Nat} {M H : hM} {res : xRes} (h : b88_0 a0 o1 M = some res) (g : rn Y M0 ρ M H) (r_a0 : vn ρ M a0 a0_x) (r_o1 : vo ρ M o1 o1_x) : wq Y M0 ρ M res (b88_0 a0_x o1_x H) := by
  unfold b88_0 at h ⊢
  obtain ⟨b_3, h1, h⟩ := bd h
  obtain ⟨b_3_x, e, r_b_3⟩ := w_go g r_a0.so h1
  refine wq_bd e ?_
  obtain ⟨q_1, h2, h⟩ := bd h
  obtain ⟨_, _, _, e, g, x, r_q⟩ := wc_R (f := f83) h2 (fun e => w83 e g (vl_c (va_r r_b_3.so) (vl_c (va_r r_o1) (vl_c va_i vl_n))))
  refine wq_bd e (wq_up x ?_)
  have r_o1 := r_o1.up x
  have r_q_1_1 := r_q
  rcases ite_some h with ⟨q, h⟩ | ⟨q, h⟩
  · refine wq_ip (r_q_1_1.non q) ?_
    exact wb88_45 h g 
  · refine wq_in (r_q_1_1.nnn q) ?_
    obtain ⟨v_5, h3, h⟩ := bd h
    refine wq_bd (w_gi g r_q_1_1 h3) ?_
    rcases ite_some h with ⟨q, h⟩ | ⟨q, h⟩
    · refine wq_ip q ?_
      obtain ⟨b_9, h4, h⟩ := bd h
      obtain ⟨b_9_x, e, r_b_9⟩ := w_go g r_o1 h4
      refine wq_bd e ?_
      obtain ⟨q_7, h5, h⟩ := bd h
      obtain ⟨_, _, e, g, x⟩ := wc_I (f := f71) h5 (fun e => w71 e g (vl_c (va_r r_b_9.so) vl_n))
      refine wq_bd e (wq_up x ?_)
      have r_q_1_1 := r_q_1_1.up x
      have r_o1 := r_o1.up x
      obtain ⟨v_11, h6, h⟩ := bd h
      refine wq_bd (w_gi g r_q_1_1 h6) ?_
      rcases ite_some h with ⟨q, h⟩ | ⟨q, h⟩
      · refine wq_ip q ?_
        exact wb88_45 h g 
      · refine wq_in q ?_
        obtain ⟨b_15, h7, h⟩ := bd h
        obtain ⟨b_15_x, e, r_b_15⟩ := w_go g r_o1 h7
        refine wq_bd e ?_
        obtain ⟨q_13, h8, h⟩ := bd h
        obtain ⟨_, _, e, g, x⟩ := wc_I (f := f71) h8 (fun e => w71 e g (vl_c (va_r r_b_15.so) vl_n))
        refine wq_bd e (wq_up x ?_)
        have r_q_1_1 := r_q_1_1.up x
        have r_o1 := r_o1.up x
        obtain ⟨b_19, h9, h⟩ := bd h
        obtain ⟨b_19_x, e, r_b_19⟩ := w_go g r_o1 h9
        refine wq_bd e ?_
        obtain ⟨q_17, h10, h⟩ := bd h
        obtain ⟨_, _, e, g, x⟩ := wc_L (f := f56) h10 (fun e => w56 e g (vl_c (va_r r_b_19.so) (vl_c va_i (vl_c va_i vl_n))))
        refine wq_bd e (wq_up x ?_)
        have r_q_1_1 := r_q_1_1.up x
        obtain ⟨b_23, h11, h⟩ := bd h
        obtain ⟨b_23_x, e, r_b_23⟩ := w_go g r_q_1_1 h11
        refine wq_bd e ?_
        obtain ⟨q_21, h12, h⟩ := bd h
        obtain ⟨_, _, e, g, x⟩ := wc_V (f := f87) h12 (fun e => w87 e g (vl_c (va_r r_b_23.so) (vl_c va_i (vl_c va_l vl_n))))
        refine wq_bd e (wq_up x ?_)
        exact wb88_45 h g 
    · refine wq_in q ?_
      exact wb88_45 h g 
theorem w88 {Y : Nat → Prop} {M0 : hM} {ρ : Nat → Nat} {as as_x : List aV} {M H M' : hM} {r : Option aV} (h : f88 as M = some (r, M')) (g : rn Y M0 ρ M H) (ha : vl ρ M as as_x) : wr Y M0 ρ M r M' (f88 as_x H) := by
  unfold f88 at h
  split at h
  · rename_i a0 o1
    obtain ⟨a0_x, _, rfl, r_a0, ha1⟩ := vl_is ha
    obtain ⟨o1_x, _, rfl, r_o1, ha2⟩ := vl_ir ha1
    cases vl_in ha2
    exact wx_out h (fun res hx => wb88_0 hx g r_a0 r_o1)
  · cases h
theorem wb89_18  {Y : Nat → Prop} {M0 : hM} {ρ : Nat → Nat} {M H : hM} {res : xRes} (h : b89_18  M = some res) (g : rn Y M0 ρ M H)  : wq Y M0 ρ M res (b89_18  H) := by
  unfold b89_18 at h ⊢
  cases h
  exact ⟨_, _, rfl, vs_n, g, ex.rf⟩
theorem wb89_0 {a0 : Nat} {a0_x : Nat} {o1 : Option Nat} {o1_x : Option Nat} {Y : Nat → Prop} {M0 : hM} {ρ : Nat → Nat} {M H : hM} {res : xRes} (h : b89_0 a0 o1 M = some res) (g : rn Y M0 ρ M H) (r_a0 : vn ρ M a0 a0_x) (r_o1 : vo ρ M o1 o1_x) : wq Y M0 ρ M res (b89_0 a0_x o1_x H) := by
  unfold b89_0 at h ⊢
  obtain ⟨b_3, h1, h⟩ := bd h
  obtain ⟨b_3_x, e, r_b_3⟩ := w_go g r_a0.so h1
  refine wq_bd e ?_
  obtain ⟨q_1, h2, h⟩ := bd h
  obtain ⟨_, _, _, e, g, x, r_q⟩ := wc_R (f := f83) h2 (fun e => w83 e g (vl_c (va_r r_b_3.so) (vl_c (va_r r_o1) (vl_c va_i vl_n))))
  refine wq_bd e (wq_up x ?_)
  have r_a0 := r_a0.up x
  have r_o1 := r_o1.up x
  have r_q_1_1 := r_q
  rcases ite_some h with ⟨q, h⟩ | ⟨q, h⟩
  · refine wq_ip (r_q_1_1.non q) ?_
    exact wb89_18 h g 
  · refine wq_in (r_q_1_1.nnn q) ?_
    obtain ⟨v_5, h3, h⟩ := bd h
    refine wq_bd (w_gi g r_q_1_1 h3) ?_
    rcases ite_some h with ⟨q, h⟩ | ⟨q, h⟩
    · refine wq_ip q ?_
      exact wb89_18 h g 
    · refine wq_in q ?_
      cases h
      exact ⟨_, _, rfl, (vs_g (vl_c (va_r r_a0.so) (vl_c (va_r r_o1) (vl_c (va_r r_q_1_1) (vl_c va_i vl_n))))), g, ex.rf⟩
theorem wb89_21 {a0 : Nat} {a0_x : Nat} {o1 : Option Nat} {o1_x : Option Nat} {o2 : Option Nat} {o2_x : Option Nat} {v3 : Int32} {Y : Nat → Prop} {M0 : hM} {ρ : Nat → Nat} {M H : hM} {res : xRes} (h : b89_21 a0 o1 o2 v3 M = some res) (g : rn Y M0 ρ M H) (r_a0 : vn ρ M a0 a0_x) (r_o1 : vo ρ M o1 o1_x) (r_o2 : vo ρ M o2 o2_x) : wq Y M0 ρ M res (b89_21 a0_x o1_x o2_x v3 H) := by
  unfold b89_21 at h ⊢
  obtain ⟨v_9, h1, h⟩ := bd h
  refine wq_bd (w_gi g r_o2 h1) ?_
  rcases ite_some h with ⟨q, h⟩ | ⟨q, h⟩
  · refine wq_ip q ?_
    cases h
    exact ⟨_, _, rfl, vs_n, g, ex.rf⟩
  · refine wq_in q ?_
    obtain ⟨o_11, h2, h⟩ := bd h
    obtain ⟨o_11_x, e, r_o_11⟩ := w_gr g r_a0.so h2
    refine wq_bd e ?_
    obtain ⟨v_13, h3, h⟩ := bd h
    refine wq_bd (w_gi g r_o2 h3) ?_
    obtain ⟨o_15, h4, h⟩ := bd h
    obtain ⟨o_15_x, e, r_o_15⟩ := w_gr g r_a0.so h4
    refine wq_bd e ?_
    obtain ⟨v_17, h5, h⟩ := bd h
    refine wq_bd (w_gi g r_o_15 h5) ?_
    obtain ⟨v_19, h6, h⟩ := bd h
    refine wq_bd (w_gi g r_o2 h6) ?_
    obtain ⟨b_23, h7, h⟩ := bd h
    obtain ⟨b_23_x, e, r_b_23⟩ := w_go g r_o_11 h7
    refine wq_bd e ?_
    obtain ⟨q_21, h8, h⟩ := bd h
    obtain ⟨_, _, _, e, g, x, r_q⟩ := wc_R (f := f34) h8 (fun e => w34 e g (vl_c (va_r r_b_23.so) (vl_c va_i (vl_c va_i (vl_c va_i (vl_c va_i vl_n))))))
    refine wq_bd e (wq_up x ?_)
    have r_a0 := r_a0.up x
    have r_o2 := r_o2.up x
    have r_o1 := r_o1.up x
    have r_q_21_1 := r_q
    obtain ⟨b_27, h9, h⟩ := bd h
    obtain ⟨b_27_x, e, r_b_27⟩ := w_go g r_o1 h9
    refine wq_bd e ?_
    obtain ⟨q_25, h10, h⟩ := bd h
    obtain ⟨_, _, e, g, x⟩ := wc_I (f := f70) h10 (fun e => w70 e g (vl_c (va_r r_b_27.so) vl_n))
    refine wq_bd e (wq_up x ?_)
    have r_a0 := r_a0.up x
    have r_q_21_1 := r_q_21_1.up x
    have r_o2 := r_o2.up x
    have r_o1 := r_o1.up x
    obtain ⟨b_31, h11, h⟩ := bd h
    obtain ⟨b_31_x, e, r_b_31⟩ := w_go g r_q_21_1 h11
    refine wq_bd e ?_
    obtain ⟨q_29, h12, h⟩ := bd h
    obtain ⟨_, _, e, g, x⟩ := wc_V (f := f35) h12 (fun e => w35 e g (vl_c (va_r r_b_31.so) (vl_c va_i (vl_c va_i (vl_c va_l vl_n)))))
    refine wq_bd e (wq_up x ?_)
    have r_a0 := r_a0.up x
    have r_o1 := r_o1.up x
    have r_q_21_1 := r_q_21_1.up x
    have r_o2 := r_o2.up x
    obtain ⟨b_35, h13, h⟩ := bd h
    obtain ⟨b_35_x, e, r_b_35⟩ := w_go g r_q_21_1 h13
    refine wq_bd e ?_
    obtain ⟨q_33, h14, h⟩ := bd h
    obtain ⟨_, _, e, g, x⟩ := wc_V (f := f35) h14 (fun e => w35 e g (vl_c (va_r r_b_35.so) (vl_c va_i (vl_c va_i (vl_c va_l vl_n)))))
    refine wq_bd e (wq_up x ?_)
    have r_a0 := r_a0.up x
    have r_q_21_1 := r_q_21_1.up x
    have r_o2 := r_o2.up x
    have r_o1 := r_o1.up x
    obtain ⟨w_37, h15, h⟩ := bd h
    refine wq_bd (w_gl g r_o2 h15) ?_
    obtain ⟨b_41, h16, h⟩ := bd h
    obtain ⟨b_41_x, e, r_b_41⟩ := w_go g r_q_21_1 h16
    refine wq_bd e ?_
    obtain ⟨q_39, h17, h⟩ := bd h
    obtain ⟨_, _, e, g, x⟩ := wc_V (f := f36) h17 (fun e => w36 e g (vl_c (va_r r_b_41.so) (vl_c va_i (vl_c va_l vl_n))))
    refine wq_bd e (wq_up x ?_)
    have r_a0 := r_a0.up x
    have r_q_21_1 := r_q_21_1.up x
    have r_o2 := r_o2.up x
    have r_o1 := r_o1.up x
    obtain ⟨o_43, h18, h⟩ := bd h
    obtain ⟨o_43_x, e, r_o_43⟩ := w_gr g r_a0.so h18
    refine wq_bd e ?_
    obtain ⟨o_45, h19, h⟩ := bd h
    obtain ⟨o_45_x, e, r_o_45⟩ := w_gr g r_o_43 h19
    refine wq_bd e ?_
    obtain ⟨b_49, h20, h⟩ := bd h
    obtain ⟨b_49_x, e, r_b_49⟩ := w_go g r_o_45 h20
    refine wq_bd e ?_
    obtain ⟨q_47, h21, h⟩ := bd h
    obtain ⟨_, _, e, g, x⟩ := wc_V (f := f39) h21 (fun e => w39 e g (vl_c (va_r r_b_49.so) (vl_c (va_r r_q_21_1) vl_n)))
    refine wq_bd e (wq_up x ?_)
    have r_a0 := r_a0.up x
    have r_o2 := r_o2.up x
    have r_o1 := r_o1.up x
    cases h
    exact ⟨_, _, rfl, (vs_g (vl_c (va_r r_a0.so) (vl_c (va_r r_o1) (vl_c (va_r r_o2) (vl_c va_i vl_n))))), g, ex.rf⟩
theorem w89 {Y : Nat → Prop} {M0 : hM} {ρ : Nat → Nat} {as as_x : List aV} {M H M' : hM} {r : Option aV} (h : f89 as M = some (r, M')) (g : rn Y M0 ρ M H) (ha : vl ρ M as as_x) : wr Y M0 ρ M r M' (f89 as_x H) := by
  unfold f89 at h
  split at h
  · rename_i a0 o1
    obtain ⟨a0_x, _, rfl, r_a0, ha1⟩ := vl_is ha
    obtain ⟨o1_x, _, rfl, r_o1, ha2⟩ := vl_ir ha1
    cases vl_in ha2
    show wr Y M0 ρ M r M' (x_go k89 (b89_0 a0_x o1_x H))
    refine wx_go (blk := k89) ?_ h (fun res hx => wb89_0 hx g r_a0 r_o1)
    intro ρ h as as_x M H res hk g ha
    unfold k89 at hk
    split at hk
    · rename_i hh
      subst hh
      split at hk
      · rename_i a0 o1 o2 v3
        obtain ⟨a0_x, _, rfl, r_a0, ha1⟩ := vl_is ha
        obtain ⟨o1_x, _, rfl, r_o1, ha2⟩ := vl_ir ha1
        obtain ⟨o2_x, _, rfl, r_o2, ha3⟩ := vl_ir ha2
        obtain ⟨_, rfl, ha4⟩ := vl_ii ha3
        cases vl_in ha4
        exact wb89_21 hk g r_a0 r_o1 r_o2
      · cases hk
    · skip
      cases hk
  · cases h
theorem wb90_21  {Y : Nat → Prop} {M0 : hM} {ρ : Nat → Nat} {M H : hM} {res : xRes} (h : b90_21  M = some res) (g : rn Y M0 ρ M H)  : wq Y M0 ρ M res (b90_21  H) := by
  unfold b90_21 at h ⊢
  cases h
  exact ⟨_, _, rfl, vs_n, g, ex.rf⟩
theorem wb90_0 {a0 : Nat} {a0_x : Nat} {v1 : Int32} {Y : Nat → Prop} {M0 : hM} {ρ : Nat → Nat} {M H : hM} {res : xRes} (h : b90_0 a0 v1 M = some res) (g : rn Y M0 ρ M H) (r_a0 : vn ρ M a0 a0_x) : wq Y M0 ρ M res (b90_0 a0_x v1 H) := by
  unfold b90_0 at h ⊢
  rcases ite_some h with ⟨q, h⟩ | ⟨q, h⟩
  · refine wq_ip q ?_
    exact wb90_21 h g 
  · refine wq_in q ?_
    obtain ⟨o_1, h1, h⟩ := bd h
    obtain ⟨o_1_x, e, r_o_1⟩ := w_gr g r_a0.so h1
    refine wq_bd e ?_
    obtain ⟨v_3, h2, h⟩ := bd h
    refine wq_bd (w_aln g r_o_1 h2) ?_
    rcases ite_some h with ⟨q, h⟩ | ⟨q, h⟩
    · refine wq_ip q ?_
      obtain ⟨o_5, h3, h⟩ := bd h
      obtain ⟨o_5_x, e, r_o_5⟩ := w_gr g r_a0.so h3
      refine wq_bd e ?_
      obtain ⟨M7, h4, h⟩ := bd h
      obtain ⟨_, e, g, x⟩ := w_asi g r_o_5 h4
      refine wq_bd e (wq_up x ?_)
      have r_a0 := r_a0.up x
      cases h
      exact ⟨_, _, rfl, (vs_g (vl_c (va_r r_a0.so) (vl_c va_i (vl_c va_i vl_n)))), g, ex.rf⟩
    · refine wq_in q ?_
      exact wb90_21 h g 
theorem wb90_76 {a0 : Nat} {a0_x : Nat} {v1 : Int32} {v3 : Int32} {Y : Nat → Prop} {M0 : hM} {ρ : Nat → Nat} {M H : hM} {res : xRes} (h : b90_76 a0 v1 v3 M = some res) (g : rn Y M0 ρ M H) (r_a0 : vn ρ M a0 a0_x) : wq Y M0 ρ M res (b90_76 a0_x v1 v3 H) := by
  unfold b90_76 at h ⊢
  cases h
  exact ⟨_, _, rfl, (vs_g (vl_c (va_r r_a0.so) (vl_c va_i (vl_c va_i vl_n)))), g, ex.rf⟩
theorem wb90_31 {a0 : Nat} {a0_x : Nat} {v1 : Int32} {v3 : Int32} {Y : Nat → Prop} {M0 : hM} {ρ : Nat → Nat} {M H : hM} {res : xRes} (h : b90_31 a0 v1 v3 M = some res) (g : rn Y M0 ρ M H) (r_a0 : vn ρ M a0 a0_x) : wq Y M0 ρ M res (b90_31 a0_x v1 v3 H) := by
  unfold b90_31 at h ⊢
  obtain ⟨v_11, h1, h⟩ := bd h
  refine wq_bd (w_gi g r_a0.so h1) ?_
  rcases ite_some h with ⟨q, h⟩ | ⟨q, h⟩
  · refine wq_ip q ?_
    cases h
    exact ⟨_, _, rfl, vs_n, g, ex.rf⟩
  · refine wq_in q ?_
    obtain ⟨o_13, h2, h⟩ := bd h
    obtain ⟨o_13_x, e, r_o_13⟩ := w_gr g r_a0.so h2
    refine wq_bd e ?_
    obtain ⟨o_15, h3, h⟩ := bd h
    obtain ⟨o_15_x, e, r_o_15⟩ := w_alr g r_o_13 h3
    refine wq_bd e ?_
    obtain ⟨v_17, h4, h⟩ := bd h
    refine wq_bd (w_gi g r_o_15 h4) ?_
    rcases ite_some h with ⟨q, h⟩ | ⟨q, h⟩
    · refine wq_ip q ?_
      obtain ⟨o_19, h5, h⟩ := bd h
      obtain ⟨o_19_x, e, r_o_19⟩ := w_gr g r_a0.so h5
      refine wq_bd e ?_
      obtain ⟨o_21, h6, h⟩ := bd h
      obtain ⟨o_21_x, e, r_o_21⟩ := w_alr g r_o_19 h6
      refine wq_bd e ?_
      obtain ⟨v_23, h7, h⟩ := bd h
      refine wq_bd (w_gi g r_o_21 h7) ?_
      rcases ite_some h with ⟨q, h⟩ | ⟨q, h⟩
      · refine wq_ip q ?_
        obtain ⟨o_25, h8, h⟩ := bd h
        obtain ⟨o_25_x, e, r_o_25⟩ := w_gr g r_a0.so h8
        refine wq_bd e ?_
        obtain ⟨o_27, h9, h⟩ := bd h
        obtain ⟨o_27_x, e, r_o_27⟩ := w_alr g r_o_25 h9
        refine wq_bd e ?_
        obtain ⟨b_31, h10, h⟩ := bd h
        obtain ⟨b_31_x, e, r_b_31⟩ := w_go g r_a0.so h10
        refine wq_bd e ?_
        obtain ⟨q_29, h11, h⟩ := bd h
        obtain ⟨_, _, e, g, x⟩ := wc_V (f := f51) h11 (fun e => w51 e g (vl_c (va_r r_b_31.so) (vl_c (va_r r_o_27) (vl_c va_i vl_n))))
        refine wq_bd e (wq_up x ?_)
        have r_a0 := r_a0.up x
        exact wb90_76 h g r_a0
      · refine wq_in q ?_
        exact wb90_76 h g r_a0
    · refine wq_in q ?_
      exact wb90_76 h g r_a0
theorem w90 {Y : Nat → Prop} {M0 : hM} {ρ : Nat → Nat} {as as_x : List aV} {M H M' : hM} {r : Option aV} (h : f90 as M = some (r, M')) (g : rn Y M0 ρ M H) (ha : vl ρ M as as_x) : wr Y M0 ρ M r M' (f90 as_x H) := by
  unfold f90 at h
  split at h
  · rename_i a0 v1
    obtain ⟨a0_x, _, rfl, r_a0, ha1⟩ := vl_is ha
    obtain ⟨_, rfl, ha2⟩ := vl_ii ha1
    cases vl_in ha2
    show wr Y M0 ρ M r M' (x_go k90 (b90_0 a0_x v1 H))
    refine wx_go (blk := k90) ?_ h (fun res hx => wb90_0 hx g r_a0)
    intro ρ h as as_x M H res hk g ha
    unfold k90 at hk
    split at hk
    · rename_i hh
      subst hh
      split at hk
      · rename_i a0 v1 v3
        obtain ⟨a0_x, _, rfl, r_a0, ha1⟩ := vl_is ha
        obtain ⟨_, rfl, ha2⟩ := vl_ii ha1
        obtain ⟨_, rfl, ha3⟩ := vl_ii ha2
        cases vl_in ha3
        exact wb90_31 hk g r_a0
      · cases hk
    · skip
      cases hk
  · cases h
theorem wb91_37  {Y : Nat → Prop} {M0 : hM} {ρ : Nat → Nat} {M H : hM} {res : xRes} (h : b91_37  M = some res) (g : rn Y M0 ρ M H)  : wq Y M0 ρ M res (b91_37  H) := by
  unfold b91_37 at h ⊢
  cases h
  exact ⟨_, _, rfl, vs_n, g, ex.rf⟩
theorem wb91_0 {a0 : Nat} {a0_x : Nat} {o1 : Option Nat} {o1_x : Option Nat} {Y : Nat → Prop} {M0 : hM} {ρ : Nat → Nat} {M H : hM} {res : xRes} (h : b91_0 a0 o1 M = some res) (g : rn Y M0 ρ M H) (r_a0 : vn ρ M a0 a0_x) (r_o1 : vo ρ M o1 o1_x) : wq Y M0 ρ M res (b91_0 a0_x o1_x H) := by
  unfold b91_0 at h ⊢
  obtain ⟨b_3, h1, h⟩ := bd h
  obtain ⟨b_3_x, e, r_b_3⟩ := w_go g r_o1 h1
  refine wq_bd e ?_
  obtain ⟨q_1, h2, h⟩ := bd h
  obtain ⟨_, _, e, g, x⟩ := wc_I (f := f58) h2 (fun e => w58 e g (vl_c (va_r r_b_3.so) (vl_c va_i vl_n)))
  refine wq_bd e (wq_up x ?_)
  have r_a0 := r_a0.up x
  have r_o1 := r_o1.up x
  obtain ⟨b_7, h3, h⟩ := bd h
  obtain ⟨b_7_x, e, r_b_7⟩ := w_go g r_o1 h3
  refine wq_bd e ?_
  obtain ⟨q_5, h4, h⟩ := bd h
  obtain ⟨_, _, e, g, x⟩ := wc_L (f := f56) h4 (fun e => w56 e g (vl_c (va_r r_b_7.so) (vl_c va_i (vl_c va_i vl_n))))
  refine wq_bd e (wq_up x ?_)
  have r_a0 := r_a0.up x
  have r_o1 := r_o1.up x
  obtain ⟨b_11, h5, h⟩ := bd h
  obtain ⟨b_11_x, e, r_b_11⟩ := w_go g r_o1 h5
  refine wq_bd e ?_
  obtain ⟨q_9, h6, h⟩ := bd h
  obtain ⟨_, _, e, g, x⟩ := wc_I (f := f65) h6 (fun e => w65 e g (vl_c (va_r r_b_11.so) vl_n))
  refine wq_bd e (wq_up x ?_)
  have r_a0 := r_a0.up x
  rcases ite_some h with ⟨q, h⟩ | ⟨q, h⟩
  · refine wq_ip q ?_
    rcases ite_some h with ⟨q, h⟩ | ⟨q, h⟩
    · refine wq_ip q ?_
      exact wb91_37 h g 
    · refine wq_in q ?_
      obtain ⟨o_13, h7, h⟩ := bd h
      obtain ⟨o_13_x, e, r_o_13⟩ := w_gr g r_a0.so h7
      refine wq_bd e ?_
      obtain ⟨v_15, h8, h⟩ := bd h
      refine wq_bd (w_aln g r_o_13 h8) ?_
      rcases ite_some h with ⟨q, h⟩ | ⟨q, h⟩
      · refine wq_ip q ?_
        cases h
        exact ⟨_, _, rfl, (vs_g (vl_c (va_r r_a0.so) (vl_c va_i (vl_c va_i (vl_c va_i vl_n))))), g, ex.rf⟩
      · refine wq_in q ?_
        exact wb91_37 h g 
  · refine wq_in q ?_
    exact wb91_37 h g 
theorem wb91_114 {a0 : Nat} {a0_x : Nat} {v2 : Int32} {v3 : Int32} {v4 : Int32} {Y : Nat → Prop} {M0 : hM} {ρ : Nat → Nat} {M H : hM} {res : xRes} (h : b91_114 a0 v2 v3 v4 M = some res) (g : rn Y M0 ρ M H) (r_a0 : vn ρ M a0 a0_x) : wq Y M0 ρ M res (b91_114 a0_x v2 v3 v4 H) := by
  unfold b91_114 at h ⊢
  cases h
  exact ⟨_, _, rfl, (vs_g (vl_c (va_r r_a0.so) (vl_c va_i (vl_c va_i (vl_c va_i vl_n))))), g, ex.rf⟩
theorem wb91_111 {a0 : Nat} {a0_x : Nat} {v2 : Int32} {v3 : Int32} {v4 : Int32} {si0 : Int32} {sr1 : Option Nat} {sr1_x : Option Nat} {sr2 : Option Nat} {sr2_x : Option Nat} {Y : Nat → Prop} {M0 : hM} {ρ : Nat → Nat} {M H : hM} {res : xRes} (h : b91_111 a0 v2 v3 v4 si0 sr1 sr2 M = some res) (g : rn Y M0 ρ M H) (r_a0 : vn ρ M a0 a0_x) (r_sr1 : vo ρ M sr1 sr1_x) (r_sr2 : vo ρ M sr2 sr2_x) : wq Y M0 ρ M res (b91_111 a0_x v2 v3 v4 si0 sr1_x sr2_x H) := by
  unfold b91_111 at h ⊢
  obtain ⟨b_54, h1, h⟩ := bd h
  obtain ⟨b_54_x, e, r_b_54⟩ := w_go g r_sr2 h1
  refine wq_bd e ?_
  obtain ⟨q_52, h2, h⟩ := bd h
  obtain ⟨_, _, e, g, x⟩ := wc_V (f := f51) h2 (fun e => w51 e g (vl_c (va_r r_b_54.so) (vl_c (va_r r_sr1) (vl_c va_i vl_n))))
  refine wq_bd e (wq_up x ?_)
  have r_a0 := r_a0.up x
  exact wb91_114 h g r_a0
theorem wb91_41 {a0 : Nat} {a0_x : Nat} {v2 : Int32} {v3 : Int32} {v4 : Int32} {Y : Nat → Prop} {M0 : hM} {ρ : Nat → Nat} {M H : hM} {res : xRes} (h : b91_41 a0 v2 v3 v4 M = some res) (g : rn Y M0 ρ M H) (r_a0 : vn ρ M a0 a0_x) : wq Y M0 ρ M res (b91_41 a0_x v2 v3 v4 H) := by
  unfold b91_41 at h ⊢
  obtain ⟨v_20, h1, h⟩ := bd h
  refine wq_bd (w_gi g r_a0.so h1) ?_
  rcases ite_some h with ⟨q, h⟩ | ⟨q, h⟩
  · refine wq_ip q ?_
    cases h
    exact ⟨_, _, rfl, vs_n, g, ex.rf⟩
  · refine wq_in q ?_
    obtain ⟨o_22, h2, h⟩ := bd h
    obtain ⟨o_22_x, e, r_o_22⟩ := w_gr g r_a0.so h2
    refine wq_bd e ?_
    obtain ⟨o_24, h3, h⟩ := bd h
    obtain ⟨o_24_x, e, r_o_24⟩ := w_alr g r_o_22 h3
    refine wq_bd e ?_
    obtain ⟨v_26, h4, h⟩ := bd h
    refine wq_bd (w_gi g r_o_24 h4) ?_
    rcases ite_some h with ⟨q, h⟩ | ⟨q, h⟩
    · refine wq_ip q ?_
      obtain ⟨o_28, h5, h⟩ := bd h
      obtain ⟨o_28_x, e, r_o_28⟩ := w_gr g r_a0.so h5
      refine wq_bd e ?_
      obtain ⟨o_30, h6, h⟩ := bd h
      obtain ⟨o_30_x, e, r_o_30⟩ := w_alr g r_o_28 h6
      refine wq_bd e ?_
      obtain ⟨v_32, h7, h⟩ := bd h
      refine wq_bd (w_gi g r_o_30 h7) ?_
      rcases ite_some h with ⟨q, h⟩ | ⟨q, h⟩
      · refine wq_ip q ?_
        obtain ⟨o_34, h8, h⟩ := bd h
        obtain ⟨o_34_x, e, r_o_34⟩ := w_gr g r_a0.so h8
        refine wq_bd e ?_
        obtain ⟨o_36, h9, h⟩ := bd h
        obtain ⟨o_36_x, e, r_o_36⟩ := w_alr g r_o_34 h9
        refine wq_bd e ?_
        obtain ⟨M38, h10, h⟩ := bd h
        obtain ⟨_, e, g, x⟩ := w_pi g r_o_36 h10
        refine wq_bd e (wq_up x ?_)
        have r_a0 := r_a0.up x
        obtain ⟨o_40, h11, h⟩ := bd h
        obtain ⟨o_40_x, e, r_o_40⟩ := w_gr g r_a0.so h11
        refine wq_bd e ?_
        obtain ⟨o_42, h12, h⟩ := bd h
        obtain ⟨o_42_x, e, r_o_42⟩ := w_alr g r_o_40 h12
        refine wq_bd e ?_
        obtain ⟨o_44, h13, h⟩ := bd h
        obtain ⟨o_44_x, e, r_o_44⟩ := w_gr g r_a0.so h13
        refine wq_bd e ?_
        obtain ⟨v_46, h14, h⟩ := bd h
        refine wq_bd (w_ali g r_o_44 h14) ?_
        rcases ite_some h with ⟨q, h⟩ | ⟨q, h⟩
        · refine wq_ip q ?_
          exact wb91_111 h g r_a0 r_o_42 r_a0.so
        · refine wq_in q ?_
          exact wb91_111 h g r_a0 r_o_42 r_a0.so
      · refine wq_in q ?_
        exact wb91_114 h g r_a0
    · refine wq_in q ?_
      exact wb91_114 h g r_a0
theorem w91 {Y : Nat → Prop} {M0 : hM} {ρ : Nat → Nat} {as as_x : List aV} {M H M' : hM} {r : Option aV} (h : f91 as M = some (r, M')) (g : rn Y M0 ρ M H) (ha : vl ρ M as as_x) : wr Y M0 ρ M r M' (f91 as_x H) := by
  unfold f91 at h
  split at h
  · rename_i a0 o1
    obtain ⟨a0_x, _, rfl, r_a0, ha1⟩ := vl_is ha
    obtain ⟨o1_x, _, rfl, r_o1, ha2⟩ := vl_ir ha1
    cases vl_in ha2
    show wr Y M0 ρ M r M' (x_go k91 (b91_0 a0_x o1_x H))
    refine wx_go (blk := k91) ?_ h (fun res hx => wb91_0 hx g r_a0 r_o1)
    intro ρ h as as_x M H res hk g ha
    unfold k91 at hk
    split at hk
    · rename_i hh
      subst hh
      split at hk
      · rename_i a0 v2 v3 v4
        obtain ⟨a0_x, _, rfl, r_a0, ha1⟩ := vl_is ha
        obtain ⟨_, rfl, ha2⟩ := vl_ii ha1
        obtain ⟨_, rfl, ha3⟩ := vl_ii ha2
        obtain ⟨_, rfl, ha4⟩ := vl_ii ha3
        cases vl_in ha4
        exact wb91_41 hk g r_a0
      · cases hk
    · skip
      cases hk
  · cases h
theorem wb92_107  {Y : Nat → Prop} {M0 : hM} {ρ : Nat → Nat} {M H : hM} {res : xRes} (h : b92_107  M = some res) (g : rn Y M0 ρ M H)  : wq Y M0 ρ M res (b92_107  H) := by
  unfold b92_107 at h ⊢
  cases h
  exact ⟨_, _, rfl, vs_n, g, ex.rf⟩
theorem wb92_0 {a0 : Nat} {a0_x : Nat} {o1 : Option Nat} {o1_x : Option Nat} {Y : Nat → Prop} {M0 : hM} {ρ : Nat → Nat} {M H : hM} {res : xRes} (h : b92_0 a0 o1 M = some res) (g : rn Y M0 ρ M H) (r_a0 : vn ρ M a0 a0_x) (r_o1 : vo ρ M o1 o1_x) : wq Y M0 ρ M res (b92_0 a0_x o1_x H) := by
  unfold b92_0 at h ⊢
  obtain ⟨b_3, h1, h⟩ := bd h
  obtain ⟨b_3_x, e, r_b_3⟩ := w_go g r_o1 h1
  refine wq_bd e ?_
  obtain ⟨q_1, h2, h⟩ := bd h
  obtain ⟨_, _, e, g, x⟩ := wc_I (f := f57) h2 (fun e => w57 e g (vl_c (va_r r_b_3.so) vl_n))
  refine wq_bd e (wq_up x ?_)
  have r_a0 := r_a0.up x
  have r_o1 := r_o1.up x
  rcases ite_some h with ⟨q, h⟩ | ⟨q, h⟩
  · refine wq_ip q ?_
    obtain ⟨b_8, h3, h⟩ := bd h
    obtain ⟨b_8_x, e, r_b_8⟩ := w_go g r_a0.so h3
    refine wq_bd e ?_
    obtain ⟨q_6, h4, h⟩ := bd h
    obtain ⟨_, _, e, g, x⟩ := wc_V (f := f91) h4 (fun e => w91 e g (vl_c (va_r r_b_8.so) (vl_c (va_r r_o1) vl_n)))
    refine wq_bd e (wq_up x ?_)
    exact wb92_107 h g 
  · refine wq_in q ?_
    rcases ite_some h with ⟨q, h⟩ | ⟨q, h⟩
    · refine wq_ip q ?_
      exact wb92_107 h g 
    · refine wq_in q ?_
      rcases ite_some h with ⟨q, h⟩ | ⟨q, h⟩
      · refine wq_ip q ?_
        obtain ⟨b_14, h5, h⟩ := bd h
        obtain ⟨b_14_x, e, r_b_14⟩ := w_go g r_o1 h5
        refine wq_bd e ?_
        obtain ⟨q_12, h6, h⟩ := bd h
        obtain ⟨_, _, e, g, x⟩ := wc_I (f := f65) h6 (fun e => w65 e g (vl_c (va_r r_b_14.so) vl_n))
        refine wq_bd e (wq_up x ?_)
        have r_a0 := r_a0.up x
        obtain ⟨b_18, h7, h⟩ := bd h
        obtain ⟨b_18_x, e, r_b_18⟩ := w_go g r_a0.so h7
        refine wq_bd e ?_
        obtain ⟨q_16, h8, h⟩ := bd h
        obtain ⟨_, _, e, g, x⟩ := wc_V (f := f90) h8 (fun e => w90 e g (vl_c (va_r r_b_18.so) (vl_c va_i vl_n)))
        refine wq_bd e (wq_up x ?_)
        exact wb92_107 h g 
      · refine wq_in q ?_
        rcases ite_some h with ⟨q, h⟩ | ⟨q, h⟩
        · refine wq_ip q ?_
          exact wb92_107 h g 
        · refine wq_in q ?_
          rcases ite_some h with ⟨q, h⟩ | ⟨q, h⟩
          · refine wq_ip q ?_
            obtain ⟨b_24, h9, h⟩ := bd h
            obtain ⟨b_24_x, e, r_b_24⟩ := w_go g r_a0.so h9
            refine wq_bd e ?_
            obtain ⟨q_22, h10, h⟩ := bd h
            obtain ⟨_, _, e, g, x⟩ := wc_V (f := f89) h10 (fun e => w89 e g (vl_c (va_r r_b_24.so) (vl_c (va_r r_o1) vl_n)))
            refine wq_bd e (wq_up x ?_)
            exact wb92_107 h g 
          · refine wq_in q ?_
            rcases ite_some h with ⟨q, h⟩ | ⟨q, h⟩
            · refine wq_ip q ?_
              obtain ⟨b_29, h11, h⟩ := bd h
              obtain ⟨b_29_x, e, r_b_29⟩ := w_go g r_a0.so h11
              refine wq_bd e ?_
              obtain ⟨q_27, h12, h⟩ := bd h
              obtain ⟨_, _, e, g, x⟩ := wc_V (f := f88) h12 (fun e => w88 e g (vl_c (va_r r_b_29.so) (vl_c (va_r r_o1) vl_n)))
              refine wq_bd e (wq_up x ?_)
              exact wb92_107 h g 
            · refine wq_in q ?_
              rcases ite_some h with ⟨q, h⟩ | ⟨q, h⟩
              · refine wq_ip q ?_
                obtain ⟨b_34, h13, h⟩ := bd h
                obtain ⟨b_34_x, e, r_b_34⟩ := w_go g r_a0.so h13
                refine wq_bd e ?_
                obtain ⟨q_32, h14, h⟩ := bd h
                obtain ⟨_, _, e, g, x⟩ := wc_V (f := f86) h14 (fun e => w86 e g (vl_c (va_r r_b_34.so) (vl_c (va_r r_o1) vl_n)))
                refine wq_bd e (wq_up x ?_)
                exact wb92_107 h g 
              · refine wq_in q ?_
                rcases ite_some h with ⟨q, h⟩ | ⟨q, h⟩
                · refine wq_ip q ?_
                  exact wb92_107 h g 
                · refine wq_in q ?_
                  rcases ite_some h with ⟨q, h⟩ | ⟨q, h⟩
                  · refine wq_ip q ?_
                    obtain ⟨b_40, h15, h⟩ := bd h
                    obtain ⟨b_40_x, e, r_b_40⟩ := w_go g r_a0.so h15
                    refine wq_bd e ?_
                    obtain ⟨q_38, h16, h⟩ := bd h
                    obtain ⟨_, _, e, g, x⟩ := wc_V (f := f84) h16 (fun e => w84 e g (vl_c (va_r r_b_40.so) (vl_c (va_r r_o1) vl_n)))
                    refine wq_bd e (wq_up x ?_)
                    exact wb92_107 h g 
                  · refine wq_in q ?_
                    exact wb92_107 h g 
theorem w92 {Y : Nat → Prop} {M0 : hM} {ρ : Nat → Nat} {as as_x : List aV} {M H M' : hM} {r : Option aV} (h : f92 as M = some (r, M')) (g : rn Y M0 ρ M H) (ha : vl ρ M as as_x) : wr Y M0 ρ M r M' (f92 as_x H) := by
  unfold f92 at h
  split at h
  · rename_i a0 o1
    obtain ⟨a0_x, _, rfl, r_a0, ha1⟩ := vl_is ha
    obtain ⟨o1_x, _, rfl, r_o1, ha2⟩ := vl_ir ha1
    cases vl_in ha2
    exact wx_out h (fun res hx => wb92_0 hx g r_a0 r_o1)
  · cases h
theorem wb93_19 {a0 : Nat} {a0_x : Nat} {v1 : Int32} {Y : Nat → Prop} {M0 : hM} {ρ : Nat → Nat} {M H : hM} {res : xRes} (h : b93_19 a0 v1 M = some res) (g : rn Y M0 ρ M H) (r_a0 : vn ρ M a0 a0_x) : wq Y M0 ρ M res (b93_19 a0_x v1 H) := by
  unfold b93_19 at h ⊢
  obtain ⟨M11, h1, h⟩ := bd h
  obtain ⟨_, e, g, x⟩ := w_pi g r_a0.so h1
  refine wq_bd e (wq_up x ?_)
  cases h
  exact ⟨_, _, rfl, vs_n, g, ex.rf⟩
theorem wb93_0 {a0 : Nat} {a0_x : Nat} {v1 : Int32} {Y : Nat → Prop} {M0 : hM} {ρ : Nat → Nat} {M H : hM} {res : xRes} (h : b93_0 a0 v1 M = some res) (g : rn Y M0 ρ M H) (r_a0 : vn ρ M a0 a0_x) : wq Y M0 ρ M res (b93_0 a0_x v1 H) := by
  unfold b93_0 at h ⊢
  obtain ⟨v_1, h1, h⟩ := bd h
  refine wq_bd (w_gi g r_a0.so h1) ?_
  rcases ite_some h with ⟨q, h⟩ | ⟨q, h⟩
  · refine wq_ip q ?_
    exact wb93_19 h g r_a0
  · refine wq_in q ?_
    obtain ⟨v_3, h2, h⟩ := bd h
    refine wq_bd (w_gi g r_a0.so h2) ?_
    rcases ite_some h with ⟨q, h⟩ | ⟨q, h⟩
    · refine wq_ip q ?_
      exact wb93_19 h g r_a0
    · refine wq_in q ?_
      obtain ⟨b_7, h3, h⟩ := bd h
      obtain ⟨b_7_x, e, r_b_7⟩ := w_go g r_a0.so h3
      refine wq_bd e ?_
      obtain ⟨q_5, h4, h⟩ := bd h
      obtain ⟨_, _, e, g, x⟩ := wc_V (f := f22) h4 (fun e => w22 e g (vl_c (va_r r_b_7.so) vl_n))
      refine wq_bd e (wq_up x ?_)
      have r_a0 := r_a0.up x
      exact wb93_19 h g r_a0
theorem w93 {Y : Nat → Prop} {M0 : hM} {ρ : Nat → Nat} {as as_x : List aV} {M H M' : hM} {r : Option aV} (h : f93 as M = some (r, M')) (g : rn Y M0 ρ M H) (ha : vl ρ M as as_x) : wr Y M0 ρ M r M' (f93 as_x H) := by
  unfold f93 at h
  split at h
  · rename_i a0 v1
    obtain ⟨a0_x, _, rfl, r_a0, ha1⟩ := vl_is ha
    obtain ⟨_, rfl, ha2⟩ := vl_ii ha1
    cases vl_in ha2
    exact wx_out h (fun res hx => wb93_0 hx g r_a0)
  · cases h
theorem wb94_0 {a0 : Nat} {a0_x : Nat} {Y : Nat → Prop} {M0 : hM} {ρ : Nat → Nat} {M H : hM} {res : xRes} (h : b94_0 a0 M = some res) (g : rn Y M0 ρ M H) (r_a0 : vn ρ M a0 a0_x) : wq Y M0 ρ M res (b94_0 a0_x H) := by
  unfold b94_0 at h ⊢
  obtain ⟨o_1, h1, h⟩ := bd h
  obtain ⟨o_1_x, e, r_o_1⟩ := w_gr g r_a0.so h1
  refine wq_bd e ?_
  obtain ⟨o_3, h2, h⟩ := bd h
  obtain ⟨o_3_x, e, r_o_3⟩ := w_gr g r_o_1 h2
  refine wq_bd e ?_
  obtain ⟨v_5, h3, h⟩ := bd h
  refine wq_bd (w_gi g r_o_3 h3) ?_
  cases h
  exact ⟨_, _, rfl, (vs_g (vl_c (va_r r_a0.so) (vl_c va_i vl_n))), g, ex.rf⟩
theorem wb94_131 {a0 : Nat} {a0_x : Nat} {v1 : Int32} {o2 : Option Nat} {o2_x : Option Nat} {Y : Nat → Prop} {M0 : hM} {ρ : Nat → Nat} {M H : hM} {res : xRes} (h : b94_131 a0 v1 o2 M = some res) (g : rn Y M0 ρ M H) (r_a0 : vn ρ M a0 a0_x) (r_o2 : vo ρ M o2 o2_x) : wq Y M0 ρ M res (b94_131 a0_x v1 o2_x H) := by
  unfold b94_131 at h ⊢
  obtain ⟨o_74, h1, h⟩ := bd h
  obtain ⟨o_74_x, e, r_o_74⟩ := w_gr g r_a0.so h1
  refine wq_bd e ?_
  obtain ⟨b_78, h2, h⟩ := bd h
  obtain ⟨b_78_x, e, r_b_78⟩ := w_go g r_o_74 h2
  refine wq_bd e ?_
  obtain ⟨q_76, h3, h⟩ := bd h
  obtain ⟨_, _, e, g, x⟩ := wc_V (f := f17) h3 (fun e => w17 e g (vl_c (va_r r_b_78.so) (vl_c (va_r r_o2) vl_n)))
  refine wq_bd e (wq_up x ?_)
  have r_a0 := r_a0.up x
  cases h
  exact ⟨_, _, rfl, (vs_g (vl_c (va_r r_a0.so) (vl_c va_i vl_n))), g, ex.rf⟩
theorem wb94_80 {a0 : Nat} {a0_x : Nat} {v1 : Int32} {o2 : Option Nat} {o2_x : Option Nat} {Y : Nat → Prop} {M0 : hM} {ρ : Nat → Nat} {M H : hM} {res : xRes} (h : b94_80 a0 v1 o2 M = some res) (g : rn Y M0 ρ M H) (r_a0 : vn ρ M a0 a0_x) (r_o2 : vo ρ M o2 o2_x) : wq Y M0 ρ M res (b94_80 a0_x v1 o2_x H) := by
  unfold b94_80 at h ⊢
  obtain ⟨v_46, h1, h⟩ := bd h
  refine wq_bd (w_gi g r_a0.so h1) ?_
  rcases ite_some h with ⟨q, h⟩ | ⟨q, h⟩
  · refine wq_ip q ?_
    exact wb94_131 h g r_a0 r_o2
  · refine wq_in q ?_
    obtain ⟨b_50, h2, h⟩ := bd h
    obtain ⟨b_50_x, e, r_b_50⟩ := w_go g r_o2 h2
    refine wq_bd e ?_
    obtain ⟨q_48, h3, h⟩ := bd h
    obtain ⟨_, _, e, g, x⟩ := wc_I (f := f64) h3 (fun e => w64 e g (vl_c (va_r r_b_50.so) vl_n))
    refine wq_bd e (wq_up x ?_)
    have r_a0 := r_a0.up x
    have r_o2 := r_o2.up x
    obtain ⟨v_52, h4, h⟩ := bd h
    refine wq_bd (w_gi g r_a0.so h4) ?_
    rcases ite_some h with ⟨q, h⟩ | ⟨q, h⟩
    · refine wq_ip q ?_
      obtain ⟨o_54, h5, h⟩ := bd h
      obtain ⟨o_54_x, e, r_o_54⟩ := w_gr g r_a0.so h5
      refine wq_bd e ?_
      rcases ite_some h with ⟨q, h⟩ | ⟨q, h⟩
      · refine wq_ip (r_o_54.non q) ?_
        obtain ⟨o_56, h6, h⟩ := bd h
        obtain ⟨o_56_x, e, r_o_56⟩ := w_gr g r_a0.so h6
        refine wq_bd e ?_
        rcases ite_some h with ⟨q, h⟩ | ⟨q, h⟩
        · refine wq_ip (r_o_56.non q) ?_
          exact wb94_131 h g r_a0 r_o2
        · refine wq_in (r_o_56.nnn q) ?_
          obtain ⟨o_58, h7, h⟩ := bd h
          obtain ⟨o_58_x, e, r_o_58⟩ := w_gr g r_a0.so h7
          refine wq_bd e ?_
          obtain ⟨b_62, h8, h⟩ := bd h
          obtain ⟨b_62_x, e, r_b_62⟩ := w_go g r_o_58 h8
          refine wq_bd e ?_
          obtain ⟨q_60, h9, h⟩ := bd h
          obtain ⟨_, _, e, g, x⟩ := wc_V (f := f82) h9 (fun e => w82 e g (vl_c (va_r r_b_62.so) (vl_c (va_r r_o2) vl_n)))
          refine wq_bd e (wq_up x ?_)
          have r_a0 := r_a0.up x
          have r_o2 := r_o2.up x
          exact wb94_131 h g r_a0 r_o2
      · refine wq_in (r_o_54.nnn q) ?_
        obtain ⟨o_65, h10, h⟩ := bd h
        obtain ⟨o_65_x, e, r_o_65⟩ := w_gr g r_a0.so h10
        refine wq_bd e ?_
        obtain ⟨b_69, h11, h⟩ := bd h
        obtain ⟨b_69_x, e, r_b_69⟩ := w_go g r_o_65 h11
        refine wq_bd e ?_
        obtain ⟨q_67, h12, h⟩ := bd h
        obtain ⟨_, _, e, g, x⟩ := wc_V (f := f92) h12 (fun e => w92 e g (vl_c (va_r r_b_69.so) (vl_c (va_r r_o2) vl_n)))
        refine wq_bd e (wq_up x ?_)
        have r_a0 := r_a0.up x
        have r_o2 := r_o2.up x
        exact wb94_131 h g r_a0 r_o2
    · refine wq_in q ?_
      exact wb94_131 h g r_a0 r_o2
theorem wb94_177 {a0 : Nat} {a0_x : Nat} {Y : Nat → Prop} {M0 : hM} {ρ : Nat → Nat} {M H : hM} {res : xRes} (h : b94_177 a0 M = some res) (g : rn Y M0 ρ M H) (r_a0 : vn ρ M a0 a0_x) : wq Y M0 ρ M res (b94_177 a0_x H) := by
  unfold b94_177 at h ⊢
  obtain ⟨o_102, h1, h⟩ := bd h
  obtain ⟨o_102_x, e, r_o_102⟩ := w_gr g r_a0.so h1
  refine wq_bd e ?_
  obtain ⟨b_106, h2, h⟩ := bd h
  obtain ⟨b_106_x, e, r_b_106⟩ := w_go g r_o_102 h2
  refine wq_bd e ?_
  obtain ⟨q_104, h3, h⟩ := bd h
  obtain ⟨_, _, e, g, x⟩ := wc_V (f := f45) h3 (fun e => w45 e g (vl_c (va_r r_b_106.so) vl_n))
  refine wq_bd e (wq_up x ?_)
  cases h
  exact ⟨_, _, rfl, vs_n, g, ex.rf⟩
theorem wb94_163 {a0 : Nat} {a0_x : Nat} {Y : Nat → Prop} {M0 : hM} {ρ : Nat → Nat} {M H : hM} {res : xRes} (h : b94_163 a0 M = some res) (g : rn Y M0 ρ M H) (r_a0 : vn ρ M a0 a0_x) : wq Y M0 ρ M res (b94_163 a0_x H) := by
  unfold b94_163 at h ⊢
  obtain ⟨o_93, h1, h⟩ := bd h
  obtain ⟨o_93_x, e, r_o_93⟩ := w_gr g r_a0.so h1
  refine wq_bd e ?_
  rcases ite_some h with ⟨q, h⟩ | ⟨q, h⟩
  · refine wq_ip (r_o_93.non q) ?_
    exact wb94_177 h g r_a0
  · refine wq_in (r_o_93.nnn q) ?_
    obtain ⟨o_95, h2, h⟩ := bd h
    obtain ⟨o_95_x, e, r_o_95⟩ := w_gr g r_a0.so h2
    refine wq_bd e ?_
    obtain ⟨b_99, h3, h⟩ := bd h
    obtain ⟨b_99_x, e, r_b_99⟩ := w_go g r_o_95 h3
    refine wq_bd e ?_
    obtain ⟨q_97, h4, h⟩ := bd h
    obtain ⟨_, _, e, g, x⟩ := wc_V (f := f46) h4 (fun e => w46 e g (vl_c (va_r r_b_99.so) vl_n))
    refine wq_bd e (wq_up x ?_)
    have r_a0 := r_a0.up x
    exact wb94_177 h g r_a0
theorem wb94_145 {a0 : Nat} {a0_x : Nat} {Y : Nat → Prop} {M0 : hM} {ρ : Nat → Nat} {M H : hM} {res : xRes} (h : b94_145 a0 M = some res) (g : rn Y M0 ρ M H) (r_a0 : vn ρ M a0 a0_x) : wq Y M0 ρ M res (b94_145 a0_x H) := by
  unfold b94_145 at h ⊢
  obtain ⟨b_82, h1, h⟩ := bd h
  obtain ⟨b_82_x, e, r_b_82⟩ := w_go g r_a0.so h1
  refine wq_bd e ?_
  obtain ⟨q_80, h2, h⟩ := bd h
  obtain ⟨_, _, e, g, x⟩ := wc_V (f := f40) h2 (fun e => w40 e g (vl_c (va_r r_b_82.so) vl_n))
  refine wq_bd e (wq_up x ?_)
  have r_a0 := r_a0.up x
  obtain ⟨o_84, h3, h⟩ := bd h
  obtain ⟨o_84_x, e, r_o_84⟩ := w_gr g r_a0.so h3
  refine wq_bd e ?_
  rcases ite_some h with ⟨q, h⟩ | ⟨q, h⟩
  · refine wq_ip (r_o_84.non q) ?_
    exact wb94_163 h g r_a0
  · refine wq_in (r_o_84.nnn q) ?_
    obtain ⟨o_86, h4, h⟩ := bd h
    obtain ⟨o_86_x, e, r_o_86⟩ := w_gr g r_a0.so h4
    refine wq_bd e ?_
    obtain ⟨b_90, h5, h⟩ := bd h
    obtain ⟨b_90_x, e, r_b_90⟩ := w_go g r_o_86 h5
    refine wq_bd e ?_
    obtain ⟨q_88, h6, h⟩ := bd h
    obtain ⟨_, _, e, g, x⟩ := wc_V (f := f53) h6 (fun e => w53 e g (vl_c (va_r r_b_90.so) vl_n))
    refine wq_bd e (wq_up x ?_)
    have r_a0 := r_a0.up x
    exact wb94_163 h g r_a0
theorem wb94_11 {a0 : Nat} {a0_x : Nat} {v1 : Int32} {Y : Nat → Prop} {M0 : hM} {ρ : Nat → Nat} {M H : hM} {res : xRes} (h : b94_11 a0 v1 M = some res) (g : rn Y M0 ρ M H) (r_a0 : vn ρ M a0 a0_x) : wq Y M0 ρ M res (b94_11 a0_x v1 H) := by
  unfold b94_11 at h ⊢
  rcases ite_some h with ⟨q, h⟩ | ⟨q, h⟩
  · refine wq_ip q ?_
    exact wb94_145 h g r_a0
  · refine wq_in q ?_
    obtain ⟨o_7, h1, h⟩ := bd h
    obtain ⟨o_7_x, e, r_o_7⟩ := w_gr g r_a0.so h1
    refine wq_bd e ?_
    obtain ⟨b_11, h2, h⟩ := bd h
    obtain ⟨b_11_x, e, r_b_11⟩ := w_go g r_o_7 h2
    refine wq_bd e ?_
    obtain ⟨q_9, h3, h⟩ := bd h
    obtain ⟨_, _, _, e, g, x, r_q⟩ := wc_R (f := f54) h3 (fun e => w54 e g (vl_c (va_r r_b_11.so) vl_n))
    refine wq_bd e (wq_up x ?_)
    have r_a0 := r_a0.up x
    have r_q_9_1 := r_q
    rcases ite_some h with ⟨q, h⟩ | ⟨q, h⟩
    · refine wq_ip (r_q_9_1.non q) ?_
      exact wb94_145 h g r_a0
    · refine wq_in (r_q_9_1.nnn q) ?_
      obtain ⟨o_13, h4, h⟩ := bd h
      obtain ⟨o_13_x, e, r_o_13⟩ := w_gr g r_a0.so h4
      refine wq_bd e ?_
      obtain ⟨b_17, h5, h⟩ := bd h
      obtain ⟨b_17_x, e, r_b_17⟩ := w_go g r_q_9_1 h5
      refine wq_bd e ?_
      obtain ⟨q_15, h6, h⟩ := bd h
      obtain ⟨_, _, e, g, x⟩ := wc_I (f := f63) h6 (fun e => w63 e g (vl_c (va_r r_b_17.so) (vl_c (va_r r_o_13) vl_n)))
      refine wq_bd e (wq_up x ?_)
      have r_a0 := r_a0.up x
      have r_q_9_1 := r_q_9_1.up x
      rcases ite_some h with ⟨q, h⟩ | ⟨q, h⟩
      · refine wq_ip q ?_
        obtain ⟨o_37, h7, h⟩ := bd h
        obtain ⟨o_37_x, e, r_o_37⟩ := w_gr g r_a0.so h7
        refine wq_bd e ?_
        obtain ⟨b_41, h8, h⟩ := bd h
        obtain ⟨b_41_x, e, r_b_41⟩ := w_go g r_o_37 h8
        refine wq_bd e ?_
        obtain ⟨q_39, h9, h⟩ := bd h
        obtain ⟨_, _, e, g, x⟩ := wc_V (f := f37) h9 (fun e => w37 e g (vl_c (va_r r_b_41.so) (vl_c va_i vl_n)))
        refine wq_bd e (wq_up x ?_)
        have r_a0 := r_a0.up x
        have r_q_9_1 := r_q_9_1.up x
        exact wb94_131 h g r_a0 r_q_9_1
      · refine wq_in q ?_
        obtain ⟨b_21, h10, h⟩ := bd h
        obtain ⟨b_21_x, e, r_b_21⟩ := w_go g r_q_9_1 h10
        refine wq_bd e ?_
        obtain ⟨q_19, h11, h⟩ := bd h
        obtain ⟨_, _, e, g, x⟩ := wc_I (f := f57) h11 (fun e => w57 e g (vl_c (va_r r_b_21.so) vl_n))
        refine wq_bd e (wq_up x ?_)
        have r_a0 := r_a0.up x
        have r_q_9_1 := r_q_9_1.up x
        rcases ite_some h with ⟨q, h⟩ | ⟨q, h⟩
        · refine wq_ip q ?_
          obtain ⟨b_25, h12, h⟩ := bd h
          obtain ⟨b_25_x, e, r_b_25⟩ := w_go g r_q_9_1 h12
          refine wq_bd e ?_
          obtain ⟨q_23, h13, h⟩ := bd h
          obtain ⟨_, _, e, g, x⟩ := wc_I (f := f65) h13 (fun e => w65 e g (vl_c (va_r r_b_25.so) vl_n))
          refine wq_bd e (wq_up x ?_)
          have r_a0 := r_a0.up x
          have r_q_9_1 := r_q_9_1.up x
          rcases ite_some h with ⟨q, h⟩ | ⟨q, h⟩
          · refine wq_ip q ?_
            obtain ⟨b_29, h14, h⟩ := bd h
            obtain ⟨b_29_x, e, r_b_29⟩ := w_go g r_q_9_1 h14
            refine wq_bd e ?_
            obtain ⟨q_27, h15, h⟩ := bd h
            obtain ⟨_, _, e, g, x⟩ := wc_I (f := f64) h15 (fun e => w64 e g (vl_c (va_r r_b_29.so) vl_n))
            refine wq_bd e (wq_up x ?_)
            have r_a0 := r_a0.up x
            have r_q_9_1 := r_q_9_1.up x
            obtain ⟨b_33, h16, h⟩ := bd h
            obtain ⟨b_33_x, e, r_b_33⟩ := w_go g r_a0.so h16
            refine wq_bd e ?_
            obtain ⟨q_31, h17, h⟩ := bd h
            obtain ⟨_, _, e, g, x⟩ := wc_V (f := f93) h17 (fun e => w93 e g (vl_c (va_r r_b_33.so) (vl_c va_i vl_n)))
            refine wq_bd e (wq_up x ?_)
            have r_a0 := r_a0.up x
            have r_q_9_1 := r_q_9_1.up x
            exact wb94_131 h g r_a0 r_q_9_1
          · refine wq_in q ?_
            exact wb94_80 h g r_a0 r_q_9_1
        · refine wq_in q ?_
          exact wb94_80 h g r_a0 r_q_9_1
theorem w94 {Y : Nat → Prop} {M0 : hM} {ρ : Nat → Nat} {as as_x : List aV} {M H M' : hM} {r : Option aV} (h : f94 as M = some (r, M')) (g : rn Y M0 ρ M H) (ha : vl ρ M as as_x) : wr Y M0 ρ M r M' (f94 as_x H) := by
  unfold f94 at h
  split at h
  · rename_i a0
    obtain ⟨a0_x, _, rfl, r_a0, ha1⟩ := vl_is ha
    cases vl_in ha1
    show wr Y M0 ρ M r M' (x_go k94 (b94_0 a0_x H))
    refine wx_go (blk := k94) ?_ h (fun res hx => wb94_0 hx g r_a0)
    intro ρ h as as_x M H res hk g ha
    unfold k94 at hk
    split at hk
    · rename_i hh
      subst hh
      split at hk
      · rename_i a0 v1
        obtain ⟨a0_x, _, rfl, r_a0, ha1⟩ := vl_is ha
        obtain ⟨_, rfl, ha2⟩ := vl_ii ha1
        cases vl_in ha2
        exact wb94_11 hk g r_a0
      · cases hk
    · skip
      cases hk
  · cases h
