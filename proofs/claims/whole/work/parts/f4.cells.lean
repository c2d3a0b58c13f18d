/-! ===== making the class's things: cells under canonical addresses ===== -/
abbrev cD : Type := (Nat × Nat) × (Nat → Int32) × (Nat → Option Nat) × (Nat → Int32) × (Nat → Option Nat)
def oC (t l : Nat) : cD := ((t, l), fun _ => 0, fun _ => none, fun _ => 0, fun _ => none)
def cPi (c : cD) (k : Nat) (v : Int32) : cD := (c.1, u1 c.2.1 k v, c.2.2)
def cPr (c : cD) (k : Nat) (v : Option Nat) : cD := (c.1, c.2.1, u1 c.2.2.1 k v, c.2.2.2)
def cQi (c : cD) (k : Nat) (v : Int32) : cD := (c.1, c.2.1, c.2.2.1, u1 c.2.2.2.1 k v, c.2.2.2.2)
def cQr (c : cD) (k : Nat) (v : Option Nat) : cD := (c.1, c.2.1, c.2.2.1, c.2.2.2.1, u1 c.2.2.2.2 k v)
/-- the heap holds the cell c at α -/
def hc (ρ : Nat → Nat) (c : cD) (H : hM) (α : Nat) : Prop := h_tg H α = c.1.1 ∧ h_ln H α = c.1.2 ∧ (∀ k, h_fi H k α = c.2.1 k ∧ h_fr H k α = (c.2.2.1 k).map ρ) ∧ ∀ i, h_ai H α i = c.2.2.2.1 i ∧ h_ar H α i = (c.2.2.2.2 i).map ρ
/-- the cell's references lead to things that are made -/
def rd1 (c : Nat → cD) (x : cD) : Prop := (∀ k b, x.2.2.1 k = some b → (c b).1.1 ≠ 0) ∧ ∀ i b, x.2.2.2.2 i = some b → (c b).1.1 ≠ 0
def rc (ρ : Nat → Nat) (c : Nat → cD) (H : hM) : Prop :=
  (bk H ∧ (∀ k a, h_fl H k a = 0) ∧ ∀ a i, h_al H a i = 0) ∧
  (∀ a, (c a).1.1 ≠ 0 → ρ a < h_sz H ∧ hc ρ (c a) H (ρ a)) ∧
  (∀ a, (c a).1.1 ≠ 0 → rd1 c (c a)) ∧
  (∀ a b, (c a).1.1 ≠ 0 → (c b).1.1 ≠ 0 → ρ a = ρ b → a = b)
/-- what is made stays where it is -/
def gx (ρ : Nat → Nat) (c : Nat → cD) (ρ' : Nat → Nat) (c' : Nat → cD) : Prop := ∀ a, (c a).1.1 ≠ 0 → ρ' a = ρ a ∧ (c' a).1 = (c a).1
section RC
variable {ρ ρ1 ρ2 : Nat → Nat} {c c1 c2 : Nat → cD} {H H1 : hM} {a b t l ci n k i : Nat} {v : Int32} {o : Option Nat}
theorem gx.rf : gx ρ c ρ c := fun _ _ => ⟨rfl, rfl⟩
theorem gx.tr (h : gx ρ c ρ1 c1) (g : gx ρ1 c1 ρ2 c2) : gx ρ c ρ2 c2 := fun a ha => by
  obtain ⟨h1, h2⟩ := h a ha
  obtain ⟨g1, g2⟩ := g a (by rw [h2]; exact ha)
  exact ⟨g1.trans h1, g2.trans h2⟩
theorem hc_map {x : cD} {α : Nat} (h : hc ρ x H α) (hd : rd1 c x) (e : ∀ b, (c b).1.1 ≠ 0 → ρ1 b = ρ b) : hc ρ1 x H α := by
  obtain ⟨h1, h2, h3, h4⟩ := h
  have m : ∀ o : Option Nat, (∀ b, o = some b → (c b).1.1 ≠ 0) → o.map ρ = o.map ρ1 := fun o ho => by
    cases o with
    | none => rfl
    | some b => exact congrArg some (e b (ho b rfl)).symm
  exact ⟨h1, h2, fun k => ⟨(h3 k).1, (h3 k).2.trans (m _ (hd.1 k))⟩, fun i => ⟨(h4 i).1, (h4 i).2.trans (m _ (hd.2 i))⟩⟩
theorem rd1.up {x : cD} (h : rd1 c x) (g : ∀ b, (c b).1.1 ≠ 0 → (c1 b).1.1 ≠ 0) : rd1 c1 x := ⟨fun k b q => g b (h.1 k b q), fun i b q => g b (h.2 i b q)⟩
theorem oC_rd : rd1 c (oC t l) := ⟨fun _ _ q => (by cases q), fun _ _ q => (by cases q)⟩
/-- one new thing -/
theorem rc_new (g : rc ρ c H) (ha : (c a).1.1 = 0) (ht : t ≠ 0) (hs : h_sz H1 = h_sz H + 1) (hfl : h_fl H1 = h_fl H ∨ ∀ k x, h_fl H1 k x = 0) (hal : h_al H1 = h_al H ∨ ∀ x i, h_al H1 x i = 0) (hn : hc ρ (oC t l) H1 (h_sz H))
    (ho : ∀ x, x ≠ h_sz H → h_tg H1 x = h_tg H x ∧ h_ln H1 x = h_ln H x ∧ (∀ k, h_fi H1 k x = h_fi H k x ∧ h_fr H1 k x = h_fr H k x) ∧ ∀ i, h_ai H1 x i = h_ai H x i ∧ h_ar H1 x i = h_ar H x i) :
    rc (u1 ρ a (h_sz H)) (u1 c a (oC t l)) H1 ∧ gx ρ c (u1 ρ a (h_sz H)) (u1 c a (oC t l)) := by
  obtain ⟨⟨b1, b2, b3⟩, g2, g3, g4⟩ := g
  have ne : ∀ b, (c b).1.1 ≠ 0 → b ≠ a := fun b hb e => hb (by rw [e]; exact ha)
  have er : ∀ b, (c b).1.1 ≠ 0 → u1 ρ a (h_sz H) b = ρ b := fun b hb => u1_ne (ne b hb)
  have ec : ∀ b, (c b).1.1 ≠ 0 → u1 c a (oC t l) b = c b := fun b hb => u1_ne (ne b hb)
  have up : ∀ b, (c b).1.1 ≠ 0 → (u1 c a (oC t l) b).1.1 ≠ 0 := fun b hb => by rw [ec b hb]; exact hb
  have cs : ∀ b, (u1 c a (oC t l) b).1.1 ≠ 0 → b = a ∨ (b ≠ a ∧ (c b).1.1 ≠ 0) := fun b hb => by
    by_cases e : b = a
    · exact Or.inl e
    · rw [u1_ne e] at hb; exact Or.inr ⟨e, hb⟩
  have l2 : ∀ k x, h_fl H1 k x = 0 := fun k x => by
    rcases hfl with e | e
    · rw [e]; exact b2 k x
    · exact e k x
  have l3 : ∀ x i, h_al H1 x i = 0 := fun x i => by
    rcases hal with e | e
    · rw [e]; exact b3 x i
    · exact e x i
  refine ⟨⟨⟨fun x hx => ?_, l2, l3⟩, fun b hb => ?_, fun b hb => ?_, fun b d hb hd e => ?_⟩, fun b hb => ⟨er b hb, by rw [ec b hb]⟩⟩
  · rw [hs] at hx
    obtain ⟨o1, o2, o3, o4⟩ := ho x (by omega)
    obtain ⟨q1, q2, q3, q4⟩ := b1 x (by omega)
    exact ⟨o1.trans q1, o2.trans q2, fun k => ⟨(o3 k).1.trans (q3 k).1, l2 k x, (o3 k).2.trans (q3 k).2.2⟩, fun i => ⟨(o4 i).1.trans (q4 i).1, l3 x i, (o4 i).2.trans (q4 i).2.2⟩⟩
  · rcases cs b hb with rfl | ⟨-, hb2⟩
    · rw [u1_eq, u1_eq]
      exact ⟨by omega, hc_map (c := c) hn oC_rd er⟩
    · rw [er b hb2, ec b hb2]
      obtain ⟨p1, p2⟩ := g2 b hb2
      refine ⟨by omega, hc_map (c := c) ?_ (g3 b hb2) er⟩
      obtain ⟨o1, o2, o3, o4⟩ := ho (ρ b) (by omega)
      obtain ⟨p2, p3, p4, p5⟩ := p2
      exact ⟨o1.trans p2, o2.trans p3, fun k => ⟨(o3 k).1.trans (p4 k).1, (o3 k).2.trans (p4 k).2⟩, fun i => ⟨(o4 i).1.trans (p5 i).1, (o4 i).2.trans (p5 i).2⟩⟩
  · rcases cs b hb with rfl | ⟨-, hb2⟩
    · rw [u1_eq]
      exact oC_rd
    · rw [ec b hb2]
      exact (g3 b hb2).up up
  · rcases cs b hb with rfl | ⟨-, hb2⟩ <;> rcases cs d hd with rfl | ⟨-, hd2⟩
    · rfl
    · rw [u1_eq, er d hd2] at e
      have := (g2 d hd2).1; omega
    · rw [u1_eq, er b hb2] at e
      have := (g2 b hb2).1; omega
    · rw [er b hb2, er d hd2] at e; exact g4 b d hb2 hd2 e
theorem O_no (g : rc ρ c H) (a ci n : Nat) (ha : (c a).1.1 = 0) : ∃ ρ' H', n_o H ci n = some H' ∧ rc ρ' (u1 c a (oC (ci + 1) 0)) H' ∧ gx ρ c ρ' (u1 c a (oC (ci + 1) 0)) ∧ ρ' a = h_sz H ∧ h_sz H' = h_sz H + 1 ∧ h_sl H' = h_sl H + n := by
  have b1 := g.1.1 (h_sz H) (Nat.le_refl _)
  obtain ⟨x1, x2⟩ := rc_new (a := a) (t := ci + 1) (l := 0) (H1 := h_no H ci n) g ha (by omega) rfl (Or.inr fun k x => by
      show uc (h_fl H) (h_sz H) 0 k x = 0
      unfold uc
      by_cases q : x = h_sz H
      · rw [if_pos q]
      · rw [if_neg q]; exact g.1.2.1 k x) (Or.inl rfl)
    ⟨if_pos rfl, b1.2.1, fun k => ⟨if_pos rfl, if_pos rfl⟩, fun i => ⟨(b1.2.2.2 i).1, (b1.2.2.2 i).2.2⟩⟩
    (fun x hx => ⟨if_neg hx, rfl, fun k => ⟨if_neg hx, if_neg hx⟩, fun i => ⟨rfl, rfl⟩⟩)
  exact ⟨_, _, rfl, x1, x2, u1_eq, rfl, rfl⟩
theorem O_na (g : rc ρ c H) (a t n : Nat) (ha : (c a).1.1 = 0) (ht : t ≠ 0) (hv : ¬ v < 0 ∧ v.toNatClampNeg = n) (hn : n ≤ 1000000) : ∃ ρ' H', n_a H t v = some H' ∧ rc ρ' (u1 c a (oC t n)) H' ∧ gx ρ c ρ' (u1 c a (oC t n)) ∧ ρ' a = h_sz H ∧ h_sz H' = h_sz H + 1 ∧ h_sl H' = h_sl H + n := by
  have b1 := g.1.1 (h_sz H) (Nat.le_refl _)
  obtain ⟨x1, x2⟩ := rc_new (a := a) (t := t) (l := n) (H1 := h_na H t n) g ha ht rfl (Or.inl rfl) (Or.inr fun x i => by
      show ur (h_al H) (h_sz H) (fun _ => 0) x i = 0
      unfold ur
      by_cases q : x = h_sz H
      · rw [if_pos q]
      · rw [if_neg q]; exact g.1.2.2 x i)
    ⟨if_pos rfl, if_pos rfl, fun k => ⟨(b1.2.2.1 k).1, (b1.2.2.1 k).2.2⟩, fun i => ⟨if_pos rfl, if_pos rfl⟩⟩
    (fun x hx => ⟨if_neg hx, if_neg hx, fun k => ⟨rfl, rfl⟩, fun i => ⟨if_neg hx, if_neg hx⟩⟩)
  exact ⟨_, _, n_a_v hv hn, x1, x2, u1_eq, rfl, rfl⟩
/-- one cell written -/
theorem rc_wr {x : cD} (g : rc ρ c H) (ha : (c a).1.1 ≠ 0) (hx : x.1 = (c a).1) (hd : rd1 c x) (hs : h_sz H1 = h_sz H) (hfl : h_fl H1 = h_fl H) (hal : h_al H1 = h_al H) (hn : hc ρ x H1 (ρ a))
    (ho : ∀ y, y ≠ ρ a → h_tg H1 y = h_tg H y ∧ h_ln H1 y = h_ln H y ∧ (∀ k, h_fi H1 k y = h_fi H k y ∧ h_fr H1 k y = h_fr H k y) ∧ ∀ i, h_ai H1 y i = h_ai H y i ∧ h_ar H1 y i = h_ar H y i) :
    rc ρ (u1 c a x) H1 ∧ gx ρ c ρ (u1 c a x) := by
  obtain ⟨⟨b1, b2, b3⟩, g2, g3, g4⟩ := g
  have et : ∀ b, (u1 c a x b).1 = (c b).1 := fun b => by
    by_cases e : b = a
    · subst e; rw [u1_eq, hx]
    · rw [u1_ne e]
  refine ⟨⟨⟨fun y hy => ?_, by rw [hfl]; exact b2, by rw [hal]; exact b3⟩, fun b hb => ?_, fun b hb => ?_, fun b d hb hd e => ?_⟩, fun b hb => ⟨rfl, et b⟩⟩
  · rw [hs] at hy
    have := (g2 a ha).1
    obtain ⟨o1, o2, o3, o4⟩ := ho y (by omega)
    obtain ⟨q1, q2, q3, q4⟩ := b1 y hy
    exact ⟨o1.trans q1, o2.trans q2, fun k => ⟨(o3 k).1.trans (q3 k).1, by rw [hfl]; exact b2 k y, (o3 k).2.trans (q3 k).2.2⟩, fun i => ⟨(o4 i).1.trans (q4 i).1, by rw [hal]; exact b3 y i, (o4 i).2.trans (q4 i).2.2⟩⟩
  · rw [et] at hb
    obtain ⟨p1, p2⟩ := g2 b hb
    refine ⟨by omega, ?_⟩
    by_cases e : b = a
    · subst e; rw [u1_eq]; exact hn
    · rw [u1_ne e]
      obtain ⟨o1, o2, o3, o4⟩ := ho (ρ b) (fun q => e (g4 b a hb ha q))
      obtain ⟨p2, p3, p4, p5⟩ := p2
      exact ⟨o1.trans p2, o2.trans p3, fun k => ⟨(o3 k).1.trans (p4 k).1, (o3 k).2.trans (p4 k).2⟩, fun i => ⟨(o4 i).1.trans (p5 i).1, (o4 i).2.trans (p5 i).2⟩⟩
  · rw [et] at hb
    have up : ∀ d, (c d).1.1 ≠ 0 → (u1 c a x d).1.1 ≠ 0 := fun d hd => by rw [et]; exact hd
    by_cases e : b = a
    · subst e; rw [u1_eq]; exact hd.up up
    · rw [u1_ne e]; exact (g3 b hb).up up
  · rw [et] at hb hd; exact g4 b d hb hd e
theorem O_pi {α : Nat} (g : rc ρ c H) (a ci k : Nat) (hα : ρ a = α) (ha : (c a).1.1 = ci + 1) (v : Int32) : ∃ H', p_i H ci k (some α) v = some H' ∧ rc ρ (u1 c a (cPi (c a) (100 * ci + k) v)) H' ∧ gx ρ c ρ (u1 c a (cPi (c a) (100 * ci + k) v)) ∧ h_sz H' = h_sz H ∧ h_sl H' = h_sl H := by
  subst hα
  have h0 : (c a).1.1 ≠ 0 := by omega
  obtain ⟨p1, p2, p3, p4, p5⟩ := g.2.1 a h0
  obtain ⟨x1, x2⟩ := rc_wr (H1 := h_pi H (100 * ci + k) (ρ a) v) (x := cPi (c a) (100 * ci + k) v) g h0 rfl (g.2.2.1 a h0) rfl rfl rfl
    ⟨p2, p3, fun q => ⟨by
      show u2 (h_fi H) (100 * ci + k) (ρ a) v q (ρ a) = u1 (c a).2.1 (100 * ci + k) v q
      by_cases e : q = 100 * ci + k
      · subst e; rw [u2_eq, u1_eq]
      · rw [u2_nk e, u1_ne e]; exact (p4 q).1, (p4 q).2⟩, p5⟩
    (fun y hy => ⟨rfl, rfl, fun q => ⟨u2_ne hy, rfl⟩, fun i => ⟨rfl, rfl⟩⟩)
  refine ⟨_, ?_, x1, x2, rfl, rfl⟩
  unfold p_i
  rw [show g_o H ci (some (ρ a)) = some (ρ a) from if_pos (p2.trans ha)]
  rfl
theorem O_pr {α : Nat} {w : Option Nat} (g : rc ρ c H) (a ci k : Nat) (o : Option Nat) (hα : ρ a = α) (ha : (c a).1.1 = ci + 1) (hw : w = o.map ρ) (hd : ∀ b, o = some b → (c b).1.1 ≠ 0) : ∃ H', p_r H ci k (some α) w = some H' ∧ rc ρ (u1 c a (cPr (c a) (100 * ci + k) o)) H' ∧ gx ρ c ρ (u1 c a (cPr (c a) (100 * ci + k) o)) ∧ h_sz H' = h_sz H ∧ h_sl H' = h_sl H := by
  subst hα
  subst hw
  have h0 : (c a).1.1 ≠ 0 := by omega
  obtain ⟨p1, p2, p3, p4, p5⟩ := g.2.1 a h0
  obtain ⟨x1, x2⟩ := rc_wr (H1 := h_pr H (100 * ci + k) (ρ a) (o.map ρ)) (x := cPr (c a) (100 * ci + k) o) g h0 rfl ⟨fun q b hq => by
      by_cases e : q = 100 * ci + k
      · subst e
        exact hd b (by rw [← hq]; exact u1_eq.symm)
      · exact (g.2.2.1 a h0).1 q b (by rw [← hq]; exact (u1_ne e).symm), (g.2.2.1 a h0).2⟩ rfl rfl rfl
    ⟨p2, p3, fun q => ⟨(p4 q).1, by
      show u2 (h_fr H) (100 * ci + k) (ρ a) (o.map ρ) q (ρ a) = (u1 (c a).2.2.1 (100 * ci + k) o q).map ρ
      by_cases e : q = 100 * ci + k
      · subst e; rw [u2_eq, u1_eq]
      · rw [u2_nk e, u1_ne e]; exact (p4 q).2⟩, p5⟩
    (fun y hy => ⟨rfl, rfl, fun q => ⟨rfl, u2_ne hy⟩, fun i => ⟨rfl, rfl⟩⟩)
  refine ⟨_, ?_, x1, x2, rfl, rfl⟩
  unfold p_r
  rw [show g_o H ci (some (ρ a)) = some (ρ a) from if_pos (p2.trans ha)]
  rfl
theorem O_ai {α : Nat} (g : rc ρ c H) (a t i : Nat) (hα : ρ a = α) (ha : (c a).1.1 = t) (h0 : t ≠ 0) (hi : i < (c a).1.2) (hs : i < 2 ^ 31) (v : Int32) : ∃ H', as_i H t (some α) (nI i) v = some H' ∧ rc ρ (u1 c a (cQi (c a) i v)) H' ∧ gx ρ c ρ (u1 c a (cQi (c a) i v)) ∧ h_sz H' = h_sz H ∧ h_sl H' = h_sl H := by
  subst hα
  have h0 : (c a).1.1 ≠ 0 := by omega
  obtain ⟨p1, p2, p3, p4, p5⟩ := g.2.1 a h0
  obtain ⟨x1, x2⟩ := rc_wr (H1 := h_qi H (ρ a) i v) (x := cQi (c a) i v) g h0 rfl (g.2.2.1 a h0) rfl rfl rfl
    ⟨p2, p3, p4, fun q => ⟨by
      show u2 (h_ai H) (ρ a) i v (ρ a) q = u1 (c a).2.2.2.1 i v q
      by_cases e : q = i
      · subst e; rw [u2_eq, u1_eq]
      · rw [u2_ne e, u1_ne e]; exact (p5 q).1, (p5 q).2⟩⟩
    (fun y hy => ⟨rfl, rfl, fun q => ⟨rfl, rfl⟩, fun q => ⟨u2_nk hy, rfl⟩⟩)
  refine ⟨_, ?_, x1, x2, rfl, rfl⟩
  unfold as_i
  rw [show g_a H t (some (ρ a)) (nI i) = some (ρ a) from if_pos ⟨p2.trans ha, nI_pos hs, by rw [nI_clamp hs, p3]; exact hi⟩]
  show some (h_qi H (ρ a) (nI i).toNatClampNeg v) = _
  rw [nI_clamp hs]
theorem O_ar {α β : Nat} (g : rc ρ c H) (a ci i b : Nat) (hα : ρ a = α) (ha : (c a).1.1 = 30 + ci) (hi : i < (c a).1.2) (hs : i < 2 ^ 31) (hβ : ρ b = β) (hb : (c b).1.1 = ci + 1) : ∃ H', as_r H ci (some α) (nI i) (some β) = some H' ∧ rc ρ (u1 c a (cQr (c a) i (some b))) H' ∧ gx ρ c ρ (u1 c a (cQr (c a) i (some b))) ∧ h_sz H' = h_sz H ∧ h_sl H' = h_sl H := by
  subst hα
  subst hβ
  have h0 : (c a).1.1 ≠ 0 := by omega
  have hb0 : (c b).1.1 ≠ 0 := by omega
  obtain ⟨p1, p2, p3, p4, p5⟩ := g.2.1 a h0
  obtain ⟨q1, q2, q3, q4, q5⟩ := g.2.1 b hb0
  obtain ⟨x1, x2⟩ := rc_wr (H1 := h_qr H (ρ a) i (some (ρ b))) (x := cQr (c a) i (some b)) g h0 rfl ⟨(g.2.2.1 a h0).1, fun q d hq => by
      by_cases e : q = i
      · subst e
        have : (some b : Option Nat) = some d := by rw [← hq]; exact u1_eq.symm
        cases this; exact hb0
      · exact (g.2.2.1 a h0).2 q d (by rw [← hq]; exact (u1_ne e).symm)⟩ rfl rfl rfl
    ⟨p2, p3, p4, fun q => ⟨(p5 q).1, by
      show u2 (h_ar H) (ρ a) i (some (ρ b)) (ρ a) q = (u1 (c a).2.2.2.2 i (some b) q).map ρ
      by_cases e : q = i
      · subst e; rw [u2_eq, u1_eq]; rfl
      · rw [u2_ne e, u1_ne e]; exact (p5 q).2⟩⟩
    (fun y hy => ⟨rfl, rfl, fun q => ⟨rfl, rfl⟩, fun q => ⟨rfl, u2_nk hy⟩⟩)
  refine ⟨_, ?_, x1, x2, rfl, rfl⟩
  unfold as_r
  rw [show g_a H (30 + ci) (some (ρ a)) (nI i) = some (ρ a) from if_pos ⟨p2.trans ha, nI_pos hs, by rw [nI_clamp hs, p3]; exact hi⟩]
  show Option.bind (g_o H ci (some (ρ b))) _ = _
  rw [show g_o H ci (some (ρ b)) = some (ρ b) from if_pos (q2.trans hb)]
  show some (h_qr H (ρ a) (nI i).toNatClampNeg _) = _
  rw [nI_clamp hs]
theorem O_gi {α : Nat} (g : rc ρ c H) (a ci k : Nat) (hα : ρ a = α) (ha : (c a).1.1 = ci + 1) : g_i H ci k (some α) = some ((c a).2.1 (100 * ci + k)) := by
  subst hα
  obtain ⟨p1, p2, p3, p4, p5⟩ := g.2.1 a (by omega)
  unfold g_i
  rw [show g_o H ci (some (ρ a)) = some (ρ a) from if_pos (p2.trans ha)]
  exact congrArg some (p4 _).1
theorem O_gr {α : Nat} (g : rc ρ c H) (a ci k : Nat) (hα : ρ a = α) (ha : (c a).1.1 = ci + 1) : g_r H ci k (some α) = some (((c a).2.2.1 (100 * ci + k)).map ρ) := by
  subst hα
  obtain ⟨p1, p2, p3, p4, p5⟩ := g.2.1 a (by omega)
  unfold g_r
  rw [show g_o H ci (some (ρ a)) = some (ρ a) from if_pos (p2.trans ha)]
  exact congrArg some (p4 _).2
/-- an array of arrays: a the outer one, from b on the inner ones -/
def maC (c : Nat → cD) (a b n : Nat) : Nat → cD := fun x => if x = a then ((50, n), fun _ => 0, fun _ => none, fun _ => 0, fun i => if i < n then some (b + i) else none) else if b ≤ x ∧ x < b + n then oC 20 n else c x
theorem O_ma (g : rc ρ c H) (a b n : Nat) (ha : (c a).1.1 = 0) (hb : ∀ x, b ≤ x → x < b + n → (c x).1.1 = 0) (hab : a < b ∨ b + n ≤ a) (hn : n ≤ 1000) : ∃ ρ' H', n_m H (nI n) (nI n) = some H' ∧ rc ρ' (maC c a b n) H' ∧ gx ρ c ρ' (maC c a b n) ∧ ρ' a = h_sz H ∧ h_sz H' = h_sz H + 1 + n ∧ h_sl H' = h_sl H + n + n * n := by
  obtain ⟨⟨b1, b2, b3⟩, g2, g3, g4⟩ := g
  have ne : ∀ x, (c x).1.1 ≠ 0 → x ≠ a ∧ ¬ (b ≤ x ∧ x < b + n) := fun x hx => ⟨fun e => hx (by rw [e]; exact ha), fun e => hx (hb x e.1 e.2)⟩
  have hr : ∃ ρ' : Nat → Nat, ∀ x, ρ' x = if x = a then h_sz H else if b ≤ x ∧ x < b + n then h_sz H + 1 + (x - b) else ρ x := ⟨_, fun _ => rfl⟩
  obtain ⟨ρ', hr⟩ := hr
  have er : ∀ x, (c x).1.1 ≠ 0 → ρ' x = ρ x := fun x hx => by rw [hr, if_neg (ne x hx).1, if_neg (ne x hx).2]
  have ec : ∀ x, (c x).1.1 ≠ 0 → maC c a b n x = c x := fun x hx => by unfold maC; rw [if_neg (ne x hx).1, if_neg (ne x hx).2]
  have ra : ρ' a = h_sz H := by rw [hr, if_pos rfl]
  have ca : maC c a b n a = ((50, n), fun _ => 0, fun _ => none, fun _ => 0, fun i => if i < n then some (b + i) else none) := if_pos rfl
  have rb : ∀ i, i < n → ρ' (b + i) = h_sz H + 1 + i := fun i hi => by rw [hr, if_neg (by omega), if_pos ⟨by omega, by omega⟩]; omega
  have cb : ∀ i, i < n → maC c a b n (b + i) = oC 20 n := fun i hi => by unfold maC; rw [if_neg (by omega), if_pos ⟨by omega, by omega⟩]
  have cs : ∀ x, (maC c a b n x).1.1 ≠ 0 → x = a ∨ (∃ i, i < n ∧ x = b + i) ∨ (c x).1.1 ≠ 0 := fun x hx => by
    by_cases e1 : x = a
    · exact Or.inl e1
    · by_cases e2 : b ≤ x ∧ x < b + n
      · exact Or.inr (Or.inl ⟨x - b, by omega, by omega⟩)
      · unfold maC at hx
        rw [if_neg e1, if_neg e2] at hx
        exact Or.inr (Or.inr hx)
  have up : ∀ x, (c x).1.1 ≠ 0 → (maC c a b n x).1.1 ≠ 0 := fun x hx => by rw [ec x hx]; exact hx
  have T1 : h_tg (h_ma H n n) (h_sz H) = 50 := if_pos rfl
  have T2 : ∀ i, i < n → h_tg (h_ma H n n) (h_sz H + 1 + i) = 20 := fun i hi => (if_neg (by omega)).trans (if_pos ⟨by omega, by omega⟩)
  have T3 : ∀ x, x < h_sz H ∨ h_sz H + 1 + n ≤ x → h_tg (h_ma H n n) x = h_tg H x := fun x hx => (if_neg (by omega)).trans (if_neg (by omega))
  have L1 : h_ln (h_ma H n n) (h_sz H) = n := if_pos rfl
  have L2 : ∀ i, i < n → h_ln (h_ma H n n) (h_sz H + 1 + i) = n := fun i hi => (if_neg (by omega)).trans (if_pos ⟨by omega, by omega⟩)
  have L3 : ∀ x, x < h_sz H ∨ h_sz H + 1 + n ≤ x → h_ln (h_ma H n n) x = h_ln H x := fun x hx => (if_neg (by omega)).trans (if_neg (by omega))
  have A1 : ∀ x y, x < h_sz H ∨ h_sz H + 1 + n ≤ x → h_ai (h_ma H n n) x y = h_ai H x y := fun x y hx => if_neg (by omega)
  have R1 : ∀ x y, x ≠ h_sz H → h_ar (h_ma H n n) x y = h_ar H x y := fun x y hx => if_neg hx
  have bl := b1
  refine ⟨ρ', h_ma H n n, ?_, ⟨⟨fun x hx => ?_, b2, b3⟩, fun x hx => ?_, fun x hx => ?_, fun x y hx hy e => ?_⟩, fun x hx => ⟨er x hx, by rw [ec x hx]⟩, ra, rfl, rfl⟩
  · unfold n_m
    rw [nI_clamp (by omega)]
    exact if_pos ⟨⟨nI_pos (by omega), nI_pos (by omega)⟩, hn, hn⟩
  · have hx : h_sz H + 1 + n ≤ x := hx
    obtain ⟨q1, q2, q3, q4⟩ := bl x (by omega)
    exact ⟨(T3 x (Or.inr hx)).trans q1, (L3 x (Or.inr hx)).trans q2, q3, fun i => ⟨(A1 x i (Or.inr hx)).trans (q4 i).1, (q4 i).2.1, (R1 x i (by omega)).trans (q4 i).2.2⟩⟩
  · rcases cs x hx with rfl | ⟨i, hi, rfl⟩ | hx2
    · rw [ra, ca]
      obtain ⟨q1, q2, q3, q4⟩ := bl (h_sz H) (Nat.le_refl _)
      refine ⟨by show h_sz H < h_sz H + 1 + n; omega, T1, L1, fun k => ⟨(q3 k).1, (q3 k).2.2⟩, fun i => ⟨(if_neg (by omega)).trans (q4 i).1, ?_⟩⟩
      show (if h_sz H = h_sz H then (if i < n then some (h_sz H + 1 + i) else none) else h_ar H (h_sz H) i) = Option.map ρ' (if i < n then some (b + i) else none)
      rw [if_pos rfl]
      by_cases q : i < n
      · rw [if_pos q, if_pos q]
        exact congrArg some (rb i q).symm
      · rw [if_neg q, if_neg q]; rfl
    · rw [rb i hi, cb i hi]
      obtain ⟨q1, q2, q3, q4⟩ := bl (h_sz H + 1 + i) (by omega)
      exact ⟨by show h_sz H + 1 + i < h_sz H + 1 + n; omega, T2 i hi, L2 i hi, fun k => ⟨(q3 k).1, (q3 k).2.2⟩, fun j => ⟨if_pos ⟨by omega, by omega⟩, (R1 _ j (by omega)).trans (q4 j).2.2⟩⟩
    · obtain ⟨p1, p2, p3, p4, p5⟩ := g2 x hx2
      rw [er x hx2, ec x hx2]
      exact ⟨by show ρ x < h_sz H + 1 + n; omega, hc_map (c := c) ⟨(T3 _ (Or.inl p1)).trans p2, (L3 _ (Or.inl p1)).trans p3, p4, fun i => ⟨(A1 _ i (Or.inl p1)).trans (p5 i).1, (R1 _ i (by omega)).trans (p5 i).2⟩⟩ (g3 x hx2) er⟩
  · rcases cs x hx with rfl | ⟨i, hi, rfl⟩ | hx2
    · rw [ca]
      refine ⟨fun _ _ q => (by cases q), fun i d q => ?_⟩
      have q : (if i < n then some (b + i) else none) = some d := q
      by_cases q2 : i < n
      · rw [if_pos q2] at q
        cases q
        rw [cb i q2]; exact (by decide : (20 : Nat) ≠ 0)
      · rw [if_neg q2] at q; cases q
    · rw [cb i hi]; exact oC_rd
    · rw [ec x hx2]; exact (g3 x hx2).up up
  · rcases cs x hx with rfl | ⟨i, hi, rfl⟩ | hx2 <;> rcases cs y hy with rfl | ⟨j, hj, rfl⟩ | hy2
    · rfl
    · rw [ra, rb j hj] at e; omega
    · rw [ra, er y hy2] at e
      have := (g2 y hy2).1; omega
    · rw [ra, rb i hi] at e; omega
    · rw [rb i hi, rb j hj] at e; omega
    · rw [rb i hi, er y hy2] at e
      have := (g2 y hy2).1; omega
    · rw [ra, er x hx2] at e
      have := (g2 x hx2).1; omega
    · rw [rb j hj, er x hx2] at e
      have := (g2 x hx2).1; omega
    · rw [er x hx2, er y hy2] at e; exact g4 x y hx2 hy2 e
end RC
