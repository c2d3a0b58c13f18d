/-! ===== the constructor of a switch ===== -/
def raC (t n : Nat) (f : Nat → Option Nat) : cD := ((t, n), fun _ => 0, fun _ => none, fun _ => 0, f)
def iaC (n : Nat) (f : Nat → Int32) : cD := ((20, n), fun _ => 0, fun _ => none, f, fun _ => none)
def mf (r : Nat) : Nat → Int32 := fun i => if i < r then -1 else 0
def pf (b r : Nat) : Nat → Option Nat := fun i => if i < r then some (b + i) else none
theorem raC_0 {t n b : Nat} : oC t n = raC t n (pf b 0) := by
  unfold oC raC pf
  have : (fun i => if i < 0 then some (b + i) else none) = (fun _ => none : Nat → Option Nat) := funext fun i => if_neg (by omega)
  rw [this]
theorem iaC_0 {n : Nat} : oC 20 n = iaC n (mf 0) := by
  unfold oC iaC mf
  have : (fun i => if i < 0 then -1 else 0) = (fun _ => 0 : Nat → Int32) := funext fun i => if_neg (by omega)
  rw [this]
theorem raC_s {t n b r : Nat} : cQr (raC t n (pf b r)) r (some (b + r)) = raC t n (pf b (r + 1)) := by
  have : u1 (pf b r) r (some (b + r)) = pf b (r + 1) := funext fun i => by
    by_cases e : i = r
    · subst e; rw [u1_eq]; exact (if_pos (by omega)).symm
    · rw [u1_ne e]
      unfold pf
      by_cases q : i < r
      · rw [if_pos q, if_pos (by omega)]
      · rw [if_neg q, if_neg (by omega)]
  unfold cQr raC
  show (_, _, _, _, u1 (pf b r) r (some (b + r))) = _
  rw [this]
theorem iaC_s {n r : Nat} : cQi (iaC n (mf r)) r (-1) = iaC n (mf (r + 1)) := by
  have : u1 (mf r) r (-1) = mf (r + 1) := funext fun i => by
    by_cases e : i = r
    · subst e; rw [u1_eq]; exact (if_pos (by omega)).symm
    · rw [u1_ne e]
      unfold mf
      by_cases q : i < r
      · rw [if_pos q, if_pos (by omega)]
      · rw [if_neg q, if_neg (by omega)]
  unfold cQi iaC
  show (_, _, _, u1 (mf r) r (-1), _) = _
  rw [this]
section MK2
variable {a s sw nd rm α β : Nat} {o1 : Option Nat} {v2 : Int32}
theorem O_ln {ρ : Nat → Nat} {c : Nat → cD} {H : hM} (g : rc ρ c H) (a t : Nat) (ha : (c a).1.1 = t) (h0 : t ≠ 0) : a_ln H t (some (ρ a)) = some (nI (c a).1.2) := by
  obtain ⟨p1, p2, p3, p4, p5⟩ := g.2.1 a (by omega)
  unfold a_ln
  show (if h_tg H (ρ a) = t then some (Int32.ofNat (h_ln H (ρ a))) else none) = _
  rw [if_pos (p2.trans ha), p3]
  rfl
theorem L92 (hs : s < sw) (h5 : sw ≤ 5) : ∀ d r (ρ : Nat → Nat) (c : Nat → cD) (H : hM) g, r + d = sw → rc ρ c H → ρ (10 + s) = α → c (10 + s) = swC s → c (30 + s) = raC 36 sw (pf (400 + 6 * s) r) → c (40 + s) = iaC sw (mf r) → (∀ j, r ≤ j → j < sw → (c (400 + 6 * s + j)).1.1 = 0 ∧ (c (440 + 6 * s + j)).1.1 = 0) →
    ∃ ρ' c' H', drive k6 (g + d + 1) 92 [.inr (.inr (some α)), .inr (.inr o1), .inl v2, .inl (nI sw), .inl (nI r)] H = drive k6 g 129 [.inr (.inr (some α)), .inr (.inr o1), .inl v2, .inl (nI 0)] H' ∧ rc ρ' c' H' ∧ gx ρ c ρ' c' ∧ c' (30 + s) = raC 36 sw (pf (400 + 6 * s) sw) ∧ c' (40 + s) = iaC sw (mf sw) ∧ (∀ j, r ≤ j → j < sw → c' (400 + 6 * s + j) = ntC (440 + 6 * s + j) ∧ c' (440 + 6 * s + j) = oC 21 31) ∧ (∀ x, x ≠ 30 + s → x ≠ 40 + s → (∀ j, r ≤ j → j < sw → x ≠ 400 + 6 * s + j ∧ x ≠ 440 + 6 * s + j) → c' x = c x) ∧ szL (2 * d) (34 * d) H H' := by
  intro d
  induction d with
  | zero =>
    intro r ρ c H g hr hg Ra Ca Cn Cw hf
    have e : r = sw := by omega
    subst e
    refine ⟨ρ, c, H, ?_, hg, gx.rf, Cn, Cw, fun j h1 h2 => absurd h1 (by omega), fun _ _ _ _ => rfl, rfl, rfl⟩
    refine dr_go (n := g) (q := (129, [.inr (.inr (some α)), .inr (.inr o1), .inl v2, .inl (nI 0)], H)) ?_
    show b6_92 α o1 v2 (nI r) (nI r) H = _
    unfold b6_92
    rw [if_pos (Int32.le_refl _)]
    rfl
  | succ d ih =>
    intro r ρ c H g hr hg Ra Ca Cn Cw hf
    have hr2 : r < sw := by omega
    have q1 : g_r H 10 4 (some α) = some (some (ρ (30 + s))) := by
      rw [O_gr hg (10 + s) 10 4 Ra (by rw [Ca]; rfl), Ca]; rfl
    obtain ⟨ρ1, c1, H1, e1, g1, x1, v1, o1', r1, z1, l1⟩ := K_no hg (400 + 6 * s + r) 6 3 (hf r (Nat.le_refl _) hr2).1
    obtain ⟨ρ2, c2, H2, e2, g2, x2, v2a, v2b, o2, z2, l2⟩ := F5 g1 (400 + 6 * s + r) (440 + 6 * s + r) v1 r1 (by rw [o1' _ (by omega)]; exact (hf r (Nat.le_refl _) hr2).2) (by omega)
    have x12 := x1.tr x2
    have t10 : (c (10 + s)).1.1 ≠ 0 := by rw [Ca]; exact (by decide : (11 : Nat) ≠ 0)
    have t30 : (c (30 + s)).1.1 ≠ 0 := by rw [Cn]; exact (by decide : (36 : Nat) ≠ 0)
    have t40 : (c (40 + s)).1.1 ≠ 0 := by rw [Cw]; exact (by decide : (20 : Nat) ≠ 0)
    have o12 : ∀ x, x ≠ 400 + 6 * s + r → x ≠ 440 + 6 * s + r → c2 x = c x := fun x h1 h2 => (o2 x h1 h2).trans (o1' x h1)
    have C30 : c2 (30 + s) = raC 36 sw (pf (400 + 6 * s) r) := (o12 _ (by omega) (by omega)).trans Cn
    have C40 : c2 (40 + s) = iaC sw (mf r) := (o12 _ (by omega) (by omega)).trans Cw
    have C10 : c2 (10 + s) = swC s := (o12 _ (by omega) (by omega)).trans Ca
    have rn : ρ2 (400 + 6 * s + r) = h_sz H := ((x2 _ (by rw [v1]; exact (by decide : (7 : Nat) ≠ 0))).1).trans r1
    obtain ⟨c3, H3, e3, g3, x3, v3, o3, z3, l3⟩ := K_ar g2 (30 + s) 6 r (400 + 6 * s + r) (x12 _ t30).1 (by rw [C30]; rfl) (by rw [C30]; exact hr2) (by omega) rn (by rw [v2a]; rfl)
    have C30' : c3 (30 + s) = raC 36 sw (pf (400 + 6 * s) (r + 1)) := by rw [v3, C30, raC_s]
    have C10' : c3 (10 + s) = swC s := (o3 _ (by omega)).trans C10
    have C40' : c3 (40 + s) = iaC sw (mf r) := (o3 _ (by omega)).trans C40
    have R10 : ρ2 (10 + s) = α := (x12 _ t10).1.trans Ra
    have q2 : g_r H3 10 8 (some α) = some (some (ρ2 (40 + s))) := by
      rw [O_gr g3 (10 + s) 10 8 R10 (by rw [C10']; rfl), C10']; rfl
    obtain ⟨c4, H4, e4, g4, x4, v4, o4, z4, l4⟩ := K_ai g3 (40 + s) 20 r rfl (by rw [C40']; rfl) (by decide) (by rw [C40']; exact hr2) (by omega) (-1)
    have C40'' : c4 (40 + s) = iaC sw (mf (r + 1)) := by rw [v4, C40', iaC_s]
    have st : k6 92 [.inr (.inr (some α)), .inr (.inr o1), .inl v2, .inl (nI sw), .inl (nI r)] H = some (.inr (92, [.inr (.inr (some α)), .inr (.inr o1), .inl v2, .inl (nI sw), .inl (nI (r + 1))], H4)) := by
      show b6_92 α o1 v2 (nI sw) (nI r) H = _
      unfold b6_92
      rw [if_neg (nI_ge hr2 (by omega)), bd_s q1, bd_s e1, bd_s (c_V_of e2), bd_s e3, bd_s q2, bd_s e4, nI_1]
    have on : ∀ x, x ≠ 30 + s → x ≠ 40 + s → x ≠ 400 + 6 * s + r → x ≠ 440 + 6 * s + r → c4 x = c x := fun x h1 h2 h3 h4 => (o4 x h2).trans ((o3 x h1).trans (o12 x h3 h4))
    obtain ⟨ρ', c', H', y1, y2, y3, y4, y5, y6, y7, y8⟩ := ih (r + 1) ρ2 c4 H4 g (by omega) g4 R10 ((o4 _ (by omega)).trans C10') ((o4 _ (by omega)).trans C30') C40'' (fun j h1 h2 => by rw [on _ (by omega) (by omega) (by omega) (by omega), on _ (by omega) (by omega) (by omega) (by omega)]; exact hf j (by omega) h2)
    refine ⟨ρ', c', H', ?_, y2, ((x12.tr x3).tr x4).tr y3, y4, y5, fun j h1 h2 => ?_, fun x h1 h2 h3 => ?_, ?_⟩
    · rw [show g + (d + 1) + 1 = (g + d + 1) + 1 by omega, dr_go st]; exact y1
    · by_cases e : j = r
      · subst e
        constructor
        · rw [y7 _ (by omega) (by omega) (fun i _ _ => by omega), o4 _ (by omega), o3 _ (by omega)]; exact v2a
        · rw [y7 _ (by omega) (by omega) (fun i _ _ => by omega), o4 _ (by omega), o3 _ (by omega)]; exact v2b
      · exact y6 j (by omega) h2
    · rw [y7 x h1 h2 (fun j q1 q2 => h3 j (by omega) q2)]
      exact on x h1 h2 (h3 r (Nat.le_refl _) hr2).1 (h3 r (Nat.le_refl _) hr2).2
    · obtain ⟨y8, y9⟩ := y8
      exact ⟨by omega, by omega⟩
theorem L129 (hs : s < 5) : ∀ d r (ρ : Nat → Nat) (c : Nat → cD) (H : hM) g, r + d = 16 → rc ρ c H → ρ (10 + s) = α → c (10 + s) = swC s → c (50 + s) = iaC 16 (mf r) →
    ∃ c' H', drive k6 (g + d + 1) 129 [.inr (.inr (some α)), .inr (.inr o1), .inl v2, .inl (nI r)] H = drive k6 g 156 [.inr (.inr (some α)), .inr (.inr o1), .inl v2, .inl (nI 0)] H' ∧ rc ρ c' H' ∧ gx ρ c ρ c' ∧ c' (50 + s) = iaC 16 (mf 16) ∧ (∀ x, x ≠ 50 + s → c' x = c x) ∧ szL 0 0 H H' := by
  intro d
  induction d with
  | zero =>
    intro r ρ c H g hr hg Ra Ca Cn
    have e : r = 16 := by omega
    subst e
    have q1 : g_r H 10 9 (some α) = some (some (ρ (50 + s))) := by
      rw [O_gr hg (10 + s) 10 9 Ra (by rw [Ca]; rfl), Ca]; rfl
    have q2 : a_ln H 20 (some (ρ (50 + s))) = some (nI 16) := by rw [O_ln hg (50 + s) 20 (by rw [Cn]; rfl) (by decide), Cn]; rfl
    refine ⟨c, H, ?_, hg, gx.rf, Cn, fun _ _ => rfl, rfl, rfl⟩
    refine dr_go (n := g) (q := (156, [.inr (.inr (some α)), .inr (.inr o1), .inl v2, .inl (nI 0)], H)) ?_
    show b6_129 α o1 v2 (nI 16) H = _
    unfold b6_129
    rw [bd_s q1, bd_s q2, if_pos (Int32.le_refl _)]
    rfl
  | succ d ih =>
    intro r ρ c H g hr hg Ra Ca Cn
    have q1 : g_r H 10 9 (some α) = some (some (ρ (50 + s))) := by
      rw [O_gr hg (10 + s) 10 9 Ra (by rw [Ca]; rfl), Ca]; rfl
    have q2 : a_ln H 20 (some (ρ (50 + s))) = some (nI 16) := by rw [O_ln hg (50 + s) 20 (by rw [Cn]; rfl) (by decide), Cn]; rfl
    obtain ⟨c4, H4, e4, g4, x4, v4, o4, z4, l4⟩ := K_ai hg (50 + s) 20 r rfl (by rw [Cn]; rfl) (by decide) (by rw [Cn]; show r < 16; omega) (by omega) (-1)
    have st : k6 129 [.inr (.inr (some α)), .inr (.inr o1), .inl v2, .inl (nI r)] H = some (.inr (129, [.inr (.inr (some α)), .inr (.inr o1), .inl v2, .inl (nI (r + 1))], H4)) := by
      show b6_129 α o1 v2 (nI r) H = _
      unfold b6_129
      rw [bd_s q1, bd_s q2, if_neg (nI_ge (by omega) (by omega)), bd_s q1, bd_s e4, nI_1]
    obtain ⟨c', H', y1, y2, y3, y4, y5, y6⟩ := ih (r + 1) ρ c4 H4 g (by omega) g4 Ra ((o4 _ (by omega)).trans Ca) (by rw [v4, Cn, iaC_s])
    refine ⟨c', H', ?_, y2, x4.tr y3, y4, fun x h => (y5 x h).trans (o4 x h), ?_⟩
    · rw [show g + (d + 1) + 1 = (g + d + 1) + 1 by omega, dr_go st]; exact y1
    · obtain ⟨y8, y9⟩ := y6
      exact ⟨by omega, by omega⟩
theorem L156 {y : cD} (hs : s < 5) (hy : y.1.1 ≠ 0) : ∀ d r (ρ : Nat → Nat) (c : Nat → cD) (H : hM) g, r + d = 8 → rc ρ c H → ρ (10 + s) = α → c (10 + s) = swC s → ρ 2 = β → c 2 = y → c (20 + s) = raC 38 8 (pf (200 + 8 * s) r) → (∀ j, r ≤ j → j < 8 → (c (200 + 8 * s + j)).1.1 = 0 ∧ (c (250 + 8 * s + j)).1.1 = 0 ∧ (c (300 + 8 * s + j)).1.1 = 0) →
    ∃ ρ' c' H', drive k6 (g + d + 1) 156 [.inr (.inr (some α)), .inr (.inr (some β)), .inl (nI s), .inl (nI r)] H = some (none, H') ∧ rc ρ' c' H' ∧ gx ρ c ρ' c' ∧ c' (20 + s) = raC 38 8 (pf (200 + 8 * s) 8) ∧ (∀ j, r ≤ j → j < 8 → c' (200 + 8 * s + j) = poC (250 + 8 * s + j) (300 + 8 * s + j) 2 (nI s) (nI j) ∧ c' (250 + 8 * s + j) = oC 4 0 ∧ c' (300 + 8 * s + j) = oC 4 0) ∧ (∀ x, x ≠ 20 + s → (∀ j, r ≤ j → j < 8 → x ≠ 200 + 8 * s + j ∧ x ≠ 250 + 8 * s + j ∧ x ≠ 300 + 8 * s + j) → c' x = c x) ∧ szL (3 * d) (21 * d) H H' := by
  intro d
  induction d with
  | zero =>
    intro r ρ c H g hr hg Ra Ca Rs Cs Cn hf
    have e : r = 8 := by omega
    subst e
    refine ⟨ρ, c, H, ?_, hg, gx.rf, Cn, fun j h1 h2 => absurd h1 (by omega), fun _ _ _ => rfl, rfl, rfl⟩
    refine dr_end (n := g) ?_
    show b6_156 α (some β) (nI s) (nI 8) H = _
    unfold b6_156
    rw [if_pos (show (8 : Int32) ≤ nI 8 from Int32.le_refl _)]
  | succ d ih =>
    intro r ρ c H g hr hg Ra Ca Rs Cs Cn hf
    have hr2 : r < 8 := by omega
    have q1 : g_r H 10 2 (some α) = some (some (ρ (20 + s))) := by
      rw [O_gr hg (10 + s) 10 2 Ra (by rw [Ca]; rfl), Ca]; rfl
    obtain ⟨f1, f2', f3⟩ := hf r (Nat.le_refl _) hr2
    obtain ⟨ρ1, c1, H1, e1, g1, x1, v1, o1', r1, z1, l1⟩ := K_no hg (200 + 8 * s + r) 8 15 f1
    have t2 : (c 2).1.1 ≠ 0 := by rw [Cs]; exact hy
    obtain ⟨ρ2, c2, H2, e2, g2, x2, v2a, v2b, v2c, o2, z2, l2⟩ := F2 (v2 := nI s) (v3 := nI r) g1 (200 + 8 * s + r) (250 + 8 * s + r) (300 + 8 * s + r) 2 v1 r1 ((o1' 2 (by omega)).trans Cs) hy ((x1 2 t2).1.trans Rs) (by rw [o1' _ (by omega)]; exact f2') (by rw [o1' _ (by omega)]; exact f3) (by omega)
    have x12 := x1.tr x2
    have t10 : (c (10 + s)).1.1 ≠ 0 := by rw [Ca]; exact (by decide : (11 : Nat) ≠ 0)
    have t20 : (c (20 + s)).1.1 ≠ 0 := by rw [Cn]; exact (by decide : (38 : Nat) ≠ 0)
    have o12 : ∀ x, x ≠ 200 + 8 * s + r → x ≠ 250 + 8 * s + r → x ≠ 300 + 8 * s + r → c2 x = c x := fun x h1 h2 h3 => (o2 x h1 h2 h3).trans (o1' x h1)
    have C20 : c2 (20 + s) = raC 38 8 (pf (200 + 8 * s) r) := (o12 _ (by omega) (by omega) (by omega)).trans Cn
    have C10 : c2 (10 + s) = swC s := (o12 _ (by omega) (by omega) (by omega)).trans Ca
    have rn : ρ2 (200 + 8 * s + r) = h_sz H := ((x2 _ (by rw [v1]; exact (by decide : (9 : Nat) ≠ 0))).1).trans r1
    obtain ⟨c3, H3, e3, g3, x3, v3, o3, z3, l3⟩ := K_ar g2 (20 + s) 8 r (200 + 8 * s + r) (x12 _ t20).1 (by rw [C20]; rfl) (by rw [C20]; exact hr2) (by omega) rn (by rw [v2a]; rfl)
    have st : k6 156 [.inr (.inr (some α)), .inr (.inr (some β)), .inl (nI s), .inl (nI r)] H = some (.inr (156, [.inr (.inr (some α)), .inr (.inr (some β)), .inl (nI s), .inl (nI (r + 1))], H3)) := by
      show b6_156 α (some β) (nI s) (nI r) H = _
      unfold b6_156
      rw [if_neg (show ¬ (8 : Int32) ≤ nI r from nI_ge (b := 8) hr2 (by omega)), bd_s q1, bd_s e1, bd_s (c_V_of e2), bd_s e3, nI_1]
    have on : ∀ x, x ≠ 20 + s → x ≠ 200 + 8 * s + r → x ≠ 250 + 8 * s + r → x ≠ 300 + 8 * s + r → c3 x = c x := fun x h1 h2 h3 h4 => (o3 x h1).trans (o12 x h2 h3 h4)
    obtain ⟨ρ', c', H', y1, y2, y3, y4, y5, y6, y7⟩ := ih (r + 1) ρ2 c3 H3 g (by omega) g3 ((x12 _ t10).1.trans Ra) ((o3 _ (by omega)).trans C10) ((x12 _ t2).1.trans Rs) ((on 2 (by omega) (by omega) (by omega) (by omega)).trans Cs) (by rw [v3, C20, raC_s]) (fun j h1 h2 => by rw [on _ (by omega) (by omega) (by omega) (by omega), on _ (by omega) (by omega) (by omega) (by omega), on _ (by omega) (by omega) (by omega) (by omega)]; exact hf j (by omega) h2)
    refine ⟨ρ', c', H', ?_, y2, (x12.tr x3).tr y3, y4, fun j h1 h2 => ?_, fun x h1 h2 => ?_, ?_⟩
    · rw [show g + (d + 1) + 1 = (g + d + 1) + 1 by omega, dr_go st]; exact y1
    · by_cases e : j = r
      · subst e
        rw [y6 (200 + 8 * s + j) (by omega) (fun i _ _ => by omega), y6 (250 + 8 * s + j) (by omega) (fun i _ _ => by omega), y6 (300 + 8 * s + j) (by omega) (fun i _ _ => by omega), o3 (200 + 8 * s + j) (by omega), o3 (250 + 8 * s + j) (by omega), o3 (300 + 8 * s + j) (by omega)]
        exact ⟨v2a, v2b, v2c⟩
      · exact y5 j (by omega) h2
    · rw [y6 x h1 (fun j q1 q2 => h2 j (by omega) q2)]
      obtain ⟨w1, w2, w3⟩ := h2 r (Nat.le_refl _) hr2
      exact on x h1 w1 w2 w3
    · obtain ⟨y8, y9⟩ := y7
      exact ⟨by omega, by omega⟩
/-- switch s is made -/
def swF (sw s : Nat) (c : Nat → cD) : Prop := (c (10 + s) = swC s ∧ c (20 + s) = raC 38 8 (pf (200 + 8 * s) 8) ∧ c (30 + s) = raC 36 sw (pf (400 + 6 * s) sw) ∧ c (40 + s) = iaC sw (mf sw) ∧ c (50 + s) = iaC 16 (mf 16) ∧ c (60 + s) = maO (80 + 5 * s) sw ∧ c (70 + s) = maO (110 + 5 * s) sw) ∧ ((∀ j, j < sw → c (80 + 5 * s + j) = oC 20 sw) ∧ ∀ j, j < sw → c (110 + 5 * s + j) = oC 20 sw) ∧ (∀ j, nj sw j → c (400 + 6 * s + j) = ntC (440 + 6 * s + j) ∧ c (440 + 6 * s + j) = oC 21 31) ∧ ∀ j, j < 8 → c (200 + 8 * s + j) = poC (250 + 8 * s + j) (300 + 8 * s + j) 2 (nI s) (nI j) ∧ c (250 + 8 * s + j) = oC 4 0 ∧ c (300 + 8 * s + j) = oC 4 0
theorem F6 {y : cD} {ρ : Nat → Nat} {c : Nat → cD} {H : hM} (g : rc ρ c H) (hs : s < sw) (h5 : sw ≤ 5) (Ca : c (10 + s) = oC 11 0) (Ra : ρ (10 + s) = α) (Cs : c 2 = y) (hy : y.1.1 = 10) (hy2 : y.2.1 900 = nI sw) (Rs : ρ 2 = β) (hf : ∀ x, regS sw s x → x ≠ 10 + s → (c x).1.1 = 0) : ∃ ρ' c' H', f6 [.inr (.inr (some α)), .inr (.inr (some β)), .inl (nI s)] H = some (none, H') ∧ rc ρ' c' H' ∧ gx ρ c ρ' c' ∧ swF sw s c' ∧ (∀ x, ¬ regS sw s x → c' x = c x) ∧ h_sz H' ≤ h_sz H + 60 ∧ h_sl H' ≤ h_sl H + 600 := by
  obtain ⟨ρ1, c1, H1, e1, g1, x1, ⟨a1, a2, a3, a4, a5, a6, a7, a8, a9⟩, ⟨b1, b2⟩, o1, z1, l1⟩ := F6a g hs h5 Ca Ra Cs hy hy2 Rs hf
  have t10 : (c (10 + s)).1.1 ≠ 0 := by rw [Ca]; exact (by decide : (11 : Nat) ≠ 0)
  have t2 : (c 2).1.1 ≠ 0 := by rw [Cs, hy]; decide
  have R1 := (x1 _ t10).1.trans Ra
  obtain ⟨ρ2, c2, H2, e2, g2, x2, p1, p2, p3, p4, z2, l2⟩ := L92 (α := α) (o1 := some β) (v2 := nI s) hs h5 sw 0 ρ1 c1 H1 (999998 - sw + 1) (by omega) g1 R1 a1 (a6.trans raC_0) (a9.trans iaC_0) (fun j _ hj => by
    rw [o1 _ (Or.inr (Or.inl ⟨by omega, by omega⟩)), o1 _ (Or.inr (Or.inr (Or.inl ⟨by omega, by omega⟩)))]
    exact ⟨hf _ (by unfold regS; omega) (by omega), hf _ (by unfold regS; omega) (by omega)⟩)
  have q4 : ∀ x, (x < 400 ∨ x = 405 + 6 * s ∨ x = 445 + 6 * s) → x ≠ 30 + s → x ≠ 40 + s → c2 x = c1 x := fun x hx h1 h2 => p4 x h1 h2 (fun j _ hj => by omega)
  have R2 := (x2 _ (by rw [a1]; exact (by decide : (11 : Nat) ≠ 0))).1.trans R1
  have A1 := (q4 (10 + s) (by omega) (by omega) (by omega)).trans a1
  obtain ⟨c3, H3, e3, g3, x3, r1, r2, z3, l3⟩ := L129 (α := α) (o1 := some β) (v2 := nI s) (by omega) 16 0 ρ2 c2 H2 (999982 - sw) (by omega) g2 R2 A1 ((q4 _ (by omega) (by omega) (by omega)).trans (a5.trans iaC_0))
  have q3 : ∀ x, (x < 400 ∨ x = 405 + 6 * s ∨ x = 445 + 6 * s) → x ≠ 30 + s → x ≠ 40 + s → x ≠ 50 + s → c3 x = c1 x := fun x hx h1 h2 h3 => (r2 x h3).trans (q4 x hx h1 h2)
  have C2 : c1 2 = y := (o1 2 (Or.inl (by unfold regS; omega))).trans Cs
  obtain ⟨ρ4, c4, H4, e4, g4, x4, s1, s2, s3, z4, l4⟩ := L156 (α := α) (β := β) (s := s) (by omega) (show y.1.1 ≠ 0 by rw [hy]; decide) 8 0 ρ2 c3 H3 (999973 - sw) (by omega) g3 R2 ((r2 _ (by omega)).trans A1) ((x2 2 (by rw [C2, hy]; decide)).1.trans ((x1 2 t2).1.trans Rs)) ((q3 2 (by omega) (by omega) (by omega) (by omega)).trans C2) ((q3 _ (by omega) (by omega) (by omega) (by omega)).trans (a2.trans raC_0)) (fun j _ hj => by
    rw [q3 _ (by omega) (by omega) (by omega) (by omega), q3 _ (by omega) (by omega) (by omega) (by omega), q3 _ (by omega) (by omega) (by omega) (by omega), o1 _ (Or.inr (Or.inr (Or.inr ⟨by omega, by omega⟩))), o1 _ (Or.inr (Or.inr (Or.inr ⟨by omega, by omega⟩))), o1 _ (Or.inr (Or.inr (Or.inr ⟨by omega, by omega⟩)))]
    exact ⟨hf _ (by unfold regS; omega) (by omega), hf _ (by unfold regS; omega) (by omega), hf _ (by unfold regS; omega) (by omega)⟩)
  have w4 : ∀ x, (x < 200 ∨ 400 ≤ x) → x ≠ 20 + s → c4 x = c3 x := fun x hx h1 => s3 x h1 (fun j _ hj => by omega)
  refine ⟨ρ4, c4, H4, ?_, g4, ((x1.tr x2).tr x3).tr x4, ⟨⟨?_, s1, ?_, ?_, ?_, ?_, ?_⟩, ⟨fun j hj => ?_, fun j hj => ?_⟩, fun j hj => ?_, fun j hj => s2 j (by omega) hj⟩, fun x hx => ?_, by omega, by omega⟩
  · show x_go k6 (b6_0 α (some β) (nI s) H) = _
    rw [e1]
    show drive k6 xF 92 _ H1 = _
    have f1 : drive k6 xF 92 [.inr (.inr (some α)), .inr (.inr (some β)), .inl (nI s), .inl (nI sw), .inl (0 : Int32)] H1 = drive k6 (999998 - sw + 1) 129 [.inr (.inr (some α)), .inr (.inr (some β)), .inl (nI s), .inl (nI 0)] H2 := by
      rw [← e2, show 999998 - sw + 1 + sw + 1 = xF by unfold xF; omega]; rfl
    have f2' : drive k6 (999998 - sw + 1) 129 [.inr (.inr (some α)), .inr (.inr (some β)), .inl (nI s), .inl (nI 0)] H2 = drive k6 (999982 - sw) 156 [.inr (.inr (some α)), .inr (.inr (some β)), .inl (nI s), .inl (nI 0)] H3 := by
      rw [← e3, show 999982 - sw + 16 + 1 = 999998 - sw + 1 by omega]
    have f3' : drive k6 (999982 - sw) 156 [.inr (.inr (some α)), .inr (.inr (some β)), .inl (nI s), .inl (nI 0)] H3 = some (none, H4) := by
      rw [← e4, show 999973 - sw + 8 + 1 = 999982 - sw by omega]
    exact (f1.trans f2').trans f3'
  · rw [w4 _ (by omega) (by omega), r2 _ (by omega)]; exact A1
  · rw [w4 _ (by omega) (by omega), r2 _ (by omega)]; exact p1
  · rw [w4 _ (by omega) (by omega), r2 _ (by omega)]; exact p2
  · rw [w4 _ (by omega) (by omega)]; exact r1
  · rw [w4 _ (by omega) (by omega), q3 _ (by omega) (by omega) (by omega) (by omega)]; exact a7
  · rw [w4 _ (by omega) (by omega), q3 _ (by omega) (by omega) (by omega) (by omega)]; exact a8
  · rw [w4 _ (by omega) (by omega), q3 _ (by omega) (by omega) (by omega) (by omega)]; exact b1 _ (by omega) (by omega)
  · rw [w4 _ (by omega) (by omega), q3 _ (by omega) (by omega) (by omega) (by omega)]; exact b2 _ (by omega) (by omega)
  · rcases hj with hj | rfl
    · rw [w4 _ (by omega) (by omega), w4 _ (by omega) (by omega), r2 _ (by omega), r2 _ (by omega)]
      exact p3 j (by omega) hj
    · rw [w4 _ (by omega) (by omega), w4 _ (by omega) (by omega), q3 _ (by omega) (by omega) (by omega) (by omega), q3 _ (by omega) (by omega) (by omega) (by omega), show 400 + 6 * s + 5 = 405 + 6 * s by omega, show 440 + 6 * s + 5 = 445 + 6 * s by omega]
      exact ⟨a3, a4⟩
  · have hx' := hx
    unfold regS at hx'
    rw [s3 x (by omega) (fun j _ hj => by omega), r2 x (by omega), p4 x (by omega) (by omega) (fun j _ hj => by omega)]
    exact o1 x (Or.inl hx)
end MK2
