/-! ===== the law's heap: the class under other addresses, the reference ===== -/
def Yr (m : Nat) (ad : Nat → Nat) : Nat → Prop := fun a => a = m ∨ ∃ k, k < 61 ∧ 20 ≤ mT.getD k 0 ∧ a = ad k
def LV (sw nd rm t zb sb o m : Nat) (ad : Nat → Nat) (H : hM) : Prop := ∃ N S ρ, AX sw nd rm t zb sb N S ∧ rn (Yr m ad) H ρ N H ∧ rR m ad H S ∧ ρ 1 = o
def LC (sw nd rm t zb sb o m : Nat) (ad : Nat → Nat) (H : hM) : Prop := ∃ t' zb' sb', LV sw nd rm t' zb' sb' o m ad H ∧ t' ≤ t + 300 ∧ zb' ≤ zb + 16 ∧ sb' ≤ sb + 131
section LW
variable {sw nd rm t zb sb o m : Nat} {ad : Nat → Nat} {H H1 N M0 : hM} {S S' : sT} {ρ : Nat → Nat} {xs : Nat → Int32} {n j : Nat}
theorem AX.I (h : AX sw nd rm t zb sb N S) : cI sw nd rm N := by
  obtain ⟨ia, w, pe, wo, fl, kR, ka, tog, nc, ca, hh, lv, jj, G, ⟨hT, -⟩, -⟩ := h
  exact hT.I
theorem LV.go (h : LV sw nd rm t zb sb o m ad H) : g_o H 11 (some o) = some o := by
  obtain ⟨N, S, ρ, hA, hr, -, rfl⟩ := h
  have h1 : h_tg N 1 = 12 := hA.I.fab0
  exact if_pos ((hr.2.1 1 (by rw [h1]; decide)).2.2.1.trans h1)
theorem rR_Y (h : rR m ad H S) (g : rn (Yr m ad) H ρ N H1) : rR m ad H1 S := by
  obtain ⟨h1, h2, h3, h4⟩ := h
  have g6 := g.2.2.2.2.2
  obtain ⟨-, q1, -, q2, -⟩ := g6 m (Or.inl rfl)
  refine ⟨q1.trans h1, fun k hk ht => (q2 _).1.trans (h2 k hk ht), fun k hk ht => ?_, h4⟩
  obtain ⟨y1, y2, y3, y4, y5⟩ := h3 k hk ht
  obtain ⟨-, p1, p2, -, p3⟩ := g6 (ad k) (Or.inr ⟨k, hk, ht, rfl⟩)
  exact ⟨(q2 _).2.2.trans y1, p1.trans y2, p2.trans y3, fun q i hi => (p3 i).1.trans (y4 q i hi), fun q i hi => (p3 i).2.1.trans (y5 q i hi)⟩
theorem rn_sm (g : rn (Yr m ad) M0 ρ N H) (s : sm m ad H H1) : rn (Yr m ad) H1 ρ N H1 := by
  obtain ⟨⟨⟨b1, b2⟩, b3, b4⟩, g2, g3, g4, g5, g6⟩ := g
  obtain ⟨⟨s1, s2, s3, s4, s5, s6, s7⟩, s8, s9⟩ := s
  have nm : ∀ a, ¬ Yr m ad a → (∀ f, h_fi H1 f a = h_fi H f a) ∧ ∀ i, h_ai H1 a i = h_ai H a i ∧ h_al H1 a i = h_al H a i := fun a ha => ⟨fun f => s8 f a (fun e => ha (Or.inl e)), fun i => s9 a i (fun k hk ht e => ha (Or.inr ⟨k, hk, ht, e⟩))⟩
  refine ⟨⟨⟨b1, fun a ha => ?_⟩, by rw [s6]; exact b3, by rw [s7]; exact b4⟩, fun a ha => ?_, fun a ha k => ?_, fun a ha i => ?_, g5, fun y hy => ⟨by rw [s6]; exact (g6 y hy).1, rfl, rfl, fun _ => ⟨rfl, rfl, rfl⟩, fun _ => ⟨rfl, rfl, rfl⟩⟩⟩
  · rw [s6] at ha
    have nY : ¬ Yr m ad a := fun q => by have := (g6 a q).1; omega
    obtain ⟨c1, c2, c3, c4⟩ := b2 a ha
    obtain ⟨e1, e2⟩ := nm a nY
    rw [s5, s4, s1, s2, s3]
    exact ⟨c1, c2, fun k => ⟨(e1 k).trans (c3 k).1, (c3 k).2⟩, fun i => ⟨(e2 i).1.trans (c4 i).1, (e2 i).2.trans (c4 i).2.1, (c4 i).2.2⟩⟩
  · rw [s6, s5, s4]; exact g2 a ha
  · rw [s1, s2, (nm _ (g2 a ha).2.1).1]; exact g3 a ha k
  · rw [s3, ((nm _ (g2 a ha).2.1).2 i).1, ((nm _ (g2 a ha).2.1).2 i).2]; exact g4 a ha i
theorem rR_13 (h : rR m ad H S) : g_o H 12 (some m) = some m := if_pos h.1
/-- a call of both, an int their answer -/
theorem L_I {F G : List aV → hM → xO} {e : sT → Option (Int32 × sT)} {as : List aV} (hL : LV sw nd rm t zb sb o m ad H) (hv : ∀ (ρ : Nat → Nat) (N : hM), vl ρ N as as)
    (hw : ∀ {Y : Nat → Prop} {M0 : hM} {ρ : Nat → Nat} {as as_x : List aV} {M H M' : hM} {r : Option aV}, F as M = some (r, M') → rn Y M0 ρ M H → vl ρ M as as_x → wr Y M0 ρ M r M' (F as_x H))
    (hu : ∀ {M : hM} {S : sT} {q : Int32 × sT}, rR m ad M S → e S = some q → ∃ M1, G (.inr (.inr (some m)) :: as) M = some (some (.inl q.1), M1) ∧ rR m ad M1 q.2 ∧ sm m ad M M1)
    (hc : ∀ {M : hM} {S : sT}, AX sw nd rm t zb sb M S → ∃ r M' S', F (.inr (.inr (some 1)) :: as) M = some (some (.inl r), M') ∧ e S = some (r, S') ∧ CR sw nd rm t zb sb M' S') :
    ∃ r H1 H2, F (.inr (.inr (some o)) :: as) H = some (some (.inl r), H1) ∧ g_o H1 12 (some m) = some m ∧ G (.inr (.inr (some m)) :: as) H1 = some (some (.inl r), H2) ∧ LC sw nd rm t zb sb o m ad H2 := by
  obtain ⟨N, S, ρ, hA, hr, hR, rfl⟩ := hL
  have h1 : h_tg N 1 ≠ 0 := by rw [show h_tg N 1 = 12 from hA.I.fab0]; decide
  obtain ⟨r, N', S', q1, q2, t', zb', sb', hA', b1, b2, b3⟩ := hc hA
  obtain ⟨ρ', r', H1, x1, x2, x3, x4⟩ := hw q1 hr (vl_c (va_r ⟨rfl, fun a ha => by cases ha; exact h1⟩) (hv ρ N) : vl ρ N (.inr (.inr (some 1)) :: as) (.inr (.inr (some (ρ 1))) :: as))
  have er : r' = some (.inl r) := by
    cases r' with
    | none => exact x2.elim
    | some y =>
      rcases y with y | y | y
      · exact congrArg (fun z => some (Sum.inl z)) (show y = r from x2)
      · exact x2.elim
      · exact x2.elim
  subst er
  have hR1 := rR_Y hR x3
  obtain ⟨H2, y1, y2, y3⟩ := hu hR1 q2
  exact ⟨r, H1, H2, x1, rR_13 hR1, y1, t', zb', sb', ⟨N', S', ρ', hA', rn_sm x3 y3, y2, (x4 1 h1).1⟩, b1, b2, b3⟩
theorem L_L {F G : List aV → hM → xO} {e : sT → Option (Int64 × sT)} {as : List aV} (hL : LV sw nd rm t zb sb o m ad H) (hv : ∀ (ρ : Nat → Nat) (N : hM), vl ρ N as as)
    (hw : ∀ {Y : Nat → Prop} {M0 : hM} {ρ : Nat → Nat} {as as_x : List aV} {M H M' : hM} {r : Option aV}, F as M = some (r, M') → rn Y M0 ρ M H → vl ρ M as as_x → wr Y M0 ρ M r M' (F as_x H))
    (hu : ∀ {M : hM} {S : sT} {q : Int64 × sT}, rR m ad M S → e S = some q → ∃ M1, G (.inr (.inr (some m)) :: as) M = some (some (.inr (.inl q.1)), M1) ∧ rR m ad M1 q.2 ∧ sm m ad M M1)
    (hc : ∀ {M : hM} {S : sT}, AX sw nd rm t zb sb M S → ∃ r M' S', F (.inr (.inr (some 1)) :: as) M = some (some (.inr (.inl r)), M') ∧ e S = some (r, S') ∧ CR sw nd rm t zb sb M' S') :
    ∃ r H1 H2, F (.inr (.inr (some o)) :: as) H = some (some (.inr (.inl r)), H1) ∧ g_o H1 12 (some m) = some m ∧ G (.inr (.inr (some m)) :: as) H1 = some (some (.inr (.inl r)), H2) ∧ LC sw nd rm t zb sb o m ad H2 := by
  obtain ⟨N, S, ρ, hA, hr, hR, rfl⟩ := hL
  have h1 : h_tg N 1 ≠ 0 := by rw [show h_tg N 1 = 12 from hA.I.fab0]; decide
  obtain ⟨r, N', S', q1, q2, t', zb', sb', hA', b1, b2, b3⟩ := hc hA
  obtain ⟨ρ', r', H1, x1, x2, x3, x4⟩ := hw q1 hr (vl_c (va_r ⟨rfl, fun a ha => by cases ha; exact h1⟩) (hv ρ N) : vl ρ N (.inr (.inr (some 1)) :: as) (.inr (.inr (some (ρ 1))) :: as))
  have er : r' = some (.inr (.inl r)) := by
    cases r' with
    | none => exact x2.elim
    | some y =>
      rcases y with y | y | y
      · exact x2.elim
      · exact congrArg (fun z => some (Sum.inr (Sum.inl z))) (show y = r from x2)
      · exact x2.elim
  subst er
  have hR1 := rR_Y hR x3
  obtain ⟨H2, y1, y2, y3⟩ := hu hR1 q2
  exact ⟨r, H1, H2, x1, rR_13 hR1, y1, t', zb', sb', ⟨N', S', ρ', hA', rn_sm x3 y3, y2, (x4 1 h1).1⟩, b1, b2, b3⟩
theorem L_V {F G : List aV → hM → xO} {e : sT → Option sT} {as : List aV} (hL : LV sw nd rm t zb sb o m ad H) (hv : ∀ (ρ : Nat → Nat) (N : hM), vl ρ N as as)
    (hw : ∀ {Y : Nat → Prop} {M0 : hM} {ρ : Nat → Nat} {as as_x : List aV} {M H M' : hM} {r : Option aV}, F as M = some (r, M') → rn Y M0 ρ M H → vl ρ M as as_x → wr Y M0 ρ M r M' (F as_x H))
    (hu : ∀ {M : hM} {S : sT} {q : sT}, rR m ad M S → e S = some q → ∃ M1, G (.inr (.inr (some m)) :: as) M = some (none, M1) ∧ rR m ad M1 q ∧ sm m ad M M1)
    (hc : ∀ {M : hM} {S : sT}, AX sw nd rm t zb sb M S → ∃ M' S', F (.inr (.inr (some 1)) :: as) M = some (none, M') ∧ e S = some S' ∧ CR sw nd rm t zb sb M' S') :
    ∃ H1 H2, F (.inr (.inr (some o)) :: as) H = some (none, H1) ∧ g_o H1 12 (some m) = some m ∧ G (.inr (.inr (some m)) :: as) H1 = some (none, H2) ∧ LC sw nd rm t zb sb o m ad H2 := by
  obtain ⟨N, S, ρ, hA, hr, hR, rfl⟩ := hL
  have h1 : h_tg N 1 ≠ 0 := by rw [show h_tg N 1 = 12 from hA.I.fab0]; decide
  obtain ⟨N', S', q1, q2, t', zb', sb', hA', b1, b2, b3⟩ := hc hA
  obtain ⟨ρ', r', H1, x1, x2, x3, x4⟩ := hw q1 hr (vl_c (va_r ⟨rfl, fun a ha => by cases ha; exact h1⟩) (hv ρ N) : vl ρ N (.inr (.inr (some 1)) :: as) (.inr (.inr (some (ρ 1))) :: as))
  have er : r' = none := by
    cases r' with
    | none => rfl
    | some y => exact x2.elim
  subst er
  have hR1 := rR_Y hR x3
  obtain ⟨H2, y1, y2, y3⟩ := hu hR1 q2
  exact ⟨H1, H2, x1, rR_13 hR1, y1, t', zb', sb', ⟨N', S', ρ', hA', rn_sm x3 y3, y2, (x4 1 h1).1⟩, b1, b2, b3⟩
theorem sc_n (hj : j < n) (hn : n ≤ 4099) : sc_a xs n (nI j) = some (xs j) := by
  have e : (nI j).toNatClampNeg = j := nI_clamp (by omega)
  unfold sc_a
  rw [e]
  exact if_pos ⟨nI_pos (by omega), hj⟩
/-- the law goes on -/
def Lgo (sw nd rm t zb sb o m : Nat) (ad : Nat → Nat) (j : Nat) (X : Option xRes) : Prop := ∃ H', X = some (.inr (48, [.inr (.inr (some o)), .inr (.inr (some m)), .inl (nI (j + 8))], H')) ∧ LC sw nd rm t zb sb o m ad H'
theorem Lgo.of (h : LC sw nd rm t zb sb o m ad H) : Lgo sw nd rm t zb sb o m ad j (b999_1027 xs n (some o) (some m) (nI j) H) := ⟨H, by unfold b999_1027; rw [show (8 : Int32) = nI 8 from rfl, nI_add], h⟩
end LW
