/-! ===== frames are held; nodes' own things are written ===== -/
def HB (sw nd rm : Nat) (M : hM) (S : sT) (ia : Nat → Nat → Int32) (w : Nat) (pe : Nat → Option Nat) (wo : Nat → Nat) (t zb sb : Nat) (fl : Nat → List (List Int32)) (hc : List (Nat × Int32 × List Int32)) (hs : List (Nat × List Int32)) (kR : Nat → rK) (ka : Nat → Nat → Nat) (tog : Nat → Bool) : Prop :=
  SB sw nd rm M S ia w pe wo t zb sb fl fl hc hs kR ka tog ∧ FE sw nd rm pe M S fl ∧ OWN sw pe kR
def fsF : List Nat := [200, 201, 202, 203, 300, 301, 302, 907]
def fsS : List Nat := [4, 6, 7, 8, 9, 18, 19]
/-- frames are made and posted, nothing else -/
def fst (M M' : hM) (S S' : sT) : Prop := kp fsF [0, 20, 21] M M' ∧ i20 M M' ∧ ks fsS S S'
def hbF : List Nat := sbF ++ [200, 201, 202, 203, 300, 301, 302, 808, 907] ++ [806, 807, 813]
def hbS : List Nat := sbS ++ (4 :: frF) ++ [5, 12, 14, 20, 21, 22]
theorem FC.cw {tr : List Int32 → Bool} {sw nd : Nat} {M M' : hM} {ia : Nat → Nat → Int32} {ct : Nat → Int32} {zb sb : Nat} {fl : Nat → List (List Int32)} {hl : List (Nat × Int32 × List Int32)} {F A : List Nat} (h : FC tr sw nd M ia ct zb sb fl hl) (k : kp F A M M') (hF : [200, 201, 202, 203, 300, 301, 302, 808, 907].all (fun x => ! F.contains x) = true) (h0 : A.contains 0 = false) (h21 : A.contains 21 = false) (h3' : h_ai M' 3 = h_ai M 3) : FC tr sw nd M' (h_ai M') ct zb sb fl hl := by
  have qF : ∀ x, x ∈ [200, 201, 202, 203, 300, 301, 302, 808, 907] → F.contains x = false := fun x hx => by have := List.all_eq_true.mp hF x hx; simpa using this
  obtain ⟨⟨h1, h2, h3⟩, cl, c1, c2, c3, c4, c5, c6⟩ := h
  obtain ⟨s1, s2, s3, s4⟩ := k.2.2.2.2 (by intro q; rw [List.contains_iff_mem.mpr q] at h0; cases h0)
  have ai : ∀ a, h_tg M a = 21 → h_ai M' a = h_ai M a := fun a q => (k.2.2.2.1 a (by rw [q]; intro q; rw [List.contains_iff_mem.mpr q] at h21; cases h21)).1
  have eC : ∀ p a, a ∈ cl p → fcC M' a = fcC M a := fun p a ha => by
    unfold fcC fbl
    rw [ai (a + 1) (c2 p a ha).1.2.2.1, k.fi (qF 201 (by decide))]
  refine ⟨⟨fun _ _ _ => rfl, by rw [h3']; exact h2, k.1⟩, cl, c1, fun p a ha => ?_, ?_, ?_, by rw [s1]; exact c5, by rw [s2]; exact c6⟩
  · obtain ⟨⟨d1, d2, d3, d4⟩, d5, d6⟩ := c2 p a ha
    refine ⟨⟨by rw [s3]; exact d1, by rw [k.fr (qF 200 (by decide))]; exact d2, by rw [s3]; exact d3, by rw [s4]; exact d4⟩, d5, ?_⟩
    rw [k.fi (qF 201 (by decide))]
    exact d6
  · rw [k.fr (qF 203 (by decide)), k.fr (qF 300 (by decide)), k.fr (qF 301 (by decide)), k.fi (qF 302 (by decide)), k.fr (qF 808 (by decide)), k.fr (qF 907 (by decide))]
    exact c3
  · obtain ⟨⟨t1, t2⟩, t3, t4, t5⟩ := c4
    rw [k.fi (qF 202 (by decide))]
    refine ⟨⟨t1, fun t ht => ?_⟩, fun p hp => ?_, fun p a hp ha => ?_, fun p a hp hq ha => ?_⟩
    · rw [eC 145 t.1 (by rw [t1]; exact List.mem_map_of_mem ht)]; exact t2 t ht
    · rw [← t3 p hp]; exact List.map_congr_left (fun b hb => eC p b hb)
    · rw [eC p a ha]; exact t4 p a hp ha
    · rw [eC p a ha]; exact t5 p a hp hq ha
section HBs
variable {sw nd rm : Nat} {M M' N : hM} {S S' T : sT} {ia ib : Nat → Nat → Int32} {w t x y zb sb a f : Nat} {pe : Nat → Option Nat} {wo : Nat → Nat} {fl fm : Nat → List (List Int32)} {hc hc' : List (Nat × Int32 × List Int32)} {hs hs' : List (Nat × List Int32)} {L Lr : List Int32} {F A G : List Nat} {kR : Nat → rK} {ka : Nat → Nat → Nat} {tog : Nat → Bool} {g : Int32}
theorem HB.I (h : HB sw nd rm M S ia w pe wo t zb sb fl hc hs kR ka tog) : cI sw nd rm M := h.1.st.I
theorem HB.W (h : HB sw nd rm M S ia w pe wo t zb sb fl hc hs kR ka tog) : WI sw nd M S w pe wo := h.1.st.W
theorem HB.bk (h : HB sw nd rm M S ia w pe wo t zb sb fl hc hs kR ka tog) : bk M := h.1.pb.bk
theorem HB.x48 (h : HB sw nd rm M S ia w pe wo t zb sb fl hc hs kR ka tog) : ∀ x y, pe x = some y → x < 48 ∧ y < 48 := fun x y e => ⟨h.I.x8 (h.W.sds e).1, h.I.x8 (h.W.sds e).2.1⟩
theorem HB.t1 (h : HB sw nd rm M S ia w pe wo t zb sb fl hc hs kR ka tog) : h_fi M 903 2 = nI t := h.1.st.2.2.2.1.1
theorem HB.t2 (h : HB sw nd rm M S ia w pe wo t zb sb fl hc hs kR ka tog) : S.1 3 0 = nI t := h.1.st.2.2.2.1.2.1
theorem HB.t3 (h : HB sw nd rm M S ia w pe wo t zb sb fl hc hs kR ka tog) : t ≤ 200000 := h.1.st.2.2.2.1.2.2
theorem fst.rf (h : bk M) : fst M M S S := ⟨kp.rf h, i20_rf, ks.rf⟩
theorem fst.tr {U : sT} (h : fst M M' S S') (g : fst M' N S' U) : fst M N S U := ⟨h.1.tr g.1 rfl rfl, i20_tr h.2.1 g.2.1, h.2.2.tr g.2.2 rfl⟩
/-- all that changes frames only -/
theorem HB.mv (h : HB sw nd rm M S ia w pe wo t zb sb fl hc hs kR ka tog) (k : kp F A M M') (hF : fsF.all (fun x => F.contains x) = true) (hF' : F.all (fun x => fsF.contains x) = true) (hA : A.all (fun x => [0, 20, 21].contains x) = true) (l : ks G S T) (hG : G.all (fun x => fsS.contains x) = true) (p : PB sw nd M' T ia zb sb fm fm hc' hs') (q : qx S fl fm) : HB sw nd rm M' T ia w pe wo t zb sb fm hc' hs' kR ka tog ∧ fst M M' S T := by
  have k' : kp fsF [0, 20, 21] M M' := (kp.rf h.bk).tr k hF' hA
  have l' : ks fsS S T := ks.rf.tr l hG
  exact ⟨⟨h.1.keep k' (by decide) (by decide) l' (by decide) p, h.2.1.keep k' (by decide) l' (by decide) q h.x48, h.2.2⟩, k', PB_i20 h.1.pb p k', l'⟩
theorem HB.mv' (h : HB sw nd rm M S ia w pe wo t zb sb fl hc hs kR ka tog) (k : kp F A M M') (hF' : F.all (fun x => fsF.contains x) = true) (hA : A.all (fun x => [0, 20, 21].contains x) = true) (l : ks G S T) (hG : G.all (fun x => fsS.contains x) = true) (p : PB sw nd M' T ia zb sb fm fm hc' hs') (q : qx S fl fm) : HB sw nd rm M' T ia w pe wo t zb sb fm hc' hs' kR ka tog ∧ fst M M' S T := by
  have k' : kp fsF [0, 20, 21] M M' := (kp.rf h.bk).tr k hF' hA
  have l' : ks fsS S T := ks.rf.tr l hG
  exact ⟨⟨h.1.keep k' (by decide) (by decide) l' (by decide) p, h.2.1.keep k' (by decide) l' (by decide) q h.x48, h.2.2⟩, k', PB_i20 h.1.pb p k', l'⟩
theorem H_draft {v1 v2 v3 v4 : Int32} (v5 v6 : Int32) (h : HB sw nd rm M S ia w pe wo t zb sb fl hc hs kR ka tog) (hh : hc.length ≤ 3) (hh2 : hs.length ≤ 3) : ∃ a f M' S', f34 [.inr (.inr (some 2)), .inl v1, .inl v2, .inl v3, .inl v4] M = some (some (.inr (.inr (some a))), M') ∧ e168 v1 v2 v3 v4 v5 v6 S = some (nI f, S') ∧ h_tg M' a = 3 ∧ HB sw nd rm M' S' ia w pe wo t zb sb fl ((a, 0, hdL v1 v2 v3 v4 0 0) :: hc) ((f, hdL v1 v2 v3 v4 v5 v6) :: hs) kR ka tog ∧ fst M M' S S' := by
  obtain ⟨a, f, M1, S1, m1, s1, hf, p1⟩ := P_draft (v1 := v1) (v2 := v2) (v3 := v3) (v4 := v4) (v5 := v5) (v6 := v6) h.I h.1.pb hh hh2
  obtain ⟨b1, b2⟩ := h.mv' (kf34 m1 h.bk) (by decide) (by decide) (ke168 s1) (by decide) p1 qx.rf
  exact ⟨a, f, M1, S1, m1, s1, (p1.rd List.mem_cons_self).1.1.1, b1, b2⟩
theorem H_load {n : Nat} {u : Int64} (h : HB sw nd rm M S ia w pe wo t zb sb fl ((a, g, L) :: hc) ((f, Lr) :: hs) kR ka tog) (hn : L.length + n ≤ 44) (h8 : n ≤ 8) (hn2 : Lr.length + n ≤ 80) : ∃ M' S', f36 [.inr (.inr (some a)), .inl (nI n), .inr (.inl u)] M = some (none, M') ∧ e167 (nI f) u (nI n) S = some S' ∧ h_tg M' a = 3 ∧ HB sw nd rm M' S' ia w pe wo t zb sb fl ((a, g, L ++ byL u n) :: hc) ((f, Lr ++ byL u n) :: hs) kR ka tog ∧ fst M M' S S' := by
  obtain ⟨M1, S1, m1, s1, p1⟩ := P_load (n := n) (w := u) h.1.pb hn h8 hn2
  obtain ⟨b1, b2⟩ := h.mv' (kf36 m1 h.bk) (by decide) (by decide) (ke167 s1) (by decide) p1 qx.rf
  exact ⟨M1, S1, m1, s1, (p1.rd List.mem_cons_self).1.1.1, b1, b2⟩
theorem H_put {n k : Nat} {u : Int64} (h : HB sw nd rm M S ia w pe wo t zb sb fl ((a, g, L) :: hc) hs kR ka tog) (hn : k + n ≤ L.length) (h8 : n ≤ 8) : ∃ M', f35 [.inr (.inr (some a)), .inl (nI k), .inl (nI n), .inr (.inl u)] M = some (none, M') ∧ h_tg M' a = 3 ∧ HB sw nd rm M' S ia w pe wo t zb sb fl ((a, g, L.take k ++ byL u n ++ L.drop (k + n)) :: hc) hs kR ka tog ∧ fst M M' S S := by
  obtain ⟨M1, m1, p1⟩ := P_put (n := n) (k := k) (w := u) h.1.pb hn h8
  obtain ⟨b1, b2⟩ := h.mv' (kf35 m1 h.bk) (by decide) (by decide) (ks.rf : ks [] S S) (by decide) p1 qx.rf
  exact ⟨M1, m1, (p1.rd List.mem_cons_self).1.1.1, b1, b2⟩
theorem H_post (h : HB sw nd rm M S ia w pe wo t zb sb fl ((a, 0, L) :: hc) ((f, L) :: hs) kR ka tog) (hx : sd sw nd x) (hT : tru sw nd (clL L) = true) (h13 : 13 ≤ L.length) (hn : L.length ≤ 44) : ∃ M' S' fm, f39 [.inr (.inr (some (200 + x))), .inr (.inr (some a))] M = some (none, M') ∧ e183 (nI x) (nI f) S = some S' ∧ HB sw nd rm M' S' ia w pe wo t zb sb fm hc hs kR ka tog ∧ fst M M' S S' := by
  obtain ⟨M1, S1, m1, s1, p1⟩ := P_post h.I h.1.pb h.W.wO (h.W.up hx) hx hT hn
  obtain ⟨b1, b2⟩ := h.mv' (kf39 m1 h.bk) (by decide) (by decide) (ke183 s1) (by decide) p1 (qx_pq h13 hn)
  exact ⟨M1, S1, _, m1, s1, b1, b2⟩
/-- nodes' own things are written -/
theorem HB.cw (h : HB sw nd rm M S ia w pe wo t zb sb fl hc hs kR ka tog) (k : kp F A M N) (hF : hbF.all (fun x => ! F.contains x) = true) (hA : [0, 21, 36, 35, 38, 40, 50].all (fun x => ! A.contains x) = true) (ha : ∀ a, a < 140 → h_ai N a = h_ai M a) (l : ks G S T) (hG : hbS.all (fun x => ! G.contains x) = true) : HB sw nd rm N T (h_ai N) w pe wo t zb sb fl hc hs kR ka tog := by
  have qA : ∀ x, x ∈ [0, 21, 36, 35, 38, 40, 50] → A.contains x = false := fun x hx => by have := List.all_eq_true.mp hA x hx; simpa using this
  obtain ⟨⟨h1, h2, h3, h4⟩, h5, h6⟩ := h
  have hI := h1.I
  have hsw := hI.bs.1.2
  have h21 : ∀ a, h_tg M a = 21 → h_ai N a = h_ai M a := fun a q => (k.2.2.2.1 a (by rw [q]; intro z; have := qA 21 (by decide); rw [List.contains_iff_mem.mpr z] at this; cases this)).1
  have i4 : h_ai N 4 = ia 4 := by
    obtain ⟨ct, c1, -⟩ := h2
    rw [ha 4 (by omega)]
    exact c1.1.1 4 (Or.inl (by omega)) (by omega)
  refine ⟨⟨h1.keep k (all_sub hF (by decide)) (all_sub hA (by decide)) l (all_sub hG (by decide)) i4, ?_, h3.keep k (all_sub hF (by decide)) l (all_sub hG (by decide)), fun s hs => ?_⟩, h5.keep k (all_sub hF (by decide)) l (all_sub hG (by decide)) qx.rf (fun x y e => ⟨hI.x8 (h1.W.sds e).1, hI.x8 (h1.W.sds e).2.1⟩), h6⟩
  · have hPT := h2.ks l (all_sub hG (by decide))
    obtain ⟨ct, c1, c2⟩ := hPT
    exact ⟨ct, c1.cw k (all_sub hF (by decide)) (qA 0 (by decide)) (qA 21 (by decide)) (ha 3 (by omega)), c2⟩
  · have qF : ∀ x, x ∈ [600, 601, 602, 1005, 1010] → F.contains x = false := fun x hx => by have := List.all_eq_true.mp (all_sub (Q := [600, 601, 602, 1005, 1010]) hF (by decide)) x hx; simpa using this
    have qG : ∀ x, x ∈ [27, 28, 29, 30] → G.contains x = false := fun x hx => by have := List.all_eq_true.mp (all_sub (Q := [27, 28, 29, 30]) hG (by decide)) x hx; simpa using this
    obtain ⟨g1, g2, g3, g4, g6, g7, g8⟩ := h4 s hs
    refine ⟨fun r hr => ?_, by rw [k.fr (qF 1005 (by decide))]; exact g2, g3.ks l (qG 27 (by decide)) (qG 30 (by decide)) (qG 29 (by decide)), g4, fun t ht => ?_, fun d hd => ?_, by rw [k.fi (qF 1010 (by decide))]; exact g8⟩
    · obtain ⟨a1, a2, a3⟩ := g1 r hr
      refine ⟨by rw [k.ar (hI.sa2 hs) (qA 36 (by decide))]; exact a1, a2.keep k (qF 600 (by decide)) (qF 601 (by decide)) (h21 _ a2.1.2.2.1), fun q => ?_⟩
      rw [k.fi (qF 602 (by decide)), l.i (qG 28 (by decide))]
      exact a3 q
    · rw [ha _ (by omega)]; exact g6 t ht
    · rw [ha _ (by omega)]; exact g7 d hd
theorem HB.rd (h : HB sw nd rm M S ia w pe wo t zb sb fl hc hs kR ka tog) {u : Nat × Int32 × List Int32} (hu : u ∈ hc) : rd M u.1 u.2.2 := (h.1.pb.rd hu).1
theorem HB.rdS (h : HB sw nd rm M S ia w pe wo t zb sb fl hc hs kR ka tog) {u : Nat × List Int32} (hu : u ∈ hs) : rdS S u.1 u.2 := h.1.pb.rdS hu
end HBs
