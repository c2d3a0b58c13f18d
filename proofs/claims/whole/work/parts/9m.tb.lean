/-! ===== a tick's state: drop, stay, passOn ===== -/
def TB (sw nd rm : Nat) (M : hM) (S : sT) (ia : Nat → Nat → Int32) (w : Nat) (pe : Nat → Option Nat) (wo : Nat → Nat) (t zb sb : Nat) (fl : Nat → List (List Int32)) (kR : Nat → rK) (ka : Nat → Nat → Nat) (tog : Nat → Bool) : Prop :=
  SB sw nd rm M S ia w pe wo t zb sb fl fl [] [] kR ka tog ∧ FE sw nd rm pe M S fl ∧ OWN sw pe kR
section TBs
variable {sw nd rm : Nat} {M M' : hM} {S T : sT} {ia ib : Nat → Nat → Int32} {w t x y z zb sb s p : Nat} {pe : Nat → Option Nat} {wo : Nat → Nat} {fl fm : Nat → List (List Int32)} {L : List Int32} {r : List (List Int32)} {F A G : List Nat} {kR : Nat → rK} {ka : Nat → Nat → Nat} {tog : Nat → Bool}
theorem TB.I (h : TB sw nd rm M S ia w pe wo t zb sb fl kR ka tog) : cI sw nd rm M := h.1.st.I
theorem TB.W (h : TB sw nd rm M S ia w pe wo t zb sb fl kR ka tog) : WI sw nd M S w pe wo := h.1.st.W
theorem TB.x48 (h : TB sw nd rm M S ia w pe wo t zb sb fl kR ka tog) : ∀ x y, pe x = some y → x < 48 ∧ y < 48 := fun x y e => ⟨h.I.x8 (h.W.sds e).1, h.I.x8 (h.W.sds e).2.1⟩
/-- whose buffers hold a frame has a wire, and it is up -/
theorem TB.wr (h : TB sw nd rm M S ia w pe wo t zb sb fl kR ka tog) (hx : sd sw nd x) (hf : fl (48 + x) ≠ []) : upS S x ≠ 0 ∧ ∃ y, pe x = some y := by
  have hx8 := h.I.x8 hx
  have hu : upS S x ≠ 0 := fun q => hf (h.2.1.2.2.1 x hx8 q).1.2.1
  refine ⟨hu, ?_⟩
  cases e : pe x with
  | none => exact absurd (upS_no h.W hx8 e) hu
  | some y => exact ⟨y, rfl⟩
theorem P_sfT (h : TB sw nd rm M S ia w pe wo t zb sb fl kR ka tog) (hx : sd sw nd x) : ∃ M' S' fm, f45 [.inr (.inr (some (200 + x)))] M = some (none, M') ∧ e184 (nI x) S = some S' ∧ TB sw nd rm M' S' ia w pe wo t zb sb fm kR ka tog ∧ i20 M M' := by
  obtain ⟨h1, h2, h3⟩ := h
  obtain ⟨M', S', fm, m1, s1, p1, p2⟩ := P_sf h1.st ⟨h1.pb, h2⟩ hx
  have kM := kf45 m1 h1.pb.bk
  exact ⟨M', S', fm, m1, s1, ⟨h1.keep kM (by decide) (by decide) (ke184 s1) (by decide) p1, p2, h3⟩, PB_i20 h1.pb p1 kM⟩
theorem P_drop {k : Nat} (h : TB sw nd rm M S ia w pe wo t zb sb fl kR ka tog) (hx : sd sw nd x) (hf : fl (48 + x) = L :: r) (h0 : 0 < k) (h9 : k < 9) : ∃ M' S1 S2 f, f134 [.inr (.inr (some (200 + x))), .inl (nI k)] M = some (none, M') ∧ e185 (nI x) (s_u S 4 k (S.1 4 k + 1)) = some (nI f, S1) ∧ e171 (nI f) S1 = some S2 ∧ TB sw nd rm M' S2 ia w pe wo t zb sb (u1 fl (48 + x) r) kR ka tog ∧ i20 M M' := by
  have hI := h.I
  have hW := h.W
  have hx8 := hI.x8 hx
  obtain ⟨-, y, e⟩ := h.wr hx (by rw [hf]; exact fun q => nomatch q)
  have hy := (hW.sds e).2.1
  obtain ⟨h1, h2, h3⟩ := h
  have hp := h1.pb
  obtain ⟨ct, c1, c2, c3, c4, c5, c6, c7⟩ := hp
  have hr : r.length ≤ 4 := by have := (c3 x hx8).2.1; rw [hf, List.length_cons] at this; omega
  obtain ⟨M', m1, m2, m3, m4⟩ := FC_drop (k := k) h0 h9 hI c1 hx hy (hW.pr e) hf hr
  have kM := kf134 m1 h1.pb.bk
  have k4 : ks [4] S (s_u S 4 k (S.1 4 k + 1)) := k_su
  obtain ⟨f, S1, s1, s2, s3, s4, s5, -⟩ := FR_lea (c2.cg k4 (by decide)) hx8 c4 hf
  obtain ⟨S2, s6, s7⟩ := FR_drop s3
  have k5 := ke185 s1
  have k6 := ke171 s6
  have kS : ks [4, 8, 9, 16, 17, 20, 21] S S2 := ((ks.rf.tr k4 rfl : ks [4, 8, 9, 16, 17, 20, 21] S _).tr k5 rfl).tr k6 rfl
  have hb := FLb_u c3 hx8 hf
  have hP : PB sw nd M' S2 ia zb sb (u1 fl (48 + x) r) (u1 fl (48 + x) r) [] [] := by
    refine ⟨_, m2, s7, hb, hb, fun _ _ _ => rfl, fun j j1 j2 => ?_, c7⟩
    rw [k6.i (by decide), k5.i (by decide), su_eq]
    by_cases q : j = k
    · subst q; rw [u1_eq, u1_eq, c6 j h0 h9]
    · rw [u1_ne q, u1_ne q]; exact c6 j j1 j2
  refine ⟨M', S1, S2, f, m1, s1, s6, ⟨h1.keep kM (by decide) (by decide) kS (by decide) hP, ?_, h3⟩, PB_i20 h1.pb hP kM⟩
  refine h2.lv hI hW e hf (kM.fi (by decide)) m4 m3 (fun z => upS_ks kS (by decide) (by decide)) (kS.i (by decide)) ?_ ?_ (kS.i (by decide)) u1_eq (fun p _ q => u1_ne q) (fun z hz _ => u1_ne (by omega)) (FLl_u h2.1 hf)
  · rw [k6.i (by decide), s4, k4.i (by decide)]
  · rw [k6.i (by decide), s5, k4.i (by decide)]
theorem P_stay (h : TB sw nd rm M S ia w pe wo t zb sb fl kR ka tog) (hx : sd sw nd x) (hf : fl (48 + x) = L :: r) : ∃ M' S' fm, f135 [.inr (.inr (some (200 + x)))] M = some (none, M') ∧ c226_139 (nI x) S = some (.inl S') ∧ TB sw nd rm M' S' ia w pe wo t zb sb fm kR ka tog ∧ i20 M M' := by
  have hI := h.I
  have hW := h.W
  have hx8 := hI.x8 hx
  obtain ⟨-, y, e⟩ := h.wr hx (by rw [hf]; exact fun q => nomatch q)
  have hy := (hW.sds e).2.1
  obtain ⟨h1, h2, h3⟩ := h
  obtain ⟨ct, c1, c2, c3, c4, c5, c6, c7⟩ := h1.pb
  have hr : r.length ≤ 4 := by have := (c3 x hx8).2.1; rw [hf, List.length_cons] at this; omega
  obtain ⟨M', m1, m2⟩ := FC_stay hI c1 hx hy (hW.pr e) hf hr
  have kM := kf135 m1 h1.pb.bk
  have k1 : ks [21] S (s_u S 21 x (S.1 21 x + 1)) := k_su
  have e813 := h2.2.2.2.2.2 x hx
  rw [e813] at m2
  by_cases c : S.1 21 x + 1 < 25
  · rw [if_pos c] at m2
    obtain ⟨m2, m3, m4⟩ := m2
    have c' : ¬ (25 : Int32) ≤ S.1 21 x + 1 := Int32.not_le.mpr c
    have hP : PB sw nd M' (s_u S 21 x (S.1 21 x + 1)) ia zb sb fl fl [] [] := ⟨ct, m2, c2.cg k1 (by decide), c3, c4, c5, by rw [k1.i (by decide)]; exact c6, c7⟩
    refine ⟨M', s_u S 21 x (S.1 21 x + 1), fl, m1, ?_, ⟨h1.keep kM (by decide) (by decide) k1 (by decide) hP, ?_, h3⟩, PB_i20 h1.pb hP kM⟩
    · have y1 : (s_u S 21 x (S.1 21 x + 1)).1 21 x = S.1 21 x + 1 := by rw [su_eq, u1_eq]
      unfold c226_139
      rw [bd_s (ga21 hx8), bd_s (gs21 hx8), bd_s (ga21 hx8), y1, if_neg c']
    · obtain ⟨a1, a2, a3, a4, a5, a6⟩ := h2
      have eu : ∀ z, upS (s_u S 21 x (S.1 21 x + 1)) z = upS S z := fun z => upS_ks k1 (by decide) (by decide)
      refine ⟨a1, by rw [k1.i (by decide)]; exact a2, fun z hz hu => ?_, fun z y' ez hu => ?_, by rw [k1.i (by decide)]; exact a5, fun z hz => ?_⟩
      · rw [eu] at hu
        rw [k1.i (by decide), kM.fi (by decide), m4]; exact a3 z hz hu
      · rw [eu] at hu
        rw [k1.i (by decide), kM.fi (by decide), m4]; exact a4 z y' ez hu
      · rw [m3, su_eq]
        by_cases q : z = x
        · subst q; rw [u1_eq, u1_eq]
        · rw [u1_ne (by omega), u1_ne q]; exact a6 z hz
  · rw [if_neg c] at m2
    obtain ⟨m2, m3, m4⟩ := m2
    have c' : (25 : Int32) ≤ S.1 21 x + 1 := Int32.not_lt.mp c
    have k4 : ks [4] (s_u S 21 x (S.1 21 x + 1)) (s_u (s_u S 21 x (S.1 21 x + 1)) 4 4 (S.1 4 4 + 1)) := k_su
    obtain ⟨f, S1, s1, s2, s3, s4, s5, -⟩ := FR_lea ((c2.cg k1 (by decide)).cg k4 (by decide)) hx8 c4 hf
    obtain ⟨S2, s6, s7⟩ := FR_drop s3
    have k5 := ke185 s1
    have k6 := ke171 s6
    have kS : ks [4, 8, 9, 16, 17, 20, 21] S S2 := (((ks.rf.tr k1 rfl : ks [4, 8, 9, 16, 17, 20, 21] S _).tr k4 rfl).tr k5 rfl).tr k6 rfl
    have hb := FLb_u c3 hx8 hf
    have hP : PB sw nd M' S2 ia zb sb (u1 fl (48 + x) r) (u1 fl (48 + x) r) [] [] := by
      refine ⟨_, m2, s7, hb, hb, fun _ _ _ => rfl, fun j j1 j2 => ?_, c7⟩
      rw [k6.i (by decide), k5.i (by decide), su_eq, k1.i (by decide)]
      by_cases q : j = 4
      · subst q; rw [u1_eq, u1_eq, c6 4 (by omega) (by omega)]
      · rw [u1_ne q, u1_ne q]; exact c6 j j1 j2
    refine ⟨M', S2, u1 fl (48 + x) r, m1, ?_, ⟨h1.keep kM (by decide) (by decide) kS (by decide) hP, ?_, h3⟩, PB_i20 h1.pb hP kM⟩
    · have y1 : (s_u S 21 x (S.1 21 x + 1)).1 21 x = S.1 21 x + 1 := by rw [su_eq, u1_eq]
      have y2 : s_a (s_u S 21 x (S.1 21 x + 1)) 4 4 = some (S.1 4 4) := (ga4 (i := 4) (by omega)).trans (by rw [su_ne (by decide)])
      have y3 : s_s (s_u S 21 x (S.1 21 x + 1)) 4 4 (S.1 4 4 + 1) = some (s_u (s_u S 21 x (S.1 21 x + 1)) 4 4 (S.1 4 4 + 1)) := gs4 (i := 4) (by omega)
      unfold c226_139
      rw [bd_s (ga21 hx8), bd_s (gs21 hx8), bd_s (ga21 hx8), y1, if_pos c', bd_s y2, bd_s y3, bd_s s1, bd_s s6]
    · refine h2.lv hI hW e hf (kM.fi (by decide)) m4 m3 (fun z => upS_ks kS (by decide) (by decide)) (kS.i (by decide)) ?_ ?_ (kS.i (by decide)) u1_eq (fun p _ q => u1_ne q) (fun z hz _ => u1_ne (by omega)) (FLl_u h2.1 hf)
      · rw [k6.i (by decide), s4, k4.i (by decide), k1.i (by decide)]
      · rw [k6.i (by decide), s5, k4.i (by decide), su_eq]
        funext j
        by_cases q : j = x
        · subst q; rw [u1_eq, u1_eq]
        · rw [u1_ne q, u1_ne q, u1_ne q]
end TBs
