section PO
variable {sw nd rm : Nat} {M M' : hM} {S T : sT} {ia ib : Nat → Nat → Int32} {w t x y z zb sb s p a f : Nat} {pe : Nat → Option Nat} {wo : Nat → Nat} {fl fm : Nat → List (List Int32)} {L X : List Int32} {r : List (List Int32)} {F A G : List Nat} {kR : Nat → rK} {ka : Nat → Nat → Nat} {tog : Nat → Bool}
theorem rdS_ks (h : rdS S f X) (k : ks F S T) (h6 : F.contains 6 = false) (h7 : F.contains 7 = false) : rdS T f X := by
  obtain ⟨a1, a2, a3, a4⟩ := h
  refine ⟨a1, by rw [k.i h7]; exact a2, a3, ?_⟩
  rw [← a4]
  unfold frl fB
  rw [k.i h7, k.i h6]
theorem P_go (h : TB sw nd rm M S ia w pe wo t zb sb fl kR ka tog) (hx : sd sw nd x) (hf : fl (48 + x) = L :: r) (hz : sd sw nd z) (hu : upS S z ≠ 0) (hw : fl z = []) (hc : ¬ h_fi M 806 (200 + z) ≤ 0) : ∃ a M1 M2 M3 f S1 S2 fm, f54 [.inr (.inr (some (200 + x)))] M = some (some (.inr (.inr (some a))), M1) ∧ f44 [.inr (.inr (some (200 + z))), .inr (.inr (some a))] M1 = some (none, M2) ∧ f37 [.inr (.inr (some 2)), .inl 7] M2 = some (none, M3) ∧ (kp [203, 300, 301, 302, 807, 813] [] M M1 ∧ kp [806, 808] [20] M1 M2) ∧ e185 (nI x) S = some (nI f, S1) ∧ S.1 16 (x * 4) = nI f ∧ e182 (nI z) (nI f) S1 = some S2 ∧ (ks [16, 17, 20, 21] S S1 ∧ ks [4, 5, 15, 22] S1 S2) ∧ rdS (s_u S2 4 7 (S2.1 4 7 + 1)) f L ∧ TB sw nd rm M3 (s_u S2 4 7 (S2.1 4 7 + 1)) ia w pe wo t zb sb fm kR ka tog ∧ i20 M M3 := by
  have hI := h.I
  have hW := h.W
  have hx8 := hI.x8 hx
  have hz8 := hI.x8 hz
  obtain ⟨-, y, e⟩ := h.wr hx (by rw [hf]; exact fun q => nomatch q)
  have hy := (hW.sds e).2.1
  obtain ⟨h1, h2, h3⟩ := h
  obtain ⟨ct, c1, c2, c3, c4, c5, c6, c7⟩ := h1.pb
  have hr : r.length ≤ 4 := by have := (c3 x hx8).2.1; rw [hf, List.length_cons] at this; omega
  obtain ⟨a, g, M1, m1, m2, m3, m4, m5, -⟩ := FC_leave hI c1 hx hy (hW.pr e) hf hr
  have kM1 := kf54 m1 h1.pb.bk
  obtain ⟨f, S1, s1, s2, s3, s4, s5, s6, s7, s8, s9⟩ := FR_lea c2 hx8 c4 hf
  have kS1 := ke185 s1
  have hb1 := FLb_u c3 hx8 hf
  have hI1 := hI.keep kM1 (by decide) (by decide)
  have eu1 : ∀ z, upS S1 z = upS S z := fun z => upS_ks kS1 (by decide) (by decide)
  have hE1 : FE sw nd rm pe M1 S1 (u1 fl (48 + x) r) := h2.lv hI hW e hf (kM1.fi (by decide)) m5 m4 eu1 (kS1.i (by decide)) s4 s5 (kS1.i (by decide)) u1_eq (fun p _ q => u1_ne q) (fun z hz _ => u1_ne (by omega)) (FLl_u h2.1 hf)
  have hST1 := h1.st.keep kM1 (by decide) (by decide) kS1 (by decide) (ib := ia) rfl
  have hW1 := hST1.W
  have hw1 : u1 fl (48 + x) r z = [] := by rw [u1_ne (by omega)]; exact hw
  have m3' : g = 0 → tru sw nd L = true := by
    have m3 : if 48 + x < 96 then (g = 0 → tru sw nd L = true) else (g = 0 ∧ tru sw nd (clL L) = true) := m3
    rw [if_pos (by omega)] at m3
    exact m3
  obtain ⟨M2, n1, n2, n3⟩ := FC_send hI1 m2 hz hw1 m3'
  have kM2 := kf44 n1 kM1.1
  have hI2 := hI1.keep kM2 (by decide) (by decide)
  have e180 := e180_eq hI1 hW1 hST1.2.2.1.2.2 s3 hE1.2.2.1 hE1.2.2.2.1 hb1 hz
  have hc1 : ¬ h_fi M1 806 (200 + z) ≤ 0 := by rw [kM1.fi (by decide)]; exact hc
  have hu1 : upS S1 z ≠ 0 := by rw [eu1]; exact hu
  have hge : (1 : Int32) ≤ h_fi M1 806 (200 + z) := by
    cases ez : pe z with
    | none => exact absurd (upS_no hW1 hz8 ez) hu1
    | some y' =>
      obtain ⟨k, l, d1, -, -, d4⟩ := hE1.2.2.2.1 z y' ez hu1
      rw [d1] at hc1 ⊢
      have hrm := hI.bs.2.2.2
      have : 0 < k := by
        rcases Nat.eq_zero_or_pos k with q0 | q0
        · rw [q0] at hc1; exact absurd (by decide) hc1
        · exact q0
      exact nI_le (a := 1) (by omega) (by omega)
  obtain ⟨S2, t1, t2, t3, t4, t5⟩ := FR_snd s3 hz8 hw1 e180 hge
  have kS2 := ke182 t1
  obtain ⟨M3, o1, o2⟩ := FC_tly (k := 7) hI2 n2 (by omega) (by omega)
  have kM3 := kf37 o1 kM2.1
  have k7 : ks [4] S2 (s_u S2 4 7 (S2.1 4 7 + 1)) := k_su
  have kM : kp [203, 300, 301, 302, 806, 807, 808, 813] [20] M M3 := (((kp.rf h1.pb.bk : kp [203, 300, 301, 302, 806, 807, 808, 813] [20] M M).tr kM1 rfl rfl).tr kM2 rfl rfl).tr kM3 rfl rfl
  have kS : ks [4, 5, 15, 16, 17, 20, 21, 22] S (s_u S2 4 7 (S2.1 4 7 + 1)) := ((ks.rf.tr kS1 rfl : ks [4, 5, 15, 16, 17, 20, 21, 22] S S1).tr kS2 rfl).tr k7 rfl
  generalize hfm : u1 (u1 fl (48 + x) r) z [L] = fm at *
  have fx : fm z = [L] := by rw [← hfm]; exact u1_eq
  have fo : ∀ p, p ≠ z → fm p = u1 fl (48 + x) r p := fun p q => by rw [← hfm]; exact u1_ne q
  have hb2 : FLb fm := fun v hv => by
    obtain ⟨b1, b2, b3⟩ := hb1 v hv
    rw [fo (48 + v) (by omega), fo (96 + v) (by omega)]
    by_cases q : v = z
    · subst q; rw [fx]; exact ⟨by simp, b2, b3⟩
    · rw [fo v q]; exact ⟨b1, b2, b3⟩
  have hP : PB sw nd M3 (s_u S2 4 7 (S2.1 4 7 + 1)) ia zb sb fm fm [] [] := by
    refine ⟨_, o2, t2.cg k7 (by decide), hb2, hb2, fun _ _ _ => rfl, fun j j1 j2 => ?_, c7⟩
    rw [su_eq, t3, kS1.i (by decide)]
    by_cases q : j = 7
    · subst q; rw [u1_eq, u1_eq, u1_ne (by omega), u1_ne (by omega), c6 7 (by omega) (by omega)]
    · rw [u1_ne q, u1_ne q]
      by_cases q2 : j = 6
      · subst q2; rw [u1_eq, u1_eq, c6 6 (by omega) (by omega)]
      · rw [u1_ne q2, u1_ne q2]; exact c6 j j1 j2
  have eu2 : ∀ v, upS (s_u S2 4 7 (S2.1 4 7 + 1)) v = upS S1 v := fun v => by rw [upS_ks k7 (by decide) (by decide), upS_ks kS2 (by decide) (by decide)]
  have e806 : h_fi M3 806 = u1 (h_fi M1 806) (200 + z) (h_fi M1 806 (200 + z) - 1) := by rw [kM3.fi (by decide)]; exact n3
  obtain ⟨d1, d2⟩ := CR_send (fm := fm) (L := L) hI1 hW1 hz hu1 hE1.2.2.1 hE1.2.2.2.1 hw1 hc1 eu2 e806 (by rw [kM3.fi (by decide), kM2.fi (by decide)]) (by rw [k7.i (by decide), kS2.i (by decide)]) fx (fun p _ q => fo p q) (fun v hv _ => fo _ (by omega))
  refine ⟨a, M1, M2, M3, f, S1, S2, fm, m1, n1, o1, ⟨kM1, kM2⟩, s1, s6, t1, ⟨kS1, kS2⟩, ?_, ⟨h1.keep kM (by decide) (by decide) kS (by decide) hP, ?_, h3⟩, PB_i20 h1.pb hP kM⟩
  · exact rdS_ks ⟨s2, s8, s9, s7⟩ kS (by decide) (by decide)
  · obtain ⟨l1, l2, l3, l4, l5, l6⟩ := hE1
    refine ⟨fun p hp K hK => ?_, ?_, d1, d2, fun v hv => ?_, fun v hv => ?_⟩
    · by_cases q : p = z
      · subst q
        rw [fx] at hK
        rw [List.mem_singleton.mp hK]
        have := (h2.1 (48 + x) (by omega) L (by rw [hf]; exact List.mem_cons_self)).1 (by omega)
        exact ⟨fun _ => this, fun q => by omega⟩
      · rw [fo p q] at hK; exact l1 p hp K hK
    · rw [k7.i (by decide), t4]; exact l2
    · rw [k7.i (by decide), t5]
      by_cases q : v = z
      · subst q; rw [u1_eq, fx]; rfl
      · rw [u1_ne q, fo v q]; exact l5 v hv
    · rw [kM3.fi (by decide), kM2.fi (by decide), k7.i (by decide), kS2.i (by decide)]; exact l6 v hv
end PO
