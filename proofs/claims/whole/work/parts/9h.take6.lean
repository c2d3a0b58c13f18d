/-! ===== takeRecord ===== -/
theorem i8b : ∀ b, b < 256 → (Int32.toInt8 (nI b)).toInt32 &&& 255 = nI b := by decide +kernel
theorem FC.sti {tr : List Int32 → Bool} {sw nd : Nat} {M N : hM} {ia : Nat → Nat → Int32} {ct : Nat → Int32} {zb sb : Nat} {fl : Nat → List (List Int32)} {hl : List (Nat × Int32 × List Int32)} (h : FC tr sw nd M ia ct zb sb fl hl) (e : h_tg N = h_tg M ∧ h_ln N = h_ln M ∧ h_sz N = h_sz M ∧ h_sl N = h_sl M ∧ h_fr N = h_fr M) (ei : h_fi N 201 = h_fi M 201 ∧ h_fi N 202 = h_fi M 202 ∧ h_fi N 302 = h_fi M 302) (ea : ∀ a, 1000 ≤ a → h_ai N a = h_ai M a) (e3 : h_ai N 3 = h_ai M 3) (hb : bk N) : FC tr sw nd N (h_ai N) ct zb sb fl hl := by
  obtain ⟨⟨h1, h2, h3⟩, cl, c1, c2, c3, c4, c5, c6⟩ := h
  obtain ⟨e1, e2, e4, e5, e6⟩ := e
  obtain ⟨i1, i2, i3⟩ := ei
  refine ⟨⟨fun _ _ _ => rfl, by rw [e3]; exact h2, hb⟩, cl, c1, fun p a ha => ?_, by rw [e6, i3]; exact c3, ?_, by rw [e4]; exact c5, by rw [e5]; exact c6⟩
  · obtain ⟨⟨j1, j2, j3, j4⟩, j5, j6⟩ := c2 p a ha
    exact ⟨⟨by rw [e1]; exact j1, by rw [e6]; exact j2, by rw [e1]; exact j3, by rw [e2]; exact j4⟩, j5, by rw [i1]; exact j6⟩
  · have eC : ∀ p a, a ∈ cl p → fcC N a = fcC M a := fun p a ha => by
      unfold fcC fbl
      rw [i1, ea (a + 1) (by have := (c2 p a ha).2.1; omega)]
    obtain ⟨⟨t1, t2⟩, t3, t4, t5⟩ := c4
    rw [i2]
    refine ⟨⟨t1, fun t ht => ?_⟩, fun p hp => ?_, fun p a hp ha => ?_, fun p a hp hq ha => ?_⟩
    · rw [eC 145 t.1 (by rw [t1]; exact List.mem_map_of_mem ht)]; exact t2 t ht
    · rw [← t3 p hp]; exact List.map_congr_left (fun b hb => eC p b hb)
    · rw [eC p a ha]; exact t4 p a hp ha
    · rw [eC p a ha]; exact t5 p a hp hq ha
/-- int arrays of the nodes' stay -/
def i20 (M M' : hM) : Prop := ∀ a, 140 ≤ a → h_tg M a = 20 → h_tg M' a = 20 ∧ h_ai M' a = h_ai M a
theorem i20_rf {M : hM} : i20 M M := fun _ _ h => ⟨h, rfl⟩
theorem i20_tr {M N O : hM} (h : i20 M N) (g : i20 N O) : i20 M O := fun a h1 h2 => by
  obtain ⟨a1, a2⟩ := h a h1 h2
  obtain ⟨b1, b2⟩ := g a h1 a1
  exact ⟨b1, b2.trans a2⟩
theorem PB_i20 {sw nd zb sb zb' sb' : Nat} {M M' : hM} {S S' : sT} {ia : Nat → Nat → Int32} {f1 f2 f3 f4 : Nat → List (List Int32)} {hc hc' : List (Nat × Int32 × List Int32)} {hs hs' : List (Nat × List Int32)} {F A : List Nat} (h : PB sw nd M S ia zb sb f1 f2 hc hs) (g : PB sw nd M' S' ia zb' sb' f3 f4 hc' hs') (k : kp F A M M') : i20 M M' := fun a h1 h2 => by
  obtain ⟨ct, k1, -⟩ := h
  obtain ⟨ct', k2, -⟩ := g
  have t' := k.t0 h2
  refine ⟨t', ?_⟩
  rw [k1.1.1 a (Or.inr h2) (by omega), k2.1.1 a (Or.inr t') (by omega)]
section KE
variable {sw nd rm s na : Nat} {M N : hM}
theorem noO_kp (h : noO na M N) (hb : bk M) (ht : h_tg M na = 7) (ht2 : h_tg M (na + 40) = 21) : kp [601, 602] [21] M N := by
  have hbN := h.bk hb (by rw [ht]; decide) (by rw [ht2]; decide)
  obtain ⟨⟨a1, a2, a3, a4⟩, ⟨a5, a6, a7, a8⟩, a9, b1, b2⟩ := h
  refine ⟨hbN, fun a _ => ⟨by rw [a6], by rw [a5]⟩, fun k hk => ⟨a9 k (fun q => hk (by rw [q]; decide)) (fun q => hk (by rw [q]; decide)), by rw [a1], by rw [a2]⟩, fun a ha => ⟨b2 a (fun q => ha (by rw [q, ht2]; decide)), by rw [a3], by rw [a4]⟩, fun _ => ⟨a7, a8, a6, a5⟩⟩
theorem aiO_kp {P : Nat → Prop} (h : aiO P M N) (hb : bk M) (hP : ∀ a, P a → h_tg M a = 20) : kp [] [20] M N := by
  obtain ⟨⟨a1, a2, a3, a4, a5⟩, ⟨a6, a7, a8, a9⟩, a0⟩ := h
  have hai : ∀ a, h_tg M a ≠ 20 → h_ai N a = h_ai M a := fun a q => a0 a (fun z => q (hP a z))
  refine ⟨fun a ha => ?_, fun a _ => ⟨by rw [a7], by rw [a6]⟩, fun k _ => ⟨by rw [a1], by rw [a2], by rw [a3]⟩, fun a ha => ⟨hai a (fun q => ha (by rw [q]; decide)), by rw [a4], by rw [a5]⟩, fun _ => ⟨a8, a9, a7, a6⟩⟩
  rw [a8] at ha
  obtain ⟨c1, c2, c3, c4⟩ := hb a ha
  rw [a7, a6, a1, a2, a3, a4, a5, hai a (by rw [c1]; decide)]
  exact ⟨c1, c2, c3, c4⟩
theorem pW_20 (hI : cI sw nd rm M) (hs : s < sw) : ∀ a, pW s sw a → h_tg M a = 20 := fun a h => by
  rcases h with ⟨r, r1, rfl⟩ | ⟨r, r1, rfl⟩ | rfl | rfl
  · exact hI.ss2 hs r1
  · exact hI.ss4 hs r1
  · exact hI.sa4 hs
  · exact hI.sa6 hs
end KE
section TR
variable {sw nd rm : Nat} {M M' : hM} {S T : sT} {ia : Nat → Nat → Int32} {w t zb sb : Nat} {pe : Nat → Option Nat} {wo : Nat → Nat} {flc flr fmc fmr : Nat → List (List Int32)} {hc : List (Nat × Int32 × List Int32)} {hs : List (Nat × List Int32)} {kR : Nat → rK} {ka : Nat → Nat → Nat} {tog : Nat → Bool} {s p x y n o : Nat}
/-- a record of switch s is a new one, and the ways are found anew: the class's M2 (na filled, its time set), the reference's T -/
theorem SB_new {M2 : hM} {L : List Nat} (h : SB sw nd rm M S ia w pe wo t zb sb flc flr hc hs kR ka tog) (hss : s < sw) (ho : o < sw) (hok : rOK sw nd L) (hn : noO (400 + (6 * s + nJ (tog s) s o)) M M2) (h1 : nt1 M2 (400 + (6 * s + nJ (tog s) s o)) (some L)) (h2 : h_fi M2 602 (400 + (6 * s + nJ (tog s) s o)) = nI t) (l : ks [27, 28, 29, 30] S T) (hT : rkS T s (u1 (kR s) o (some L))) (hTo : ∀ r, r ≠ 5 * s + o → T.1 28 r = S.1 28 r) (hT8 : T.1 28 (5 * s + o) = nI t) (hTs : ∀ s', s' < sw → s' ≠ s → rkS T s' (kR s')) : ∃ M3, f109 [.inr (.inr (some (10 + s)))] M2 = some (none, M3) ∧ i20 M M3 ∧ SB sw nd rm M3 T (h_ai M3) w pe wo t zb sb flc flr hc hs (u1 kR s (u1 (kR s) o (some L))) (u1 ka s (u1 (ka s) o t)) tog := by
  have hI := h.st.I
  have hsw := hI.bs.1.2
  have hI2 := hn.I hI
  have rc := h.rc hss
  have hj := nJ_lt (tg := tog s) (s := s) ho hsw
  -- the records as they are now
  have hok' : ∀ r K', u1 (kR s) o (some L) r = some K' → r < sw ∧ rOK sw nd K' := fun r K' hK' => by
    by_cases q : r = o
    · subst q
      rw [u1_eq] at hK'
      cases hK'
      exact ⟨ho, hok⟩
    · rw [u1_ne q] at hK'
      exact rc.2.2.2.1 r K' hK'
  have hnJ : ∀ r, r < sw → r ≠ o → nJ (tog s) s r ≠ nJ (tog s) s o := fun r hr q => by
    unfold nJ
    split <;> split <;> omega
  have hnt : ∀ r, r < sw → nt1 M2 (400 + (6 * s + nJ (tog s) s r)) (u1 (kR s) o (some L) r) := fun r hr => by
    by_cases q : r = o
    · subst q; rw [u1_eq]; exact h1
    · rw [u1_ne q]
      exact hn.nt (rc.1 r hr).2.1 (by have := hnJ r hr q; omega)
  have hN : ntS M2 sw s (u1 (kR s) o (some L)) := fun r hr => by
    have := nJ_lt (tg := tog s) (s := s) hr hsw
    exact ⟨_, by rw [hn.1.2.2.2]; exact (rc.1 r hr).1, by omega, by omega, hnt r hr⟩
  have hko : rKo sw (u1 (kR s) o (some L)) := fun a => by
    refine ⟨fun q => ?_, fun k hk => ?_⟩
    · cases z : u1 (kR s) o (some L) a with
      | none => exact absurd z q
      | some K' => exact (hok' a K' z).1
    · cases z : u1 (kR s) o (some L) a with
      | none => rw [z] at hk; have hk : k < 0 := hk; omega
      | some K' => rw [z] at hk; exact ((hok' a K' z).2.f (by omega)).2.2.2.2 k hk
  have hdm : rgo (u1 (kR s) o (some L) s) 4 < 16 := by
    cases z : u1 (kR s) o (some L) s with
    | none => show 0 < 16; omega
    | some K' =>
      have := ((hok' s K' z).2.f (by omega)).2.2.2.1
      show K'.getD 4 0 < 16
      omega
  obtain ⟨N, f1, f2, f3, f4⟩ := f109_eq hI2 hss hko hN hdm
  have hbM := h.pb.bk
  have k1 := noO_kp hn hbM (hI.nt0 hss (show nj sw (nJ (tog s) s o) by unfold nj nJ; split <;> omega)) (by have := hI.nt2 hss (show nj sw (nJ (tog s) s o) by unfold nj nJ; split <;> omega); rw [show 400 + (6 * s + nJ (tog s) s o) + 40 = 440 + (6 * s + nJ (tog s) s o) by omega]; exact this)
  have k2 := aiO_kp f2 k1.1 (pW_20 hI2 hss)
  have k3 := k_hpi (M := N) (f := 1010) (a := 10 + s) (v := b2 (ofK sw (u1 (kR s) o (some L)) s)) k2.1 (by rw [(f2.I hI2).si0 hss]; decide)
  have kk : kp [601, 602, 1010] [20, 21] M (h_pi N 1010 (10 + s) (b2 (ofK sw (u1 (kR s) o (some L)) s))) := (((kp.rf hbM : kp [601, 602, 1010] [20, 21] M M).tr k1 rfl rfl).tr k2 rfl rfl).tr k3 rfl rfl
  have hai : ∀ a, a ≠ 440 + (6 * s + nJ (tog s) s o) → ¬ pW s sw a → h_ai N a = h_ai M a := fun a q1 q2 => by
    rw [f2.2.2 a q2, hn.2.2.2.2 a (by omega)]
  have hpw := fun a (q : pW s sw a) => pW_lt hss hsw q
  generalize hM3 : h_pi N 1010 (10 + s) (b2 (ofK sw (u1 (kR s) o (some L)) s)) = M3 at *
  have hai3 : h_ai M3 = h_ai N := by rw [← hM3]; rfl
  have frE : h_fr M3 = h_fr M := by rw [← hM3]; show h_fr N = _; rw [f2.1.2.2.1, hn.1.2.1]
  have arE : h_ar M3 = h_ar M := by rw [← hM3]; show h_ar N = _; rw [f2.1.2.2.2.2, hn.1.2.2.2]
  have fiE : ∀ k, k ≠ 601 → k ≠ 602 → k ≠ 1010 → h_fi M3 k = h_fi M k := fun k q1 q2 q3 => by rw [← hM3, fi_ne q3, f2.1.1, hn.2.2.1 k q1 q2]
  have fi2 : ∀ k, k ≠ 1010 → h_fi M3 k = h_fi M2 k := fun k q => by rw [← hM3, fi_ne q, f2.1.1]
  obtain ⟨hST, hPB, hPX, hRC⟩ := h
  have i4 : h_ai M3 4 = ia 4 := by
    obtain ⟨ct, c1, -⟩ := hPB
    rw [hai3, hai 4 (by omega) (fun q => by have := hpw 4 q; omega)]
    exact c1.1.1 4 (Or.inl (by omega)) (by omega)
  have i0 : i20 M M3 := fun a q1 q2 => by
    refine ⟨kk.t0 q2, ?_⟩
    have e21 := hI.nt2 hss (show nj sw (nJ (tog s) s o) by unfold nj nJ; split <;> omega)
    rw [hai3]
    exact hai a (fun q => by rw [q, e21] at q2; omega) (fun q => by have := hpw a q; omega)
  refine ⟨M3, f1, i0, hST.keep kk (by decide) (by decide) l (by decide) i4, ?_, hPX.keep kk (by decide) l (by decide), fun s' hs' => ?_⟩
  · have hPT : PB sw nd M T ia zb sb flc flr hc hs := hPB.ks l (by decide)
    obtain ⟨ct, c1, c2⟩ := hPT
    refine ⟨ct, c1.sti ⟨by rw [← hM3]; show h_tg N = _; rw [f2.2.1.2.1, hn.2.1.2.1], by rw [← hM3]; show h_ln N = _; rw [f2.2.1.1, hn.2.1.1], by rw [← hM3]; show h_sz N = _; rw [f2.2.1.2.2.1, hn.2.1.2.2.1], by rw [← hM3]; show h_sl N = _; rw [f2.2.1.2.2.2, hn.2.1.2.2.2], frE⟩ ⟨fiE 201 (by decide) (by decide) (by decide), fiE 202 (by decide) (by decide) (by decide), fiE 302 (by decide) (by decide) (by decide)⟩ (fun a ha => ?_) ?_ kk.1, c2⟩
    · rw [hai3]; exact hai a (by omega) (fun q => by have := hpw a q; omega)
    · rw [hai3]; exact hai 3 (by omega) (fun q => by have := hpw 3 q; omega)
  · by_cases q : s' = s
    · subst q
      rw [u1_eq, u1_eq]
      refine ⟨fun r hr => ⟨by rw [arE]; exact (rc.1 r hr).1, ?_, fun hne => ?_⟩, by rw [frE]; exact rc.2.1, hT, hok', ?_, ?_, ?_⟩
      · have := hnt r hr
        obtain ⟨b1, b2'⟩ := this
        have hjr := nJ_lt (tg := tog s') (s := s') hr hsw
        have e1 : h_ai M3 (400 + (6 * s' + nJ (tog s') s' r) + 40) = h_ai M2 (400 + (6 * s' + nJ (tog s') s' r) + 40) := by
          rw [hai3]; exact f2.2.2 _ (fun z => by have := hpw _ z; omega)
        have e2 : h_tg M3 = h_tg M2 := by rw [← hM3]; exact f2.2.1.2.1
        have e3 : h_ln M3 = h_ln M2 := by rw [← hM3]; exact f2.2.1.1
        have e4 : h_fr M3 = h_fr M2 := by rw [← hM3]; exact f2.1.2.2.1
        unfold nt1
        rw [e1, e2, e3, e4, fi2 601 (by decide)]
        exact ⟨b1, b2'⟩
      · by_cases z : r = o
        · subst z
          rw [u1_eq, fi2 602 (by decide)]
          exact ⟨h2, hT8⟩
        · rw [u1_ne z] at hne ⊢
          obtain ⟨-, -, b3⟩ := rc.1 r hr
          obtain ⟨b4, b5⟩ := b3 hne
          rw [fi2 602 (by decide), (hn.2.2.2.1 _ (by have := hnJ r hr z; omega)).2, hTo _ (by omega)]
          exact ⟨b4, b5⟩
      · intro r hr
        rw [hai3]; exact f3 r hr
      · intro d hd
        rw [hai3]; exact f4 d hd
      · rw [← hM3, fi_eq, u1_eq]
    · rw [u1_ne q, u1_ne q]
      have r0 := hRC s' hs'
      refine ⟨fun r hr => ⟨by rw [arE]; exact (r0.1 r hr).1, ?_, fun hne => ?_⟩, by rw [frE]; exact r0.2.1, hTs s' hs' q, r0.2.2.2.1, ?_, ?_, ?_⟩
      · have hjr := nJ_lt (tg := tog s') (s := s') hr hsw
        have hne : 400 + (6 * s' + nJ (tog s') s' r) ≠ 400 + (6 * s + nJ (tog s) s o) := by omega
        have b := hn.nt (r0.1 r hr).2.1 hne
        have e1 : h_ai M3 (400 + (6 * s' + nJ (tog s') s' r) + 40) = h_ai M2 (400 + (6 * s' + nJ (tog s') s' r) + 40) := by
          rw [hai3]; exact f2.2.2 _ (fun z => by have := hpw _ z; omega)
        have e2 : h_tg M3 = h_tg M2 := by rw [← hM3]; exact f2.2.1.2.1
        have e3 : h_ln M3 = h_ln M2 := by rw [← hM3]; exact f2.2.1.1
        have e4 : h_fr M3 = h_fr M2 := by rw [← hM3]; exact f2.1.2.2.1
        unfold nt1
        rw [e1, e2, e3, e4, fi2 601 (by decide)]
        exact b
      · have hjr := nJ_lt (tg := tog s') (s := s') hr hsw
        obtain ⟨b4, b5⟩ := (r0.1 r hr).2.2 hne
        rw [fi2 602 (by decide), (hn.2.2.2.1 _ (by omega)).2, hTo _ (by omega)]
        exact ⟨b4, b5⟩
      · intro r hr
        rw [hai3, hai _ (by omega) (fun z => by rcases z with ⟨a, a1, a2⟩ | ⟨a, a1, a2⟩ | a | a <;> omega)]
        exact r0.2.2.2.2.1 r hr
      · intro d hd
        rw [hai3, hai _ (by omega) (fun z => by rcases z with ⟨a, a1, a2⟩ | ⟨a, a1, a2⟩ | a | a <;> omega)]
        exact r0.2.2.2.2.2.1 d hd
      · have : h_fi M3 1010 (10 + s') = h_fi M 1010 (10 + s') := by
          rw [← hM3, fi_eq, u1_ne (by omega), f2.1.1, hn.2.2.1 1010 (by decide) (by decide)]
        rw [this]
        exact r0.2.2.2.2.2.2
end TR
