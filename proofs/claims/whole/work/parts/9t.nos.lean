/-! ===== the records of a switch change ===== -/
def noS (sw s : Nat) (M N : hM) : Prop := (h_fl N = h_fl M ∧ h_al N = h_al M) ∧ (h_ln N = h_ln M ∧ h_tg N = h_tg M ∧ h_sz N = h_sz M ∧ h_sl N = h_sl M) ∧ (∀ k, k ≠ 601 → k ≠ 602 → h_fi N k = h_fi M k) ∧ (∀ k, k ≠ 1005 → h_fr N k = h_fr M k) ∧ (∀ a, (a < 400 + 6 * s ∨ 406 + 6 * s ≤ a) → h_fi N 601 a = h_fi M 601 a ∧ h_fi N 602 a = h_fi M 602 a) ∧ (∀ a, a ≠ 10 + s → h_fr N 1005 a = h_fr M 1005 a) ∧ (∀ a, a ≠ 30 + s → h_ar N a = h_ar M a) ∧ ∀ a, (∀ j, nj sw j → a ≠ 440 + (6 * s + j)) → h_ai N a = h_ai M a
section NS
variable {sw nd rm s : Nat} {M N O : hM}
theorem noS_rf : noS sw s M M := ⟨⟨rfl, rfl⟩, ⟨rfl, rfl, rfl, rfl⟩, fun _ _ _ => rfl, fun _ _ => rfl, fun _ _ => ⟨rfl, rfl⟩, fun _ _ => rfl, fun _ _ => rfl, fun _ _ => rfl⟩
theorem noS_tr (h : noS sw s M N) (g : noS sw s N O) : noS sw s M O := by
  obtain ⟨⟨a1, a2⟩, ⟨a3, a4, a5, a6⟩, a7, a8, a9, b1, b2, b3⟩ := h
  obtain ⟨⟨c1, c2⟩, ⟨c3, c4, c5, c6⟩, c7, c8, c9, d1, d2, d3⟩ := g
  exact ⟨⟨c1.trans a1, c2.trans a2⟩, ⟨c3.trans a3, c4.trans a4, c5.trans a5, c6.trans a6⟩, fun k p q => (c7 k p q).trans (a7 k p q), fun k q => (c8 k q).trans (a8 k q), fun a q => ⟨(c9 a q).1.trans (a9 a q).1, (c9 a q).2.trans (a9 a q).2⟩, fun a q => (d1 a q).trans (b1 a q), fun a q => (d2 a q).trans (b2 a q), fun a q => (d3 a q).trans (b3 a q)⟩
theorem noO_S {j : Nat} (h : noO (400 + (6 * s + j)) M N) (hj : nj sw j) (h5 : sw ≤ 5) : noS sw s M N := by
  obtain ⟨⟨a1, a2, a3, a4⟩, ⟨a5, a6, a7, a8⟩, a9, b1, b2⟩ := h
  refine ⟨⟨a1, a3⟩, ⟨a5, a6, a7, a8⟩, a9, fun k _ => by rw [a2], fun a q => b1 a (by rcases hj with z | z <;> omega), fun _ _ => by rw [a2], fun _ _ => by rw [a4], fun a q => b2 a (fun z => q j hj (by omega))⟩
theorem noS_pr {v : Option Nat} : noS sw s M (h_pr M 1005 (10 + s) v) := ⟨⟨rfl, rfl⟩, ⟨rfl, rfl, rfl, rfl⟩, fun _ _ _ => rfl, fun _ q => fr_ne q, fun _ _ => ⟨rfl, rfl⟩, fun _ q => by rw [fr_eq, u1_ne q], fun _ _ => rfl, fun _ _ => rfl⟩
theorem noS_qr {i : Nat} {v : Option Nat} : noS sw s M (h_qr M (30 + s) i v) := ⟨⟨rfl, rfl⟩, ⟨rfl, rfl, rfl, rfl⟩, fun _ _ _ => rfl, fun _ _ => rfl, fun _ _ => ⟨rfl, rfl⟩, fun _ _ => rfl, fun a q => funext fun j => u2_nk q, fun _ _ => rfl⟩
theorem noS_kp (h : noS sw s M N) (hI : cI sw nd rm M) (hs : s < sw) (hb : bk M) (hz : 1000 ≤ h_sz M) : kp [601, 602, 1005] [21, 36] M N := by
  have h5 := hI.bs.1.2
  obtain ⟨⟨a1, a2⟩, ⟨a3, a4, a5, a6⟩, a7, a8, a9, b1, b2, b3⟩ := h
  have hai : ∀ a, h_tg M a ≠ 21 → h_ai N a = h_ai M a := fun a q => b3 a (fun j hj z => q (by rw [z]; exact hI.nt2 hs hj))
  refine ⟨fun a ha => ?_, fun a _ => ⟨by rw [a4], by rw [a3]⟩, fun k hk => ⟨a7 k (fun q => hk (by rw [q]; decide)) (fun q => hk (by rw [q]; decide)), by rw [a1], a8 k (fun q => hk (by rw [q]; decide))⟩, fun a ha => ⟨hai a (fun q => ha (by rw [q]; decide)), by rw [a2], b2 a (fun q => ha (by rw [q, hI.sa2 hs]; decide))⟩, fun _ => ⟨a5, a6, a4, a3⟩⟩
  rw [a5] at ha
  obtain ⟨c1, c2, c3, c4⟩ := hb a ha
  refine ⟨by rw [a4]; exact c1, by rw [a3]; exact c2, fun k => ⟨?_, by rw [a1]; exact (c3 k).2.1, ?_⟩, fun i => ⟨by rw [hai a (by rw [c1]; decide)]; exact (c4 i).1, by rw [a2]; exact (c4 i).2.1, by rw [b2 a (by omega)]; exact (c4 i).2.2⟩⟩
  · by_cases q1 : k = 601
    · subst q1; rw [(a9 a (by omega)).1]; exact (c3 601).1
    · by_cases q2 : k = 602
      · subst q2; rw [(a9 a (by omega)).2]; exact (c3 602).1
      · rw [a7 k q1 q2]; exact (c3 k).1
  · by_cases q1 : k = 1005
    · subst q1; rw [b1 a (by omega)]; exact (c3 1005).2.2
    · rw [a8 k q1]; exact (c3 k).2.2
/-- a notice that is not of s -/
theorem noS_nt {nb : Nat} {o : Option (List Nat)} (h : noS sw s M N) (g : nt1 M nb o) (h1 : nb < 400 + 6 * s ∨ 406 + 6 * s ≤ nb) (h5 : sw ≤ 5) : nt1 N nb o := by
  obtain ⟨⟨a1, a2⟩, ⟨a3, a4, a5, a6⟩, a7, a8, a9, b1, b2, b3⟩ := h
  obtain ⟨g1, g2⟩ := g
  unfold nt1
  rw [a4, a8 600 (by decide), a3, (a9 nb h1).1, b3 (nb + 40) (fun j hj q => by rcases hj with z | z <;> omega)]
  exact ⟨g1, g2⟩
theorem noS_20 (h : noS sw s M N) (hI : cI sw nd rm M) (hs : s < sw) : i20 M N := fun a _ q => ⟨by rw [h.2.1.2.1]; exact q, h.2.2.2.2.2.2.2 a (fun j hj z => by have := hI.nt2 hs hj; rw [← z, q] at this; omega)⟩
end NS
theorem FC_noS {tr : List Int32 → Bool} {sw nd s : Nat} {M N : hM} {ia : Nat → Nat → Int32} {ct : Nat → Int32} {zb sb : Nat} {fl : Nat → List (List Int32)} {hl : List (Nat × Int32 × List Int32)} (h : FC tr sw nd M ia ct zb sb fl hl) (g : noS sw s M N) (h5 : sw ≤ 5) (hs : s < sw) (hb : bk N) : FC tr sw nd N (h_ai N) ct zb sb fl hl := by
  obtain ⟨⟨a1, a2⟩, ⟨a3, a4, a5, a6⟩, a7, a8, a9, b1, b2, b3⟩ := g
  have ea : ∀ a, (a < 440 ∨ 480 ≤ a) → h_ai N a = h_ai M a := fun a q => b3 a (fun j hj z => by rcases hj with y | y <;> omega)
  obtain ⟨⟨h1, h2, h3⟩, cl, c1, c2, c3, c4, c5, c6⟩ := h
  refine ⟨⟨fun _ _ _ => rfl, by rw [ea 3 (by omega)]; exact h2, hb⟩, cl, c1, fun p a ha => ?_, ?_, ?_, by rw [a5]; exact c5, by rw [a6]; exact c6⟩
  · obtain ⟨⟨j1, j2, j3, j4⟩, j5, j6⟩ := c2 p a ha
    exact ⟨⟨by rw [a4]; exact j1, by rw [a8 200 (by decide)]; exact j2, by rw [a4]; exact j3, by rw [a3]; exact j4⟩, j5, by rw [a7 201 (by decide) (by decide)]; exact j6⟩
  · rw [a8 203 (by decide), a8 300 (by decide), a8 301 (by decide), a8 808 (by decide), a8 907 (by decide), a7 302 (by decide) (by decide)]; exact c3
  · have eC : ∀ p a, a ∈ cl p → fcC N a = fcC M a := fun p a ha => by
      unfold fcC fbl
      rw [a7 201 (by decide) (by decide), ea (a + 1) (by have := (c2 p a ha).2.1; omega)]
    obtain ⟨⟨t1, t2⟩, t3, t4, t5⟩ := c4
    rw [a7 202 (by decide) (by decide)]
    refine ⟨⟨t1, fun t ht => ?_⟩, fun p hp => ?_, fun p a hp ha => ?_, fun p a hp hq ha => ?_⟩
    · rw [eC 145 t.1 (by rw [t1]; exact List.mem_map_of_mem ht)]; exact t2 t ht
    · rw [← t3 p hp]; exact List.map_congr_left (fun b hb => eC p b hb)
    · rw [eC p a ha]; exact t4 p a hp ha
    · rw [eC p a ha]; exact t5 p a hp hq ha
/-- the records of switch s, its ways not yet found -/
def RC0 (sw nd : Nat) (M : hM) (S : sT) (s : Nat) (K : rK) (ka : Nat → Nat) (tg : Bool) : Prop :=
  (∀ r, r < sw → h_ar M (30 + s) r = some (400 + (6 * s + nJ tg s r)) ∧ nt1 M (400 + (6 * s + nJ tg s r)) (K r) ∧ (K r ≠ none → h_fi M 602 (400 + (6 * s + nJ tg s r)) = nI (ka r) ∧ S.1 28 (5 * s + r) = nI (ka r))) ∧
  h_fr M 1005 (10 + s) = some (400 + (6 * s + dJ tg s)) ∧ rkS S s K ∧ ∀ r L, K r = some L → r < sw ∧ rOK sw nd L
def SB0 (sw nd rm : Nat) (M : hM) (S : sT) (ia : Nat → Nat → Int32) (w : Nat) (pe : Nat → Option Nat) (wo : Nat → Nat) (t zb sb : Nat) (flc flr : Nat → List (List Int32)) (hc : List (Nat × Int32 × List Int32)) (hs : List (Nat × List Int32)) (kR : Nat → rK) (ka : Nat → Nat → Nat) (tog : Nat → Bool) (s : Nat) : Prop :=
  ST sw nd rm M S ia w pe wo t ∧ PB sw nd M S ia zb sb flc flr hc hs ∧ PX sw nd M S pe ∧ (∀ s', s' < sw → s' ≠ s → RC1 sw nd M S s' (kR s') (ka s') (tog s')) ∧ RC0 sw nd M S s (kR s) (ka s) (tog s)
section S0
variable {sw nd rm : Nat} {M M' M2 : hM} {S T : sT} {ia ib : Nat → Nat → Int32} {w t zb sb : Nat} {pe : Nat → Option Nat} {wo : Nat → Nat} {flc flr fmc fmr : Nat → List (List Int32)} {hc : List (Nat × Int32 × List Int32)} {hs : List (Nat × List Int32)} {kR : Nat → rK} {ka : Nat → Nat → Nat} {tog : Nat → Bool} {s p x y n o : Nat} {K : rK} {kas : Nat → Nat} {tg : Bool}
theorem PB.sz (h : PB sw nd M S ia zb sb flc flr hc hs) : 1000 ≤ h_sz M := by
  obtain ⟨ct, ⟨-, cl, -, -, -, -, c5, -⟩, -, -, -, -, -, h7⟩ := h
  omega
theorem SB_no (h : SB sw nd rm M S ia w pe wo t zb sb flc flr hc hs kR ka tog) (hss : s < sw) (hn : noS sw s M M2) (l : ks [27, 28, 29, 30, 31] S T) (h0 : RC0 sw nd M2 T s K kas tg) (hT : ∀ s', s' < sw → s' ≠ s → rkS T s' (kR s') ∧ ∀ r, r < sw → T.1 28 (5 * s' + r) = S.1 28 (5 * s' + r)) : SB0 sw nd rm M2 T (h_ai M2) w pe wo t zb sb flc flr hc hs (u1 kR s K) (u1 ka s kas) (u1 tog s tg) s ∧ i20 M M2 ∧ kp [601, 602, 1005] [21, 36] M M2 := by
  have hI := h.st.I
  have hsw := hI.bs.1.2
  have kk := noS_kp hn hI hss h.pb.bk h.pb.sz
  have i0 := noS_20 hn hI hss
  obtain ⟨hST, hPB, hPX, hRC⟩ := h
  have i4 : h_ai M2 4 = ia 4 := by
    obtain ⟨ct, c1, -⟩ := hPB
    rw [hn.2.2.2.2.2.2.2 4 (fun j hj z => by omega)]
    exact c1.1.1 4 (Or.inl (by omega)) (by omega)
  refine ⟨⟨hST.keep kk (by decide) (by decide) l (by decide) i4, ?_, hPX.keep kk (by decide) l (by decide), fun s' hs' q => ?_, ?_⟩, i0, kk⟩
  · have hPT : PB sw nd M T ia zb sb flc flr hc hs := hPB.ks l (by decide)
    obtain ⟨ct, c1, c2⟩ := hPT
    exact ⟨ct, FC_noS c1 hn hsw hss kk.1, c2⟩
  · rw [u1_ne q, u1_ne q, u1_ne q]
    have r0 := hRC s' hs'
    obtain ⟨q1, q2⟩ := hT s' hs' q
    refine ⟨fun r hr => ⟨?_, ?_, fun hne => ?_⟩, ?_, q1, r0.2.2.2.1, ?_, ?_, ?_⟩
    · rw [hn.2.2.2.2.2.2.1 _ (by omega)]; exact (r0.1 r hr).1
    · have hjr := nJ_lt (tg := tog s') (s := s') hr hsw
      exact noS_nt hn (r0.1 r hr).2.1 (by omega) hsw
    · have hjr := nJ_lt (tg := tog s') (s := s') hr hsw
      obtain ⟨b4, b5⟩ := (r0.1 r hr).2.2 hne
      rw [(hn.2.2.2.2.1 _ (by omega)).2, q2 r hr]
      exact ⟨b4, b5⟩
    · rw [hn.2.2.2.2.2.1 _ (by omega)]; exact r0.2.1
    · intro r hr
      rw [hn.2.2.2.2.2.2.2 _ (fun j hj z => by omega)]
      exact r0.2.2.2.2.1 r hr
    · intro r hr
      rw [hn.2.2.2.2.2.2.2 _ (fun j hj z => by omega)]
      exact r0.2.2.2.2.2.1 r hr
    · rw [hn.2.2.1 1010 (by decide) (by decide)]; exact r0.2.2.2.2.2.2
  · rw [u1_eq, u1_eq, u1_eq]; exact h0
/-- findWays -/
theorem SB0_fw (h : SB0 sw nd rm M S ia w pe wo t zb sb flc flr hc hs kR ka tog s) (hss : s < sw) : ∃ M3, f109 [.inr (.inr (some (10 + s)))] M = some (none, M3) ∧ SB sw nd rm M3 S (h_ai M3) w pe wo t zb sb flc flr hc hs kR ka tog ∧ i20 M M3 ∧ kp [1010] [20] M M3 := by
  obtain ⟨hST, hPB, hPX, hRC, h1, h2, h3, h4⟩ := h
  have hI := hST.I
  have hsw := hI.bs.1.2
  have hN : ntS M sw s (kR s) := fun r hr => by
    have := nJ_lt (tg := tog s) (s := s) hr hsw
    exact ⟨_, (h1 r hr).1, by omega, by omega, (h1 r hr).2.1⟩
  have hko : rKo sw (kR s) := fun a => by
    refine ⟨fun q => ?_, fun k hk => ?_⟩
    · cases z : kR s a with
      | none => exact absurd z q
      | some K' => exact (h4 a K' z).1
    · cases z : kR s a with
      | none => rw [z] at hk; have hk : k < 0 := hk; omega
      | some K' => rw [z] at hk; exact ((h4 a K' z).2.f (by omega)).2.2.2.2 k hk
  have hdm : rgo (kR s s) 4 < 16 := by
    cases z : kR s s with
    | none => show 0 < 16; omega
    | some K' =>
      have := ((h4 s K' z).2.f (by omega)).2.2.2.1
      show K'.getD 4 0 < 16
      omega
  obtain ⟨N, f1, f2, f3, f4⟩ := f109_eq hI hss hko hN hdm
  have k2 := aiO_kp f2 hPB.bk (pW_20 hI hss)
  have k3 := k_hpi (M := N) (f := 1010) (a := 10 + s) (v := b2 (ofK sw (kR s) s)) k2.1 (by rw [(f2.I hI).si0 hss]; decide)
  have kk : kp [1010] [20] M (h_pi N 1010 (10 + s) (b2 (ofK sw (kR s) s))) := ((kp.rf hPB.bk : kp [1010] [20] M M).tr k2 rfl rfl).tr k3 rfl rfl
  have hpw := fun a (q : pW s sw a) => pW_lt hss hsw q
  generalize hM3 : h_pi N 1010 (10 + s) (b2 (ofK sw (kR s) s)) = M3 at *
  have hai3 : ∀ a, ¬ pW s sw a → h_ai M3 a = h_ai M a := fun a q => by rw [← hM3]; exact f2.2.2 a q
  have frE : h_fr M3 = h_fr M := by rw [← hM3]; exact f2.1.2.2.1
  have arE : h_ar M3 = h_ar M := by rw [← hM3]; exact f2.1.2.2.2.2
  have fiE : ∀ k, k ≠ 1010 → h_fi M3 k = h_fi M k := fun k q => by rw [← hM3, fi_ne q, f2.1.1]
  have tgE : h_tg M3 = h_tg M := by rw [← hM3]; exact f2.2.1.2.1
  have lnE : h_ln M3 = h_ln M := by rw [← hM3]; exact f2.2.1.1
  have ntE : ∀ nb o, 400 ≤ nb → nt1 M nb o → nt1 M3 nb o := fun nb o hb g => by
    unfold nt1
    rw [tgE, frE, lnE, fiE 601 (by decide), hai3 (nb + 40) (fun q => by have := hpw _ q; omega)]
    exact g
  have i4 : h_ai M3 4 = ia 4 := by
    obtain ⟨ct, c1, -⟩ := hPB
    rw [hai3 4 (fun q => by have := hpw 4 q; omega)]
    exact c1.1.1 4 (Or.inl (by omega)) (by omega)
  refine ⟨M3, f1, ⟨hST.keep kk (by decide) (by decide) (ks.rf : ks [] S S) (by decide) i4, ?_, hPX.keep kk (by decide) (ks.rf : ks [] S S) (by decide), fun s' hs' => ?_⟩, fun a q1 q2 => ⟨by rw [tgE]; exact q2, hai3 a (fun q => by have := hpw a q; omega)⟩, kk⟩
  · obtain ⟨ct, c1, c2⟩ := hPB
    exact ⟨ct, c1.sti ⟨tgE, lnE, by rw [← hM3]; exact f2.2.1.2.2.1, by rw [← hM3]; exact f2.2.1.2.2.2, frE⟩ ⟨fiE 201 (by decide), fiE 202 (by decide), fiE 302 (by decide)⟩ (fun a ha => hai3 a (fun q => by have := hpw a q; omega)) (hai3 3 (fun q => by have := hpw 3 q; omega)) kk.1, c2⟩
  · by_cases q : s' = s
    · subst q
      refine ⟨fun r hr => ⟨by rw [arE]; exact (h1 r hr).1, ntE _ _ (by omega) (h1 r hr).2.1, fun hne => by rw [fiE 602 (by decide)]; exact (h1 r hr).2.2 hne⟩, by rw [frE]; exact h2, h3, h4, ?_, ?_, ?_⟩
      · intro r hr; rw [← hM3]; exact f3 r hr
      · intro r hr; rw [← hM3]; exact f4 r hr
      · rw [← hM3, fi_eq, u1_eq]
    · have r0 := hRC s' hs' q
      refine ⟨fun r hr => ⟨by rw [arE]; exact (r0.1 r hr).1, ntE _ _ (by omega) (r0.1 r hr).2.1, fun hne => by rw [fiE 602 (by decide)]; exact (r0.1 r hr).2.2 hne⟩, by rw [frE]; exact r0.2.1, r0.2.2.1, r0.2.2.2.1, ?_, ?_, ?_⟩
      · intro r hr
        rw [hai3 _ (fun z => by rcases z with ⟨a, a1, a2⟩ | ⟨a, a1, a2⟩ | a | a <;> omega)]
        exact r0.2.2.2.2.1 r hr
      · intro r hr
        rw [hai3 _ (fun z => by rcases z with ⟨a, a1, a2⟩ | ⟨a, a1, a2⟩ | a | a <;> omega)]
        exact r0.2.2.2.2.2.1 r hr
      · rw [← hM3, fi_eq, u1_ne (by omega), f2.1.1]; exact r0.2.2.2.2.2.2
/-- frames have moved, no more -/
theorem SB0_keep {F A G : List Nat} (h : SB0 sw nd rm M S ia w pe wo t zb sb flc flr hc hs kR ka tog s) (hss : s < sw) (k : kp F A M M') (hF : sbF.all (fun x => ! F.contains x) = true) (hA : (36 :: cCA).all (fun x => ! A.contains x) = true) (l : ks G S T) (hG : sbS.all (fun x => ! G.contains x) = true) (p : PB sw nd M' T ia zb sb fmc fmr hc hs) : SB0 sw nd rm M' T ia w pe wo t zb sb fmc fmr hc hs kR ka tog s := by
  obtain ⟨hST, hPB, hPX, hRC, h1, h2, h3, h4⟩ := h
  have hI := hST.I
  have hai := hPB.ia p
  have h5 := hI.bs.1.2
  have qF : ∀ x, x ∈ sbF → F.contains x = false := fun x hx => by have := List.all_eq_true.mp hF x hx; simpa using this
  have qG : ∀ x, x ∈ sbS → G.contains x = false := fun x hx => by have := List.all_eq_true.mp hG x hx; simpa using this
  have qA : A.contains 36 = false := by have := List.all_eq_true.mp hA 36 (by decide); simpa using this
  refine ⟨hST.keep k (all_sub hF (by decide)) (all_sub hA (by decide)) l (all_sub hG (by decide)) rfl, p, hPX.keep k (all_sub hF (by decide)) l (all_sub hG (by decide)), fun s' hs' q => ?_, fun r hr => ?_, ?_, ?_, h4⟩
  · exact (hRC s' hs' q).keep hI hs' k (all_sub hF (by decide)) qA hai l (all_sub hG (by decide))
  · obtain ⟨a1, a2, a3⟩ := h1 r hr
    have hj := nJ_lt (tg := tog s) (s := s) hr h5
    refine ⟨by rw [k.ar (hI.sa2 hss) qA]; exact a1, a2.keep k (qF 600 (by decide)) (qF 601 (by decide)) (hai _ (by omega) (by omega)), fun q => ?_⟩
    rw [k.fi (qF 602 (by decide)), l.i (qG 28 (by decide))]
    exact a3 q
  · rw [k.fr (qF 1005 (by decide))]; exact h2
  · exact h3.ks l (qG 27 (by decide)) (qG 30 (by decide)) (qG 29 (by decide))
theorem SB0_of (h : SB sw nd rm M S ia w pe wo t zb sb flc flr hc hs kR ka tog) (hss : s < sw) : SB0 sw nd rm M S ia w pe wo t zb sb flc flr hc hs kR ka tog s := by
  obtain ⟨hST, hPB, hPX, hRC⟩ := h
  have r := hRC s hss
  exact ⟨hST, hPB, hPX, fun s' hs' _ => hRC s' hs', r.1, r.2.1, r.2.2.1, r.2.2.2.1⟩
end S0
