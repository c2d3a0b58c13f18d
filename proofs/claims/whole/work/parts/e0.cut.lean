/-! ===== cut ===== -/
def emF (fl : Nat → List (List Int32)) (x : Nat) : Nat → List (List Int32) := u1 (u1 (u1 fl x []) (96 + x) []) (48 + x) []
theorem emF_eq {fl : Nat → List (List Int32)} {x p : Nat} : emF fl x p = if p = x ∨ p = 48 + x ∨ p = 96 + x then [] else fl p := by
  unfold emF
  by_cases q1 : p = 48 + x
  · subst q1; rw [u1_eq, if_pos (Or.inr (Or.inl rfl))]
  rw [u1_ne q1]
  by_cases q2 : p = 96 + x
  · subst q2; rw [u1_eq, if_pos (Or.inr (Or.inr rfl))]
  rw [u1_ne q2]
  by_cases q3 : p = x
  · subst q3; rw [u1_eq, if_pos (Or.inl rfl)]
  · rw [u1_ne q3, if_neg (fun z => by rcases z with z | z | z <;> contradiction)]
section CT
variable {sw nd rm : Nat} {M N M' Z : hM} {S T U V : sT} {ia : Nat → Nat → Int32} {ct : Nat → Int32} {w t x y z zb sb nc c s p n i a b f j : Nat} {pe : Nat → Option Nat} {wo : Nat → Nat} {fl : Nat → List (List Int32)} {kR : Nat → rK} {ka : Nat → Nat → Nat} {tog : Nat → Bool} {ca hh : Nat → Nat} {lv : Nat → Bool} {jj : Nat → Nat} {G : Nat → nG} {v v1 v2 v3 v4 v5 : Int32}
theorem emF_b (h : FLb fl) : FLb (emF fl x) := fun q hq => by
  obtain ⟨a1, a2, a3⟩ := h q hq
  rw [emF_eq, emF_eq, emF_eq]
  refine ⟨?_, ?_, ?_⟩
  · split
    · exact Nat.zero_le _
    · exact a1
  · split
    · exact Nat.zero_le _
    · exact a2
  · split
    · exact Nat.zero_le _
    · exact a3
/-- a port has gone down -/
def gdSt (M Z : hM) (x : Nat) : Prop := kp [203, 300, 301, 302, 805, 806, 807, 808, 811, 812, 813, 907] [] M Z ∧ h_fi Z 805 = u1 (h_fi M 805) (200 + x) 0 ∧ h_fi Z 806 = u1 (h_fi M 806) (200 + x) 0 ∧ h_fi Z 807 = u1 (h_fi M 807) (200 + x) 0 ∧ h_fi Z 811 = u1 (h_fi M 811) (200 + x) (-1) ∧ h_fi Z 812 = u1 (h_fi M 812) (200 + x) 0 ∧ h_fi Z 813 = u1 (h_fi M 813) (200 + x) 0
theorem D_cls {tr : List Int32 → Bool} (hI : cI sw nd rm M) (hF : FC tr sw nd M ia ct zb sb fl []) (hx : sd sw nd x) (hB : FLb fl) : ∃ Z, f19 [.inr (.inr (some (200 + x)))] M = some (none, Z) ∧ FC tr sw nd Z ia ct zb sb (emF fl x) [] ∧ gdSt M Z x := by
  obtain ⟨Z, z1, z2, z3⟩ := FC_down hI hF hx hB
  have k0 := gd_kp hF.1.2.2 (hI.po0 hx)
  refine ⟨Z, z1, z2, ((kp.rf hF.1.2.2 : kp [203, 300, 301, 302, 805, 806, 807, 808, 811, 812, 813, 907] [] M M).tr k0 rfl rfl).tr z3 rfl rfl, ?_, ?_, ?_, ?_, ?_, ?_⟩
  · rw [z3.fi (by decide)]; unfold gdM; rw [fi_ne (by decide), fi_ne (by decide), fi_ne (by decide), fi_ne (by decide), fi_ne (by decide), fi_eq]
  · rw [z3.fi (by decide)]; unfold gdM; rw [fi_ne (by decide), fi_ne (by decide), fi_ne (by decide), fi_ne (by decide), fi_eq, fi_ne (by decide)]
  · rw [z3.fi (by decide)]; unfold gdM; rw [fi_ne (by decide), fi_ne (by decide), fi_ne (by decide), fi_eq, fi_ne (by decide), fi_ne (by decide)]
  · rw [z3.fi (by decide)]; unfold gdM; rw [fi_ne (by decide), fi_ne (by decide), fi_eq, fi_ne (by decide), fi_ne (by decide), fi_ne (by decide)]
  · rw [z3.fi (by decide)]; unfold gdM; rw [fi_ne (by decide), fi_eq, fi_ne (by decide), fi_ne (by decide), fi_ne (by decide), fi_ne (by decide)]
  · rw [z3.fi (by decide)]; unfold gdM; rw [fi_eq, fi_ne (by decide), fi_ne (by decide), fi_ne (by decide), fi_ne (by decide), fi_ne (by decide)]
/-- a side emptied: where the reference differs -/
def emSt (S T : sT) (x : Nat) : Prop := ks [8, 9, 15, 17, 19, 20, 21, 23, 24, 25] S T ∧ T.1 20 = u1 (S.1 20) x 0 ∧ T.1 21 = u1 (S.1 21) x 0 ∧ T.1 23 = u1 (S.1 23) x (-1) ∧ T.1 24 = u1 (S.1 24) x (-1000) ∧ T.1 25 = u1 (S.1 25) x 0
theorem em_st (l : ks [8, 9, 15] S U) : emSt S (emS U x) x := by
  refine ⟨?_, ?_, ?_, ?_, ?_, ?_⟩
  · unfold emS
    exact ((((((((ks.rf : ks [8, 9, 15, 17, 19, 20, 21, 23, 24, 25] S S).tr l rfl).tr k_su rfl).tr k_su rfl).tr k_su rfl).tr k_su rfl).tr k_su rfl).tr k_su rfl).tr k_su rfl
  · unfold emS; rw [su_ne (by decide), su_ne (by decide), su_ne (by decide), su_ne (by decide), su_eq, su_ne (by decide), su_ne (by decide), l.i (j := 20) (by decide)]
  · unfold emS; rw [su_ne (by decide), su_ne (by decide), su_ne (by decide), su_eq, su_ne (by decide), su_ne (by decide), su_ne (by decide), l.i (j := 21) (by decide)]
  · unfold emS; rw [su_ne (by decide), su_ne (by decide), su_eq, su_ne (by decide), su_ne (by decide), su_ne (by decide), su_ne (by decide), l.i (j := 23) (by decide)]
  · unfold emS; rw [su_ne (by decide), su_eq, su_ne (by decide), su_ne (by decide), su_ne (by decide), su_ne (by decide), su_ne (by decide), l.i (j := 24) (by decide)]
  · unfold emS; rw [su_eq, su_ne (by decide), su_ne (by decide), su_ne (by decide), su_ne (by decide), su_ne (by decide), su_ne (by decide), l.i (j := 25) (by decide)]
/-- both ends -/
def dSt (S T : sT) (x y i : Nat) : Prop := ks [8, 9, 12, 15, 17, 19, 20, 21, 23, 24, 25, 36] S T ∧ T.1 12 = u1 (S.1 12) i 0 ∧ T.1 20 = u1 (u1 (S.1 20) x 0) y 0 ∧ T.1 21 = u1 (u1 (S.1 21) x 0) y 0 ∧ T.1 23 = u1 (u1 (S.1 23) x (-1)) y (-1) ∧ T.1 24 = u1 (u1 (S.1 24) x (-1000)) y (-1000) ∧ T.1 25 = u1 (u1 (S.1 25) x 0) y 0 ∧ T.1 36 = if 40 ≤ y then u1 (S.1 36) (y - 40) (-1000) else S.1 36
theorem u2v {u : Int32} {f g : Nat → Int32} (hg : g = u1 (u1 f x u) y u) (z : Nat) : g z = if z = x ∨ z = y then u else f z := by
  rw [hg]
  by_cases q : z = y
  · subst q; rw [u1_eq, if_pos (Or.inr rfl)]
  · rw [u1_ne q]
    by_cases q2 : z = x
    · subst q2; rw [u1_eq, if_pos (Or.inl rfl)]
    · rw [u1_ne q2, if_neg (fun z => z.elim q2 q)]
theorem D_new (h : TW sw nd rm M S ia w pe wo t zb sb fl kR ka tog) (hN : NR nd M S t nc ca hh lv jj G) (qz : QZ pe nd S) (hi : i < w) (e1 : pe x = some y) (wx : wo x = i) (wy : wo y = i) (huq : ∀ z z', pe z = some z' → wo z = i → z = x ∨ z = y) (x40 : x < 40) (g1 : gdSt M N x) (g2 : gdSt N Z y) (hct : ∀ k, 0 < k → k < 9 → ct k = S.1 4 k) (hC : FC (tru sw nd) sw nd Z ia ct zb sb (emF (emF fl x) y) []) (hR : FR T (emF (emF fl x) y) []) (hS : dSt S T x y i) : TW sw nd rm Z T ia w pe wo t zb sb (emF (emF fl x) y) kR ka tog ∧ NR nd Z T t nc ca hh lv jj G ∧ QZ pe nd T := by
  have hI := h.I
  have hW := h.W
  obtain ⟨sx, sy, e1'⟩ := hW.sds e1
  have x8 := hI.x8 sx
  have y8 := hI.x8 sy
  have n1 : ¬ (1 : Int32) = 0 := by decide
  have hw16 := hW.1.2.2
  obtain ⟨k1, a805, a806, a807, a811, a812, a813⟩ := g1
  obtain ⟨k2, b805, b806, b807, b811, b812, b813⟩ := g2
  have k : kp [203, 300, 301, 302, 805, 806, 807, 808, 811, 812, 813, 907] [] M Z := k1.tr k2 rfl rfl
  have c805 := cu2 (x := x) (y := y) (show h_fi Z 805 = u1 (u1 (h_fi M 805) (200 + x) 0) (200 + y) 0 by rw [b805, a805])
  have c806 := cu2 (x := x) (y := y) (show h_fi Z 806 = u1 (u1 (h_fi M 806) (200 + x) 0) (200 + y) 0 by rw [b806, a806])
  have c807 := cu2 (x := x) (y := y) (show h_fi Z 807 = u1 (u1 (h_fi M 807) (200 + x) 0) (200 + y) 0 by rw [b807, a807])
  have c811 := cu2 (x := x) (y := y) (show h_fi Z 811 = u1 (u1 (h_fi M 811) (200 + x) (-1)) (200 + y) (-1) by rw [b811, a811])
  have c812 := cu2 (x := x) (y := y) (show h_fi Z 812 = u1 (u1 (h_fi M 812) (200 + x) 0) (200 + y) 0 by rw [b812, a812])
  have c813 := cu2 (x := x) (y := y) (show h_fi Z 813 = u1 (u1 (h_fi M 813) (200 + x) 0) (200 + y) 0 by rw [b813, a813])
  obtain ⟨l, t12, t20, t21, t23, t24, t25, t36⟩ := hS
  have r20 := u2v t20
  have r21 := u2v t21
  have r23 := u2v t23
  have r24 := u2v t24
  have r25 := u2v t25
  have us : ∀ z, z < 48 → upS T z = if z = x ∨ z = y then 0 else upS S z := fun z hz => by
    have e0 : upS T z = upS (s_u S 12 i 0) z := by
      unfold upS
      rw [l.i (j := 14) (by decide), su_ne (show 14 ≠ 12 by decide), su_eq, t12]
    rw [e0, upS_12 hI hW hz]
    by_cases q : z = x ∨ z = y
    · rw [if_pos q, if_pos]
      · rfl
      · rcases q with q | q
        · subst q; exact ⟨by rw [e1]; exact (fun z => by cases z), wx⟩
        · subst q; exact ⟨by rw [e1']; exact (fun z => by cases z), wy⟩
    · rw [if_neg q, if_neg]
      intro ⟨z1, z2⟩
      cases ez : pe z with
      | none => exact z1 ez
      | some z' => exact q (huq z z' ez z2)
  have flo : ∀ z p, z < 48 → z ≠ x → z ≠ y → (p = z ∨ p = 48 + z ∨ p = 96 + z) → emF (emF fl x) y p = fl p := fun z p z8 q1 q2 q => by
    rw [emF_eq, emF_eq, if_neg (by omega), if_neg (by omega)]
  have fln : ∀ z p, (z = x ∨ z = y) → (p = z ∨ p = 48 + z ∨ p = 96 + z) → emF (emF fl x) y p = [] := fun z p q1 q => by
    rw [emF_eq, emF_eq]
    by_cases c : p = y ∨ p = 48 + y ∨ p = 96 + y
    · rw [if_pos c]
    · rw [if_neg c, if_pos]
      rcases q1 with q1 | q1
      · subst q1; exact q
      · subst q1; exact absurd q c
  obtain ⟨ct', d1, d2, d3, d4, d5, d6, d7⟩ := h.1.pb
  obtain ⟨s1, s2, s3, s4, s5, s8⟩ := h.1.st
  have st : ST sw nd rm Z T ia w pe wo t := by
    refine ⟨s1.keep k (by decide) (by decide), ?_, ?_, ?_, ?_, ?_⟩
    · obtain ⟨b1, b2, b3, b4, b5, b6⟩ := s2
      refine ⟨?_, ?_, ?_, ?_, fun q hq => ?_, fun z hz => ?_⟩
      · rw [k.fi (j := 1105) (by decide), l.i (j := 13) (by decide)]; exact b1
      · rw [l.i (j := 14) (by decide)]; exact b2
      · rw [k.fr (j := 803) (by decide)]; exact b3
      · rw [k.fr (j := 803) (by decide), k.fi (j := 804) (by decide), l.i (j := 14) (by decide), l.i (j := 10) (by decide), l.i (j := 11) (by decide)]; exact b4
      · rw [l.i (j := 11) (by decide), l.i (j := 10) (by decide), k.ar s1.ar4 rfl, k.ar s1.ar6 rfl, t12]
        obtain ⟨c1, c2, c3⟩ := b5 q hq
        refine ⟨c1, ?_, c3⟩
        by_cases qi : q = i
        · subst qi; rw [u1_eq]; exact Or.inl rfl
        · rw [u1_ne qi]; exact c2
      · have z8 := s1.x8 hz
        rw [c805 z, us z z8, b6 z hz]
    · rw [l.i (j := 0) (by decide), l.i (j := 1) (by decide), l.i (j := 2) (by decide)]; exact s3
    · rw [k.fi (j := 903) (by decide), l.i (j := 3) (by decide)]; exact s4
    · rw [k.fi (j := 906) (by decide), l.i (j := 37) (by decide), l.i (j := 38) (by decide)]; exact s5
    · rw [k.fi (j := 1003) (by decide), l.i (j := 26) (by decide)]; exact s8
  have pb : PB sw nd Z T ia zb sb (emF (emF fl x) y) (emF (emF fl x) y) [] [] := ⟨ct, hC, hR, emF_b (emF_b d3), emF_b (emF_b d3), fun _ _ _ => rfl, by rw [l.i (j := 4) (by decide)]; exact hct, d7⟩
  have px : PX sw nd Z T pe := fun z hz => by
    have z8 := hI.x8 hz
    obtain ⟨p1, p2, p3, ⟨p4, p5⟩, p6, p7⟩ := h.1.px z hz
    rw [c811 z, c812 z, r23 z, r25 z, r24 z, us z z8, k.fi (j := 814) (by decide)]
    by_cases q : z = x ∨ z = y
    · rw [if_pos q, if_pos q, if_pos q, if_pos q, if_pos q, if_pos q]
      refine ⟨⟨rfl, rfl⟩, Or.inl rfl, Or.inl rfl, ⟨fun z1 => absurd rfl z1, fun z1 => absurd rfl z1⟩, fun _ _ _ => rfl, fun _ _ z40 => ?_⟩
      have zy : z = y := q.resolve_left (fun q => by omega)
      subst zy
      rw [t36, if_pos z40, u1_eq]
    · have q1 : z ≠ x := fun z => q (Or.inl z)
      have q2 : z ≠ y := fun z => q (Or.inr z)
      rw [if_neg q, if_neg q, if_neg q, if_neg q, if_neg q, if_neg q]
      refine ⟨p1, p2, p3, ⟨p4, fun u z40 => ?_⟩, p6, fun u e z40 => ?_⟩
      · rw [t36]
        by_cases y40 : 40 ≤ y
        · rw [if_pos y40, u1_ne (by omega)]; exact p5 u z40
        · rw [if_neg y40]; exact p5 u z40
      · rw [t36]
        by_cases y40 : 40 ≤ y
        · rw [if_pos y40, u1_ne (by omega)]; exact p7 u e z40
        · rw [if_neg y40]; exact p7 u e z40
  have fe : FEw sw nd rm pe Z T (emF (emF fl x) y) := by
    obtain ⟨f1, f2, f3, f4, f5, f6⟩ := h.2.1
    refine ⟨fun p hp K hK => ?_, by rw [l.i (j := 5) (by decide)]; exact f2, fun z hz hu => ?_, fun z z' ez hu => ?_, trivial, fun z hz => ?_⟩
    · rw [emF_eq] at hK
      split at hK
      · cases hK
      · rw [emF_eq] at hK
        split at hK
        · cases hK
        · exact f1 p hp K hK
    · rw [us z hz] at hu
      rw [c806 z, c807 z, r20 z]
      by_cases q : z = x ∨ z = y
      · rw [if_pos q, if_pos q, if_pos q, fln z z q (Or.inl rfl), fln z (48 + z) q (Or.inr (Or.inl rfl)), fln z (96 + z) q (Or.inr (Or.inr rfl))]
        exact ⟨⟨rfl, rfl, rfl⟩, rfl, fun _ => ⟨rfl, rfl⟩⟩
      · have q1 : z ≠ x := fun z => q (Or.inl z)
        have q2 : z ≠ y := fun z => q (Or.inr z)
        rw [if_neg q] at hu
        rw [if_neg q, if_neg q, if_neg q, flo z z hz q1 q2 (Or.inl rfl), flo z (48 + z) hz q1 q2 (Or.inr (Or.inl rfl)), flo z (96 + z) hz q1 q2 (Or.inr (Or.inr rfl))]
        exact f3 z hz hu
    · obtain ⟨z8, z8'⟩ := h.x48 z z' ez
      rw [us z z8] at hu
      by_cases q : z = x ∨ z = y
      · rw [if_pos q] at hu; exact absurd rfl hu
      · have q1 : z ≠ x := fun z => q (Or.inl z)
        have q2 : z ≠ y := fun z => q (Or.inr z)
        have ez' := (hW.sds ez).2.2
        have q1' : z' ≠ x := fun q => by rw [q, e1] at ez'; exact q2 (Option.some.inj ez').symm
        have q2' : z' ≠ y := fun q => by rw [q, e1'] at ez'; exact q1 (Option.some.inj ez').symm
        rw [if_neg q] at hu
        rw [c806 z, c807 z, r20 z', if_neg q, if_neg q, if_neg (fun z => z.elim q1' q2'), flo z z z8 q1 q2 (Or.inl rfl), flo z' (48 + z') z8' q1' q2' (Or.inr (Or.inl rfl))]
        exact f4 z z' ez hu
    · rw [c813 z, r21 z]
      by_cases q : z = x ∨ z = y
      · rw [if_pos q, if_pos q]
      · rw [if_neg q, if_neg q]; exact f6 z hz
  have hai : ∀ a, h_ai Z a = h_ai M a := fun a => (k.2.2.2.1 a (by intro q; cases q)).1
  refine ⟨⟨⟨st, pb, px, fun s hs => (h.1.rc hs).keep hI hs k (by decide) rfl (fun a _ _ => hai a) l (by decide)⟩, fe, h.2.2⟩, hN.kp hI k (by decide) (by decide) (i20_0 k) l (by decide), ?_⟩
  obtain ⟨⟨z1, z2⟩, z3, z4⟩ := qz
  refine ⟨⟨by rw [l.i (j := 1) (by decide)]; exact z1, z2⟩, fun z hz e => ?_, fun n hn e => ?_⟩
  · have q1 : z ≠ x := fun q => by rw [q, e1] at e; cases e
    have q2 : z ≠ y := fun q => by rw [q, e1'] at e; cases e
    have e0 := ((h.2.1.2.2.1 z hz (upS_no hW hz e)).1).2.1
    refine ⟨?_, ?_⟩
    · rw [(hR.bl hz).1, flo z (48 + z) hz q1 q2 (Or.inr (Or.inl rfl)), e0]; rfl
    · rw [r21 z, if_neg (fun z => z.elim q1 q2)]; exact (z3 z hz e).2
  · rw [l.i (j := 35) (by decide), l.i (j := 39) (by decide), l.i (j := 41) (by decide), l.i (j := 46) (by decide)]; exact z4 n hn e
end CT
