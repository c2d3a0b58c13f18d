/-! ===== wire: the new state ===== -/
section WR
variable {sw nd rm : Nat} {M N M' : hM} {S T U V : sT} {ia : Nat → Nat → Int32} {w t x y z zb sb nc c s p n i a b f j : Nat} {pe : Nat → Option Nat} {wo : Nat → Nat} {fl : Nat → List (List Int32)} {kR : Nat → rK} {ka : Nat → Nat → Nat} {tog : Nat → Bool} {ca hh : Nat → Nat} {lv : Nat → Bool} {jj : Nat → Nat} {G : Nat → nG} {v v1 v2 v3 v4 v5 : Int32}
/-- the reference's state with a new wire: where it differs -/
def wSt (S T : sT) (x y w : Nat) (v : Int32) : Prop := ks [8, 9, 10, 11, 12, 13, 14, 15, 24, 36] S T ∧ T.1 10 = u1 (u1 (S.1 10) (2 * w) (nI x)) (2 * w + 1) (nI y) ∧ T.1 11 = u1 (S.1 11) w v ∧ T.1 12 = u1 (S.1 12) w 1 ∧ T.1 13 0 = nI (w + 1) ∧ T.1 14 = u1 (u1 (S.1 14) x (nI w)) y (nI w) ∧ T.1 24 = u1 (u1 (S.1 24) x (-1000)) y (-1000) ∧ T.1 36 = if 40 ≤ y then u1 (S.1 36) (y - 40) (-1000) else S.1 36
theorem W_ref (h : TW sw nd rm M S ia w pe wo t zb sb fl kR ka tog) (qz : QZ pe nd S) (hw : w < 16) (sx : sd sw nd x) (sy : sd sw nd y) (hxy : x ≠ y) (x40 : x < 40) (ex : pe x = none) (ey : pe y = none) : ∃ T, c233_145 v (nI x) (nI y) S = some (.inl (nI w, T)) ∧ FR T fl [] ∧ wSt S T x y w v := by
  have hI := h.I
  have hW := h.W
  have x8 := hI.x8 sx
  have y8 := hI.x8 sy
  have h13 : S.1 13 0 = nI w := hW.1.2.1
  obtain ⟨ct, d1, d2, d3, d4, d5, d6, d7⟩ := h.1.pb
  have ux := upS_no hW x8 ex
  have uy := upS_no hW y8 ey
  obtain ⟨rx, rx20, -⟩ := h.2.1.2.2.1 x x8 ux
  obtain ⟨ry, ry20, -⟩ := h.2.1.2.2.1 y y8 uy
  have px := h.1.px x sx
  have py := h.1.px y sy
  have p23 : ∀ z, sd sw nd z → pe z = none → S.1 23 z = -1 ∧ S.1 25 z = 0 := fun z sz ez => by
    obtain ⟨-, a2, a3, -⟩ := h.1.px z sz
    refine ⟨a2.resolve_right (fun q => ?_), a3.resolve_right (fun q => ?_)⟩
    · obtain ⟨-, -, y, q, -⟩ := q
      rw [ez] at q; cases q
    · obtain ⟨-, n, d, q, -⟩ := q
      rw [ez] at q; cases q
  have q21 : ∀ z, z < 48 → pe z = none → S.1 21 z = 0 := fun z z8 ez => (qz.2.1 z z8 ez).2
  have i1 : (2 : Int32) * nI w = nI (2 * w) := pk_mul 2 w
  -- the first writes
  have e1 : s_s S 10 (nI (2 * w)) (nI x) = some (s_u S 10 (2 * w) (nI x)) := gs10 (by omega)
  have g13 : ∀ U : sT, U.1 13 = S.1 13 → s_g U 13 = nI w := fun U e => by show U.1 13 0 = _; rw [e]; exact h13
  have l1 : ks [10, 11, 12, 14] S (s_u (s_u (s_u (s_u (s_u (s_u S 10 (2 * w) (nI x)) 10 (2 * w + 1) (nI y)) 11 w v) 12 w 1) 14 x (nI w)) 14 y (nI w)) := ((((((ks.rf : ks [10, 11, 12, 14] S S).tr k_su rfl).tr k_su rfl).tr k_su rfl).tr k_su rfl).tr k_su rfl).tr k_su rfl
  have r10 : (s_u (s_u (s_u (s_u (s_u (s_u S 10 (2 * w) (nI x)) 10 (2 * w + 1) (nI y)) 11 w v) 12 w 1) 14 x (nI w)) 14 y (nI w)).1 10 = u1 (u1 (S.1 10) (2 * w) (nI x)) (2 * w + 1) (nI y) := by
    rw [su_ne (by decide), su_ne (by decide), su_ne (by decide), su_ne (by decide), su_eq, su_eq]
  have r11 : (s_u (s_u (s_u (s_u (s_u (s_u S 10 (2 * w) (nI x)) 10 (2 * w + 1) (nI y)) 11 w v) 12 w 1) 14 x (nI w)) 14 y (nI w)).1 11 = u1 (S.1 11) w v := by
    rw [su_ne (by decide), su_ne (by decide), su_ne (by decide), su_eq, su_ne (by decide), su_ne (by decide)]
  have r12 : (s_u (s_u (s_u (s_u (s_u (s_u S 10 (2 * w) (nI x)) 10 (2 * w + 1) (nI y)) 11 w v) 12 w 1) 14 x (nI w)) 14 y (nI w)).1 12 = u1 (S.1 12) w 1 := by
    rw [su_ne (by decide), su_ne (by decide), su_eq, su_ne (by decide), su_ne (by decide), su_ne (by decide)]
  have r14 : (s_u (s_u (s_u (s_u (s_u (s_u S 10 (2 * w) (nI x)) 10 (2 * w + 1) (nI y)) 11 w v) 12 w 1) 14 x (nI w)) 14 y (nI w)).1 14 = u1 (u1 (S.1 14) x (nI w)) y (nI w) := by
    rw [su_eq, su_eq, su_ne (by decide), su_ne (by decide), su_ne (by decide), su_ne (by decide)]
  have run : c233_145 v (nI x) (nI y) S = Option.bind (e187 (nI x) (s_u (s_u (s_u (s_u (s_u (s_u S 10 (2 * w) (nI x)) 10 (2 * w + 1) (nI y)) 11 w v) 12 w 1) 14 x (nI w)) 14 y (nI w))) fun q_76 => Option.bind (e187 (nI y) q_76) fun q_82 => Option.bind (s_p q_82 13 ((s_g q_82 13) + (1 : Int32))) fun S88 => some (.inl (((s_g S88 13) - (1 : Int32)), S88)) := by
    unfold c233_145
    rw [bd_s ((ga14 x8).trans (congrArg some (hW.2.1 x x8 ex))), if_pos rfl, bd_s ((ga14 y8).trans (congrArg some (hW.2.1 y y8 ey))), if_pos rfl, g13 S rfl, i1, bd_s e1, g13 _ (su_ne (by decide)), i1, nI_1, bd_s (gs10 (by omega)), g13 _ ((su_ne (by decide)).trans (su_ne (by decide))), bd_s (gs11 hw), g13 _ ((su_ne (by decide)).trans ((su_ne (by decide)).trans (su_ne (by decide)))), bd_s (gs12_1 hw), g13 _ ((su_ne (by decide)).trans ((su_ne (by decide)).trans ((su_ne (by decide)).trans (su_ne (by decide))))), bd_s (gs14 x8), g13 _ ((su_ne (by decide)).trans ((su_ne (by decide)).trans ((su_ne (by decide)).trans ((su_ne (by decide)).trans (su_ne (by decide)))))), bd_s (gs14 y8)]
  rw [run]
  generalize s_u (s_u (s_u (s_u (s_u (s_u S 10 (2 * w) (nI x)) 10 (2 * w + 1) (nI y)) 11 w v) 12 w 1) 14 x (nI w)) 14 y (nI w) = T1 at *
  obtain ⟨U, u1', u2', u3', u4', u5'⟩ := E_emp (d2.cg l1 (by decide)) d4 x8 rx (by rw [l1.i (j := 20) (by decide)]; exact rx20) (by rw [l1.i (j := 21) (by decide)]; exact q21 x x8 ex) (by rw [l1.i (j := 23) (by decide)]; exact (p23 x sx ex).1) (by rw [l1.i (j := 25) (by decide)]; exact (p23 x sx ex).2) (fun q => by omega)
  have l2 : ks [8, 9, 10, 11, 12, 14, 15, 24, 36] S U := ((ks.rf : ks [8, 9, 10, 11, 12, 14, 15, 24, 36] S S).tr l1 rfl).tr u3' rfl
  obtain ⟨V, w1', w2', w3', w4', w5'⟩ := E_emp (z := y) u2' d4 y8 ry (by rw [l2.i (j := 20) (by decide)]; exact ry20) (by rw [l2.i (j := 21) (by decide)]; exact q21 y y8 ey) (by rw [l2.i (j := 23) (by decide)]; exact (p23 y sy ey).1) (by rw [l2.i (j := 25) (by decide)]; exact (p23 y sy ey).2) (fun q => by
    rw [l2.i (j := 35) (by decide), l2.i (j := 39) (by decide), l2.i (j := 41) (by decide), l2.i (j := 46) (by decide)]
    exact qz.2.2 (y - 40) (by omega) (by rw [show 40 + (y - 40) = y by omega]; exact ey))
  have l3 : ks [8, 9, 10, 11, 12, 14, 15, 24, 36] S V := l2.tr w3' rfl
  have e13 : s_g V 13 = nI w := g13 V (l3.i (by decide))
  rw [bd_s u1', bd_s w1', e13, nI_1, bd_s (show s_p V 13 (nI (w + 1)) = some (s_u V 13 0 (nI (w + 1))) from rfl)]
  refine ⟨s_u V 13 0 (nI (w + 1)), ?_, w2'.cg (k_su : ks [13] _ _) (by decide), ((ks.rf : ks [8, 9, 10, 11, 12, 13, 14, 15, 24, 36] S S).tr l3 rfl).tr k_su rfl, ?_, ?_, ?_, ?_, ?_, ?_, ?_⟩
  · show (some (Sum.inl ((s_u V 13 0 (nI (w + 1))).1 13 0 - 1, s_u V 13 0 (nI (w + 1)))) : Option (sRes (Int32 × sT))) = _
    rw [su_eq, u1_eq, nI_pred]
  · rw [su_ne (by decide), w3'.i (j := 10) (by decide), u3'.i (j := 10) (by decide)]; exact r10
  · rw [su_ne (by decide), w3'.i (j := 11) (by decide), u3'.i (j := 11) (by decide)]; exact r11
  · rw [su_ne (by decide), w3'.i (j := 12) (by decide), u3'.i (j := 12) (by decide)]; exact r12
  · rw [su_eq, u1_eq]
  · rw [su_ne (by decide), w3'.i (j := 14) (by decide), u3'.i (j := 14) (by decide)]; exact r14
  · rw [su_ne (by decide), w4', u4', l1.i (j := 24) (by decide)]
  · rw [su_ne (by decide), w5', u5', if_neg (show ¬ 40 ≤ x by omega), l1.i (j := 36) (by decide)]
theorem W_new (h : TW sw nd rm M S ia w pe wo t zb sb fl kR ka tog) (hN : NR nd M S t nc ca hh lv jj G) (qz : QZ pe nd S) (hw : w < 16) (sx : sd sw nd x) (sy : sd sw nd y) (hxy : x ≠ y) (x40 : x < 40) (ex : pe x = none) (ey : pe y = none) (hc : 1 ≤ c ∧ c ≤ 9) (hF : FR T fl []) (hS : wSt S T x y w (nI c)) : TW sw nd rm (wA4 rm M x y w (nI c)) T (h_ai (wA4 rm M x y w (nI c))) (w + 1) (u1 (u1 pe x (some y)) y (some x)) (u1 (u1 wo x w) y w) t zb sb fl kR ka tog ∧ NR nd (wA4 rm M x y w (nI c)) T t nc ca hh lv jj G ∧ QZ (u1 (u1 pe x (some y)) y (some x)) nd T := by
  have hI := h.I
  have hW := h.W
  have x8 := hI.x8 sx
  have y8 := hI.x8 sy
  obtain ⟨k, hI'⟩ := wA4_kp (rm := rm) (w := w) (v := nI c) hI h.1.pb.bk sx sy
  obtain ⟨l, t10, t11, t12, t13, t14, t24, t36⟩ := hS
  obtain ⟨ct, d1, d2, d3, d4, d5, d6, d7⟩ := h.1.pb
  obtain ⟨s1, s2, s3, s4, ⟨s5, s6⟩, s8⟩ := h.1.st
  obtain ⟨⟨b0, b0', b0''⟩, b2, b3, b4, b5, b6⟩ := s2
  have ux := upS_no hW x8 ex
  have uy := upS_no hW y8 ey
  have n1 : ¬ (1 : Int32) = 0 := by decide
  -- the new wire's names
  have pex : u1 (u1 pe x (some y)) y (some x) x = some y := by rw [u1_ne hxy, u1_eq]
  have pey : u1 (u1 pe x (some y)) y (some x) y = some x := u1_eq
  have peo : ∀ z, z ≠ x → z ≠ y → u1 (u1 pe x (some y)) y (some x) z = pe z := fun z q1 q2 => by rw [u1_ne q2, u1_ne q1]
  have wox : u1 (u1 wo x w) y w x = w := by rw [u1_ne hxy, u1_eq]
  have woy : u1 (u1 wo x w) y w y = w := u1_eq
  have woo : ∀ z, z ≠ x → z ≠ y → u1 (u1 wo x w) y w z = wo z := fun z q1 q2 => by rw [u1_ne q2, u1_ne q1]
  have old : ∀ z z', pe z = some z' → (z ≠ x ∧ z ≠ y) ∧ z' ≠ x ∧ z' ≠ y := fun z z' e => by
    refine ⟨⟨fun q => ?_, fun q => ?_⟩, fun q => ?_, fun q => ?_⟩
    · rw [q, ex] at e; cases e
    · rw [q, ey] at e; cases e
    · have := (hW.sds e).2.2; rw [q, ex] at this; cases this
    · have := (hW.sds e).2.2; rw [q, ey] at this; cases this
  have c805 := cu2 (x := x) (y := y) (wA4_805 (rm := rm) (M := M) (x := x) (y := y) (w := w) (v := nI c))
  have c806 := cu2 (x := x) (y := y) (wA4_806 (rm := rm) (M := M) (x := x) (y := y) (w := w) (v := nI c))
  have c814 := cu2 (x := x) (y := y) (wA4_814 (rm := rm) (M := M) (x := x) (y := y) (w := w) (v := nI c))
  have c804 := cu2 (x := x) (y := y) (wA4_804 (rm := rm) (M := M) (x := x) (y := y) (w := w) (v := nI c))
  have o14 : ∀ z, z ≠ x → z ≠ y → T.1 14 z = S.1 14 z := fun z q1 q2 => by rw [t14, u1_ne q2, u1_ne q1]
  have us : ∀ z, z < 48 → upS T z = if z = x ∨ z = y then 1 else upS S z := fun z hz => by
    by_cases q : z = x ∨ z = y
    · have e14 : T.1 14 z = nI w := by
        rw [t14]
        by_cases q2 : z = y
        · subst q2; rw [u1_eq]
        · rw [u1_ne q2]
          rcases q with q | q
          · subst q; rw [u1_eq]
          · exact absurd q q2
      unfold upS
      rw [e14, if_neg (nI_m1 (by omega)), nI_clamp (by omega), t12, u1_eq, if_neg n1, if_pos q]
    · have q1 : z ≠ x := fun z => q (Or.inl z)
      have q2 : z ≠ y := fun z => q (Or.inr z)
      rw [if_neg q]
      unfold upS
      rw [o14 z q1 q2]
      cases e : pe z with
      | none => rw [b2 z hz e, if_pos rfl, if_pos rfl]
      | some z' =>
        obtain ⟨-, ⟨-, w2, w3⟩, -⟩ := b4 z z' e
        rw [w3, if_neg (nI_m1 (by omega)), if_neg (nI_m1 (by omega)), nI_clamp (by omega), t12, u1_ne (by omega)]
  have a5 : ∀ q, h_ar (wA4 rm M x y w (nI c)) 5 q = if q = w then some (200 + x) else h_ar M 5 q := fun q => by
    rw [wA4_ar, if_neg (fun z => absurd z.1 (by decide))]
    by_cases e : q = w
    · rw [if_pos ⟨rfl, e⟩, if_pos e]
    · rw [if_neg (fun z => e z.2), if_neg e]
  have a6 : ∀ q, h_ar (wA4 rm M x y w (nI c)) 6 q = if q = w then some (200 + y) else h_ar M 6 q := fun q => by
    rw [wA4_ar]
    by_cases e : q = w
    · rw [if_pos ⟨rfl, e⟩, if_pos e]
    · rw [if_neg (fun z => e z.2), if_neg (fun z => absurd z.1 (by decide)), if_neg e]
  have hai : h_ai (wA4 rm M x y w (nI c)) = h_ai M := wA4_ai
  have h1105 : h_fi (wA4 rm M x y w (nI c)) 1105 1 = nI (w + 1) := wA4_1105
  have e4 : h_ai M 4 = ia 4 := d1.1.1 4 (Or.inl (by omega)) (by omega)
  have q803 := wA4_803 (rm := rm) (M := M) (x := x) (y := y) (w := w) (v := nI c)
  generalize wA4 rm M x y w (nI c) = Z at *
  have p803 : ∀ z, h_fr Z 803 (200 + z) = if z = y then some (200 + x) else if z = x then some (200 + y) else h_fr M 803 (200 + z) := fun z => by
    rw [q803]
    by_cases q : z = y
    · subst q; rw [u1_eq, if_pos rfl]
    · rw [u1_ne (by omega), if_neg q]
      by_cases q2 : z = x
      · subst q2; rw [u1_eq, if_pos rfl]
      · rw [u1_ne (by omega), if_neg q2]
  have wi : WI sw nd Z T (w + 1) (u1 (u1 pe x (some y)) y (some x)) (u1 (u1 wo x w) y w) := by
    refine ⟨⟨h1105, t13, by omega⟩, fun z hz e => ?_, fun z hz e => ?_, fun z z' e => ?_, fun q hq => ?_, fun z hz => ?_⟩
    · have q1 : z ≠ x := fun q => by rw [q, pex] at e; cases e
      have q2 : z ≠ y := fun q => by rw [q, pey] at e; cases e
      rw [peo z q1 q2] at e
      rw [o14 z q1 q2]; exact b2 z hz e
    · have q1 : z ≠ x := fun q => by rw [q, pex] at e; cases e
      have q2 : z ≠ y := fun q => by rw [q, pey] at e; cases e
      rw [peo z q1 q2] at e
      rw [p803 z, if_neg q2, if_neg q1]; exact b3 z hz e
    · by_cases q2 : z = y
      · subst q2
        rw [pey] at e
        cases e
        rw [pex, wox, woy, p803, if_pos rfl, c804, if_pos (Or.inr rfl), t14, u1_eq, t10, t11, u1_eq]
        refine ⟨⟨⟨sy, sx, rfl⟩, Ne.symm hxy, fun _ => x40⟩, ⟨rfl, by omega, rfl⟩, rfl, Or.inr ⟨?_, ?_⟩, u1_eq.symm⟩
        · rw [u1_ne (by omega), u1_eq]
        · rfl
      by_cases q1 : z = x
      · subst q1
        rw [pex] at e
        cases e
        rw [pey, wox, woy, p803, if_neg hxy, if_pos rfl, c804, if_pos (Or.inl rfl), t14, u1_ne hxy, u1_eq, t10, t11, u1_eq]
        refine ⟨⟨⟨sx, sy, rfl⟩, hxy, fun q => by omega⟩, ⟨rfl, by omega, rfl⟩, rfl, Or.inl ⟨?_, ?_⟩, u1_eq.symm⟩
        · rw [u1_ne (by omega), u1_eq]
        · rfl
      rw [peo z q1 q2] at e
      obtain ⟨-, o3, o4⟩ := old z z' e
      obtain ⟨⟨⟨g1, g2, g3⟩, g4, g5⟩, ⟨g6, g7, g8⟩, g9, g10, g11⟩ := b4 z z' e
      rw [peo z' o3 o4, woo z q1 q2, woo z' o3 o4, p803 z, if_neg q2, if_neg q1, c804 z, if_neg (fun q => q.elim q1 q2), o14 z q1 q2, t10, t11, u1_ne (show 2 * wo z ≠ 2 * w + 1 by omega), u1_ne (show 2 * wo z ≠ 2 * w by omega), u1_ne (show 2 * wo z + 1 ≠ 2 * w + 1 by omega), u1_ne (show 2 * wo z + 1 ≠ 2 * w by omega), u1_ne (show wo z ≠ w by omega)]
      exact ⟨⟨⟨g1, g2, g3⟩, g4, g5⟩, ⟨g6, by omega, g8⟩, g9, g10, g11⟩
    · by_cases e : q = w
      · subst e
        rw [t11, t12, u1_eq, u1_eq]
        refine ⟨⟨c, hc.1, hc.2, rfl⟩, Or.inr rfl, x, y, pex, wox, x40, ?_, ?_, by rw [a5, if_pos rfl], by rw [a6, if_pos rfl]⟩
        · rw [t10, u1_ne (by omega), u1_eq]
        · rw [t10, u1_eq]
      · obtain ⟨g1, g2, x', y', g3, g4, g5, g6, g7, g8, g9⟩ := b5 q (by omega)
        obtain ⟨⟨o1, o2⟩, -⟩ := old x' y' g3
        rw [t11, t12, u1_ne e, u1_ne e]
        refine ⟨g1, g2, x', y', by rw [peo x' o1 o2]; exact g3, by rw [woo x' o1 o2]; exact g4, g5, ?_, ?_, by rw [a5, if_neg e]; exact g8, by rw [a6, if_neg e]; exact g9⟩
        · rw [t10, u1_ne (by omega), u1_ne (by omega)]; exact g6
        · rw [t10, u1_ne (by omega), u1_ne (by omega)]; exact g7
    · have z8 := hI.x8 hz
      rw [c805 z, us z z8, b6 z hz]
  have st : ST sw nd rm Z T (h_ai Z) (w + 1) (u1 (u1 pe x (some y)) y (some x)) (u1 (u1 wo x w) y w) t := by
    refine ⟨hI', wi, ?_, ?_, ⟨?_, ?_⟩, ?_⟩
    · rw [l.i (j := 0) (by decide), l.i (j := 1) (by decide), l.i (j := 2) (by decide)]; exact s3
    · rw [k.fi (j := 903) (by decide), l.i (j := 3) (by decide)]; exact s4
    · rw [l.i (j := 37) (by decide), hai, e4]; exact s5
    · rw [k.fi (j := 906) (by decide), l.i (j := 38) (by decide)]; exact s6
    · rw [k.fi (j := 1003) (by decide), l.i (j := 26) (by decide)]; exact s8
  have pb : PB sw nd Z T (h_ai Z) zb sb fl fl [] [] := by
    refine ⟨ct, d1.cw k (by decide) (by decide) (by decide) (by rw [hai]), hF, d3, d4, d5, ?_, d7⟩
    rw [l.i (j := 4) (by decide)]; exact d6
  have px : PX sw nd Z T (u1 (u1 pe x (some y)) y (some x)) := fun z hz => by
    have z8 := hI.x8 hz
    obtain ⟨p1, p2, p3, ⟨p4, p5⟩, p6, p7⟩ := h.1.px z hz
    rw [k.fi (j := 811) (by decide), k.fi (j := 812) (by decide), l.i (j := 23) (by decide), l.i (j := 25) (by decide), c814 z, us z z8]
    by_cases q : z = x ∨ z = y
    · have ez : pe z = none := by rcases q with q | q <;> rw [q] <;> assumption
      have p2' : S.1 23 z = -1 := p2.resolve_right (fun ⟨_, _, y, q, _⟩ => by rw [ez] at q; cases q)
      have p3' : S.1 25 z = 0 := p3.resolve_right (fun ⟨_, n, d, q, _⟩ => by rw [ez] at q; cases q)
      rw [if_pos q, if_pos q]
      refine ⟨p1, Or.inl p2', Or.inl p3', ⟨fun _ z40 => ?_, fun _ z40 => ?_⟩, fun z1 => absurd z1 n1, fun z1 => absurd z1 n1⟩
      · rw [t24]
        by_cases q2 : z = y
        · subst q2; rw [u1_eq]
        · rw [u1_ne q2]
          rcases q with q | q
          · subst q; rw [u1_eq]
          · exact absurd q q2
      · have zy : z = y := q.resolve_left (fun q => by omega)
        subst zy
        rw [t36, if_pos z40, u1_eq]
    · have q1 : z ≠ x := fun z => q (Or.inl z)
      have q2 : z ≠ y := fun z => q (Or.inr z)
      rw [if_neg q, if_neg q, peo z q1 q2, t24, u1_ne q2, u1_ne q1]
      refine ⟨p1, p2, p3, ⟨p4, fun u z40 => ?_⟩, p6, fun u e z40 => ?_⟩
      · rw [t36]
        by_cases y40 : 40 ≤ y
        · rw [if_pos y40, u1_ne (by omega)]; exact p5 u z40
        · rw [if_neg y40]; exact p5 u z40
      · rw [t36]
        by_cases y40 : 40 ≤ y
        · rw [if_pos y40, u1_ne (by omega)]; exact p7 u e z40
        · rw [if_neg y40]; exact p7 u e z40
  have fe : FEw sw nd rm (u1 (u1 pe x (some y)) y (some x)) Z T fl := by
    obtain ⟨f1, f2, f3, f4, f5, f6⟩ := h.2.1
    refine ⟨f1, by rw [l.i (j := 5) (by decide)]; exact f2, fun z hz hu => ?_, fun z z' ez hu => ?_, trivial, fun z hz => ?_⟩
    · rw [us z hz] at hu
      by_cases q : z = x ∨ z = y
      · rw [if_pos q] at hu; exact absurd hu n1
      · rw [if_neg q] at hu
        rw [c806 z, if_neg q, l.i (j := 20) (by decide), k.fi (j := 807) (by decide)]
        exact f3 z hz hu
    · have new : ∀ a b, sd sw nd a → a < 48 → b < 48 → upS S a = 0 → upS S b = 0 → (a = x ∨ a = y) → ∃ c' l', h_fi Z 806 (200 + a) = nI c' ∧ h_fi Z 807 (200 + a) = nI l' ∧ T.1 20 b = nI l' ∧ c' + (fl a).length + (fl (48 + b)).length + l' = rm := fun a b sa a8 b8 ua ub q => by
        obtain ⟨⟨r1, r2, r3⟩, r4, r5⟩ := f3 a a8 ua
        obtain ⟨⟨r1', r2', r3'⟩, r4', r5'⟩ := f3 b b8 ub
        rw [c806 a, if_pos q, k.fi (j := 807) (by decide), l.i (j := 20) (by decide)]
        exact ⟨rm, 0, rfl, (r5 sa).2, r4', by rw [r1, r2']; rfl⟩
      by_cases q2 : z = y
      · subst q2
        rw [pey] at ez
        cases ez
        exact new _ _ sy y8 x8 uy ux (Or.inr rfl)
      by_cases q1 : z = x
      · subst q1
        rw [pex] at ez
        cases ez
        exact new _ _ sx x8 y8 ux uy (Or.inl rfl)
      rw [peo z q1 q2] at ez
      have z8 := hI.x8 (hW.sds ez).1
      rw [us z z8, if_neg (fun q => q.elim q1 q2)] at hu
      rw [c806 z, if_neg (fun q => q.elim q1 q2), k.fi (j := 807) (by decide), l.i (j := 20) (by decide)]
      exact f4 z z' ez hu
    · rw [k.fi (j := 813) (by decide), l.i (j := 21) (by decide)]; exact f6 z hz
  have own : OWN sw (u1 (u1 pe x (some y)) y (some x)) kR := fun s L hs hL q hq => by
    obtain ⟨y', e1, e2⟩ := h.2.2 s L hs hL q hq
    obtain ⟨⟨o1, o2⟩, -⟩ := old _ _ e1
    exact ⟨y', by rw [peo _ o1 o2]; exact e1, e2⟩
  have i2 : i20 M Z := fun a _ q => ⟨k.t0 q, by rw [hai]⟩
  refine ⟨⟨⟨st, pb, px, fun s hs => (h.1.rc hs).keep hI hs k (by decide) (by decide) (fun a _ _ => by rw [hai]) l (by decide)⟩, fe, own⟩, hN.kp hI k (by decide) (by decide) i2 l (by decide), ?_⟩
  have qT := qz.ks l (by decide)
  have nn : ∀ z, u1 (u1 pe x (some y)) y (some x) z = none → pe z = none := fun z e => by
    have q1 : z ≠ x := fun q => by rw [q, pex] at e; cases e
    have q2 : z ≠ y := fun q => by rw [q, pey] at e; cases e
    rw [peo z q1 q2] at e; exact e
  exact ⟨qT.1, fun z hz e => qT.2.1 z hz (nn z e), fun n hn e => qT.2.2 n hn (nn _ e)⟩
theorem C_wire (h : AX sw nd rm t zb sb M S) : ∃ r M' S', f15 [.inr (.inr (some 1)), .inl v1, .inl v2, .inl v3, .inl v4, .inl v5] M = some (some (.inl r), M') ∧ e233 v1 v2 v3 v4 v5 S = some (r, S') ∧ CR sw nd rm t zb sb M' S' := by
  have h0 := h
  obtain ⟨ia, w, pe, wo, fl, kR, ka, tog, nc, ca, hh, lv, jj, G, ⟨hT, ha, hN, hin⟩, qz⟩ := h
  have hI := hT.I
  have hW := hT.W
  have h5 := hI.bs.1.2
  have h8 := hI.bs.2.1.2
  obtain ⟨w1, w2, w3⟩ := hW.1
  have s0 : s_g S 0 = nI sw := hT.1.st.2.2.1.1
  have s1 : s_g S 1 = nI nd := hT.1.st.2.2.1.2.1
  have s13 : s_g S 13 = nI w := w2
  have n1 : ¬ (1 : Int32) = 0 := by decide
  have nn : ∀ a : Nat, ¬ (some a = none) := fun a q => (by cases q)
  have no : ∀ {X : Option xRes} {Y : Option (sRes (Int32 × sT))}, x_out X = some (some (.inl (-1)), M) → s_out Y = some (-1, S) → ∃ r M' S', x_out X = some (some (.inl r), M') ∧ s_out Y = some (r, S') ∧ CR sw nd rm t zb sb M' S' := fun a b => ⟨-1, M, S, a, b, h0.cr⟩
  have fd : f15 [.inr (.inr (some 1)), .inl v1, .inl v2, .inl v3, .inl v4, .inl v5] M = x_out (b15_0 1 v1 v2 v3 v4 v5 M) := rfl
  have ed : e233 v1 v2 v3 v4 v5 S = s_out (c233_0 v1 v2 v3 v4 v5 S) := rfl
  rw [fd, ed]
  have g5 : g_i M 11 5 (some 1) = some (nI w) := (g_i_t (ci := 11) hI.fab0).trans (congrArg some w1)
  -- the class, where it refuses
  have cNo : (16 ≤ w ∨ (v1 < 0 ∨ nI sw ≤ v1) ∨ v1 = v3 ∨ v5 < 1 ∨ ¬ v5 ≤ 9 ∨ sdV sw nd v1 v2 = none ∨ sdV sw nd v3 v4 = none ∨ (∃ x, sdV sw nd v1 v2 = some x ∧ pe x ≠ none) ∨ ∃ x, sdV sw nd v3 v4 = some x ∧ pe x ≠ none) → x_out (b15_0 1 v1 v2 v3 v4 v5 M) = some (some (.inl (-1)), M) := fun bad => by
    unfold b15_0
    rw [bd_s g5]
    by_cases q : 16 ≤ w
    · rw [if_pos (show (16 : Int32) ≤ nI w from nI_le (a := 16) q (by omega))]; rfl
    rw [if_neg (show ¬ (16 : Int32) ≤ nI w from nI_ge (b := 16) (by omega) (by omega)), bd_s (o11 hI)]
    have bad := bad.resolve_left q
    rcases px2 v1 (n := sw) (by omega) with z | ⟨s, hs, e⟩
    · rw [bd_s (c_I_of (f12_no hI z)), if_pos rfl]; rfl
    have bad := bad.resolve_left (fun q => by
      rw [e] at q
      rcases q with q | q
      · exact absurd q (nI_pos (by omega))
      · exact absurd q (nI_ge hs (by omega)))
    have y12 : f12 [.inr (.inr (some 1)), .inl v1] M = some (some (.inl 1), M) := by rw [e]; exact f12_yes hI hs
    rw [bd_s (c_I_of y12), if_neg n1]
    by_cases q : v1 = v3
    · rw [if_pos q]; rfl
    have bad := bad.resolve_left q
    rw [if_neg q]
    by_cases q : v5 < 1
    · rw [if_pos q]; rfl
    have bad := bad.resolve_left q
    rw [if_neg q]
    by_cases q : v5 ≤ 9
    · have bad := bad.resolve_left (fun z => z q)
      rw [if_pos q, bd_s (o11 hI), bd_s (c_R_of (f13_eq hI)), bd_s (o11 hI), bd_s (c_R_of (f13_eq hI))]
      cases e1 : sdV sw nd v1 v2 with
      | none =>
        rw [if_pos (show Option.map (fun x => 200 + x) (none : Option Nat) = none from rfl)]; rfl
      | some x =>
        have sx := sdV_sd h5 h8 e1
        rw [if_neg (show ¬ Option.map (fun x => 200 + x) (some x) = none from nn _)]
        cases e2 : sdV sw nd v3 v4 with
        | none => rw [if_pos (show Option.map (fun x => 200 + x) (none : Option Nat) = none from rfl)]; rfl
        | some y =>
          have sy := sdV_sd h5 h8 e2
          rw [if_neg (show ¬ Option.map (fun x => 200 + x) (some y) = none from nn _)]
          have g803 : ∀ z, sd sw nd z → g_r M 8 3 (Option.map (fun x => 200 + x) (some z)) = some (h_fr M 803 (200 + z)) := fun z sz => g_r_t (ci := 8) (hI.po0 sz)
          rw [bd_s (g803 x sx)]
          cases ex : pe x with
          | some x' => rw [hW.pr ex, if_neg (nn _)]; rfl
          | none =>
            rw [hW.pn sx ex, if_pos rfl, bd_s (g803 y sy)]
            cases ey : pe y with
            | some y' => rw [hW.pr ey, if_neg (nn _)]; rfl
            | none =>
              exfalso
              rw [e1, e2] at bad
              rcases bad with q | q | ⟨x', q1, q2⟩ | ⟨x', q1, q2⟩
              · cases q
              · cases q
              · cases q1; exact q2 ex
              · cases q1; exact q2 ey
    · rw [if_neg q]; rfl
  rcases px2 v1 (n := sw) (by omega) with z | ⟨s, hs, rfl⟩
  · refine no (cNo (Or.inr (Or.inl z))) ?_
    unfold c233_0
    rw [s0]
    by_cases q : v1 < 0
    · rw [if_pos q]; rfl
    · rw [if_neg q, if_pos (z.resolve_left q)]; rfl
  have r0 : ∀ X, (if nI s < 0 then c233_44 S else if s_g S 0 ≤ nI s then c233_44 S else X) = X := fun X => by rw [s0, if_neg (nI_pos (by omega)), if_neg (nI_ge hs (by omega))]
  rcases pk_ix v2 (n := 8) (by omega) with z | z | ⟨p, hp, rfl⟩
  · refine no (cNo (Or.inr (Or.inr (Or.inr (Or.inr (Or.inr (Or.inl ?_))))))) ?_
    · unfold sdV
      rw [if_pos (show nI s < 16 from nI_lt (b := 16) (by omega) (by omega)), if_neg (nI_pos (by omega)), if_neg (nI_ge hs (by omega)), if_pos z]
    · unfold c233_0
      rw [r0, if_pos z]; rfl
  · by_cases q : v2 < 0
    · refine no (cNo (Or.inr (Or.inr (Or.inr (Or.inr (Or.inr (Or.inl ?_))))))) ?_
      · unfold sdV
        rw [if_pos (show nI s < 16 from nI_lt (b := 16) (by omega) (by omega)), if_neg (nI_pos (by omega)), if_neg (nI_ge hs (by omega)), if_pos q]
      · unfold c233_0
        rw [r0, if_pos q]; rfl
    · obtain ⟨j, j1, rfl⟩ := nI_of q
      have j2 : 8 ≤ j := (nI_leI (by omega) j1).mp z
      refine no (cNo (Or.inr (Or.inr (Or.inr (Or.inr (Or.inr (Or.inl ?_))))))) ?_
      · unfold sdV
        rw [if_pos (show nI s < 16 from nI_lt (b := 16) (by omega) (by omega)), if_neg (nI_pos (by omega)), if_neg (nI_ge hs (by omega)), if_neg q, if_neg (show ¬ nI j ≤ 7 from nI_ge (a := 7) (by omega) j1)]
      · unfold c233_0
        rw [r0, if_neg q, if_pos (show (7 : Int32) < nI j from nI_lt (a := 7) (by omega) j1)]; rfl
  have r1 : ∀ X, (if nI p < 0 then c233_44 S else if (7 : Int32) < nI p then c233_44 S else X) = X := fun X => by rw [if_neg (nI_pos (by omega)), if_neg (show ¬ (7 : Int32) < nI p from nI_nlt (a := 7) (by omega) (by omega))]
  by_cases q1 : v5 < 1
  · refine no (cNo (Or.inr (Or.inr (Or.inr (Or.inl q1))))) ?_
    unfold c233_0
    rw [r0, r1, if_pos q1]; rfl
  by_cases q2 : v5 ≤ 9
  case neg =>
    refine no (cNo (Or.inr (Or.inr (Or.inr (Or.inr (Or.inl q2)))))) ?_
    unfold c233_0
    rw [r0, r1, if_neg q1, if_pos (Int32.not_le.mp q2)]; rfl
  have r2 : ∀ X, (if v5 < (1 : Int32) then c233_44 S else if (9 : Int32) < v5 then c233_44 S else X) = X := fun X => by rw [if_neg q1, if_neg (Int32.not_lt.mpr q2)]
  by_cases qw : 16 ≤ w
  · refine no (cNo (Or.inl qw)) ?_
    unfold c233_0
    rw [r0, r1, r2, s13, if_pos (show nI w = 16 from by rw [show w = 16 by omega]; rfl)]; rfl
  have r3 : ∀ X, (if s_g S 13 = (16 : Int32) then c233_44 S else X) = X := fun X => by rw [s13, if_neg (show ¬ nI w = 16 from fun q => absurd ((nI_eq (b := 16) (by omega) (by omega)).mp q) (by omega))]
  by_cases q3 : nI s = v3
  · refine no (cNo (Or.inr (Or.inr (Or.inl q3)))) ?_
    unfold c233_0
    rw [r0, r1, r2, r3, ← q3, if_pos (show nI s < 16 from nI_lt (b := 16) (by omega) (by omega))]
    unfold c233_57
    rw [if_pos rfl, s0, if_neg (nI_pos (by omega)), if_neg (nI_ge hs (by omega)), if_pos rfl]; rfl
  cases e2 : sdV sw nd v3 v4 with
  | none =>
    refine no (cNo (Or.inr (Or.inr (Or.inr (Or.inr (Or.inr (Or.inr (Or.inl e2)))))))) ?_
    unfold c233_0
    rw [r0, r1, r2, r3, ref_w_no s0 s1 e2]; rfl
  | some y =>
    have e1 := sdV_s (nd := nd) hs hp h5
    have sx : sd sw nd (8 * s + p) := sd_sp hs hp
    have sy := sdV_sd h5 h8 e2
    have x8 := hI.x8 sx
    have y8 := hI.x8 sy
    have ref : c233_0 (nI s) (nI p) v3 v4 v5 S = c233_145 v5 (nI (8 * s + p)) (nI y) S := by
      unfold c233_0
      rw [r0, r1, r2, r3, ref_w_yes h5 h8 s0 s1 (Ne.symm q3) e2]
    rw [ref]
    cases ex : pe (8 * s + p) with
    | some x' =>
      obtain ⟨-, ⟨-, a1, a2⟩, -⟩ := hW.2.2.2.1 _ x' ex
      refine no (cNo (Or.inr (Or.inr (Or.inr (Or.inr (Or.inr (Or.inr (Or.inr (Or.inl ⟨_, e1, by rw [ex]; exact nn _⟩))))))))) ?_
      unfold c233_145
      rw [bd_s ((ga14 x8).trans (congrArg some a2)), if_neg (nI_m1 (by omega))]; rfl
    | none =>
      cases ey : pe y with
      | some y' =>
        obtain ⟨-, ⟨-, a1, a2⟩, -⟩ := hW.2.2.2.1 _ y' ey
        refine no (cNo (Or.inr (Or.inr (Or.inr (Or.inr (Or.inr (Or.inr (Or.inr (Or.inr ⟨_, e2, by rw [ey]; exact nn _⟩))))))))) ?_
        unfold c233_145
        rw [bd_s ((ga14 x8).trans (congrArg some (hW.2.1 _ x8 ex))), if_pos rfl, bd_s ((ga14 y8).trans (congrArg some a2)), if_neg (nI_m1 (by omega))]; rfl
      | none =>
        have hxy : 8 * s + p ≠ y := fun q => by
          rcases sdV_c (sw := sw) (nd := nd) h5 h8 v3 v4 with z | ⟨s', p', hs', hp', e3, e4⟩ | ⟨n, hn, e3, e4⟩
          · rw [z] at e2; cases e2
          · rw [e3, e4, sdV_s hs' hp' h5] at e2
            cases e2
            have : s = s' := by omega
            exact q3 (by rw [e3, this])
          · rw [e3, e4, sdV_n hn h8] at e2
            cases e2
            omega
        have qn : ¬ v5 < 0 := fun q => q1 (Int32.lt_iff_toInt_lt.mpr (by
          have h := Int32.lt_iff_toInt_lt.mp q
          have e0 : (0 : Int32).toInt = 0 := rfl
          have e1 : (1 : Int32).toInt = 1 := rfl
          omega))
        obtain ⟨c, c9, rfl⟩ := nI_of2 (M := 9) (n := 9) (by decide) qn q2
        have c1 : 1 ≤ c := by
          by_cases z : c = 0
          · subst z; exact absurd (by decide) q1
          · omega
        obtain ⟨T, t1, t2, t3⟩ := W_ref (v := nI c) hT qz (by omega) sx sy hxy (by omega) ex ey
        obtain ⟨n1', n2', n3'⟩ := W_new hT hN qz (by omega) sx sy hxy (by omega) ex ey ⟨c1, c9⟩ t2 t3
        rw [t1]
        refine ⟨nI w, wA4 rm M (8 * s + p) y w (nI c), T, ?_, rfl, t, zb, sb, ⟨_, w + 1, _, _, fl, kR, ka, tog, nc, ca, hh, lv, jj, G, ⟨n1', ha, n2', hin⟩, n3'⟩, by omega, by omega, by omega⟩
        have k1 := wA1_kp (v := nI c) hI hT.1.pb.bk sx sy
        have hI1 := hI.keep k1 (by decide) (by decide)
        have k2 := cu_kp (rm := rm) k1.1 (hI1.po0 sx)
        have hI2 := hI1.keep k2 (by decide) (by decide)
        have k3 := cu_kp (rm := rm) k2.1 (hI2.po0 sy)
        have hI3 := hI2.keep k3 (by decide) (by decide)
        have hI4 : cI sw nd rm (h_qr (cuM rm (cuM rm (wA1 M (8 * s + p) y (nI c)) (8 * s + p)) y) 5 w (some (200 + (8 * s + p)))) := hI3.qr (Or.inl rfl)
        have hI5 : cI sw nd rm (wA3 rm M (8 * s + p) y w (nI c)) := hI4.qr (Or.inr rfl)
        have f1105 : ∀ N : hM, h_fi N 1105 = h_fi M 1105 → cI sw nd rm N → g_i N 11 5 (some 1) = some (nI w) := fun N e hN => (g_i_t (ci := 11) hN.fab0).trans (congrArg some (by show h_fi N 1105 1 = _; rw [e]; exact w1))
        have v3' : h_fi (cuM rm (cuM rm (wA1 M (8 * s + p) y (nI c)) (8 * s + p)) y) 1105 = h_fi M 1105 := by rw [k3.fi (by decide), k2.fi (by decide), k1.fi (by decide)]
        have tx := hI.po0 sx
        have ty := hI.po0 sy
        have m8x : g_r M 8 3 (Option.map (fun x => 200 + x) (some (8 * s + p))) = some (h_fr M 803 (200 + (8 * s + p))) := g_r_t (ci := 8) tx
        have m8y : g_r M 8 3 (Option.map (fun x => 200 + x) (some y)) = some (h_fr M 803 (200 + y)) := g_r_t (ci := 8) ty
        unfold b15_0
        rw [bd_s g5, if_neg (show ¬ (16 : Int32) ≤ nI w from nI_ge (b := 16) (by omega) (by omega)), bd_s (o11 hI), bd_s (c_I_of (f12_yes hI hs)), if_neg n1, if_neg q3, if_neg q1, if_pos q2, bd_s (o11 hI), bd_s (c_R_of (f13_eq hI)), bd_s (o11 hI), bd_s (c_R_of (f13_eq hI)), e1, e2, if_neg (show ¬ Option.map (fun x => 200 + x) (some (8 * s + p)) = none from nn _), if_neg (show ¬ Option.map (fun x => 200 + x) (some y) = none from nn _), bd_s m8x, hW.pn sx ex, if_pos rfl, bd_s m8y, hW.pn sy ey, if_pos rfl]
        have p1 : p_r M 8 3 (Option.map (fun x => 200 + x) (some (8 * s + p))) (Option.map (fun x => 200 + x) (some y)) = some (h_pr M 803 (200 + (8 * s + p)) (some (200 + y))) := p_r_t (ci := 8) tx
        have p2 : p_r (h_pr M 803 (200 + (8 * s + p)) (some (200 + y))) 8 3 (Option.map (fun x => 200 + x) (some y)) (Option.map (fun x => 200 + x) (some (8 * s + p))) = some (h_pr (h_pr M 803 (200 + (8 * s + p)) (some (200 + y))) 803 (200 + y) (some (200 + (8 * s + p)))) := p_r_t (ci := 8) (M := h_pr M 803 (200 + (8 * s + p)) (some (200 + y))) ty
        have p3 : p_i (h_pr (h_pr M 803 (200 + (8 * s + p)) (some (200 + y))) 803 (200 + y) (some (200 + (8 * s + p)))) 8 4 (Option.map (fun x => 200 + x) (some (8 * s + p))) (nI c) = some (h_pi (h_pr (h_pr M 803 (200 + (8 * s + p)) (some (200 + y))) 803 (200 + y) (some (200 + (8 * s + p)))) 804 (200 + (8 * s + p)) (nI c)) := p_i_t (ci := 8) (M := h_pr (h_pr M 803 (200 + (8 * s + p)) (some (200 + y))) 803 (200 + y) (some (200 + (8 * s + p)))) tx
        have p4 : p_i (h_pi (h_pr (h_pr M 803 (200 + (8 * s + p)) (some (200 + y))) 803 (200 + y) (some (200 + (8 * s + p)))) 804 (200 + (8 * s + p)) (nI c)) 8 4 (Option.map (fun x => 200 + x) (some y)) (nI c) = some (wA1 M (8 * s + p) y (nI c)) := p_i_t (ci := 8) (M := h_pi (h_pr (h_pr M 803 (200 + (8 * s + p)) (some (200 + y))) 803 (200 + y) (some (200 + (8 * s + p)))) 804 (200 + (8 * s + p)) (nI c)) ty
        rw [bd_s p1, bd_s p2, bd_s p3, bd_s p4]
        have p5 : g_o (wA1 M (8 * s + p) y (nI c)) 8 (Option.map (fun x => 200 + x) (some (8 * s + p))) = some (200 + (8 * s + p)) := g_o_t (ci := 8) (hI1.po0 sx)
        have p6 : g_o (cuM rm (wA1 M (8 * s + p) y (nI c)) (8 * s + p)) 8 (Option.map (fun x => 200 + x) (some y)) = some (200 + y) := g_o_t (ci := 8) (hI2.po0 sy)
        rw [bd_s p5, bd_s (c_V_of (f14_eq hI1 sx)), bd_s p6, bd_s (c_V_of (f14_eq hI2 sy)), bd_s ((g_r_t (ci := 11) hI3.fab0).trans (congrArg some hI3.fab4)), bd_s (f1105 _ v3' hI3)]
        have p7 : as_r (cuM rm (cuM rm (wA1 M (8 * s + p) y (nI c)) (8 * s + p)) y) 8 (some 5) (nI w) (Option.map (fun x => 200 + x) (some (8 * s + p))) = some (h_qr (cuM rm (cuM rm (wA1 M (8 * s + p) y (nI c)) (8 * s + p)) y) 5 w (some (200 + (8 * s + p)))) := as_r_t (ci := 8) hI3.ar4 (by rw [hI3.ar5]; omega) (by omega) (hI3.po0 sx)
        have p8 : as_r (h_qr (cuM rm (cuM rm (wA1 M (8 * s + p) y (nI c)) (8 * s + p)) y) 5 w (some (200 + (8 * s + p)))) 8 (some 6) (nI w) (Option.map (fun x => 200 + x) (some y)) = some (wA3 rm M (8 * s + p) y w (nI c)) := as_r_t (ci := 8) hI4.ar6 (by rw [hI4.ar7]; omega) (by omega) (hI4.po0 sy)
        rw [bd_s p7, bd_s ((g_r_t (ci := 11) hI4.fab0).trans (congrArg some hI4.fab5)), bd_s (f1105 _ (by rw [z_fi_qr]; exact v3') hI4), bd_s p8, bd_s (f1105 _ (by unfold wA3; rw [z_fi_qr, z_fi_qr]; exact v3') hI5)]
        have p85 : p_i (wA3 rm M (8 * s + p) y w (nI c)) 11 5 (some 1) (nI w + 1) = some (wA4 rm M (8 * s + p) y w (nI c)) := p_i_t (ci := 11) hI5.fab0
        have hI6 := (wA4_kp (rm := rm) (w := w) (v := nI c) hI hT.1.pb.bk sx sy).2
        have p9 : g_i (wA4 rm M (8 * s + p) y w (nI c)) 11 5 (some 1) = some (nI (w + 1)) := (g_i_t (ci := 11) hI6.fab0).trans (congrArg some wA4_1105)
        rw [bd_s p85, bd_s p9, nI_pred]
        generalize wA4 rm M (8 * s + p) y w (nI c) = Z
        rfl
end WR
