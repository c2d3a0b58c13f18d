/-! ===== who is logged in at a disc ===== -/
def lgB (S : sT) (n : Nat) (v : Int32) : Nat → Nat → Bool
  | _, 0 => false
  | k, d + 1 => decide (S.1 40 (8 * n + k) = v) || lgB S n v (k + 1) d
section DL
variable {sw nd rm : Nat} {M M' N : hM} {S S' T : sT} {ia ib : Nat → Nat → Int32} {w t x y zb sb a f n nc fus dk j lm : Nat} {pe : Nat → Option Nat} {wo : Nat → Nat} {fl fm : Nat → List (List Int32)} {hc hc' : List (Nat × Int32 × List Int32)} {hs hs' : List (Nat × List Int32)} {L Lr : List Int32} {kR : Nat → rK} {ka : Nat → Nat → Nat} {tog : Nat → Bool} {ca hh : Nat → Nat} {lv : Nat → Bool} {jj : Nat → Nat} {G : Nat → nG} {R : List Nat} {g v : Int32} {OL : List oE}
theorem f77_eq (hd : dkR M n dk) (hl : lm ≤ 8) (h4 : h_fi M 104 dk = nI lm) (hi : ∀ i, i < lm → h_ai M (dk + 2) i = S.1 40 (8 * n + i)) : f77 [.inr (.inr (some dk)), .inl v] M = some (some (.inl (b2 (lgB S n v 0 lm))), M) := by
  obtain ⟨d1, ⟨d2, d3, d4, d5, d6, d7⟩, ⟨e1, e2, e3, e4, e5, e6⟩, e7⟩ := hd
  have g4 : g_i M 1 4 (some dk) = some (nI lm) := (g_i_t (ci := 1) d2).trans (congrArg some h4)
  have loop : ∀ d k fuel, k + d = lm → d < fuel → drive k77 fuel 2 [.inr (.inr (some dk)), .inl v, .inl (nI k)] M = some (some (.inl (b2 (lgB S n v k d))), M) := by
    intro d
    induction d with
    | zero =>
      intro k fuel hk hf
      obtain ⟨g, rfl⟩ : ∃ g, fuel = g + 1 := ⟨fuel - 1, by omega⟩
      refine dr_end ?_
      show b77_2 dk v (nI k) M = _
      unfold b77_2
      rw [bd_s g4, if_pos (show nI lm ≤ nI k from nI_le (by omega) (by omega))]
      rfl
    | succ d ih =>
      intro k fuel hk hf
      obtain ⟨g, rfl⟩ : ∃ g, fuel = g + 1 := ⟨fuel - 1, by omega⟩
      have ga : al_i M 20 (some (dk + 2)) (nI k) = some (S.1 40 (8 * n + k)) := (al_i_t e3 (by rw [e4]; omega) (by omega)).trans (congrArg some (hi k (by omega)))
      have body : b77_2 dk v (nI k) M = (if S.1 40 (8 * n + k) = v then some (.inl (some (.inl 1), M)) else some (.inr (2, [.inr (.inr (some dk)), .inl v, .inl (nI (k + 1))], M))) := by
        unfold b77_2
        rw [bd_s g4, if_neg (show ¬ nI lm ≤ nI k from nI_ge (by omega) (by omega)), bd_s ((g_r_t (ci := 1) d2).trans (congrArg some d6)), bd_s ga, nI_1]
      by_cases z : S.1 40 (8 * n + k) = v
      · have e : lgB S n v k (d + 1) = true := by show (decide _ || _) = true; rw [decide_eq_true z]; rfl
        rw [e]
        refine dr_end ?_
        show b77_2 dk v (nI k) M = _
        rw [body, if_pos z]; rfl
      · have e : lgB S n v k (d + 1) = lgB S n v (k + 1) d := by show (decide _ || _) = _; rw [decide_eq_false z]; rfl
        rw [e]
        rw [if_neg z] at body
        rw [dr_go (show k77 2 [.inr (.inr (some dk)), .inl v, .inl (nI k)] M = _ from body)]
        exact ih (k + 1) g (by omega) (by omega)
  exact loop lm 0 xF (by omega) (by unfold xF; omega)
theorem e215_eq (hn : n < 8) (hl : lm ≤ 8) (h4 : S.1 41 n = nI lm) : e215 (nI n) v S = some (b2 (lgB S n v 0 lm), S) := by
  have s41 : s_a S 41 (nI n) = some (nI lm) := by rw [ga41 hn, h4]
  have loop : ∀ d k acc fuel, k + d = lm → d < fuel → sdrive kS215 fuel 5 [.inl (nI n), .inl v, .inl (b2 acc), .inl (nI k)] S = some (b2 (acc || lgB S n v k d), S) := by
    intro d
    induction d with
    | zero =>
      intro k acc fuel hk hf
      obtain ⟨g, rfl⟩ : ∃ g, fuel = g + 1 := ⟨fuel - 1, by omega⟩
      refine sd_end ?_
      show c215_5 (nI n) v (b2 acc) (nI k) S = _
      unfold c215_5
      rw [bd_s s41, if_pos (show nI lm ≤ nI k from nI_le (by omega) (by omega))]
      cases acc <;> rfl
    | succ d ih =>
      intro k acc fuel hk hf
      obtain ⟨g, rfl⟩ : ∃ g, fuel = g + 1 := ⟨fuel - 1, by omega⟩
      have ga : s_a S 40 (((8 : Int32) * nI n) + nI k) = some (S.1 40 (8 * n + k)) := by rw [ixl8, nI_add]; exact ga40 (by omega)
      have body : c215_5 (nI n) v (b2 acc) (nI k) S = some (.inr (5, [.inl (nI n), .inl v, .inl (b2 (acc || decide (S.1 40 (8 * n + k) = v))), .inl (nI (k + 1))], S)) := by
        unfold c215_5
        rw [bd_s s41, if_neg (show ¬ nI lm ≤ nI k from nI_ge (by omega) (by omega)), bd_s ga]
        unfold c215_36 c215_41
        rw [nI_1]
        cases acc with
        | true => rw [if_neg (show ¬ b2 true = 0 by decide)]; rfl
        | false =>
          rw [if_pos (show b2 false = 0 from rfl)]
          by_cases z : S.1 40 (8 * n + k) = v
          · rw [if_pos z, decide_eq_true z]; rfl
          · rw [if_neg z, decide_eq_false z]; rfl
      rw [sd_go (show kS215 5 [.inl (nI n), .inl v, .inl (b2 acc), .inl (nI k)] S = _ from body)]
      have := ih (k + 1) (acc || decide (S.1 40 (8 * n + k) = v)) g (by omega) (by omega)
      rw [Bool.or_assoc] at this
      exact this
  have := loop lm 0 false xF (by omega) (by unfold xF; omega)
  rw [Bool.false_or] at this
  exact this
theorem k217_23 (hn : n < 8) : ∀ d i T fus, i + d = 7 → d < fus → ∃ U, sdrive kS217 fus 23 [.inl (nI n), .inl v, .inl (nI i)] T = sdrive kS217 (fus - d) 23 [.inl (nI n), .inl v, .inl (nI 7)] U ∧ dW n dk M M T U ∧ ks [40] T U ∧ (∀ q, i ≤ q → q < 7 → U.1 40 (8 * n + q) = T.1 40 (8 * n + q + 1)) ∧ ∀ x, (x < 8 * n + i ∨ 8 * n + 7 ≤ x) → U.1 40 x = T.1 40 x
  | 0, i, T, fus, hi, hf => by
    have : i = 7 := by omega
    subst this
    exact ⟨T, rfl, dW_rf, ks.rf, fun q h1 h2 => by omega, fun _ _ => rfl⟩
  | d + 1, i, T, fus, hi, hf => by
    obtain ⟨g, rfl⟩ : ∃ g, fus = g + 1 := ⟨fus - 1, by omega⟩
    have a1 : s_a T 40 ((((8 : Int32) * nI n) + nI i) + (1 : Int32)) = some (T.1 40 (8 * n + i + 1)) := by rw [ixl8, nI_add, nI_1]; exact ga40 (by omega)
    have a2 : s_s T 40 (((8 : Int32) * nI n) + nI i) (T.1 40 (8 * n + i + 1)) = some (s_u T 40 (8 * n + i) (T.1 40 (8 * n + i + 1))) := by rw [ixl8, nI_add]; exact gs40 (by omega)
    have hb : kS217 23 [.inl (nI n), .inl v, .inl (nI i)] T = some (.inr (23, [.inl (nI n), .inl v, .inl (nI (i + 1))], s_u T 40 (8 * n + i) (T.1 40 (8 * n + i + 1)))) := by
      show c217_23 (nI n) v (nI i) T = _
      unfold c217_23
      rw [if_neg (show ¬ (7 : Int32) ≤ nI i from nI_ge (b := 7) (by omega) (by omega)), bd_s a1, bd_s a2, nI_1]
    obtain ⟨U, r1, r2, r3, r4, r5⟩ := k217_23 hn d (i + 1) (s_u T 40 (8 * n + i) (T.1 40 (8 * n + i + 1))) g (by omega) (by omega)
    refine ⟨U, ?_, dW_tr (dW_su (Or.inl ⟨rfl, by omega, by omega⟩)) r2, (k_su : ks [40] T _).tr r3 rfl, fun q h1 h2 => ?_, fun x h => ?_⟩
    · rw [sd_go hb, show g + 1 - (d + 1) = g - d by omega]; exact r1
    · by_cases z : q = i
      · subst z; rw [r5 _ (by omega), su_eq, u1_eq]
      · rw [r4 q (by omega) h2, su_eq, u1_ne (by omega)]
    · rw [r5 x (by omega), su_eq, u1_ne (by omega)]
/-- a disc's logins and its other things change together -/
theorem NR_lm (hN : NR nd M S t nc ca hh lv jj G) (hI : cI sw nd rm M) (hn : n < nd) (hG : G n = .inr (dk, OL)) (hw : dW n dk M N S T) (kM : kp [104] [20] M N) (kS : ks [40, 41] S T) (hl : ∃ lm, lm ≤ 8 ∧ h_fi N 104 dk = nI lm ∧ T.1 41 n = nI lm ∧ ∀ i, i < lm → h_ai N (dk + 2) i = T.1 40 (8 * n + i)) : NR nd N T t nc ca hh lv jj G := by
  obtain ⟨h1, h2, h3, -, lr, r1, r2, r3, ⟨o1, o2, o3, o4, o5, o6⟩⟩ := hN.dd hn hG
  have al : ∀ a, h_tg M a = 23 → h_al N a = h_al M a := fun a q => (kM.2.2.2.1 a (by rw [q]; decide)).2.1
  have hd : diR N T t n dk OL (jj n) := by
    refine ⟨?_, h2.kp kM (by decide) (by decide), fun i hi => ?_, hl, lr, r1, ?_, ?_, ?_, ?_, o3, fun e he => ?_, fun i hi q => ?_, o6⟩
    · rw [kM.fr (by decide), kM.fr (by decide), kS.i (by decide)]; exact h1
    · rw [al _ h2.2.2.1.1, (kS 42 (by decide)).2]; exact h3 i hi
    · rw [kM.fi (by decide)]; exact r2
    · rw [kS.i (by decide)]; exact r3
    · rw [kS.i (by decide)]; exact o1
    · rw [kS.i (by decide), (kS 45 (by decide)).2]; exact o2
    · have q := o4 e he
      have hs : e.1 < 6 := by obtain ⟨u, b, m, bits, o, r, a1, -⟩ := q; exact a1
      exact q.cg (fun k k1 k2 => by rw [kM.fi (show [104].contains k = false by rw [Bool.eq_false_iff]; intro z; rw [List.contains_iff_mem] at z; simp at z; omega)]) (al _ (h2.2.2.2 e.1 hs).2.2.2.1)
    · rw [kM.fi (by decide)]; exact o5 i hi q
  have := hN.di hI hn hG hw hd
  rw [u1_id, show u1 G n (Sum.inr (dk, OL)) = G by rw [← hG]; exact u1_id] at this
  exact this
/-- logIn -/
theorem P_lgin (h : HB sw nd rm M S ia w pe wo t zb sb fl hc hs kR ka tog) (hN : NR nd M S t nc ca hh lv jj G) (hn : n < nd) (hG : G n = .inr (dk, OL)) : ∃ M' S' ib, f81 [.inr (.inr (some dk)), .inl v] M = some (none, M') ∧ e217 (nI n) v S = some S' ∧ HB sw nd rm M' S' ib w pe wo t zb sb fl hc hs kR ka tog ∧ NR nd M' S' t nc ca hh lv jj G ∧ kp [104] [20] M M' ∧ ks [40, 41] S S' := by
  have hI := h.I
  have hnd := hI.bs.2.1.2
  obtain ⟨h1, h2, h3, ⟨lm, l1, l2, l3, l4⟩, -⟩ := hN.dd hn hG
  have e77 := f77_eq (v := v) h2 l1 l2 l4
  have e215' := e215_eq (v := v) (show n < 8 by omega) l1 l3
  have h2' := h2
  obtain ⟨d1, ⟨d2, d3, d4, d5, d6, d7⟩, ⟨e1, e2, e3, e4, e5, e6⟩, e7⟩ := h2'
  have fdef : f81 [.inr (.inr (some dk)), .inl v] M = x_out (b81_0 dk v M) := rfl
  have edef : e217 (nI n) v S = s_go kS217 (c217_0 (nI n) v S) := rfl
  rw [fdef, edef]
  unfold b81_0 c217_0
  rw [bd_s (g_o_t (ci := 1) d2), bd_s (c_I_of e77), bd_s e215']
  cases hlg : lgB S n v 0 lm with
  | true =>
    rw [if_neg (show ¬ b2 true = 0 by decide), if_neg (show ¬ b2 true = 0 by decide)]
    exact ⟨M, S, ia, rfl, rfl, h, hN, kp.rf h.bk, ks.rf⟩
  | false =>
    have g4 : ∀ N m, h_tg N dk = 2 → h_fi N 104 dk = nI m → g_i N 1 4 (some dk) = some (nI m) := fun N m q1 q2 => (g_i_t (ci := 1) q1).trans (congrArg some q2)
    have s41 : s_a S 41 (nI n) = some (nI lm) := by rw [ga41 (by omega), l3]
    rw [if_pos (show b2 false = 0 from rfl), if_pos (show b2 false = 0 from rfl), bd_s (g4 M lm d2 l2), bd_s s41]
    -- the last step
    have last : ∀ N T m, m < 8 → h_tg N dk = 2 → h_fr N 103 dk = some (dk + 2) → h_tg N (dk + 2) = 20 → h_ln N (dk + 2) = 8 → h_fi N 104 dk = nI m → T.1 41 n = nI m → kp [104] [20] M N → ks [40, 41] S T → dW n dk M N S T → (∀ a, a < 140 → h_ai N a = h_ai M a) → (∀ i, i < m → h_ai N (dk + 2) i = T.1 40 (8 * n + i)) → ∃ M' S' ib, x_out (b81_43 dk v N) = some (none, M') ∧ s_out (c217_67 (nI n) v T) = some S' ∧ HB sw nd rm M' S' ib w pe wo t zb sb fl hc hs kR ka tog ∧ NR nd M' S' t nc ca hh lv jj G ∧ kp [104] [20] M M' ∧ ks [40, 41] S S' := fun N T m hm t1 t2 t3 t4 q1 q2 kM kS hw ha hi => by
      let N1 := h_qi N (dk + 2) m v
      let N2 := h_pi N1 104 dk (nI (m + 1))
      let T1 := s_u T 40 (8 * n + m) v
      let T2 := s_u T1 41 n (nI (m + 1))
      have k1 := k_hqi (i := m) (v := v) kM.1 t3 (by decide)
      have k2 := k_hpi (f := 104) (a := dk) (v := nI (m + 1)) k1.1 (show h_tg N dk ≠ 0 by rw [t1]; decide)
      have kk : kp [104] [20] M N2 := (kM.tr k1 rfl rfl).tr k2 rfl rfl
      have ll : ks [40, 41] S T2 := (kS.tr (k_su : ks [40] T T1) rfl).tr (k_su : ks [41] T1 T2) rfl
      have ha2 : ∀ a, a < 140 → h_ai N2 a = h_ai M a := fun a q => by
        show h_ai (h_qi N (dk + 2) m v) a = _
        rw [show h_ai (h_qi N (dk + 2) m v) a = h_ai N a from funext fun _ => u2_nk (by omega)]
        exact ha a q
      have hw2 : dW n dk M N2 S T2 := by
        have w1 : dW n dk N N1 T T := dW_qi (by omega)
        have w2 : dW n dk N1 N2 T T := dW_pi (Or.inl rfl) (by omega)
        have w3 : dW n dk N2 N2 T T1 := dW_su (Or.inl ⟨rfl, by omega, by omega⟩)
        have w4 : dW n dk N2 N2 T1 T2 := dW_su (Or.inr (Or.inl ⟨by omega, rfl⟩))
        exact dW_tr (dW_tr (dW_tr (dW_tr hw w1) w2) w3) w4
      refine ⟨N2, T2, _, ?_, ?_, h.cw kk (by decide) (by decide) ha2 ll (by decide), NR_lm hN hI hn hG hw2 kk ll ⟨m + 1, by omega, ?_, ?_, fun i hi' => ?_⟩, kk, ll⟩
      · unfold b81_43
        have r1 : as_i N 20 (some (dk + 2)) (nI m) v = some N1 := as_i_t t3 (by rw [t4]; omega) (by omega)
        have r2 : p_i N1 1 4 (some dk) (nI (m + 1)) = some N2 := p_i_t (ci := 1) (M := N1) t1
        rw [bd_s ((g_r_t (ci := 1) t1).trans (congrArg some t2)), bd_s (g4 N m t1 q1), bd_s r1, bd_s (g4 N1 m t1 q1), nI_1, bd_s r2]
        rfl
      · unfold c217_67
        have r1 : s_a T 41 (nI n) = some (nI m) := by rw [ga41 (by omega), q2]
        have r2 : s_s T 40 (((8 : Int32) * nI n) + nI m) v = some T1 := by rw [ixl8, nI_add]; exact gs40 (by omega)
        have r3 : s_a T1 41 (nI n) = some (nI m) := by rw [ga41 (by omega)]; exact congrArg some (by show (s_u T 40 (8 * n + m) v).1 41 n = _; rw [su_ne (by decide)]; exact q2)
        have r4 : s_s T1 41 (nI n) (nI (m + 1)) = some T2 := gs41 (by omega)
        rw [bd_s r1, bd_s r2, bd_s r3, nI_1, bd_s r4]
        rfl
      · show h_fi (h_pi N1 104 dk (nI (m + 1))) 104 dk = _
        rw [fi_eq, u1_eq]
      · show (s_u T1 41 n (nI (m + 1))).1 41 n = _
        rw [su_eq, u1_eq]
      · show h_ai (h_qi N (dk + 2) m v) (dk + 2) i = (s_u (s_u T 40 (8 * n + m) v) 41 n (nI (m + 1))).1 40 (8 * n + i)
        rw [su_ne (by decide), su_eq]
        by_cases z : i = m
        · subst z; rw [qi_eq, u1_eq]
        · rw [qi_ne z, u1_ne (by omega)]; exact hi i (by omega)
    have sgo : ∀ X : Option (sRes sT), ∀ S', s_out X = some S' → s_go kS217 X = some S' := fun X S' q => by
      cases X with
      | none => cases q
      | some r =>
        cases r with
        | inl s => exact q
        | inr s => cases q
    by_cases z8 : lm = 8
    · subst z8
      rw [if_pos (show nI 8 = 8 from rfl), if_pos (show nI 8 = 8 from rfl)]
      let N0 := h_ca M (dk + 2) (va_cpy (h_ai M (dk + 2)) (h_ai M (dk + 2)) 1 0 7)
      let N1 := h_pi N0 104 dk (nI 7)
      have k1 := k_hca (g := va_cpy (h_ai M (dk + 2)) (h_ai M (dk + 2)) 1 0 7) h.bk e3 (by decide)
      have k2 := k_hpi (f := 104) (a := dk) (v := nI 7) k1.1 (show h_tg M dk ≠ 0 by rw [d2]; decide)
      have kk : kp [104] [20] M N1 := ((kp.rf h.bk : kp [104] [20] M M).tr k1 rfl rfl).tr k2 rfl rfl
      obtain ⟨U, u1', u2', u3', u4', u5'⟩ := k217_23 (v := v) (M := M) (dk := dk) (show n < 8 by omega) 7 0 S xF (by omega) (by unfold xF; omega)
      let T1 := s_u U 41 n (nI 7)
      have ll : ks [40, 41] S T1 := (ks.rf.tr u3' rfl : ks [40, 41] S U).tr (k_su : ks [41] U T1) rfl
      have hai : ∀ a, a ≠ dk + 2 → h_ai N1 a = h_ai M a := fun a q => funext fun _ => if_neg q
      have hw : dW n dk M N1 S T1 := by
        have w1 : dW n dk M N0 S S := dW_ca (by omega)
        have w2 : dW n dk N0 N1 S S := dW_pi (Or.inl rfl) (by omega)
        have w3 : dW n dk N1 N1 S U := ⟨fun _ _ => ⟨rfl, rfl⟩, fun _ _ => ⟨fun _ _ => rfl, rfl, rfl⟩, fun _ _ => ⟨fun _ _ => rfl, fun _ => rfl⟩, fun _ _ => rfl, u2'.2.2.2.2⟩
        have w4 : dW n dk N1 N1 U T1 := dW_su (Or.inr (Or.inl ⟨by omega, rfl⟩))
        exact dW_tr (dW_tr (dW_tr w1 w2) w3) w4
      obtain ⟨M', S', ib, q1, q2, q3, q4, q5, q6⟩ := last N1 T1 7 (by omega) d2 d6 e3 e4 (by show h_fi (h_pi N0 104 dk (nI 7)) 104 dk = _; rw [fi_eq, u1_eq]) (by show (s_u U 41 n (nI 7)).1 41 n = _; rw [su_eq, u1_eq]) kk ll hw (fun a q => hai a (by omega)) (fun i hi => by
        show h_ai (h_ca M (dk + 2) (va_cpy (h_ai M (dk + 2)) (h_ai M (dk + 2)) 1 0 7)) (dk + 2) i = (s_u U 41 n (nI 7)).1 40 (8 * n + i)
        rw [su_ne (by decide), u4' i (by omega) hi]
        have : h_ai (h_ca M (dk + 2) (va_cpy (h_ai M (dk + 2)) (h_ai M (dk + 2)) 1 0 7)) (dk + 2) i = va_cpy (h_ai M (dk + 2)) (h_ai M (dk + 2)) 1 0 7 i := if_pos rfl
        rw [this, pk_cpy_in (by omega) (by omega), l4 _ (by omega), show 8 * n + (1 + (i - 0)) = 8 * n + i + 1 by omega])
      refine ⟨M', S', ib, ?_, ?_, q3, q4, q5, q6⟩
      · have rc : n_c M (some (dk + 2)) 1 (some (dk + 2)) 0 7 = some N0 := by
          show (if (h_tg M (dk + 2) = 20 ∧ h_tg M (dk + 2) = 20) ∧ (¬ (1 : Int32) < 0 ∧ ¬ (0 : Int32) < 0 ∧ ¬ (7 : Int32) < 0) ∧ (1 : Int32).toNatClampNeg + (7 : Int32).toNatClampNeg ≤ h_ln M (dk + 2) ∧ (0 : Int32).toNatClampNeg + (7 : Int32).toNatClampNeg ≤ h_ln M (dk + 2) then _ else none) = _
          rw [if_pos ⟨⟨e3, e3⟩, ⟨by decide, by decide, by decide⟩, by rw [e4]; decide, by rw [e4]; decide⟩]
          rfl
        have r1 : g_i N0 1 4 (some dk) = some (nI 8) := g4 N0 8 d2 l2
        have r2 : nI 8 - 1 = nI 7 := by decide
        have r3 : p_i N0 1 4 (some dk) (nI 7) = some N1 := p_i_t (ci := 1) (M := N0) d2
        rw [bd_s ((g_r_t (ci := 1) d2).trans (congrArg some d6)), bd_s ((g_r_t (ci := 1) d2).trans (congrArg some d6)), bd_s rc, bd_s r1, r2, bd_s r3]
        exact q1
      · show sdrive kS217 xF 23 [.inl (nI n), .inl v, .inl (nI 0)] S = _
        rw [u1']
        obtain ⟨g', hg'⟩ : ∃ g, xF - 7 = g + 1 := ⟨xF - 8, by unfold xF; omega⟩
        rw [hg']
        have body : kS217 23 [.inl (nI n), .inl v, .inl (nI 7)] U = c217_67 (nI n) v T1 := by
          show c217_23 (nI n) v (nI 7) U = _
          unfold c217_23
          rw [if_pos (by decide), bd_s (show s_s U 41 (nI n) 7 = some T1 from gs41 (by omega))]
        cases hX : c217_67 (nI n) v T1 with
        | none => rw [hX] at q2; cases q2
        | some r =>
          rw [hX] at q2 body
          cases r with
          | inl s =>
            have : s = S' := Option.some.inj q2
            subst this
            exact sd_end body
          | inr s => cases q2
    · have n8 : ¬ nI lm = 8 := fun q => z8 ((nI_eq (b := 8) (by omega) (by omega)).mp q)
      rw [if_neg n8, if_neg n8]
      obtain ⟨M', S', ib, q1, q2, q3, q4, q5, q6⟩ := last M S lm (by omega) d2 d6 e3 e4 l2 l3 (kp.rf h.bk) ks.rf dW_rf (fun _ _ => rfl) l4
      exact ⟨M', S', ib, q1, sgo _ _ q2, q3, q4, q5, q6⟩
end DL
