/-! ===== disc ===== -/
section DC
variable {sw nd rm : Nat} {M M' N : hM} {S T : sT} {ia : Nat → Nat → Int32} {ct : Nat → Int32} {w t x y z zb sb dz ds nc c s p n m i a b f j dk : Nat} {pe : Nat → Option Nat} {wo : Nat → Nat} {fl : Nat → List (List Int32)} {kR : Nat → rK} {ka : Nat → Nat → Nat} {tog : Nat → Bool} {ca hh : Nat → Nat} {lv : Nat → Bool} {jj : Nat → Nat} {G : Nat → nG} {v : Int32} {F A H R : List Nat}
/-- new things are nothing to the frames -/
theorem FC.gr {tr : List Int32 → Bool} {hl : List (Nat × Int32 × List Int32)} (h : FC tr sw nd M ia ct zb sb fl hl) (k : kp F A M M') (hF : [200, 201, 202, 203, 300, 301, 302, 808, 907].all (fun x => ! F.contains x) = true) (hai : h_ai M' = h_ai M) (hz : h_sz M' = h_sz M + dz) (hs : h_sl M' = h_sl M + ds) : FC tr sw nd M' (h_ai M') ct (zb + dz) (sb + ds) fl hl := by
  have qF : ∀ x, x ∈ [200, 201, 202, 203, 300, 301, 302, 808, 907] → F.contains x = false := fun x hx => by have := List.all_eq_true.mp hF x hx; simpa using this
  obtain ⟨⟨h1, h2, h3⟩, cl, c1, c2, c3, c4, c5, c6, c7⟩ := h
  have eC : fcC M' = fcC M := funext fun a => by
    unfold fcC fbl
    rw [hai, k.fi (qF 201 (by decide))]
  refine ⟨⟨fun a _ _ => rfl, by rw [hai]; exact h2, k.1⟩, cl, c1, fun p a ha => ?_, ?_, ?_, by rw [hz]; omega, by rw [hs]; omega, c7⟩
  · obtain ⟨⟨d1, d2, d3, d4⟩, d5, d6⟩ := c2 p a ha
    refine ⟨⟨k.t0 d1, by rw [k.fr (qF 200 (by decide))]; exact d2, k.t0 d3, k.l0 d4 d3⟩, d5, ?_⟩
    rw [k.fi (qF 201 (by decide))]
    exact d6
  · rw [k.fr (qF 203 (by decide)), k.fr (qF 300 (by decide)), k.fr (qF 301 (by decide)), k.fi (qF 302 (by decide)), k.fr (qF 808 (by decide)), k.fr (qF 907 (by decide))]
    exact c3
  · rw [eC, k.fi (qF 202 (by decide))]
    exact c4
def grF : List Nat := stF ++ twF
theorem TW.gr (h : TW sw nd rm M S ia w pe wo t zb sb fl kR ka tog) (k : kp F A M M') (hF : grF.all (fun x => ! F.contains x) = true) (hA : [36, 35, 38, 40, 50].all (fun x => ! A.contains x) = true) (hai : h_ai M' = h_ai M) (hz : h_sz M' = h_sz M + dz) (hs : h_sl M' = h_sl M + ds) (l : ks H S T) (hG : (stS ++ twS).all (fun x => ! H.contains x) = true) : TW sw nd rm M' T (h_ai M') w pe wo t (zb + dz) (sb + ds) fl kR ka tog := by
  obtain ⟨ct, d1, d2, d3, d4, d5, d6, d7⟩ := h.1.pb
  have e4 : h_ai M' 4 = ia 4 := by rw [hai]; exact d1.1.1 4 (Or.inl (by omega)) (by omega)
  have h4 : H.contains 4 = false := by
    have := List.all_eq_true.mp hG 4 (by decide)
    simpa using this
  have h36 : A.contains 36 = false := by
    have := List.all_eq_true.mp hA 36 List.mem_cons_self
    simpa using this
  refine ⟨⟨h.1.st.keep k (all_sub hF (by decide)) (all_sub hA (by decide)) l (all_sub hG (by decide)) e4, ⟨ct, d1.gr k (all_sub hF (by decide)) hai hz hs, d2.cg l (all_sub hG (by decide)), d3, d4, d5, by rw [l.i h4]; exact d6, by omega⟩, h.1.px.keep k (all_sub hF (by decide)) l (all_sub hG (by decide)), fun s hs => (h.1.rc hs).keep h.I hs k (all_sub hF (by decide)) h36 (fun a _ _ => by rw [hai]) l (all_sub hG (by decide))⟩, h.2.1.keep k (all_sub hF (by decide)) l (all_sub hG (by decide)) qx.rf h.x48, h.2.2⟩
theorem NR_newd (hN : NR nd M S t nc ca hh lv jj G) (hI : cI sw nd rm M) (hb : bk M) (h1000 : 1000 ≤ h_sz M) (hn : n < nd) (hG : G n = .inl R) (h34 : S.1 34 n = 0) (k : kp [100, 101, 102, 103, 105, 504, 505, 708] [0, 37] M M') (hfi : h_fi M' = h_fi M) (hal : h_al M' = h_al M) (hai : h_ai M' = h_ai M) (hfr : ∀ k a, a < h_sz M → a ≠ 140 + n → h_fr M' k a = h_fr M k a) (har : ∀ a, a < h_sz M → h_ar M' a = h_ar M a) (h504 : h_fr M' 504 (140 + n) = none) (h505 : h_fr M' 505 (140 + n) = some (h_sz M)) (hd : dkR M' n (h_sz M)) : NR nd M' (s_u S 33 n 1) t nc ca hh lv jj (u1 G n (.inr (h_sz M, []))) := by
  have n8 := hI.bs.2.1.2
  have l : ks [33] S (s_u S 33 n 1) := k_su
  obtain ⟨⟨b1, b4, b5, b6⟩, b7, b8, b9⟩ := hN
  have hoN : hoR nd M S nc ca hh n R := by have := b8 n hn; rw [hG] at this; exact this
  have hno : ∀ c, c < nc → hh c ≠ n := hoN.2.1.2.2 h34
  have cab : ∀ c, c < nc → ca c + 1 < h_sz M := fun c hc => by
    obtain ⟨-, wr, un, bl, m, d, ph, bg, pa, cb, p1, -⟩ := b4 c hc
    exact hb.lt (by rw [p1.2.2.1]; decide)
  have dkb : ∀ m q, m < nd → G m = .inr q → q.1 + 16 ≤ h_sz M := fun m q hm e => by
    have := b8 m hm
    rw [e] at this
    obtain ⟨-, -, -, hw⟩ := this.1.2.1
    have := hb.lt (a := q.1 + 5 + 2 * 5) (by rw [(hw 5 (by omega)).2.2.2.1]; decide)
    omega
  refine ⟨⟨?_, fun c hc => ?_, b5, fun c k' q1 q2 q3 => b6 c k' q1 q2 q3⟩, fun m hm => ?_, fun m hm => ?_, fun m m' q r hm hm' hne e1 e2 => ?_⟩
  · rw [hfi, l.i (j := 47) (by decide)]; exact b1
  · obtain ⟨⟨c1, c2, c3⟩, hc2⟩ := b4 c hc
    have tt := hc2
    obtain ⟨wr, un, bl, m, d, ph, bg, pa, cb, p1, -⟩ := tt
    refine ⟨⟨by rw [k.ar hI.ar8 (by decide)]; exact c1, c2, c3⟩, hc2.cg (fun k' _ => by rw [hfi]) (by rw [k.fl (by decide)]) (by rw [k.fr (by decide)]) ⟨?_, ?_, ?_⟩ (by rw [hal]) (fun k' h1 h2 => by rw [su_ne (by omega)]) (fun _ _ => rfl)⟩
    · rw [p1.1]; exact k.t0 p1.1
    · rw [p1.2.2.1]; exact k.t0 p1.2.2.1
    · rw [p1.2.2.2]; exact k.l0 p1.2.2.2 p1.2.2.1
  · rw [hfi, l.i (j := 35) (by decide)]; exact b7 m hm
  · by_cases mn : m = n
    · subst mn
      rw [u1_eq]
      obtain ⟨-, -, -, -, z1, z2, z3, z4⟩ := hoN
      have zb : ∀ a, h_sz M ≤ a → (∀ k, h_fi M k a = 0) ∧ ∀ i, h_al M a i = 0 := fun a ha => ⟨fun k => ((hb a ha).2.2.1 k).1, fun i => ((hb a ha).2.2.2 i).2.1⟩
      refine ⟨⟨⟨h504, h505, by rw [su_eq, u1_eq]⟩, hd, fun i hi => ?_, ⟨0, by omega, ?_, ?_, fun i hi => by omega⟩, 0, by omega, ?_, ?_, ⟨?_, by show 0 ≤ 6; omega⟩, fun q hq => (by cases hq), List.nodup_nil, fun e he => (by cases he), fun i hi _ => ?_, List.Pairwise.nil⟩, hno, fun c hc => Or.inl (cab c hc)⟩
      · rw [hal, (zb _ (by omega)).2]; exact (z4 i hi).symm
      · rw [hfi, (zb _ (Nat.le_refl _)).1]; rfl
      · rw [l.i (j := 41) (by decide)]; exact z1
      · rw [hfi, (zb _ (Nat.le_refl _)).1]; rfl
      · rw [l.i (j := 43) (by decide)]; exact z3
      · rw [l.i (j := 46) (by decide)]; exact z2
      · rw [hfi, (zb _ (by omega)).1]
    · rw [u1_ne mn]
      have q := b8 m hm
      have f504 : ∀ k', h_fr M' k' (140 + m) = h_fr M k' (140 + m) := fun k' => hfr k' _ (by omega) (by omega)
      have s33 : (s_u S 33 n 1).1 33 m = S.1 33 m := by rw [su_eq, u1_ne mn]
      cases hGm : G m with
      | inl R' =>
        rw [hGm] at q
        obtain ⟨y1, y2, y3, y4, y5⟩ := q
        refine ⟨?_, ?_, ?_, ?_, ?_⟩
        · rw [f504, f504, s33]; exact y1
        · rw [hfi, l.i (j := 34) (by decide)]; exact y2
        · rw [hai, l.i (j := 39) (by decide)]; exact y3
        · rw [hfi, k.ar (hI.ho7 hm) (by decide), l.i (j := 59) (by decide)]; exact y4
        · rw [l.i (j := 41) (by decide), l.i (j := 46) (by decide), l.i (j := 43) (by decide)]; exact y5
      | inr o =>
        have ob := dkb m o hm hGm
        rw [hGm] at q
        obtain ⟨⟨y1, ⟨y2, ⟨t1, t2, t3, t4, t5, t6⟩, ⟨t7, t8, t9, t10, t11, t12⟩, t13⟩, y4, ⟨lm, l1, l2, l3, l4⟩, lr, r1, r2, r3, ⟨o1, o1'⟩, o2, o3, o4, o5, o6⟩, y6, y7⟩ := q
        have fo : ∀ k' a, o.1 ≤ a → a < o.1 + 16 → h_fr M' k' a = h_fr M k' a := fun k' a q1 q2 => hfr k' a (by omega) (by omega)
        refine ⟨⟨by rw [f504, f504, s33]; exact y1, ⟨y2, ⟨k.t0 t1, ?_, ?_, ?_, ?_, ?_⟩, ⟨k.t0 t7, k.l0 t8 t7, k.t0 t9, k.l0 t10 t9, k.t0 t11, k.l0 t12 t11⟩, fun i hi => ?_⟩, fun i hi => ?_, ⟨lm, l1, ?_, ?_, fun i hi => ?_⟩, lr, r1, ?_, ?_, ⟨?_, o1'⟩, fun q hq => ?_, o3, fun e he => ?_, fun i hi q => ?_, o6⟩, y6, y7⟩
        · rw [fo _ _ (by omega) (by omega)]; exact t2
        · rw [fo _ _ (by omega) (by omega)]; exact t3
        · rw [fo _ _ (by omega) (by omega)]; exact t4
        · rw [fo _ _ (by omega) (by omega)]; exact t5
        · rw [fo _ _ (by omega) (by omega)]; exact t6
        · obtain ⟨c1, c2, c3, c4, c5⟩ := t13 i hi
          exact ⟨by rw [har _ (by omega)]; exact c1, k.t0 c2, by rw [fo _ _ (by omega) (by omega)]; exact c3, k.t0 c4, k.l0 c5 c4⟩
        · rw [hal]; exact y4 i hi
        · rw [hfi]; exact l2
        · rw [l.i (j := 41) (by decide)]; exact l3
        · rw [hai, l.i (j := 40) (by decide)]; exact l4 i hi
        · rw [hfi]; exact r2
        · rw [l.i (j := 43) (by decide)]; exact r3
        · rw [l.i (j := 46) (by decide)]; exact o1
        · rw [l.i (j := 44) (by decide)]; exact o2 q hq
        · exact (o4 e he).cg (fun k' _ _ => by rw [hfi]) (by rw [hal])
        · rw [hfi]; exact o5 i hi q
  · by_cases m1 : m = n
    · subst m1
      rw [u1_eq] at e1
      rw [u1_ne (Ne.symm hne)] at e2
      cases e1
      exact Or.inr (dkb m' r hm' e2)
    · rw [u1_ne m1] at e1
      by_cases m2 : m' = n
      · subst m2
        rw [u1_eq] at e2
        cases e2
        exact Or.inl (dkb m q hm e1)
      · rw [u1_ne m2] at e2
        exact b9 m m' q r hm hm' hne e1 e2
theorem C_disc (h : AX sw nd rm t zb sb M S) : ∃ r M' S', f11 [.inr (.inr (some 1)), .inl v] M = some (some (.inl r), M') ∧ e232 v S = some (r, S') ∧ CR sw nd rm t zb sb M' S' := by
  have h0 := h
  obtain ⟨ia, w, pe, wo, fl, kR, ka, tog, nc, ca, hh, lv, jj, G, ⟨hT, ha, hN, hin⟩, qz⟩ := h
  have hI := hT.I
  have hW := hT.W
  have h8 := hI.bs.2.1.2
  have hb := hT.1.pb.bk
  have s1 : s_g S 1 = nI nd := hT.1.st.2.2.1.2.1
  have n1 : ¬ (1 : Int32) = 0 := by decide
  have nn : ∀ a : Nat, ¬ (some a = none) := fun a q => (by cases q)
  have fd : f11 [.inr (.inr (some 1)), .inl v] M = x_out (b11_0 1 v M) := rfl
  have ed : e232 v S = s_out (c232_0 v S) := rfl
  rw [ed]
  have g1 : g_r M 11 0 (some 1) = some (some 2) := (g_r_t (ci := 11) hI.fab0).trans (congrArg some hI.fab1)
  rcases px2 v (n := nd) (by omega) with z | ⟨n, hn, rfl⟩
  · rw [fd]
    unfold b11_0 c232_0
    rw [s1, bd_s g1, bd_s (g_o_t (ci := 9) hI.sh0), bd_s (c_I_of (f8_no hI z)), if_pos rfl]
    by_cases q : v < 0
    · rw [if_pos q]; exact ⟨_, M, S, rfl, rfl, h0.cr⟩
    · rw [if_neg q, if_pos (z.resolve_left q)]; exact ⟨_, M, S, rfl, rfl, h0.cr⟩
  have x8 : 40 + n < 48 := by omega
  have sx : sd sw nd (40 + n) := sd_n hn
  have start : b11_0 1 (nI n) M = Option.bind (g_r M 5 4 (some (140 + n))) fun o_11 => if o_11 = none then (b11_47 M) else (Option.bind (g_r M 5 4 (some (140 + n))) fun o_13 => Option.bind (g_i M 4 2 o_13) fun v_15 => if v_15 = 0 then (Option.bind (g_r M 5 2 (some (140 + n))) fun o_17 => Option.bind (g_r M 8 3 o_17) fun o_19 => if o_19 = none then (Option.bind (p_r M 5 4 (some (140 + n)) none) fun M21 => Option.bind (n_o M21 1 7) fun M23 => Option.bind (g_r M23 11 0 (some 1)) fun o_25 => Option.bind (c_V (f10 [.inr (.inr (some (h_sz M21))), .inr (.inr o_25), .inr (.inr (some (140 + n)))] M23)) fun q_27 => Option.bind (p_r q_27 5 5 (some (140 + n)) (some (h_sz M21))) fun M29 => some (.inl (some (.inl (1 : Int32)), M29))) else (b11_47 M)) else (b11_47 M)) := by
    unfold b11_0
    rw [bd_s g1, bd_s (g_o_t (ci := 9) hI.sh0), bd_s (c_I_of (f8_yes hI hn)), if_neg n1, bd_s (nod_a hI hn).1, bd_s (nod_a hI hn).2]
  have rst : c232_0 (nI n) S = (if S.1 33 n = 0 then (if S.1 14 (40 + n) = -1 then (if S.1 34 n = 0 then (some (.inl (1, s_u S 33 n 1))) else (c232_44 S)) else (c232_44 S)) else (c232_44 S)) := by
    unfold c232_0
    rw [s1, if_neg (nI_pos (by omega)), if_neg (nI_ge hn (by omega)), bd_s (ga33 (by omega)), bd_s e176_v, bd_s (ga14 x8), bd_s (ga34 (by omega)), bd_s (gs33_1 (by omega))]
  rw [rst]
  have t5 := hI.no0 hn
  rcases hN.dsc hn with ⟨R, hG, ⟨r1, r2, r3⟩, ⟨r4, r5, r6⟩, r7⟩ | ⟨dk, OL, hG, ⟨⟨r1, r2, r3⟩, -⟩, -⟩
  · have g504 : g_r M 5 4 (some (140 + n)) = some (some (150 + n)) := (g_r_t (ci := 5) t5).trans (congrArg some r1)
    rw [if_pos r3]
    by_cases c34 : S.1 34 n = 0
    · cases e : pe (40 + n) with
      | some y =>
        obtain ⟨-, ⟨-, a1, a2⟩, a3, -⟩ := hW.2.2.2.1 _ y e
        have := hW.1.2.2
        refine ⟨0, M, S, ?_, ?_, h0.cr⟩
        · rw [fd, start, bd_s g504, if_neg (nn _), bd_s g504, bd_s ((g_i_t (ci := 4) (hI.ho0 hn)).trans (congrArg some (r4.trans c34))), if_pos rfl, bd_s ((g_r_t (ci := 5) t5).trans (congrArg some (hI.no3 hn))), bd_s ((g_r_t (ci := 8) (hI.po0 sx)).trans (congrArg some a3)), if_neg (nn _)]
          rfl
        · rw [a2, if_neg (nI_m1 (by omega))]; rfl
      | none =>
        have c14 := hW.2.1 _ x8 e
        rw [if_pos c14, if_pos c34]
        -- the new disc
        have hz := hT.1.pb.sz
        obtain ⟨a1, ⟨a2, a3, a4, a5, a6⟩, ⟨a7, a8, a9, a10⟩, a11⟩ := pr_eq (k := 504) (a := 140 + n) (v := none) hb (by rw [t5]; decide)
        have p1 : p_r M 5 4 (some (140 + n)) none = some (h_pr M 504 (140 + n) none) := p_r_t (ci := 5) t5
        have k1 : kp [504] [] M (h_pr M 504 (140 + n) none) := k_hpr hb (by rw [t5]; decide)
        generalize eA : h_pr M 504 (140 + n) none = A at *
        obtain ⟨b1, ⟨b2, b3, b4, b5, b6, b7⟩, b8, b9, b10, b11⟩ := no_eq (M := A) (ci := 1) (n := 7) a1
        have p2 : n_o A 1 7 = some (h_no A 1 7) := rfl
        generalize eB : h_no A 1 7 = B at *
        have hIA := hI.keep k1 (by decide) (by decide)
        rw [a9] at b9 b10
        have tB : h_tg B (h_sz M) = 2 := by rw [b9, u1_eq]
        obtain ⟨C, c1, c2, ⟨c3, c4⟩, ⟨c5, c6, c7⟩, c8, c9, c10⟩ := f10_eq (N := B) (dk := h_sz M) (n := n) b1 b10 tB
        have tlow : ∀ a, a < h_sz M → h_tg M a ≠ 0 → h_tg C a = h_tg M a := fun a ha h0' => by
          have kk := kf10 c1 b1
          rw [(kk.2.1 a (by rw [b9, u1_ne (by omega), a8]; exact h0')).1, b9, u1_ne (by omega), a8]
        have tC5 : h_tg C (140 + n) = 6 := by rw [tlow _ (by omega) (by rw [t5]; decide)]; exact t5
        obtain ⟨d1, ⟨d2, d3, d4, d5, d6⟩, ⟨d7, d8, d9, d10⟩, d11⟩ := pr_eq (k := 505) (a := 140 + n) (v := some (h_sz M)) c2 (by rw [tC5]; decide)
        have p3 : p_r C 5 5 (some (140 + n)) (some (h_sz M)) = some (h_pr C 505 (140 + n) (some (h_sz M))) := p_r_t (ci := 5) tC5
        have fin : f11 [.inr (.inr (some 1)), .inl (nI n)] M = some (some (.inl 1), h_pr C 505 (140 + n) (some (h_sz M))) := by
          rw [fd, start, bd_s g504, if_neg (nn _), bd_s g504, bd_s ((g_i_t (ci := 4) (hI.ho0 hn)).trans (congrArg some (r4.trans c34))), if_pos rfl, bd_s ((g_r_t (ci := 5) t5).trans (congrArg some (hI.no3 hn))), bd_s ((g_r_t (ci := 8) (hI.po0 sx)).trans (congrArg some (hW.pn sx e))), if_pos rfl, bd_s p1, bd_s p2, a9]
          have g11 : g_r B 11 0 (some 1) = some (some 2) := (g_r_t (ci := 11) (by rw [b9, u1_ne (by omega), a8]; exact hI.fab0)).trans (congrArg some (by show h_fr B 1100 1 = _; rw [b4, a11]; exact (u2_nk (by decide)).trans hI.fab1))
          rw [bd_s g11, bd_s (c_V_of c1), bd_s p3]
          rfl
        have k := kf11 fin hb
        generalize h_pr C 505 (140 + n) (some (h_sz M)) = D at *
        have hfi : h_fi D = h_fi M := by rw [d2, c5, b2, a2]
        have hal : h_al D = h_al M := by rw [d5, c6, b6, a5]
        have hai : h_ai D = h_ai M := by rw [d4, c7, b5, a4]
        have frC : ∀ k a, a < h_sz M → h_fr C k a = if k = 504 ∧ a = 140 + n then none else h_fr M k a := fun k a ha => by
          rw [(c8 k a ha).1, b4, a11]; rfl
        have hfr : ∀ k a, a < h_sz M → a ≠ 140 + n → h_fr D k a = h_fr M k a := fun k a q1 q2 => by
          rw [d11, u2_ne q2, frC k a q1, if_neg (fun q => q2 q.2)]
        have har : ∀ a, a < h_sz M → h_ar D a = h_ar M a := fun a q1 => by
          rw [d6, (c8 0 a q1).2, b7, a6]
        have h504 : h_fr D 504 (140 + n) = none := by rw [d11, u2_nk (by decide), frC _ _ (by omega), if_pos ⟨rfl, rfl⟩]
        have h505 : h_fr D 505 (140 + n) = some (h_sz M) := by rw [d11]; exact u2_eq
        have fD : ∀ k a, h_sz M ≤ a → h_fr D k a = h_fr C k a := fun k a q1 => by rw [d11, u2_ne (by omega)]
        have hd : dkR D n (h_sz M) := by
          obtain ⟨⟨y1, y2, y3, y4, y5, y6⟩, y7, y8, y9, y10, y11, y12⟩ := c9
          refine ⟨hz, ⟨by rw [d8]; exact y1, ?_, ?_, ?_, ?_, ?_⟩, ⟨by rw [d8]; exact y7, by rw [d7]; exact y8, by rw [d8]; exact y9, by rw [d7]; exact y10, by rw [d8]; exact y11, by rw [d7]; exact y12⟩, fun i hi => ?_⟩
          · rw [fD _ _ (Nat.le_refl _)]; exact y2
          · rw [fD _ _ (Nat.le_refl _)]; exact y3
          · rw [fD _ _ (Nat.le_refl _)]; exact y4
          · rw [fD _ _ (Nat.le_refl _)]; exact y5
          · rw [fD _ _ (Nat.le_refl _)]; exact y6
          · obtain ⟨z1, z2, z3, z4, z5⟩ := c10 i hi
            exact ⟨by rw [d6]; exact z1, by rw [d8]; exact z2, by rw [fD _ _ (by omega)]; exact z3, by rw [d8]; exact z4, by rw [d7]; exact z5⟩
        have l : ks [33] S (s_u S 33 n 1) := k_su
        refine ⟨1, D, s_u S 33 n 1, fin, rfl, t, zb + 16, sb + 131, ⟨h_ai D, w, pe, wo, fl, kR, ka, tog, nc, ca, hh, lv, jj, u1 G n (.inr (h_sz M, [])), ⟨hT.gr k (by decide) (by decide) hai (by rw [d9, c3]) (by rw [d10, c4, b11, a10]) l (by decide), ha, NR_newd hN hI hb hz hn hG c34 k hfi hal hai hfr har h504 h505 hd, fun m hm => ?_⟩, qz.ks l (by decide)⟩, by omega, by omega, by omega⟩
        obtain ⟨i1, i2, i3⟩ := hin m hm
        refine ⟨i1, i2, fun q hq => ?_⟩
        by_cases mn : m = n
        · subst mn
          rw [u1_eq] at hq
          cases hq
          intro e' he
          cases he
        · rw [u1_ne mn] at hq
          exact i3 q hq
    · have c34' : h_fi M 402 (150 + n) ≠ 0 := by rw [r4]; exact c34
      refine ⟨0, M, S, ?_, ?_, h0.cr⟩
      · rw [fd, start, bd_s g504, if_neg (nn _), bd_s g504, bd_s (g_i_t (ci := 4) (hI.ho0 hn)), if_neg (show ¬ h_fi M (100 * 4 + 2) (150 + n) = 0 from c34')]
        rfl
      · by_cases c14 : S.1 14 (40 + n) = -1
        · rw [if_pos c14, if_neg c34]; rfl
        · rw [if_neg c14]; rfl
  · refine ⟨0, M, S, ?_, ?_, h0.cr⟩
    · rw [fd, start, bd_s ((g_r_t (ci := 5) t5).trans (congrArg some r1)), if_pos rfl]
      rfl
    · rw [r3, if_neg n1]; rfl
end DC
