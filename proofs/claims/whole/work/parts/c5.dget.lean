/-! ===== all that a disc gets; nodes forget ===== -/
section DG
variable {sw nd rm : Nat} {M M' N : hM} {S S' T : sT} {ia ib : Nat → Nat → Int32} {w t x y zb sb a f n nc fus dk j lm s k0 : Nat} {pe : Nat → Option Nat} {wo : Nat → Nat} {fl fm : Nat → List (List Int32)} {hc hc' : List (Nat × Int32 × List Int32)} {hs hs' : List (Nat × List Int32)} {L Lr : List Int32} {kR : Nat → rK} {ka : Nat → Nat → Nat} {tog : Nat → Bool} {ca hh : Nat → Nat} {lv : Nat → Bool} {jj : Nat → Nat} {G : Nat → nG} {R : List Nat} {g : Int32} {OL : List oE}
theorem P_dget (h : HB sw nd rm M S ia w pe wo t zb sb fl [(a, g, L)] [(f, L)] kR ka tog) (hN : NR nd M S t nc ca hh lv jj G) (hn : n < nd) (hG : G n = .inr (dk, OL)) (ht : tru sw nd L = true) (h17 : 17 ≤ L.length) (hj : jj n ≤ 100) : ∃ M' S' ib fm OL' j', f82 [.inr (.inr (some dk)), .inr (.inr (some a))] M = some (none, M') ∧ e218 (nI n) (nI f) S = some S' ∧ HB sw nd rm M' S' ib w pe wo t zb sb fm [(a, g, L)] [(f, L)] kR ka tog ∧ NR nd M' S' t nc ca hh lv (u1 jj n j') (u1 G n (.inr (dk, OL'))) ∧ j' ≤ jj n + 1 := by
  have hI := h.I
  have hnd := hI.bs.2.1.2
  have hX : rd M a L := h.rd (u := (a, g, L)) List.mem_cons_self
  have hXs : rdS S f L := h.rdS (u := (f, L)) List.mem_cons_self
  have h2 := (hN.dd hn hG).2.1
  have e57 := f57_eq hX (by omega)
  have e65 := f65_eq hX (by omega)
  have e0 : e165 (nI f) 0 S = some (nI (bn L 0), S) := r165 (i := 0) hXs (by omega)
  have e4 : e166 (nI f) 4 3 S = some (num L 4 3, S) := r166 (i := 4) (n := 3) hXs (by omega)
  have o2 : g_o M 2 (some a) = some a := g_o_t (ci := 2) hX.1.1
  have o1 : g_o M 1 (some dk) = some dk := g_o_t (ci := 1) h2.2.1.1
  have hb := bn_lt L 0
  have same : u1 jj n (jj n) = jj ∧ u1 G n (Sum.inr (dk, OL)) = G := ⟨u1_id, by rw [← hG]; exact u1_id⟩
  have kk : ∀ k, k < 256 → ((nI (bn L 0) = nI k) ↔ (bn L 0 = k)) := fun k hk => by rw [bn_k hk]
  have k7 : (nI (bn L 0) = 7) ↔ (bn L 0 = 7) := kk 7 (by omega)
  have k8 : (nI (bn L 0) = 8) ↔ (bn L 0 = 8) := kk 8 (by omega)
  have k9 : (nI (bn L 0) = 9) ↔ (bn L 0 = 9) := kk 9 (by omega)
  have k10 : (nI (bn L 0) = 10) ↔ (bn L 0 = 10) := kk 10 (by omega)
  have k11 : (nI (bn L 0) = 11) ↔ (bn L 0 = 11) := kk 11 (by omega)
  have k12 : (nI (bn L 0) = 12) ↔ (bn L 0 = 12) := kk 12 (by omega)
  have k13 : (nI (bn L 0) = 13) ↔ (bn L 0 = 13) := kk 13 (by omega)
  have fdef : f82 [.inr (.inr (some dk)), .inr (.inr (some a))] M = x_out (b82_0 dk (some a) M) := rfl
  have edef : e218 (nI n) (nI f) S = s_go kS218 (c218_0 (nI n) (nI f) S) := rfl
  rw [fdef, edef]
  unfold b82_0 c218_0
  rw [bd_s o2, bd_s (c_I_of e57), bd_s e4, bd_s e0]
  have nothing : ∃ M' S' ib fm OL' j', x_out (b82_93 M) = some (none, M') ∧ s_go kS218 (c218_203 S) = some S' ∧ HB sw nd rm M' S' ib w pe wo t zb sb fm [(a, g, L)] [(f, L)] kR ka tog ∧ NR nd M' S' t nc ca hh lv (u1 jj n j') (u1 G n (.inr (dk, OL'))) ∧ j' ≤ jj n + 1 := ⟨M, S, ia, fl, OL, jj n, rfl, rfl, h, by rw [same.1, same.2]; exact hN, by omega⟩
  by_cases c7 : bn L 0 = 7
  · obtain ⟨M1, S1, ib, x1, x2, x3, x4, x5, x6⟩ := P_lgin (v := num L 4 3) h hN hn hG
    have d1 := h2.kp x5 (by decide) (by decide)
    obtain ⟨M2, S2, S3, S4, f1, fm, y1, y2, y3, y4, y5, y6, y7⟩ := P_ans (k := 8) (wd := 0) (rx := 0) (v := 0) x3 hn d1 (x4.2.1 n hn) (by omega) (Or.inl ⟨rfl, by omega⟩) (by omega)
    have y4' := y4 rfl
    subst y4'
    refine ⟨M2, S4, ib, fm, OL, jj n, ?_, ?_, y6, by rw [same.1, same.2]; exact x4.fst x3.I y7, by omega⟩
    · have y1' : f67 [.inr (.inr (some dk)), .inl 8, .inr (.inr (some a)), .inl 0, .inl 0, .inr (.inl 0)] M1 = some (none, M2) := y1
      rw [if_pos (k7.mpr c7), bd_s o2, bd_s (c_I_of e65), bd_s o1, bd_s (c_V_of x1), bd_s (g_o_t (ci := 1) d1.2.1.1), bd_s (c_V_of y1')]
      rfl
    · have y2' : e212 (nI n) (nI f) 8 0 0 S1 = some (nI f1, S3) := y2
      rw [if_pos (k7.mpr c7), bd_s x2, bd_s e176_v, bd_s y2', bd_s y5]
      rfl
  rw [if_neg (fun q => c7 (k7.mp q)), if_neg (fun q => c7 (k7.mp q))]
  by_cases c8 : bn L 0 = 8
  · rw [if_pos (k8.mpr c8), if_pos (k8.mpr c8)]; exact nothing
  rw [if_neg (fun q => c8 (k8.mp q)), if_neg (fun q => c8 (k8.mp q))]
  by_cases c9 : bn L 0 = 9
  · obtain ⟨t1, t2⟩ := tru_9 ht c9
    obtain ⟨M1, S1, ib, fm, OL', j', x1, x2, x3, x4, x5⟩ := P_cmd h hN hn hG t1 t2 hj
    refine ⟨M1, S1, ib, fm, OL', j', ?_, ?_, x3, x4, x5⟩
    · rw [if_pos (k9.mpr c9), bd_s o1, bd_s (c_V_of x1)]; rfl
    · rw [if_pos (k9.mpr c9), bd_s x2]; rfl
  rw [if_neg (fun q => c9 (k9.mp q)), if_neg (fun q => c9 (k9.mp q))]
  by_cases c10 : bn L 0 = 10
  · rw [if_pos (k10.mpr c10), if_pos (k10.mpr c10)]; exact nothing
  rw [if_neg (fun q => c10 (k10.mp q)), if_neg (fun q => c10 (k10.mp q))]
  by_cases c11 : bn L 0 = 11
  · obtain ⟨M1, S1, ib, fm, OL', x1, x2, x3, x4⟩ := P_dat h hN hn hG (tru_11 ht c11)
    refine ⟨M1, S1, ib, fm, OL', jj n, ?_, ?_, x3, by rw [same.1]; exact x4, by omega⟩
    · rw [if_pos (k11.mpr c11), bd_s o1, bd_s (c_V_of x1)]; rfl
    · rw [if_pos (k11.mpr c11), bd_s x2]; rfl
  rw [if_neg (fun q => c11 (k11.mp q)), if_neg (fun q => c11 (k11.mp q))]
  by_cases c12 : bn L 0 = 12
  · rw [if_pos (k12.mpr c12), if_pos (k12.mpr c12)]; exact nothing
  rw [if_neg (fun q => c12 (k12.mp q)), if_neg (fun q => c12 (k12.mp q))]
  by_cases c13 : bn L 0 = 13
  · obtain ⟨M1, S1, ib, fm, OL', x1, x2, x3, x4⟩ := P_abt h hN hn hG (by omega)
    refine ⟨M1, S1, ib, fm, OL', jj n, ?_, ?_, x3, by rw [same.1]; exact x4, by omega⟩
    · rw [if_pos (k13.mpr c13), bd_s o1, bd_s (c_V_of x1)]; rfl
    · rw [if_pos (k13.mpr c13)]; exact x2
  rw [if_neg (fun q => c13 (k13.mp q)), if_neg (fun q => c13 (k13.mp q))]
  exact nothing
/-! forgets -/
theorem k186_2 (hn : n < 8) : ∀ d k T fuel, k + d = 8 → d < fuel → ∃ U, sdrive kS186 fuel 2 [.inl (nI n), .inl (nI k)] T = some U ∧ ks [39, 41, 46] T U ∧ U.2 = T.2 ∧ U.1 41 = u1 (T.1 41) n 0 ∧ U.1 46 = u1 (T.1 46) n 0 ∧ (∀ q, k ≤ q → q < 8 → U.1 39 (8 * n + q) = 0) ∧ ∀ x, (x < 8 * n + k ∨ 8 * n + 8 ≤ x) → U.1 39 x = T.1 39 x
  | 0, k, T, fuel, hk, hf => by
    obtain ⟨g, rfl⟩ : ∃ g, fuel = g + 1 := ⟨fuel - 1, by omega⟩
    have k1 : ks [41] T (s_u T 41 n 0) := k_su
    have k2 : ks [46] (s_u T 41 n 0) (s_u (s_u T 41 n 0) 46 n 0) := k_su
    refine ⟨s_u (s_u T 41 n 0) 46 n 0, sd_end ?_, (ks.rf.tr k1 rfl : ks [39, 41, 46] T _).tr k2 rfl, rfl, ?_, ?_, fun q h1 h2 => by omega, fun x _ => ?_⟩
    · show c186_2 (nI n) (nI k) T = _
      unfold c186_2
      rw [if_pos (show (8 : Int32) ≤ nI k from nI_le (a := 8) (by omega) (by omega)), bd_s (gs41 hn), bd_s (gs46 hn)]
    · rw [su_ne (by decide), su_eq]
    · rw [su_eq, su_ne (by decide)]
    · rw [su_ne (by decide), su_ne (by decide)]
  | d + 1, k, T, fuel, hk, hf => by
    obtain ⟨g, rfl⟩ : ∃ g, fuel = g + 1 := ⟨fuel - 1, by omega⟩
    have a2 : s_s T 39 (((8 : Int32) * nI n) + nI k) 0 = some (s_u T 39 (8 * n + k) 0) := by rw [ixl8, nI_add]; exact gs39 (by omega)
    have hb : kS186 2 [.inl (nI n), .inl (nI k)] T = some (.inr (2, [.inl (nI n), .inl (nI (k + 1))], s_u T 39 (8 * n + k) 0)) := by
      show c186_2 (nI n) (nI k) T = _
      unfold c186_2
      rw [if_neg (show ¬ (8 : Int32) ≤ nI k from nI_ge (b := 8) (by omega) (by omega)), bd_s a2, nI_1]
    obtain ⟨U, r1, r2, r3, r4, r5, r6, r7⟩ := k186_2 hn d (k + 1) (s_u T 39 (8 * n + k) 0) g (by omega) (by omega)
    refine ⟨U, by rw [sd_go hb]; exact r1, (ks.rf.tr (k_su : ks [39] T _) rfl : ks [39, 41, 46] T _).tr r2 rfl, r3, by rw [r4, su_ne (by decide)], by rw [r5, su_ne (by decide)], fun q h1 h2 => ?_, fun x hx => ?_⟩
    · by_cases z : q = k
      · subst z; rw [r7 _ (by omega), s_u_at]
      · exact r6 q (by omega) h2
    · rw [r7 x (by omega), s_u_o (by omega)]
theorem k21_2 (hI : cI sw nd rm M) (hn : n < nd) : ∀ d k N fuel, k + d = nd → d < fuel → (∀ a, a ≠ 160 + n → h_ai N a = h_ai M a) → (h_fi N = h_fi M ∧ h_fl N = h_fl M ∧ h_fr N = h_fr M ∧ h_al N = h_al M ∧ h_ar N = h_ar M ∧ h_tg N = h_tg M ∧ h_ln N = h_ln M) → kp [] [20] M N → (∀ q, q < k → h_ai N (160 + n) q = 0) → ∃ N', drive k21 fuel 2 [.inr (.inr (some (150 + n))), .inl (nI k)] N = some (none, N') ∧ (∀ a, a ≠ 160 + n → h_ai N' a = h_ai M a) ∧ (h_fi N' = h_fi M ∧ h_fl N' = h_fl M ∧ h_fr N' = h_fr M ∧ h_al N' = h_al M ∧ h_ar N' = h_ar M ∧ h_tg N' = h_tg M ∧ h_ln N' = h_ln M) ∧ kp [] [20] M N' ∧ ∀ q, q < nd → h_ai N' (160 + n) q = 0
  | 0, k, N, fuel, hk, hf, h1, h2, h3, h4 => by
    obtain ⟨g, rfl⟩ : ∃ g, fuel = g + 1 := ⟨fuel - 1, by omega⟩
    have hnd := hI.bs.2.1.2
    have g3 : g_r N 4 3 (some (150 + n)) = some (some (160 + n)) := (g_r_t (ci := 4) (by rw [h2.2.2.2.2.2.1]; exact hI.ho0 hn)).trans (congrArg some (by show h_fr N 403 _ = _; rw [h2.2.2.1]; exact hI.ho3 hn))
    have gl : a_ln N 20 (some (160 + n)) = some (nI nd) := by rw [a_ln_t (by rw [h2.2.2.2.2.2.1]; exact hI.ho5 hn), h2.2.2.2.2.2.2, hI.ho6 hn]
    refine ⟨N, dr_end ?_, h1, h2, h3, fun q hq => h4 q (by omega)⟩
    show b21_2 (150 + n) (nI k) N = _
    unfold b21_2
    rw [bd_s g3, bd_s gl, if_pos (show nI nd ≤ nI k from nI_le (by omega) (by omega))]
  | d + 1, k, N, fuel, hk, hf, h1, h2, h3, h4 => by
    obtain ⟨g, rfl⟩ : ∃ g, fuel = g + 1 := ⟨fuel - 1, by omega⟩
    have hnd := hI.bs.2.1.2
    have t20 : h_tg N (160 + n) = 20 := by rw [h2.2.2.2.2.2.1]; exact hI.ho5 hn
    have g3 : g_r N 4 3 (some (150 + n)) = some (some (160 + n)) := (g_r_t (ci := 4) (by rw [h2.2.2.2.2.2.1]; exact hI.ho0 hn)).trans (congrArg some (by show h_fr N 403 _ = _; rw [h2.2.2.1]; exact hI.ho3 hn))
    have gl : a_ln N 20 (some (160 + n)) = some (nI nd) := by rw [a_ln_t t20, h2.2.2.2.2.2.2, hI.ho6 hn]
    have ga : as_i N 20 (some (160 + n)) (nI k) 0 = some (h_qi N (160 + n) k 0) := as_i_t t20 (by rw [h2.2.2.2.2.2.2, hI.ho6 hn]; omega) (by omega)
    have hb : k21 2 [.inr (.inr (some (150 + n))), .inl (nI k)] N = some (.inr (2, [.inr (.inr (some (150 + n))), .inl (nI (k + 1))], h_qi N (160 + n) k 0)) := by
      show b21_2 (150 + n) (nI k) N = _
      unfold b21_2
      rw [bd_s g3, bd_s gl, if_neg (show ¬ nI nd ≤ nI k from nI_ge (by omega) (by omega)), bd_s g3, bd_s ga, nI_1]
    obtain ⟨N', r1, r2⟩ := k21_2 hI hn d (k + 1) (h_qi N (160 + n) k 0) g (by omega) (by omega) (fun a q => by rw [show h_ai (h_qi N (160 + n) k 0) a = h_ai N a from funext fun _ => u2_nk q]; exact h1 a q) h2 (h3.tr (k_hqi h3.1 t20 (by decide)) rfl rfl) (fun q hq => by
      by_cases z : q = k
      · subst z; exact qi_eq
      · rw [qi_ne z]; exact h4 q (by omega))
    exact ⟨N', by rw [dr_go hb]; exact r1, r2⟩
/-- only logins of a disc's own number -/
theorem NR.l39 (h : NR nd M S t nc ca hh lv jj G) (hn : n < nd) (hG : G n = .inr (dk, OL)) (h8 : nd ≤ 8) (g1 : ∀ k i, (k ≠ 39 ∨ i < 8 * n ∨ 8 * n + 8 ≤ i) → T.1 k i = S.1 k i) (g2 : T.2 = S.2) : NR nd M T t nc ca hh lv jj G := by
  obtain ⟨⟨⟨b1, b2, b3⟩, b4, b5, b6⟩, b7, b8, b9⟩ := h
  refine ⟨⟨⟨b1, by rw [g1 47 0 (Or.inl (by decide))]; exact b2, b3⟩, fun c' hc' => ?_, b5, fun c' k' y1 y2 y3 => by rw [g2]; exact b6 c' k' y1 y2 y3⟩, fun n hn => ?_, fun n' hn' => ?_, b9⟩
  · obtain ⟨a1, a4⟩ := b4 c' hc'
    exact ⟨a1, a4.cg (fun _ _ => rfl) rfl rfl ⟨rfl, rfl, rfl⟩ rfl (fun k y1 y2 => g1 k c' (Or.inl (by omega))) (fun k hk => by rw [g2])⟩
  · rw [g1 35 n (Or.inl (by decide))]; exact b7 n hn
  · have q := b8 n' hn'
    cases hG' : G n' with
    | inl R =>
      have hne : n' ≠ n := fun z => by rw [z, hG] at hG'; cases hG'
      rw [hG'] at q
      obtain ⟨q1, q2, q3, ⟨q4, q5, q6, q7, q8, q9⟩, q10⟩ := q
      refine ⟨?_, ?_, fun d hd => ?_, ⟨q4, q5, q6, q7, q8, fun c' y1 y2 y3 => ?_⟩, ?_⟩
      · rw [g1 33 n' (Or.inl (by decide))]; exact q1
      · rw [g1 34 n' (Or.inl (by decide))]; exact q2
      · rw [g1 39 _ (Or.inr (by omega))]; exact q3 d hd
      · rw [g1 59 c' (Or.inl (by decide))] at y3; exact q9 c' y1 y2 y3
      · rw [g1 41 n' (Or.inl (by decide)), g1 46 n' (Or.inl (by decide)), g1 43 n' (Or.inl (by decide)), g2]; exact q10
    | inr w =>
      rw [hG'] at q
      obtain ⟨q1, q2, q3⟩ := q
      exact ⟨q1.cg (fun a _ => ⟨rfl, rfl⟩) (fun x _ => rfl) ⟨rfl, rfl⟩ (fun x a hx _ _ => rfl) rfl rfl rfl (fun i hi => rfl) ⟨g1 33 n' (Or.inl (by decide)), g1 41 n' (Or.inl (by decide)), g1 43 n' (Or.inl (by decide)), g1 46 n' (Or.inl (by decide))⟩ (fun i _ => by rw [g2]) (fun i _ => g1 40 _ (Or.inl (by decide))) (fun i _ => g1 44 _ (Or.inl (by decide))) (fun i _ => by rw [g2]), q2, q3⟩
/-- forgetLogins / forgets -/
theorem P_forg (h : HB sw nd rm M S ia w pe wo t zb sb fl hc hs kR ka tog) (hN : NR nd M S t nc ca hh lv jj G) (hn : n < nd) : ∃ M' S' ib G', f22 [.inr (.inr (some (140 + n)))] M = some (none, M') ∧ e186 (nI n) S = some S' ∧ HB sw nd rm M' S' ib w pe wo t zb sb fl hc hs kR ka tog ∧ NR nd M' S' t nc ca hh lv jj G' ∧ (∀ m, m ≠ n → G' m = G m) ∧ (∀ R, G n = .inl R → G' n = G n) ∧ (∀ q, G n = .inr q → G' n = .inr (q.1, [])) := by
  have hI := h.I
  have hnd := hI.bs.2.1.2
  obtain ⟨U, e1, e2, e3, e4, e5, e6, e7⟩ := k186_2 (n := n) (show n < 8 by omega) 8 0 S xF (by omega) (by unfold xF; omega)
  have edef : e186 (nI n) S = some U := e1
  have tno := hI.no0 hn
  cases hG : G n with
  | inl R =>
    have ho := hN.ho hn hG
    have g4 : g_r M 5 4 (some (140 + n)) = some (some (150 + n)) := (g_r_t (ci := 5) tno).trans (congrArg some ho.1.1)
    obtain ⟨N, r1, r2, r3, r4, r5⟩ := k21_2 hI hn nd 0 M xF (by omega) (by unfold xF; omega) (fun _ _ => rfl) ⟨rfl, rfl, rfl, rfl, rfl, rfl, rfl⟩ (kp.rf h.bk) (fun q hq => by omega)
    have e21 : f21 [.inr (.inr (some (150 + n)))] M = some (none, N) := r1
    have g5 : g_r N 5 5 (some (140 + n)) = some none := (g_r_t (ci := 5) (by rw [r3.2.2.2.2.2.1]; exact tno)).trans (congrArg some (by show h_fr N 505 _ = _; rw [r3.2.2.1]; exact ho.1.2.1))
    have uo : ∀ k i, (k ≠ 39 ∨ i < 8 * n ∨ 8 * n + 8 ≤ i) → U.1 k i = S.1 k i := fun k i q => by
      by_cases z1 : k = 39
      · subst z1; exact e7 i (by omega)
      · by_cases z2 : k = 41
        · subst z2
          rw [e4]
          by_cases z : i = n
          · subst z; rw [u1_eq]; exact ho.2.2.2.2.1.symm
          · rw [u1_ne z]
        · by_cases z3 : k = 46
          · subst z3
            rw [e5]
            by_cases z : i = n
            · subst z; rw [u1_eq]; exact ho.2.2.2.2.2.1.symm
            · rw [u1_ne z]
          · rw [(e2 k (by simp; omega)).1]
    refine ⟨N, U, _, G, ?_, edef, h.cw r4 (by decide) (by decide) (fun a q => r2 a (by omega)) e2 (by decide), hN.lg hn hG r3 r2 uo e3 (fun d hd => by rw [r5 d hd, e6 d (by omega) (by omega)]) hnd, fun _ _ => rfl, fun _ _ => hG, fun q hq => by cases hq⟩
    show x_out (b22_0 (140 + n) M) = _
    unfold b22_0
    rw [bd_s g4, if_neg (by simp), bd_s g4, bd_s (g_o_t (ci := 4) (hI.ho0 hn)), bd_s (c_V_of e21)]
    unfold b22_14
    rw [bd_s g5, if_pos rfl]
    rfl
  | inr q =>
    obtain ⟨dk, OL⟩ := q
    obtain ⟨h1, h2, h3, ⟨lm, l1, l2, l3, l4⟩, lr, r1, r2, r3, hol⟩ := hN.dd hn hG
    have g4 : g_r M 5 4 (some (140 + n)) = some none := (g_r_t (ci := 5) tno).trans (congrArg some h1.1)
    have g5 : g_r M 5 5 (some (140 + n)) = some (some dk) := (g_r_t (ci := 5) tno).trans (congrArg some h1.2.1)
    have t2 := h2.2.1.1
    let M1 := h_pi M 104 dk 0
    have k1 := k_hpi (f := 104) (a := dk) (v := 0) h.bk (by rw [t2]; decide)
    have d1 := h2.kp k1 (by decide) (by decide)
    -- the reference in two steps
    let S1 : sT := (fun k i => if k = 39 then U.1 39 i else S.1 k i, S.2)
    have hN1 : NR nd M S1 t nc ca hh lv jj G := hN.l39 hn hG hnd (fun k i q => by
      show (if k = 39 then U.1 39 i else S.1 k i) = _
      by_cases z : k = 39
      · subst z; rw [if_pos rfl]; exact e7 i (by omega)
      · rw [if_neg z]) rfl
    have hN2 : NR nd M1 S1 t nc ca hh lv jj G → True := fun _ => trivial
    have hU : olS U n (OL.filter (fun e => ! (fun _ => true) e.1)) := by
      have : OL.filter (fun e => ! (fun _ : Nat => true) e.1) = [] := by simp
      rw [this]
      refine ⟨⟨by rw [e5, u1_eq]; rfl, by show 0 ≤ 6; omega⟩, fun k hk => by cases hk⟩
    obtain ⟨c1, c2, c3, c4, c5, c6⟩ := cz_s (M := M1) (dk := dk) (fun _ => true) 6
    have kz := cz_kp k1.1 d1 (fun _ => true) 6 (by omega)
    have kk : kp [104, 700] [] M (cz M1 dk (fun _ => true) 6) := ((kp.rf h.bk : kp [104, 700] [] M M).tr k1 rfl rfl).tr kz rfl rfl
    have hfil : OL.filter (fun e => ! (fun _ : Nat => true) e.1) = [] := by simp
    have hd : diR (cz M1 dk (fun _ => true) 6) U t n dk [] (jj n) := by
      have hol1 : olR M1 S t n dk OL lr (jj n) := by
        obtain ⟨p1, p2, p3, p4, p5, p6⟩ := hol
        refine ⟨p1, p2, p3, fun e he => (p4 e he).cg (fun k k1 k2 => ?_) rfl, fun i hi q => ?_, p6⟩
        · show h_fi (h_pi M 104 dk 0) k _ = _
          rw [fi_ne (by omega)]
        · show h_fi (h_pi M 104 dk 0) 700 _ = _
          rw [fi_ne (by decide)]; exact p5 i hi q
      have hr := olR_fil (c := fun _ => true) hol1 hU
      rw [hfil] at hr
      refine ⟨?_, h2.kp kk (by decide) (by decide), fun i hi => ?_, ⟨0, by omega, ?_, ?_, fun i hi => by omega⟩, lr, r1, ?_, ?_, hr⟩
      · rw [c1.2, e2.i (by decide)]; exact h1
      · rw [c2.2.1, e3]; exact h3 i hi
      · rw [c4 104 _ (by decide)]
        show h_fi (h_pi M 104 dk 0) 104 dk = _
        rw [fi_eq, u1_eq]; rfl
      · rw [e4, u1_eq]; rfl
      · rw [c4 106 _ (by decide)]
        show h_fi (h_pi M 104 dk 0) 106 dk = _
        rw [fi_ne (by decide)]; exact r2
      · rw [e2.i (by decide)]; exact r3
    have hw : dW n dk M (cz M1 dk (fun _ => true) 6) S1 U := by
      have w1 : dW n dk M M1 S1 S1 := dW_pi (Or.inl rfl) (by omega)
      have w2 : dW n dk M1 (cz M1 dk (fun _ => true) 6) S1 S1 := dW_cz _ 6 (by omega)
      refine dW_tr (dW_tr w1 w2) ⟨fun _ _ => ⟨rfl, rfl⟩, fun _ _ => ⟨fun _ _ => rfl, rfl, rfl⟩, fun _ _ => ⟨fun _ _ => rfl, fun _ => rfl⟩, fun _ _ => rfl, fun k hk i q => ⟨?_, by rw [e3]⟩⟩
      show U.1 k i = (if k = 39 then U.1 39 i else S.1 k i)
      by_cases z : k = 39
      · subst z; rw [if_pos rfl]
      · rw [if_neg z]
        by_cases z2 : k = 41
        · subst z2
          rw [e4, u1_ne (fun z => q (Or.inr (Or.inl ⟨by omega, z⟩)))]
        · by_cases z3 : k = 46
          · subst z3
            rw [e5, u1_ne (fun z => q (Or.inr (Or.inl ⟨by omega, z⟩)))]
          · rw [(e2 k (by simp; omega)).1]
    have hNT := hN1.di hI hn hG hw hd
    rw [u1_id] at hNT
    refine ⟨cz M1 dk (fun _ => true) 6, U, _, u1 G n (.inr (dk, [])), ?_, edef, h.cw kk (by decide) (by decide) (fun a _ => by rw [c2.1]; rfl) e2 (by decide), hNT, fun m q => u1_ne q, fun _ q => (by cases q), fun q hq => (by cases hq; exact u1_eq)⟩
    have e20 : f20 [.inr (.inr (some dk))] M = some (none, cz M1 dk (fun _ => true) 6) := by
      show x_go k20 (b20_0 dk M) = _
      unfold b20_0
      rw [bd_s (p_i_t (ci := 1) t2)]
      show drive k20 xF 7 [.inr (.inr (some dk)), .inl (nI 0)] (cz M1 dk (fun _ => true) 0) = _
      have lp := czlp (M := M1) (dk := dk) (c := fun _ => true) (kk := k20) (H := 7) (ar := fun i => [.inr (.inr (some dk)), .inl (nI i)]) (fun i hi => by
        have kz := cz_kp k1.1 d1 (fun _ => true) i (by omega)
        have dz := d1.kp kz (by decide) (by decide)
        obtain ⟨y1, y2, y3⟩ := slot_i dz hi
        obtain ⟨w1, -⟩ := cz_st (c := fun _ => true) d1 k1.1 hi true rfl
        show b20_7 dk (nI i) (cz M1 dk (fun _ => true) i) = _
        unfold b20_7
        rw [if_neg (show ¬ (6 : Int32) ≤ nI i from nI_ge (b := 6) (by omega) (by omega)), bd_s y1, bd_s y2, bd_s (w1 rfl), nI_1]) 6 0 xF (by omega) (by unfold xF; omega)
      refine Eq.trans lp ?_
      obtain ⟨g', hg'⟩ : ∃ g, xF - 6 = g + 1 := ⟨xF - 7, by unfold xF; omega⟩
      rw [hg']
      refine dr_end ?_
      show b20_7 dk (nI 6) (cz M1 dk (fun _ => true) 6) = _
      unfold b20_7
      rw [if_pos (by decide)]
    show x_out (b22_0 (140 + n) M) = _
    unfold b22_0
    rw [bd_s g4, if_pos rfl]
    unfold b22_14
    rw [bd_s g5, if_neg (by simp), bd_s g5, bd_s (g_o_t (ci := 1) t2), bd_s (c_V_of e20)]
    rfl
/-- takeAddress / welcomes -/
theorem P_addr {v : Int32} (h : HB sw nd rm M S ia w pe wo t zb sb fl hc hs kR ka tog) (hN : NR nd M S t nc ca hh lv jj G) (hn : n < nd) : ∃ M' S' ib G', f93 [.inr (.inr (some (140 + n))), .inl v] M = some (none, M') ∧ e220 (nI n) v S = some S' ∧ HB sw nd rm M' S' ib w pe wo t zb sb fl hc hs kR ka tog ∧ NR nd M' S' t nc ca hh lv jj G' ∧ (∀ m, m ≠ n → G' m = G m) ∧ (∀ R, G n = .inl R → G' n = G n) ∧ (∀ q, G n = .inr q → ∃ l, G' n = .inr (q.1, l)) := by
  have hI := h.I
  have hnd := hI.bs.2.1.2
  have ad := hN.2.1 n hn
  have g503 : g_i M 5 3 (some (140 + n)) = some (S.1 35 n) := (g_i_t (ci := 5) (hI.no0 hn)).trans (congrArg some ad)
  have s35 : s_a S 35 (nI n) = some (S.1 35 n) := ga35 (by omega)
  have fin : ∀ N T ib G', HB sw nd rm N T ib w pe wo t zb sb fl hc hs kR ka tog → NR nd N T t nc ca hh lv jj G' → ∃ M' S' ib, x_out (b93_19 (140 + n) v N) = some (none, M') ∧ s_out (c220_24 (nI n) v T) = some S' ∧ HB sw nd rm M' S' ib w pe wo t zb sb fl hc hs kR ka tog ∧ NR nd M' S' t nc ca hh lv jj G' := fun N T ib G' q1 q2 => by
    have t6 := q1.I.no0 hn
    refine ⟨h_pi N 503 (140 + n) v, s_u T 35 n v, _, ?_, ?_, q1.cw (k_hpi q1.bk (by rw [t6]; decide)) (by decide) (by decide) (fun _ _ => rfl) (k_su : ks [35] T _) (by decide), q2.ad q1.I q1.bk hn⟩
    · unfold b93_19
      rw [bd_s (p_i_t (ci := 5) t6)]; rfl
    · unfold c220_24
      rw [bd_s (gs35 (by omega))]; rfl
  have fdef : f93 [.inr (.inr (some (140 + n))), .inl v] M = x_out (b93_0 (140 + n) v M) := rfl
  have edef : e220 (nI n) v S = s_out (c220_0 (nI n) v S) := rfl
  rw [fdef, edef]
  unfold b93_0 c220_0
  rw [bd_s g503, bd_s s35]
  by_cases z0 : S.1 35 n = 0
  · rw [if_pos z0, if_pos z0]
    obtain ⟨M', S', ib, y1, y2, y3, y4⟩ := fin M S ia G h hN
    exact ⟨M', S', ib, G, y1, y2, y3, y4, fun _ _ => rfl, fun _ _ => rfl, fun q hq => ⟨q.2, hq⟩⟩
  rw [if_neg z0, if_neg z0, bd_s g503, bd_s s35]
  by_cases z1 : S.1 35 n = v
  · rw [if_pos z1, if_pos z1]
    obtain ⟨M', S', ib, y1, y2, y3, y4⟩ := fin M S ia G h hN
    exact ⟨M', S', ib, G, y1, y2, y3, y4, fun _ _ => rfl, fun _ _ => rfl, fun q hq => ⟨q.2, hq⟩⟩
  rw [if_neg z1, if_neg z1]
  obtain ⟨M1, S1, ib1, G', x1, x2, x3, x4, x5, x6, x7⟩ := P_forg h hN hn
  obtain ⟨M', S', ib, y1, y2, y3, y4⟩ := fin M1 S1 ib1 G' x3 x4
  rw [bd_s (g_o_t (ci := 5) (hI.no0 hn)), bd_s (c_V_of x1), bd_s x2]
  exact ⟨M', S', ib, G', y1, y2, y3, y4, x5, x6, fun q hq => ⟨[], x7 q hq⟩⟩
end DG
