/-! ===== LOGGED, DONE, ABORTED, DATA of a host ===== -/
theorem or4 : ∀ cb, cb < 16 → ∀ p, p < 4 → nI cb ||| ((1 : Int32) <<< (nI p &&& 31)) = nI (cb ||| (1 <<< p)) ∧ (cb ||| (1 <<< p)) < 16 ∧ ∀ q, q < 4 → ((cb ||| (1 <<< p)).testBit q = true ↔ cb.testBit q = true ∨ q = p) := by decide +kernel
section LD
variable {sw nd rm : Nat} {M M' N : hM} {S S' T : sT} {ia ib : Nat → Nat → Int32} {w t x y zb sb a f n c nc fus : Nat} {pe : Nat → Option Nat} {wo : Nat → Nat} {fl fm : Nat → List (List Int32)} {hc hc' : List (Nat × Int32 × List Int32)} {hs hs' : List (Nat × List Int32)} {L : List Int32} {kR : Nat → rK} {ka : Nat → Nat → Nat} {tog : Nat → Bool} {ca hh : Nat → Nat} {lv : Nat → Bool} {jj : Nat → Nat} {G : Nat → nG} {R : List Nat} {g : Int32}
theorem H_rx {v1 v2 v3 v4 rx : Int32} (h : HB sw nd rm M S ia w pe wo t zb sb fl ((a, g, hdL v1 v2 v3 v4 0 0) :: hc) hs kR ka tog) : ∃ M', f35 [.inr (.inr (some a)), .inl 9, .inl 2, .inr (.inl rx.toInt64)] M = some (none, M') ∧ h_tg M' a = 3 ∧ HB sw nd rm M' S ia w pe wo t zb sb fl ((a, g, hdL v1 v2 v3 v4 rx 0) :: hc) hs kR ka tog ∧ fst M M' S S := by
  obtain ⟨M', m1, m2, m3, m4⟩ := H_put (k := 9) (n := 2) (u := rx.toInt64) h (by rw [hd_len]; omega) (by omega)
  exact ⟨M', m1, m2, m3, m4⟩
theorem H_pt {v1 v2 v3 v4 rx p : Int32} (h : HB sw nd rm M S ia w pe wo t zb sb fl ((a, g, hdL v1 v2 v3 v4 rx 0) :: hc) hs kR ka tog) : ∃ M', f35 [.inr (.inr (some a)), .inl 11, .inl 1, .inr (.inl p.toInt64)] M = some (none, M') ∧ h_tg M' a = 3 ∧ HB sw nd rm M' S ia w pe wo t zb sb fl ((a, g, hdL v1 v2 v3 v4 rx p) :: hc) hs kR ka tog ∧ fst M M' S S := by
  obtain ⟨M', m1, m2, m3, m4⟩ := H_put (k := 11) (n := 1) (u := p.toInt64) h (by rw [hd_len]; omega) (by omega)
  exact ⟨M', m1, m2, m3, m4⟩
theorem e209_eq (h : rdS S f L) (h25 : 21 ≤ L.length) : e209 (nI f) S = some (num8 L 13 8, S) := by
  have loop : ∀ d k fuel, k + d = 8 → d < fuel → sdrive kS209 fuel 5 [.inl (nI f), .inr (.inl (num8 L 13 k)), .inl (nI k)] S = some (num8 L 13 8, S) := by
    intro d
    induction d with
    | zero =>
      intro k fuel hk hf
      obtain ⟨g, rfl⟩ : ∃ g, fuel = g + 1 := ⟨fuel - 1, by omega⟩
      have : k = 8 := by omega
      subst this
      refine sd_end ?_
      show c209_5 (nI f) (num8 L 13 8) (nI 8) S = _
      unfold c209_5
      rw [if_pos (by decide)]
    | succ d ih =>
      intro k fuel hk hf
      obtain ⟨g, rfl⟩ : ∃ g, fuel = g + 1 := ⟨fuel - 1, by omega⟩
      have e : e165 (nI f) (13 + nI k) S = some (nI (bn L (13 + k)), S) := by
        rw [show (13 : Int32) = nI 13 from rfl, nI_add]
        exact r165 h (by omega)
      have : kS209 5 [.inl (nI f), .inr (.inl (num8 L 13 k)), .inl (nI k)] S = some (.inr (5, [.inl (nI f), .inr (.inl (num8 L 13 (k + 1))), .inl (nI (k + 1))], S)) := by
        show c209_5 (nI f) (num8 L 13 k) (nI k) S = _
        unfold c209_5
        rw [if_neg (show ¬ (8 : Int32) ≤ nI k from nI_ge (b := 8) (by omega) (by omega)), bd_s e, nI_1]
        have : num8 L 13 (k + 1) = (num8 L 13 k <<< (Int32.toInt64 8 &&& 63)) ||| (L.getD (13 + k) 0 &&& 255).toInt64 := rfl
        rw [this, bn_eq]
      rw [sd_go this]
      exact ih (k + 1) g (by omega) (by omega)
  exact loop 8 0 xF (by omega) (by unfold xF; omega)
/-- one of a host's logins -/
theorem P_lgset {d : Nat} {v : Int32} (h : HB sw nd rm M S ia w pe wo t zb sb fl hc hs kR ka tog) (hN : NR nd M S t nc ca hh lv jj G) (hn : n < nd) (hG : G n = .inl R) (hd : d < nd) : HB sw nd rm (h_qi M (160 + n) d v) (s_u S 39 (8 * n + d) v) (h_ai (h_qi M (160 + n) d v)) w pe wo t zb sb fl hc hs kR ka tog ∧ NR nd (h_qi M (160 + n) d v) (s_u S 39 (8 * n + d) v) t nc ca hh lv jj G := by
  have hI := h.I
  have hnd := hI.bs.2.1.2
  have h2 : ∀ a, a ≠ 160 + n → h_ai (h_qi M (160 + n) d v) a = h_ai M a := fun a q => funext fun i => u2_nk q
  refine ⟨h.cw (k_hqi (i := d) (v := v) h.bk (hI.ho5 hn) (by decide)) (by decide) (by decide) (fun a q => h2 a (by omega)) (k_su : ks [39] S (s_u S 39 (8 * n + d) v)) (by decide), hN.lg hn hG ⟨rfl, rfl, rfl, rfl, rfl, rfl, rfl⟩ h2 (fun k i q => ?_) rfl (fun d' hd' => ?_) hnd⟩
  · by_cases z : k = 39
    · subst z; rw [su_eq, u1_ne (by omega)]
    · rw [su_ne z]
  · rw [su_eq]
    by_cases z : d' = d
    · subst z; rw [qi_eq, u1_eq]
    · rw [qi_ne z, u1_ne (by omega)]
      exact (hN.ho hn hG).2.2.1 d' hd'
theorem f50_eq {v1 v2 : Int32} (h : h_tg M a = 1) : f50 [.inr (.inr (some a)), .inl v1, .inl v2] M = some (none, h_pi (h_pi M 10 a v1) 13 a v2) := by
  show x_out (b50_0 a v1 v2 M) = _
  unfold b50_0
  have q1 : p_i M 0 10 (some a) v1 = some (h_pi M 10 a v1) := p_i_t (ci := 0) h
  have q4 : p_i (h_pi M 10 a v1) 0 13 (some a) v2 = some (h_pi (h_pi M 10 a v1) 13 a v2) := p_i_t (ci := 0) (M := h_pi M 10 a v1) h
  rw [bd_s q1, bd_s q4]
  rfl
/-- takeLogged -/
theorem P_logged {fr : Int32} (h : HB sw nd rm M S ia w pe wo t zb sb fl hc hs kR ka tog) (hN : NR nd M S t nc ca hh lv jj G) (hn : n < nd) (hG : G n = .inl R) (hlv : lv n = false) (hh1 : hc.length ≤ 3) (hh2 : hs.length ≤ 3) : ∃ M' S' ib fm, f90 [.inr (.inr (some (150 + n))), .inl fr] M = some (none, M') ∧ s_go kS211 (if (fr &&& 255) - 1 < 0 then c211_178 S else if (fr &&& 255) - 1 < s_g S 1 then (Option.bind (s_s S 39 (((8 : Int32) * nI n) + ((fr &&& 255) - 1)) fr) fun S21 => some (.inr (196, [.inl (nI n), .inl fr, .inl (0 : Int32)], S21))) else c211_178 S) = some S' ∧ HB sw nd rm M' S' ib w pe wo t zb sb fm hc hs kR ka tog ∧ NR nd M' S' t nc ca hh lv jj G := by
  have hI := h.I
  have hnd := hI.bs.2.1.2
  have nc3 := hN.1.1.2.2
  obtain ⟨j, j1, j2⟩ := an255 fr
  have s1 : s_g S 1 = nI nd := h.1.st.2.2.1.2.1
  have g403 : g_r M 4 3 (some (150 + n)) = some (some (160 + n)) := (g_r_t (ci := 4) (hI.ho0 hn)).trans (congrArg some (hI.ho3 hn))
  have gln : a_ln M 20 (some (160 + n)) = some (nI nd) := by rw [a_ln_t (hI.ho5 hn), hI.ho6 hn]
  have fdef : f90 [.inr (.inr (some (150 + n))), .inl fr] M = x_go k90 (b90_0 (150 + n) fr M) := rfl
  rw [fdef, s1]
  unfold b90_0
  rw [j2]
  by_cases z0 : j = 0
  · have : nI j - 1 < 0 := by rw [z0]; decide
    rw [if_pos this, if_pos this]
    exact ⟨M, S, ia, fl, rfl, rfl, h, hN⟩
  obtain ⟨d, rfl⟩ : ∃ d, j = d + 1 := ⟨j - 1, by omega⟩
  have e : nI (d + 1) - 1 = nI d := nI_pred d
  rw [e, if_neg (nI_pos (by omega)), if_neg (nI_pos (by omega)), bd_s g403, bd_s gln]
  by_cases zd : nd ≤ d
  · have : ¬ nI d < nI nd := nI_nlt zd (by omega)
    rw [if_neg this, if_neg this]
    exact ⟨M, S, ia, fl, rfl, rfl, h, hN⟩
  have zd : d < nd := by omega
  have : nI d < nI nd := nI_lt zd (by omega)
  obtain ⟨k1, k2⟩ := P_lgset (v := fr) h hN hn hG zd
  have q20 : as_i M 20 (some (160 + n)) (nI d) fr = some (h_qi M (160 + n) d fr) := as_i_t (hI.ho5 hn) (by rw [hI.ho6 hn]; exact zd) (by omega)
  have q39 : s_s S 39 (((8 : Int32) * nI n) + nI d) fr = some (s_u S 39 (8 * n + d) fr) := by rw [ixl8, nI_add]; exact gs39 (by omega)
  rw [if_pos this, if_pos this, bd_s g403, bd_s q20, bd_s q39]
  have hRp := (hN.ho hn hG).2.2.2.1.2.2.2.1
  have hRn : ∀ c, c ∈ R → c < nc := fun c hc => ((hN.ho hn hG).2.2.2.1.2.2.2.2.1 c hc).1
  have hRl := (hN.ho hn hG).2.2.2.1.2.1
  obtain ⟨M', S', f', r0, r1, r2, ib, fm, r3, r4⟩ := merge (ρ := sT) (kk := k90) (kS := kS211) (H := 31) (H' := 196) (ar := fun i => [.inr (.inr (some (150 + n))), .inl fr, .inl (nI i)]) (as := fun c => [.inl (nI n), .inl fr, .inl (nI c)]) (J := fun _ N T => ∃ ib fm, HB sw nd rm N T ib w pe wo t zb sb fm hc hs kR ka tog ∧ NR nd N T t nc ca hh lv jj G) (nc := nc) (R := R)
    (fun c N T hJ hcn hcR => by
      refine ⟨?_, hJ⟩
      obtain ⟨ib, fm, j1, j2⟩ := hJ
      obtain ⟨ph, p1, p2, p3, p4, p5, p6, p7⟩ := ph_e j2 hcn
      have s47 : s_g T 47 = nI nc := j2.1.1.2.1
      have n47 : ¬ nI nc ≤ nI c := nI_ge hcn (by omega)
      have s48 : s_a T 48 (nI c) = some (nI (hh c)) := by rw [ga48 (by omega), p6]
      have s56 : s_a T 56 (nI c) = some (nI ph) := by rw [ga56 (by omega), p4]
      show c211_196 (nI n) fr (nI c) T = _
      unfold c211_196
      rw [s47, if_neg n47, bd_s s48]
      by_cases z : hh c = n
      · have n0 : ¬ nI ph = 1 := fun q => by
          have : ph = 1 := (nI_eq (b := 1) (by omega) (by omega)).mp q
          exact hcR ((j2.ho hn hG).2.2.2.1.2.2.2.2.2 c hcn z (p5.mp (by omega)))
        rw [if_pos (by rw [z]), bd_s s56, if_neg n0]
        unfold c211_246
        rw [nI_1]
      · rw [if_neg (fun q => z ((nI_eq (by omega) (by omega)).mp q))]
        unfold c211_246
        rw [nI_1])
    (fun i c N T hJ hcn hi hRi => by
      obtain ⟨ib, fm, j1, j2⟩ := hJ
      have hIN := j1.I
      obtain ⟨y1, y2, y3, y4, y5, y6⟩ := rec_i hIN j2 hn hG hi
      rw [hRi] at y2 y3 y4
      obtain ⟨-, wr, un, bl, m, d, ph, bg, pa, cb, ⟨p2, -⟩, -, -, ⟨-, p6, -⟩, ⟨p3, p4, p1⟩, ⟨-, -, -, p5⟩, f1, -⟩ := j2.1.2.1 c hcn
      have s47 : s_g T 47 = nI nc := j2.1.1.2.1
      have n47 : ¬ nI nc ≤ nI c := nI_ge hcn (by omega)
      have s48 : s_a T 48 (nI c) = some (nI n) := by rw [ga48 (by omega), p6, y4]
      have s56 : s_a T 56 (nI c) = some (nI ph) := by rw [ga56 (by omega), p4]
      have s60 : s_a T 60 (nI c) = some (T.1 60 c) := ga60 (by omega)
      have q10 : g_i N 0 10 (some (ca c)) = some (nI ph) := (g_i_t (ci := 0) p2).trans (congrArg some p3)
      have skip : b90_31 (150 + n) fr (nI i) N = b90_76 (150 + n) fr (nI i) N → c211_196 (nI n) fr (nI c) T = c211_246 (nI n) fr (nI c) T → ∃ M' S', k90 31 [.inr (.inr (some (150 + n))), .inl fr, .inl (nI i)] N = some (.inr (31, [.inr (.inr (some (150 + n))), .inl fr, .inl (nI (i + 1))], M')) ∧ kS211 196 [.inl (nI n), .inl fr, .inl (nI c)] T = some (.inr (196, [.inl (nI n), .inl fr, .inl (nI (c + 1))], S')) ∧ ∃ ib fm, HB sw nd rm M' S' ib w pe wo t zb sb fm hc hs kR ka tog ∧ NR nd M' S' t nc ca hh lv jj G := fun q1 q2 => by
        refine ⟨N, T, ?_, ?_, ib, fm, j1, j2⟩
        · show b90_31 (150 + n) fr (nI i) N = _
          rw [q1]; unfold b90_76; rw [nI_1]
        · show c211_196 (nI n) fr (nI c) T = _
          rw [q2]; unfold c211_246; rw [nI_1]
      by_cases z : ph = 1
      · subst z
        have g9 := f1 (by omega) (by omega)
        have q9 : g_i N 0 9 (some (ca c)) = some (T.1 60 c) := (g_i_t (ci := 0) p2).trans (congrArg some g9)
        by_cases zf : T.1 60 c = fr
        · obtain ⟨M1, S1, ib1, fm1, r1, r2, r3, r4, -⟩ := P_enter (ph' := 2) j1 j2 hcn hh1 hh2 (p5.mp (by omega)) p4 (by omega) (by omega) g9 (by rw [y4]; exact hlv)
          rw [y4] at r1
          have r1' : f51 [.inr (.inr (some (150 + n))), .inr (.inr (some (ca c))), .inl 2] N = some (none, M1) := r1
          have r2' : e206 (nI c) 2 T = some S1 := r2
          refine ⟨M1, S1, ?_, ?_, ib1, fm1, r3, r4⟩
          · show b90_31 (150 + n) fr (nI i) N = _
            unfold b90_31
            rw [bd_s y5, if_neg y6, bd_s y1, bd_s y2, bd_s q10, if_pos (show nI 1 = 1 from rfl), bd_s y1, bd_s y2, bd_s q9, if_pos zf, bd_s y1, bd_s y2, bd_s (g_o_t (ci := 4) (hIN.ho0 hn)), bd_s (c_V_of r1')]
            unfold b90_76
            rw [nI_1]
          · show c211_196 (nI n) fr (nI c) T = _
            unfold c211_196
            rw [s47, if_neg n47, bd_s s48, if_pos rfl, bd_s s56, if_pos (show nI 1 = 1 from rfl), bd_s s60, if_pos zf, bd_s r2']
            unfold c211_246
            rw [nI_1]
        · refine skip ?_ ?_
          · unfold b90_31
            rw [bd_s y5, if_neg y6, bd_s y1, bd_s y2, bd_s q10, if_pos (show nI 1 = 1 from rfl), bd_s y1, bd_s y2, bd_s q9, if_neg zf]
          · unfold c211_196
            rw [s47, if_neg n47, bd_s s48, if_pos rfl, bd_s s56, if_pos (show nI 1 = 1 from rfl), bd_s s60, if_neg zf]
      · have n0 : ¬ nI ph = 1 := fun q => z ((nI_eq (b := 1) (by omega) (by omega)).mp q)
        refine skip ?_ ?_
        · unfold b90_31
          rw [bd_s y5, if_neg y6, bd_s y1, bd_s y2, bd_s q10, if_neg n0]
        · unfold c211_196
          rw [s47, if_neg n47, bd_s s48, if_pos rfl, bd_s s56, if_neg n0]) hRp hRn nc 0 [] R _ _ xF xF rfl (fun x hx => by cases hx) (fun x _ => by omega) (by omega) ⟨_, fl, k1, k2⟩ (by unfold xF; omega) (by unfold xF; omega)
  obtain ⟨z1', z2'⟩ := rec_e r3.I r4 hn hG
  refine ⟨M', S', ib, fm, ?_, ?_, r3, r4⟩
  · show drive k90 xF 31 [.inr (.inr (some (150 + n))), .inl fr, .inl (nI 0)] _ = _
    refine Eq.trans r1 ?_
    obtain ⟨g', rfl⟩ : ∃ g, f' = g + 1 := ⟨f' - 1, by unfold xF at r0; omega⟩
    refine dr_end ?_
    show b90_31 (150 + n) fr (nI R.length) M' = _
    unfold b90_31
    rw [bd_s z1', if_pos z2']
  · show sdrive kS211 xF 196 [.inl (nI n), .inl fr, .inl (nI 0)] _ = _
    refine Eq.trans r2 ?_
    obtain ⟨g', hg'⟩ : ∃ g, xF - nc = g + 1 := ⟨xF - nc - 1, by unfold xF; omega⟩
    rw [hg']
    refine sd_end ?_
    show c211_196 (nI n) fr (nI nc) S' = _
    have s47 : s_g S' 47 = nI nc := r4.1.1.2.1
    unfold c211_196
    rw [s47, if_pos (show nI nc ≤ nI nc from nI_le (by omega) (by omega))]
    rfl
end LD
