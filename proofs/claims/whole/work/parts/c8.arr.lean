/-! ===== the beginning of a tick ===== -/
section AR
variable {sw nd rm : Nat} {M N : hM} {S T : sT} {ia : Nat → Nat → Int32} {ct : Nat → Int32} {w t x y zb sb : Nat} {pe : Nat → Option Nat} {wo : Nat → Nat} {fl : Nat → List (List Int32)} {P : Nat → Bool} {L : List Int32} {kR : Nat → rK} {ka : Nat → Nat → Nat} {tog : Nat → Bool}
/-- time goes on -/
theorem TB.tick (h : TB sw nd rm M S ia w pe wo t zb sb fl kR ka tog) (ht : t + 1 ≤ 200000) : TB sw nd rm (h_pi M 903 2 (nI (t + 1))) (s_u S 3 0 (nI (t + 1))) ia w pe wo (t + 1) zb sb fl kR ka tog := by
  obtain ⟨⟨⟨a1, a2, a3, a4, a5, a6⟩, h2, h3, h4⟩, h5, h6⟩ := h
  have k : kp [903] [] M (h_pi M 903 2 (nI (t + 1))) := k_hpi h2.bk (by rw [a1.sh0]; decide)
  have l : ks [3] S (s_u S 3 0 (nI (t + 1))) := k_su
  have e1 : ∀ q, q ≠ 903 → h_fi (h_pi M 903 2 (nI (t + 1))) q = h_fi M q := fun q hq => fi_ne hq
  have e2 : ∀ q, q ≠ 3 → (s_u S 3 0 (nI (t + 1))).1 q = S.1 q := fun q hq => su_ne hq
  have eu : ∀ z, upS (s_u S 3 0 (nI (t + 1))) z = upS S z := fun z => upS_ks l (by decide) (by decide)
  refine ⟨⟨⟨a1.keep k (by decide) (by decide), ?_, ?_, ⟨by rw [fi_eq, u1_eq], by rw [su_eq, u1_eq], ht⟩, ?_, ?_⟩, (h2.kp k (by decide)).ks l (by decide), h3.keep k (by decide) l (by decide), fun s hs => (h4 s hs).keep a1 hs k (by decide) (by decide) (fun _ _ _ => rfl) l (by decide)⟩, h5.keep k (by decide) l (by decide) qx.rf (fun x y e => ⟨a1.x8 (a2.sds e).1, a1.x8 (a2.sds e).2.1⟩), h6⟩
  · obtain ⟨b1, b2, b3, b4, b5, b6⟩ := a2
    refine ⟨?_, ?_, b3, fun x y e => ?_, fun i hi => ?_, fun x hx => ?_⟩
    · rw [e1 1105 (by decide), e2 13 (by decide)]; exact b1
    · rw [e2 14 (by decide)]; exact b2
    · rw [e2 14 (by decide), e2 10 (by decide), e2 11 (by decide), e1 804 (by decide)]; exact b4 x y e
    · rw [e2 11 (by decide), e2 12 (by decide), e2 10 (by decide)]; exact b5 i hi
    · rw [e1 805 (by decide), eu]; exact b6 x hx
  · rw [e2 0 (by decide), e2 1 (by decide), e2 2 (by decide)]; exact a3
  · rw [e2 37 (by decide), e2 38 (by decide), e1 906 (by decide)]; exact a5
  · rw [e1 1003 (by decide), e2 26 (by decide)]; exact a6
def Pw (pe : Nat → Option Nat) (wo : Nat → Nat) (i x : Nat) : Bool := (pe x).isSome && decide (wo x < i)
theorem clD_lp {v1 v2 v3 : Int32} (hI : cI sw nd rm M) (hW : WI sw nd M S w pe wo) (hB : FLb fl) : ∀ d i N fuel, i + d = w → d < fuel → clD sw nd M ia ct zb sb fl pe (Pw pe wo i) N → ∃ N', drive k140 fuel 38 [.inr (.inr (some 1)), .inl v1, .inl (v2 + nI (arN fl (Pw pe wo i))), .inl v3, .inl (nI i)] N = drive k140 (fuel - d - 1) 80 [.inr (.inr (some 1)), .inl v1, .inl (v2 + nI (arN fl (Pw pe wo w))), .inl v3, .inl (nI 0)] N' ∧ clD sw nd M ia ct zb sb fl pe (Pw pe wo w) N'
  | 0, i, N, fuel, hi, hf, h => by
    obtain ⟨f, rfl⟩ : ∃ f, fuel = f + 1 := ⟨fuel - 1, by omega⟩
    have hi : i = w := by omega
    subst hi
    have hw16 := hW.1.2.2
    have hIN := hI.keep h.2.2 (by decide) (by decide)
    have g5 : g_i N 11 5 (some 1) = some (nI i) := (g_i_t (ci := 11) hIN.fab0).trans (congrArg some (by show h_fi N 1105 1 = _; rw [h.2.2.fi (by decide)]; exact hW.1.1))
    have st : k140 38 [.inr (.inr (some 1)), .inl v1, .inl (v2 + nI (arN fl (Pw pe wo i))), .inl v3, .inl (nI i)] N = some (.inr (80, [.inr (.inr (some 1)), .inl v1, .inl (v2 + nI (arN fl (Pw pe wo i))), .inl v3, .inl (nI 0)], N)) := by
      show b140_38 1 v1 _ v3 (nI i) N = _
      unfold b140_38
      rw [bd_s g5, if_pos (show nI i ≤ nI i from nI_le (by omega) (by omega))]; rfl
    exact ⟨N, dr_go st, h⟩
  | d + 1, i, N, fuel, hi, hf, h => by
    obtain ⟨f, rfl⟩ : ∃ f, fuel = f + 1 := ⟨fuel - 1, by omega⟩
    have hw16 := hW.1.2.2
    have hiw : i < w := by omega
    obtain ⟨-, -, x, y, e, ewo, hx4, s1, s2, ar5, ar6⟩ := hW.2.2.2.2.1 i hiw
    obtain ⟨⟨⟨hsx, hsy, ey⟩, hxy, -⟩, ⟨wxy, -, -⟩, -⟩ := hW.2.2.2.1 x y e
    have hx8 := hI.x8 hsx
    have hy8 := hI.x8 hsy
    have ewy : wo y = i := by rw [← wxy]; exact ewo
    have hIN := hI.keep h.2.2 (by decide) (by decide)
    have pX : Pw pe wo i x = false := by unfold Pw; rw [ewo]; simp
    obtain ⟨N1, d1, d2⟩ := clD_st hI hW h hB e pX
    have pY : u1 (Pw pe wo i) x true y = false := by rw [u1_ne (Ne.symm hxy)]; unfold Pw; rw [ewy]; simp
    obtain ⟨N2, d3, d4⟩ := clD_st hI hW d2 hB ey pY
    have hP : u1 (u1 (Pw pe wo i) x true) y true = Pw pe wo (i + 1) := funext fun z => by
      by_cases z1 : z = y
      · subst z1; rw [u1_eq]; unfold Pw; rw [ey, ewy]; simp
      rw [u1_ne z1]
      by_cases z2 : z = x
      · subst z2; rw [u1_eq]; unfold Pw; rw [e, ewo]; simp
      rw [u1_ne z2]
      unfold Pw
      cases q : pe z with
      | none => rfl
      | some z' =>
        have hne : wo z ≠ i := fun zz => by
          obtain ⟨⟨⟨hsz, hsz', -⟩, -⟩, -, -, o, -⟩ := hW.2.2.2.1 z z' q
          have hz8 := hI.x8 hsz
          have hz8' := hI.x8 hsz'
          rw [zz] at o
          rcases o with ⟨o1, o2⟩ | ⟨o1, o2⟩
          · exact z2 ((nI_eq (by omega) (by omega)).mp (by rw [← o1]; exact s1))
          · exact z1 ((nI_eq (by omega) (by omega)).mp (by rw [← o2]; exact s2))
        have : (decide (wo z < i)) = decide (wo z < i + 1) := decide_eq_decide.mpr (by omega)
        rw [this]
    rw [hP] at d4
    have cnt : arN fl (Pw pe wo (i + 1)) = arN fl (Pw pe wo i) + ne1 (fl x) + ne1 (fl y) := by
      rw [← hP, arN_st hy8 pY, arN_st hx8 pX]
    have g5 : g_i N 11 5 (some 1) = some (nI w) := (g_i_t (ci := 11) hIN.fab0).trans (congrArg some (by show h_fi N 1105 1 = _; rw [h.2.2.fi (by decide)]; exact hW.1.1))
    have g3 : g_r N 11 3 (some 1) = some (some 5) := (g_r_t (ci := 11) hIN.fab0).trans (congrArg some hIN.fab4)
    have ga : al_r N 38 (some 5) (nI i) = some (some (200 + x)) := (al_r_t hIN.ar4 (by rw [hIN.ar5]; omega) (by omega)).trans (congrArg some (by rw [h.2.2.ar hI.ar4 (by decide)]; exact ar5))
    have hI1 := hI.keep d2.2.2 (by decide) (by decide)
    have g4 : g_r N1 11 4 (some 1) = some (some 6) := (g_r_t (ci := 11) hI1.fab0).trans (congrArg some hI1.fab5)
    have gb : al_r N1 38 (some 6) (nI i) = some (some (200 + y)) := (al_r_t hI1.ar6 (by rw [hI1.ar7]; omega) (by omega)).trans (congrArg some (by rw [d2.2.2.ar hI.ar6 (by decide)]; exact ar6))
    have st : k140 38 [.inr (.inr (some 1)), .inl v1, .inl (v2 + nI (arN fl (Pw pe wo i))), .inl v3, .inl (nI i)] N = some (.inr (38, [.inr (.inr (some 1)), .inl v1, .inl (v2 + nI (arN fl (Pw pe wo (i + 1)))), .inl v3, .inl (nI (i + 1))], N2)) := by
      show b140_38 1 v1 _ v3 (nI i) N = _
      unfold b140_38
      rw [bd_s g5, if_neg (show ¬ nI w ≤ nI i from nI_ge (by omega) (by omega)), bd_s g3, bd_s ga, bd_s (g_o_t (ci := 8) (hIN.po0 hsx)), bd_s (c_I_of d1), bd_s g4, bd_s gb, bd_s (g_o_t (ci := 8) (hI1.po0 hsy)), bd_s (c_I_of d3)]
      show some (Sum.inr (38, [Sum.inr (Sum.inr (some 1)), Sum.inl v1, Sum.inl (v2 + nI (arN fl (Pw pe wo i)) + (nI (ne1 (fl x)) + nI (ne1 (fl y)))), Sum.inl v3, Sum.inl (nI i + 1)], N2)) = _
      rw [nI_1, nI_add, Int32.add_assoc, nI_add, cnt, Nat.add_assoc]
    obtain ⟨N3, r1, r2⟩ := clD_lp hI hW hB d (i + 1) N2 f (by omega) (by omega) d4
    refine ⟨N3, ?_, r2⟩
    rw [dr_go st, show f + 1 - (d + 1) - 1 = f - d - 1 by omega]
    exact r1
/-- the reference so far -/
def rfD (S : sT) (fl : Nat → List (List Int32)) (pe : Nat → Option Nat) (P : Nat → Bool) (T : sT) : Prop := FR T (dlF fl pe P) [] ∧ ks [15, 16, 17, 22] S T ∧ ∀ x, x < 48 → T.1 22 x = if P x = true then 0 else S.1 22 x
theorem k231_14 {v : Int32} : ∀ d i T fus, i + d = 48 → d < fus → (∀ q, q < i → T.1 20 q = 0) → ∃ U, sdrive kS231 fus 14 [.inl v, .inl (nI i)] T = sdrive kS231 (fus - d - 1) 35 [.inl v, .inl (nI 0)] U ∧ ks [20] T U ∧ ∀ q, q < 48 → U.1 20 q = 0
  | 0, i, T, fus, hi, hf, h => by
    obtain ⟨g, rfl⟩ : ∃ g, fus = g + 1 := ⟨fus - 1, by omega⟩
    have st : kS231 14 [.inl v, .inl (nI i)] T = some (.inr (35, [.inl v, .inl (nI 0)], T)) := by
      show c231_14 v (nI i) T = _
      unfold c231_14
      rw [if_pos (show (48 : Int32) ≤ nI i from nI_le (a := 48) (by omega) (by omega))]; rfl
    exact ⟨T, sd_go st, ks.rf, fun q hq => h q (by omega)⟩
  | d + 1, i, T, fus, hi, hf, h => by
    obtain ⟨g, rfl⟩ : ∃ g, fus = g + 1 := ⟨fus - 1, by omega⟩
    have st : kS231 14 [.inl v, .inl (nI i)] T = some (.inr (14, [.inl v, .inl (nI (i + 1))], s_u T 20 i 0)) := by
      show c231_14 v (nI i) T = _
      unfold c231_14
      rw [if_neg (show ¬ (48 : Int32) ≤ nI i from nI_ge (b := 48) (by omega) (by omega)), bd_s (gs20 (by omega)), nI_1]
    obtain ⟨U, r1, r2, r3⟩ := k231_14 (v := v) d (i + 1) (s_u T 20 i 0) g (by omega) (by omega) (fun q hq => by
      by_cases z : q = i
      · subst z; exact s_u_at
      · rw [s_u_o (by omega)]; exact h q (by omega))
    refine ⟨U, ?_, (k_su : ks [20] T _).tr r2 rfl, r3⟩
    rw [sd_go st, show g + 1 - (d + 1) - 1 = g - d - 1 by omega]; exact r1
theorem k231_35 (hx48 : ∀ x y, pe x = some y → x < 48 ∧ y < 48) (hW : WI sw nd M S w pe wo) (hrm : S.1 2 0 = nI rm) (r4 : rm ≤ 4) (hB : FLb fl) (hun : ∀ x, x < 48 → pe x = none → fl x = []) (hroom : ∀ x y, pe x = some y → fl x ≠ [] → (fl (48 + y)).length < rm) : ∀ d i T fus, i + d = 48 → d < fus → rfD S fl pe (fun x => decide (x < i)) T → ∃ U, sdrive kS231 fus 35 [.inl (nI (arN fl (fun x => decide (x < i)))), .inl (nI i)] T = sdrive kS231 (fus - d - 1) 152 [.inl (nI (arN fl (fun x => decide (x < 48)))), .inl (nI 0)] U ∧ rfD S fl pe (fun x => decide (x < 48)) U
  | 0, i, T, fus, hi, hf, h => by
    obtain ⟨g, rfl⟩ : ∃ g, fus = g + 1 := ⟨fus - 1, by omega⟩
    have hi : i = 48 := by omega
    subst hi
    have st : kS231 35 [.inl (nI (arN fl (fun x => decide (x < 48)))), .inl (nI 48)] T = some (.inr (152, [.inl (nI (arN fl (fun x => decide (x < 48)))), .inl (nI 0)], T)) := by
      show c231_35 _ (nI 48) T = _
      unfold c231_35
      rw [if_pos (by decide)]; rfl
    exact ⟨T, sd_go st, h⟩
  | d + 1, i, T, fus, hi, hf, h => by
    obtain ⟨g, rfl⟩ : ∃ g, fus = g + 1 := ⟨fus - 1, by omega⟩
    obtain ⟨h1, h2, h3⟩ := h
    have hi8 : i < 48 := by omega
    have hP : u1 (fun x => decide (x < i)) i true = fun x => decide (x < i + 1) := funext fun z => by
      by_cases z1 : z = i
      · subst z1; rw [u1_eq]; simp
      · rw [u1_ne z1]; exact decide_eq_decide.mpr (by omega)
    have pI : (fun x => decide (x < i)) i = false := by simp
    have hwi : dlF fl pe (fun x => decide (x < i)) i = fl i := by
      unfold dlF
      rw [if_pos hi8, if_neg (by simp)]
    have cnt := arN_st (fl := fl) (P := fun x => decide (x < i)) hi8 pI
    rw [hP] at cnt
    have k22 : ks [22] T (s_u T 22 i 0) := k_su
    have h1' : FR (s_u T 22 i 0) (dlF fl pe (fun x => decide (x < i))) [] := h1.cg k22 (by decide)
    have e22 : ∀ x, x < 48 → (s_u T 22 i 0).1 22 x = if decide (x < i + 1) = true then 0 else S.1 22 x := fun x hx => by
      by_cases z : x = i
      · subst z; rw [s_u_at, if_pos (by simp)]
      · rw [s_u_o (by omega), h3 x hx]
        by_cases z2 : x < i
        · rw [if_pos (by simp [z2]), if_pos (by simp; omega)]
        · rw [if_neg (by simp [z2]), if_neg (by simp; omega)]
    have next : ∀ U k, kS231 35 [.inl (nI (arN fl (fun x => decide (x < i)))), .inl (nI i)] T = some (.inr (35, [.inl (nI k), .inl (nI (i + 1))], U)) → k = arN fl (fun x => decide (x < i + 1)) → rfD S fl pe (fun x => decide (x < i + 1)) U → ∃ V, sdrive kS231 (g + 1) 35 [.inl (nI (arN fl (fun x => decide (x < i)))), .inl (nI i)] T = sdrive kS231 (g + 1 - (d + 1) - 1) 152 [.inl (nI (arN fl (fun x => decide (x < 48)))), .inl (nI 0)] V ∧ rfD S fl pe (fun x => decide (x < 48)) V := fun U k st hk hU => by
      subst hk
      obtain ⟨V, q1, q2⟩ := k231_35 hx48 hW hrm r4 hB hun hroom d (i + 1) U g (by omega) (by omega) hU
      refine ⟨V, ?_, q2⟩
      rw [sd_go st, show g + 1 - (d + 1) - 1 = g - d - 1 by omega]
      exact q1
    have kST : ks [15, 16, 17, 22] S (s_u T 22 i 0) := h2.tr k22 rfl
    have s15 : s_a (s_u T 22 i 0) 15 (nI i) = some ((s_u T 22 i 0).1 15 i) := ga15 hi8
    cases hf' : fl i with
    | nil =>
      have e15 : (s_u T 22 i 0).1 15 i = -1 := (h1'.way0 hi8).mpr (by rw [hwi, hf'])
      refine next (s_u T 22 i 0) (arN fl (fun x => decide (x < i))) ?_ (by rw [cnt, hf']; rfl) ⟨?_, kST, e22⟩
      · show c231_35 _ (nI i) T = _
        unfold c231_35
        rw [if_neg (show ¬ (48 : Int32) ≤ nI i from nI_ge (b := 48) (by omega) (by omega)), bd_s (gs22_0 hi8), bd_s s15, if_pos e15]
        unfold c231_144
        rw [nI_1]
      · rw [← hP]
        by_cases hp : ∃ z, pe z = some i
        · obtain ⟨z, hz⟩ := hp
          have hs := dlF_st (fl := fl) (pe := pe) (P := fun x => decide (x < i)) (fun a b q => (hW.sds q).2.2) (hW.sds hz).2.2 hi8 (hx48 z i hz).1 pI
          rw [hf', List.append_nil] at hs
          rw [← hs]
          have : u1 (u1 (dlF fl pe (fun x => decide (x < i))) i []) (48 + z) (dlF fl pe (fun x => decide (x < i)) (48 + z)) = dlF fl pe (fun x => decide (x < i)) := funext fun p => by
            by_cases z1 : p = 48 + z
            · subst z1; rw [u1_eq]
            · rw [u1_ne z1]
              by_cases z2 : p = i
              · subst z2; rw [u1_eq, hwi, hf']
              · rw [u1_ne z2]
          rw [this]; exact h1'
        · rw [dlF_no hf' (fun z q => hp ⟨z, q⟩)]; exact h1'
    | cons L r =>
      have hr : r = [] := by
        have := (hB i hi8).1
        rw [hf', List.length_cons] at this
        exact List.eq_nil_of_length_eq_zero (by omega)
      subst hr
      obtain ⟨y, e⟩ : ∃ y, pe i = some y := by
        cases q : pe i with
        | none => rw [hun i hi8 q] at hf'; cases hf'
        | some y => exact ⟨y, rfl⟩
      have hy8 := (hx48 i y e).2
      have hs := dlF_st (fl := fl) (pe := pe) (P := fun x => decide (x < i)) (fun a b q => (hW.sds q).2.2) e hi8 hy8 pI
      rw [hf', hP] at hs
      have hby : dlF fl pe (fun x => decide (x < i)) (48 + y) = fl (48 + y) := by
        unfold dlF
        rw [if_neg (by omega), if_pos (by omega), show 48 + y - 48 = y by omega, (hW.sds e).2.2]
        show (if decide (i < i) = true then _ else _) = _
        rw [if_neg (by simp)]
      have hrl := hroom i y e (by rw [hf']; exact fun q => nomatch q)
      have hBd : FLb (dlF fl pe (fun x => decide (x < i))) → True := fun _ => trivial
      have hBP : FLb (dlF fl pe (fun x => decide (x < i))) := fun z hz => by
        refine ⟨?_, ?_, ?_⟩
        · unfold dlF
          rw [if_pos hz]
          split
          · show 0 ≤ 1; omega
          · exact (hB z hz).1
        · unfold dlF
          rw [if_neg (by omega), if_pos (by omega), show 48 + z - 48 = z by omega]
          cases q : pe z with
          | none => exact (hB z hz).2.1
          | some v =>
            show (if decide (v < i) = true then fl (48 + z) ++ fl v else fl (48 + z)).length ≤ 4
            split
            · rw [List.length_append]
              have hv8 := (hx48 z v q).2
              by_cases zv : fl v = []
              · rw [zv]; exact (hB z hz).2.1
              · have := hroom v z (hW.sds q).2.2 zv
                have := (hB v hv8).1
                omega
            · exact (hB z hz).2.1
        · unfold dlF
          rw [if_neg (by omega), if_neg (by omega)]
          exact (hB z hz).2.2
      obtain ⟨f, e15, f18, e17, hFR⟩ := FR_arr h1' hi8 hy8 hBP (by rw [hwi, hf']) (by rw [hby]; omega)
      rw [hby] at e17 hFR hs
      rw [hs] at hFR
      have ne15 : ¬ (s_u T 22 i 0).1 15 i = -1 := by rw [e15]; exact nI_m1 (by omega)
      have hW2 : e178 (nI i) (s_u T 22 i 0) = some (nI y, s_u T 22 i 0) := by
        have hWT : WI sw nd M (s_u T 22 i 0) w pe wo := by
          obtain ⟨b1, b2, b3, b4, b5, b6⟩ := hW
          refine ⟨?_, ?_, b3, fun x y e => ?_, fun i hi => ?_, fun x hx => ?_⟩
          · rw [kST.i (by decide)]; exact b1
          · rw [kST.i (by decide)]; exact b2
          · rw [kST.i (by decide), kST.i (by decide), kST.i (by decide)]; exact b4 x y e
          · rw [kST.i (by decide), kST.i (by decide), kST.i (by decide)]; exact b5 i hi
          · rw [upS_ks kST (by decide) (by decide)]; exact b6 x hx
        exact e178_eq hWT hi8 hy8 e
      have s17 : s_a (s_u T 22 i 0) 17 (nI y) = some (nI (fl (48 + y)).length) := by rw [ga17 hy8, e17]
      have sg : s_g (s_u T 22 i 0) 2 = nI rm := by show (s_u T 22 i 0).1 2 0 = _; rw [kST.i (by decide)]; exact hrm
      have k16 : ks [16] (s_u T 22 i 0) (s_u (s_u T 22 i 0) 16 (y * 4 + (fl (48 + y)).length) (nI f)) := k_su
      have s17' : s_a (s_u (s_u T 22 i 0) 16 (y * 4 + (fl (48 + y)).length) (nI f)) 17 (nI y) = some (nI (fl (48 + y)).length) := by rw [ga17 hy8, k16.i (by decide), e17]
      refine next (s_u (s_u (s_u (s_u T 22 i 0) 16 (y * 4 + (fl (48 + y)).length) (nI f)) 17 y (nI ((fl (48 + y)).length + 1))) 15 i (-1)) (arN fl (fun x => decide (x < i)) + 1) ?_ (by rw [cnt, hf']; rfl) ⟨hFR, ?_, fun x hx => ?_⟩
      · show c231_35 _ (nI i) T = _
        unfold c231_35
        have i16 : nI y * 4 + nI (fl (48 + y)).length = nI (y * 4 + (fl (48 + y)).length) := by rw [ixr4, nI_add]
        rw [if_neg (show ¬ (48 : Int32) ≤ nI i from nI_ge (b := 48) (by omega) (by omega)), bd_s (gs22_0 hi8), bd_s s15, if_neg ne15, bd_s hW2, bd_s s17, sg, if_neg (fun q => absurd ((nI_eq (by omega) (by omega)).mp q) (by omega)), bd_s s17, bd_s s15, i16, e15, bd_s (gs16 (by omega)), bd_s s17', nI_1, bd_s (gs17 hy8)]
        unfold c231_134
        rw [bd_s (gs15 hi8)]
        unfold c231_144
        rw [nI_1, nI_1]
      · exact ((kST.tr k16 rfl).tr (k_su : ks [17] _ _) rfl).tr (k_su : ks [15] _ _) rfl
      · rw [su_ne (by decide), su_ne (by decide), su_ne (by decide)]
        exact e22 x hx
end AR
