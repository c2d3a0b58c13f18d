/-! ===== read and write: is there room ===== -/
section RM
variable {sw nd rm : Nat} {M M' N : hM} {S T : sT} {ia : Nat → Nat → Int32} {w t x y z zb sb nc nc' c s p n m i a b f j dk : Nat} {pe : Nat → Option Nat} {wo : Nat → Nat} {fl : Nat → List (List Int32)} {kR : Nat → rK} {ka : Nat → Nat → Nat} {tog : Nat → Bool} {ca hh ca' hh' : Nat → Nat} {lv : Nat → Bool} {jj : Nat → Nat} {G : Nat → nG} {v : Int32} {F A H R : List Nat}
/-- a node to which nothing happened -/
theorem noR_cg {g : nG} (q : noR nd M S t nc ca hh m j g) (h1 : ∀ k, h_fr N k (140 + m) = h_fr M k (140 + m)) (h2 : ∀ k, h_fi N k (150 + m) = h_fi M k (150 + m)) (h3 : h_ai N (160 + m) = h_ai M (160 + m)) (h4 : h_ar N (170 + m) = h_ar M (170 + m))
    (hd : ∀ dk OL, g = .inr (dk, OL) → (∀ a, dk ≤ a → a < dk + 16 → (∀ k, h_fi N k a = h_fi M k a ∧ h_fr N k a = h_fr M k a) ∧ (h_ai N a = h_ai M a ∧ h_al N a = h_al M a ∧ h_ar N a = h_ar M a) ∧ h_tg N a = h_tg M a ∧ h_ln N a = h_ln M a) ∧ ∀ c, c < nc' → ca' c + 1 < dk ∨ dk + 16 ≤ ca' c)
    (s1 : ∀ k i, k ≤ 46 → k ≠ 34 → T.1 k i = S.1 k i) (s2 : T.1 34 m = S.1 34 m) (s3 : T.2 42 = S.2 42 ∧ T.2 45 = S.2 45) (c1 : ∀ c, c < nc' → hh' c = m → c < nc ∧ hh c = m ∧ T.1 59 c = S.1 59 c) (c2 : ∀ c, c < nc → hh c = m → c < nc' ∧ hh' c = m ∧ ca' c = ca c) : noR nd N T t nc' ca' hh' m j g := by
  cases g with
  | inl R =>
    obtain ⟨y1, ⟨y2, y2', y2''⟩, y3, ⟨y4, y5, y6, y7, y8, y9⟩, ⟨y10, y11, y12, y13⟩⟩ := q
    refine ⟨?_, ⟨?_, ?_, fun e c hc hm => ?_⟩, fun d hd => ?_, ⟨?_, y5, fun i hi => ?_, y7, fun c hc => ?_, fun c hc hm e => ?_⟩, ?_, ?_, ?_, fun i hi => ?_⟩
    · rw [h1, h1, s1 33 m (by omega) (by omega)]; exact y1
    · rw [h2, s2]; exact y2
    · rw [s2]; exact y2'
    · obtain ⟨z1, z2, -⟩ := c1 c hc hm
      rw [s2] at e
      exact y2'' e c z1 z2
    · rw [h3, s1 39 _ (by omega) (by omega)]; exact y3 d hd
    · rw [h2]; exact y4
    · have hm' : R.getD i 0 ∈ R := by rw [List.getD_eq_getElem?_getD, List.getElem?_eq_getElem hi]; exact List.getElem_mem hi
      obtain ⟨z1, z2⟩ := y8 _ hm'
      rw [h4, (c2 _ z1 z2).2.2]; exact y6 i hi
    · obtain ⟨z1, z2⟩ := y8 c hc
      obtain ⟨z3, z4, -⟩ := c2 c z1 z2
      exact ⟨z3, z4⟩
    · obtain ⟨z1, z2, z3⟩ := c1 c hc hm
      rw [z3] at e
      exact y9 c z1 z2 e
    · rw [s1 41 _ (by omega) (by omega)]; exact y10
    · rw [s1 46 _ (by omega) (by omega)]; exact y11
    · rw [s1 43 _ (by omega) (by omega)]; exact y12
    · rw [s3.1]; exact y13 i hi
  | inr o =>
    obtain ⟨d1, d2⟩ := hd o.1 o.2 rfl
    obtain ⟨⟨y1, ⟨y2, ⟨t1, t2, t3, t4, t5, t6⟩, ⟨t7, t8, t9, t10, t11, t12⟩, t13⟩, y4, ⟨lm, l1, l2, l3, l4⟩, lr, r1, r2, r3, ⟨o1, o1'⟩, o2, o3, o4, o5, o6⟩, y6, y7⟩ := q
    have fi : ∀ a k, o.1 ≤ a → a < o.1 + 16 → h_fi N k a = h_fi M k a := fun a k q1 q2 => ((d1 a q1 q2).1 k).1
    have fr : ∀ a k, o.1 ≤ a → a < o.1 + 16 → h_fr N k a = h_fr M k a := fun a k q1 q2 => ((d1 a q1 q2).1 k).2
    have tg : ∀ a, o.1 ≤ a → a < o.1 + 16 → h_tg N a = h_tg M a := fun a q1 q2 => (d1 a q1 q2).2.2.1
    have ln : ∀ a, o.1 ≤ a → a < o.1 + 16 → h_ln N a = h_ln M a := fun a q1 q2 => (d1 a q1 q2).2.2.2
    have ai : ∀ a, o.1 ≤ a → a < o.1 + 16 → h_ai N a = h_ai M a := fun a q1 q2 => (d1 a q1 q2).2.1.1
    have al : ∀ a, o.1 ≤ a → a < o.1 + 16 → h_al N a = h_al M a := fun a q1 q2 => (d1 a q1 q2).2.1.2.1
    have ar : ∀ a, o.1 ≤ a → a < o.1 + 16 → h_ar N a = h_ar M a := fun a q1 q2 => (d1 a q1 q2).2.1.2.2
    refine ⟨⟨by rw [h1, h1, s1 33 m (by omega) (by omega)]; exact y1, ⟨y2, ⟨by rw [tg _ (by omega) (by omega)]; exact t1, ?_, ?_, ?_, ?_, ?_⟩, ⟨?_, ?_, ?_, ?_, ?_, ?_⟩, fun i hi => ?_⟩, fun i hi => ?_, ⟨lm, l1, ?_, ?_, fun i hi => ?_⟩, lr, r1, ?_, ?_, ⟨?_, o1'⟩, fun q hq => ?_, o3, fun e he => ?_, fun i hi q => ?_, o6⟩, fun c hc hm => ?_, d2⟩
    · rw [fr _ _ (by omega) (by omega)]; exact t2
    · rw [fr _ _ (by omega) (by omega)]; exact t3
    · rw [fr _ _ (by omega) (by omega)]; exact t4
    · rw [fr _ _ (by omega) (by omega)]; exact t5
    · rw [fr _ _ (by omega) (by omega)]; exact t6
    · rw [tg _ (by omega) (by omega)]; exact t7
    · rw [ln _ (by omega) (by omega)]; exact t8
    · rw [tg _ (by omega) (by omega)]; exact t9
    · rw [ln _ (by omega) (by omega)]; exact t10
    · rw [tg _ (by omega) (by omega)]; exact t11
    · rw [ln _ (by omega) (by omega)]; exact t12
    · obtain ⟨q1, q2, q3, q4, q5⟩ := t13 i hi
      exact ⟨by rw [ar _ (by omega) (by omega)]; exact q1, by rw [tg _ (by omega) (by omega)]; exact q2, by rw [fr _ _ (by omega) (by omega)]; exact q3, by rw [tg _ (by omega) (by omega)]; exact q4, by rw [ln _ (by omega) (by omega)]; exact q5⟩
    · rw [al _ (by omega) (by omega), s3.1]; exact y4 i hi
    · rw [fi _ _ (by omega) (by omega)]; exact l2
    · rw [s1 41 _ (by omega) (by omega)]; exact l3
    · rw [ai _ (by omega) (by omega), s1 40 _ (by omega) (by omega)]; exact l4 i hi
    · rw [fi _ _ (by omega) (by omega)]; exact r2
    · rw [s1 43 _ (by omega) (by omega)]; exact r3
    · rw [s1 46 _ (by omega) (by omega)]; exact o1
    · obtain ⟨q1, q2⟩ := o2 q hq
      exact ⟨fun i hi => by rw [s1 44 _ (by omega) (by omega)]; exact q1 i hi, fun i hi => by rw [s3.2]; exact q2 i hi⟩
    · have he' := o4 e he
      have hs : e.1 < 6 := by obtain ⟨u, b, m, bits, o, r, a1, -⟩ := he'; exact a1
      exact he'.cg (fun k _ _ => fi _ _ (by omega) (by omega)) (al _ (by omega) (by omega))
    · rw [fi _ _ (by omega) (by omega)]; exact o5 i hi q
    · obtain ⟨z1, z2, -⟩ := c1 c hc hm
      exact y6 c z1 z2
/-- not ended yet -/
def lvF (S : sT) (c : Nat) : Bool := decide (S.1 59 c = -1)
theorem tak1 {i : Nat} (hi : i < R.length) : R.take (i + 1) = R.take i ++ [R.getD i 0] := by
  rw [List.take_succ, List.getD_eq_getElem?_getD, List.getElem?_eq_getElem hi]; rfl
theorem getD_ap1 {l : List Nat} {c j : Nat} (hj : j < l.length) : (l ++ [c]).getD j 0 = l.getD j 0 := by
  rw [List.getD_eq_getElem?_getD, List.getD_eq_getElem?_getD, List.getElem?_append_left hj]
theorem getD_ap2 {l : List Nat} {c : Nat} : (l ++ [c]).getD l.length 0 = c := by
  rw [List.getD_eq_getElem?_getD, List.getElem?_append_right (Nat.le_refl _), Nat.sub_self]; rfl
/-- only the row of host n has changed -/
def rcO (n : Nat) (M N : hM) : Prop := (h_fi N = h_fi M ∧ h_fl N = h_fl M ∧ h_fr N = h_fr M ∧ h_ai N = h_ai M ∧ h_al N = h_al M) ∧ (h_tg N = h_tg M ∧ h_ln N = h_ln M ∧ h_sz N = h_sz M ∧ h_sl N = h_sl M) ∧ ∀ a, a ≠ 170 + n → h_ar N a = h_ar M a
theorem k143_lp (hI : cI sw nd rm M) (hN : NR nd M S t nc ca hh lv jj G) (hn : n < nd) (hG : G n = .inl R) : ∀ d i N fuel, i + d = R.length → d < fuel → rcO n M N → kp [] [30] M N → (∀ j, j < ((R.take i).filter (lvF S)).length → h_ar N (170 + n) j = some (ca (((R.take i).filter (lvF S)).getD j 0))) → (∀ j, i ≤ j → j < R.length → h_ar N (170 + n) j = some (ca (R.getD j 0))) → ∃ N', drive k143 fuel 4 [.inr (.inr (some (150 + n))), .inl (nI ((R.take i).filter (lvF S)).length), .inl (nI i)] N = some (some (.inl (b2 (decide ((R.filter (lvF S)).length < 4)))), h_pi N' 405 (150 + n) (nI (R.filter (lvF S)).length)) ∧ rcO n M N' ∧ kp [] [30] M N' ∧ (∀ j, j < (R.filter (lvF S)).length → h_ar N' (170 + n) j = some (ca ((R.filter (lvF S)).getD j 0)))
  | 0, i, N, fuel, hi, hf, ho, hk, h1, h2 => by
    obtain ⟨g, rfl⟩ : ∃ g, fuel = g + 1 := ⟨fuel - 1, by omega⟩
    have n8 := hI.bs.2.1.2
    have hho := hN.ho hn hG
    have e : i = R.length := by omega
    subst e
    rw [List.take_length] at h1 ⊢
    have l4 : (R.filter (lvF S)).length ≤ 4 := Nat.le_trans (List.length_filter_le _ _) hho.2.2.2.1.2.1
    have tN : h_tg N (150 + n) = 5 := by rw [ho.2.1.1]; exact hI.ho0 hn
    have g405 : g_i N 4 5 (some (150 + n)) = some (nI R.length) := (g_i_t (ci := 4) tN).trans (congrArg some (by show h_fi N 405 (150 + n) = _; rw [ho.1.1]; exact hho.2.2.2.1.1))
    refine ⟨N, dr_end ?_, ho, hk, h1⟩
    show b143_4 (150 + n) _ (nI R.length) N = _
    unfold b143_4
    have g405' : g_i (h_pi N 405 (150 + n) (nI (R.filter (lvF S)).length)) 4 5 (some (150 + n)) = some (nI (R.filter (lvF S)).length) := (g_i_t (M := h_pi N 405 (150 + n) (nI (R.filter (lvF S)).length)) (ci := 4) tN).trans (congrArg some (by show h_fi (h_pi N 405 (150 + n) (nI (R.filter (lvF S)).length)) 405 (150 + n) = _; rw [fi_eq, u1_eq]))
    rw [bd_s g405, if_pos (Int32.le_refl _), bd_s (show p_i N 4 5 (some (150 + n)) (nI (R.filter (lvF S)).length) = some (h_pi N 405 (150 + n) (nI (R.filter (lvF S)).length)) from p_i_t (ci := 4) tN), bd_s g405']
    by_cases q : (R.filter (lvF S)).length < 4
    · rw [if_neg (show ¬ (4 : Int32) ≤ nI (R.filter (lvF S)).length from nI_ge (b := 4) q (by omega)), decide_eq_true q]; rfl
    · rw [if_pos (show (4 : Int32) ≤ nI (R.filter (lvF S)).length from nI_le (a := 4) (by omega) (by omega)), decide_eq_false q]; rfl
  | d + 1, i, N, fuel, hi, hf, ho, hk, h1, h2 => by
    obtain ⟨g, rfl⟩ : ∃ g, fuel = g + 1 := ⟨fuel - 1, by omega⟩
    have n8 := hI.bs.2.1.2
    have hho := hN.ho hn hG
    have hR4 := hho.2.2.2.1.2.1
    have hiR : i < R.length := by omega
    have hmem : R.getD i 0 ∈ R := by rw [List.getD_eq_getElem?_getD, List.getElem?_eq_getElem hiR]; exact List.getElem_mem hiR
    obtain ⟨hc, hhc⟩ := hho.2.2.2.1.2.2.2.2.1 _ hmem
    obtain ⟨ph, ph13, tc, e10, e56, e59, -⟩ := ph_e hN hc
    have tN : h_tg N (150 + n) = 5 := by rw [ho.2.1.1]; exact hI.ho0 hn
    have tr : h_tg N (170 + n) = 30 := by rw [ho.2.1.1]; exact hI.ho7 hn
    have lr : h_ln N (170 + n) = 4 := by rw [ho.2.1.2.1]; exact hI.ho8 hn
    have tcN : h_tg N (ca (R.getD i 0)) = 1 := by rw [ho.2.1.1]; exact tc
    have g405 : g_i N 4 5 (some (150 + n)) = some (nI R.length) := (g_i_t (ci := 4) tN).trans (congrArg some (by show h_fi N 405 (150 + n) = _; rw [ho.1.1]; exact hho.2.2.2.1.1))
    have g404 : g_r N 4 4 (some (150 + n)) = some (some (170 + n)) := (g_r_t (ci := 4) tN).trans (congrArg some (by show h_fr N 404 (150 + n) = _; rw [ho.1.2.2.1]; exact hI.ho4 hn))
    have gal : al_r N 30 (some (170 + n)) (nI i) = some (some (ca (R.getD i 0))) := (al_r_t tr (by rw [lr]; omega) (by omega)).trans (congrArg some (h2 i (Nat.le_refl _) hiR))
    have g47 := f47_eq (M := N) (a := ca (R.getD i 0)) tcN (by rw [ho.1.1]; exact e10) ph13
    have kl : ((R.take i).filter (lvF S)).length ≤ i := by
      have h3 := List.length_filter_le (lvF S) (R.take i)
      have h4 := List.length_take_le i R
      omega
    by_cases q : S.1 59 (R.getD i 0) = -1
    · have dl : decide (3 < ph) = false := by have := e59.mpr q; simp; omega
      rw [dl] at g47
      have eF : (R.take (i + 1)).filter (lvF S) = (R.take i).filter (lvF S) ++ [R.getD i 0] := by
        rw [tak1 hiR, List.filter_append]
        congr 1
        rw [List.filter_cons_of_pos (by unfold lvF; exact decide_eq_true q), List.filter_nil]
      have st : k143 4 [.inr (.inr (some (150 + n))), .inl (nI ((R.take i).filter (lvF S)).length), .inl (nI i)] N = some (.inr (4, [.inr (.inr (some (150 + n))), .inl (nI ((R.take (i + 1)).filter (lvF S)).length), .inl (nI (i + 1))], h_qr N (170 + n) ((R.take i).filter (lvF S)).length (some (ca (R.getD i 0))))) := by
        show b143_4 (150 + n) _ (nI i) N = _
        unfold b143_4
        rw [bd_s g405, if_neg (nI_ge hiR (by omega)), bd_s g404, bd_s gal, bd_s (g_o_t (ci := 0) tcN), bd_s (c_I_of g47), if_pos (show b2 false = 0 from rfl), bd_s g404, bd_s g404, bd_s gal, bd_s (as_r_t (ci := 0) tr (by rw [lr]; omega) (by omega) tcN)]
        unfold b143_39
        rw [nI_1, nI_1, eF, List.length_append]
        rfl
      have hO' : rcO n M (h_qr N (170 + n) ((R.take i).filter (lvF S)).length (some (ca (R.getD i 0)))) := ⟨ho.1, ho.2.1, fun a ha => (funext fun _ => u2_nk ha).trans (ho.2.2 a ha)⟩
      have hk' : kp [] [30] M (h_qr N (170 + n) ((R.take i).filter (lvF S)).length (some (ca (R.getD i 0)))) := hk.tr (k_hqr hk.1 tr (by decide)) rfl rfl
      rw [dr_go st]
      refine k143_lp hI hN hn hG d (i + 1) _ g (by omega) (by omega) hO' hk' (fun j hj => ?_) (fun j q1 q2 => ?_)
      · rw [eF] at hj ⊢
        rw [List.length_append] at hj
        have hj : j < ((R.take i).filter (lvF S)).length + 1 := hj
        by_cases e : j = ((R.take i).filter (lvF S)).length
        · subst e
          rw [getD_ap2]
          exact u2_eq
        · rw [getD_ap1 (by omega)]
          exact (u2_ne e).trans (h1 j (by omega))
      · exact (u2_ne (by omega)).trans (h2 j (by omega) q2)
    · have dl : decide (3 < ph) = true := by
        have : ¬ ph ≤ 3 := fun z => q (e59.mp z)
        simp; omega
      rw [dl] at g47
      have eF : (R.take (i + 1)).filter (lvF S) = (R.take i).filter (lvF S) := by
        rw [tak1 hiR, List.filter_append]
        rw [List.filter_cons_of_neg (show ¬ lvF S (R.getD i 0) = true from fun z => q (of_decide_eq_true z)), List.filter_nil, List.append_nil]
      have st : k143 4 [.inr (.inr (some (150 + n))), .inl (nI ((R.take i).filter (lvF S)).length), .inl (nI i)] N = some (.inr (4, [.inr (.inr (some (150 + n))), .inl (nI ((R.take (i + 1)).filter (lvF S)).length), .inl (nI (i + 1))], N)) := by
        show b143_4 (150 + n) _ (nI i) N = _
        unfold b143_4
        rw [bd_s g405, if_neg (nI_ge hiR (by omega)), bd_s g404, bd_s gal, bd_s (g_o_t (ci := 0) tcN), bd_s (c_I_of g47), if_neg (show ¬ b2 true = 0 by decide)]
        unfold b143_39
        rw [nI_1, eF]
      rw [dr_go st]
      refine k143_lp hI hN hn hG d (i + 1) N g (by omega) (by omega) ho hk (fun j hj => ?_) (fun j q1 q2 => h2 j (by omega) q2)
      rw [eF] at hj ⊢
      exact h1 j hj
/-- how many commands a host has now -/
theorem cn_fl {p : Nat → Bool} : ∀ k, cn p k = ((List.range k).filter p).length
  | 0 => rfl
  | k + 1 => by
    show cn p k + _ = _
    rw [cn_fl k, List.range_succ, List.filter_append, List.length_append]
    by_cases q : p k = true
    · rw [if_pos q, List.filter_cons_of_pos q]; rfl
    · rw [if_neg q, List.filter_cons_of_neg q]; rfl
theorem now_eq (hN : NR nd M S t nc ca hh lv jj G) (hn : n < nd) (hG : G n = .inl R) : cn (fun c => decide (hh c = n ∧ S.1 59 c = -1)) nc = (R.filter (lvF S)).length := by
  have hho := hN.ho hn hG
  obtain ⟨-, -, -, hp, hm, hl⟩ := hho.2.2.2.1
  rw [cn_fl]
  refine List.Perm.length_eq ((List.perm_ext_iff_of_nodup ?_ ?_).mpr (fun c => ?_))
  · exact List.Nodup.sublist List.filter_sublist List.nodup_range
  · exact List.Nodup.sublist List.filter_sublist (hp.imp (fun h => Nat.ne_of_lt h))
  · rw [List.mem_filter, List.mem_filter, List.mem_range]
    constructor
    · rintro ⟨q1, q2⟩
      have q2 := of_decide_eq_true q2
      exact ⟨hl c q1 q2.1 q2.2, decide_eq_true q2.2⟩
    · rintro ⟨q1, q2⟩
      obtain ⟨z1, z2⟩ := hm c q1
      exact ⟨z1, decide_eq_true ⟨z2, of_decide_eq_true q2⟩⟩
end RM
