/-! ===== read and write: what a new command changes ===== -/
section BG
variable {sw nd rm : Nat} {M M' N : hM} {S T : sT} {ia : Nat → Nat → Int32} {w t x y z zb sb nc c s p n m i a b f j d r : Nat} {pe : Nat → Option Nat} {wo : Nat → Nat} {fl fm : Nat → List (List Int32)} {kR : Nat → rK} {ka : Nat → Nat → Nat} {tog : Nat → Bool} {ca hh : Nat → Nat} {lv : Nat → Bool} {jj : Nat → Nat} {G : Nat → nG} {v v1 v2 v3 v4 v5 v6 : Int32} {R : List Nat} {w6 : Int64} {wr un bl : Nat}
theorem dkb (hN : NR nd M S t nc ca hh lv jj G) (hb : bk M) {q : Nat × List oE} (hm : m < nd) (e : G m = .inr q) : 1000 ≤ q.1 ∧ q.1 + 16 ≤ h_sz M := by
  have := hN.2.2.1 m hm
  rw [e] at this
  obtain ⟨z, -, -, hw⟩ := this.1.2.1
  have := hb.lt (a := q.1 + 5 + 2 * 5) (by rw [(hw 5 (by omega)).2.2.2.1]; decide)
  exact ⟨z, by omega⟩
theorem cab (hN : NR nd M S t nc ca hh lv jj G) (hb : bk M) (hc : c < nc) : 1000 ≤ ca c ∧ ca c + 1 < h_sz M := by
  obtain ⟨⟨-, q, -⟩, wr, un, bl, m, d, ph, bg, pa, cb, p1, -⟩ := hN.1.2.1 c hc
  exact ⟨q, hb.lt (by rw [p1.2.2.1]; decide)⟩
/-- a host's row without those that have ended -/
theorem NR_rec (hN : NR nd M S t nc ca hh lv jj G) (hI : cI sw nd rm M) (hb : bk M) (hn : n < nd) (hG : G n = .inl R) (ho : rcO n M N) (hr : ∀ j, j < (R.filter (lvF S)).length → h_ar N (170 + n) j = some (ca ((R.filter (lvF S)).getD j 0))) : NR nd (h_pi N 405 (150 + n) (nI (R.filter (lvF S)).length)) S t nc ca hh lv jj (u1 G n (.inl (R.filter (lvF S)))) := by
  have n8 := hI.bs.2.1.2
  obtain ⟨⟨o1, o2, o3, o4, o5⟩, ⟨o6, o7, o8, o9⟩, o10⟩ := ho
  have fi : ∀ k b, (k ≠ 405 ∨ b ≠ 150 + n) → h_fi (h_pi N 405 (150 + n) (nI (R.filter (lvF S)).length)) k b = h_fi M k b := fun k b q => by
    rw [← o1]
    show (if k = 405 ∧ b = 150 + n then _ else h_fi N k b) = _
    rw [if_neg (fun z => q.elim (fun y => y z.1) (fun y => y z.2))]
  have fr : h_fr (h_pi N 405 (150 + n) (nI (R.filter (lvF S)).length)) = h_fr M := o3
  have fl' : h_fl (h_pi N 405 (150 + n) (nI (R.filter (lvF S)).length)) = h_fl M := o2
  have ai : h_ai (h_pi N 405 (150 + n) (nI (R.filter (lvF S)).length)) = h_ai M := o4
  have al : h_al (h_pi N 405 (150 + n) (nI (R.filter (lvF S)).length)) = h_al M := o5
  have tg : h_tg (h_pi N 405 (150 + n) (nI (R.filter (lvF S)).length)) = h_tg M := o6
  have ln : h_ln (h_pi N 405 (150 + n) (nI (R.filter (lvF S)).length)) = h_ln M := o7
  have ar : ∀ a, a ≠ 170 + n → h_ar (h_pi N 405 (150 + n) (nI (R.filter (lvF S)).length)) a = h_ar M a := o10
  have e405 : h_fi (h_pi N 405 (150 + n) (nI (R.filter (lvF S)).length)) 405 (150 + n) = nI (R.filter (lvF S)).length := by rw [fi_eq, u1_eq]
  have ar' : ∀ j, j < (R.filter (lvF S)).length → h_ar (h_pi N 405 (150 + n) (nI (R.filter (lvF S)).length)) (170 + n) j = some (ca ((R.filter (lvF S)).getD j 0)) := hr
  have hho := hN.ho hn hG
  have hN0 := hN
  obtain ⟨⟨b1, b4, b5, b6⟩, b7, b8, b9⟩ := hN
  generalize h_pi N 405 (150 + n) (nI (R.filter (lvF S)).length) = P at *
  refine ⟨⟨?_, fun c hc => ?_, b5, b6⟩, fun m hm => ?_, fun m hm => ?_, fun m m' q r hm hm' hne e1 e2 => ?_⟩
  · rw [fi _ _ (Or.inl (by decide))]; exact b1
  · obtain ⟨⟨c1, c2, c3⟩, hc2⟩ := b4 c hc
    refine ⟨⟨by rw [ar 7 (by omega)]; exact c1, c2, c3⟩, hc2.cg (fun k' _ => fi _ _ (Or.inl (by omega))) (by rw [fl']) (by rw [fr]) ⟨by rw [tg], by rw [tg], by rw [ln]⟩ (by rw [al]) (fun _ _ _ => rfl) (fun _ _ => rfl)⟩
  · rw [fi _ _ (Or.inl (by decide))]; exact b7 m hm
  · by_cases mn : m = n
    · subst mn
      rw [u1_eq]
      obtain ⟨y1, ⟨y2, y2', y2''⟩, y3, ⟨y4, y5, y6, y7, y8, y9⟩, y10⟩ := hho
      refine ⟨?_, ⟨?_, y2', y2''⟩, fun d hd => ?_, ⟨e405, Nat.le_trans (List.length_filter_le _ _) y5, ar', y7.sublist List.filter_sublist, fun c hc => y8 c (List.mem_filter.mp hc).1, fun c hc hm' e => List.mem_filter.mpr ⟨y9 c hc hm' e, decide_eq_true e⟩⟩, y10⟩
      · rw [fr]; exact y1
      · rw [fi _ _ (Or.inl (by decide))]; exact y2
      · rw [ai]; exact y3 d hd
    · rw [u1_ne mn]
      refine noR_cg (b8 m hm) (fun k => by rw [fr]) (fun k => fi _ _ (Or.inr (by omega))) (by rw [ai]) (ar _ (by omega)) (fun dk OL e => ⟨fun a q1 q2 => ?_, ?_⟩) (fun _ _ _ _ => rfl) rfl ⟨rfl, rfl⟩ (fun c hc hm' => ⟨hc, hm', rfl⟩) (fun c hc hm' => ⟨hc, hm', rfl⟩)
      · have := (dkb hN0 hb hm e).1
        have : 1000 ≤ dk := this
        exact ⟨fun k => ⟨fi _ _ (Or.inr (by omega)), by rw [fr]⟩, ⟨by rw [ai], by rw [al], ar _ (by omega)⟩, by rw [tg], by rw [ln]⟩
      · have := b8 m hm
        rw [e] at this
        exact this.2.2
  · by_cases m1 : m = n
    · subst m1; rw [u1_eq] at e1; cases e1
    · by_cases m2 : m' = n
      · subst m2; rw [u1_eq] at e2; cases e2
      · rw [u1_ne m1] at e1
        rw [u1_ne m2] at e2
        exact b9 m m' q r hm hm' hne e1 e2
/-- the reference's state with a new command -/
def cSt (S T : sT) (nc n t wr d un bl m : Nat) (w6 : Int64) : Prop := ks [34, 47, 48, 49, 50, 51, 52, 53, 54, 55, 56, 57, 58, 59, 60] S T ∧ (∀ k i, 48 ≤ k → k ≤ 60 → i ≠ nc → T.1 k i = S.1 k i) ∧ T.1 47 0 = nI (nc + 1) ∧ T.1 34 = u1 (S.1 34) n 1 ∧ (T.1 48 nc = nI n ∧ T.1 49 nc = nI d ∧ T.1 50 nc = nI wr ∧ T.1 51 nc = nI un ∧ T.1 52 nc = nI bl ∧ T.1 53 nc = nI m) ∧ (T.1 55 nc = 0 ∧ T.1 56 nc = 0 ∧ T.1 57 nc = nI t ∧ T.1 58 nc = nI t ∧ T.1 59 nc = -1) ∧ (∀ i, (i < 4 * nc ∨ 4 * nc + 4 ≤ i) → T.2 54 i = S.2 54 i) ∧ (wr = 0 → ∀ k, k < 4 → T.2 54 (4 * nc + k) = 0) ∧ (wr = 1 → ∀ k, k < m → T.2 54 (4 * nc + k) = w6 + Int32.toInt64 (nI k))
/-- the class's heap with a new command -/
def cmN (M : hM) (n nc r t wr d un bl m : Nat) (w6 : Int64) : hM := T10 (cmF (h_fi M) (h_sz M) n nc r t (nI wr) (nI d) (nI un) (nI bl) (nI m)) (u2 (h_fl M) 4 (h_sz M) w6) (u2 (h_fr M) 5 (h_sz M) (some (h_sz M + 1))) (h_ai M) (h_al M) (u2 (u2 (h_ar M) 7 nc (some (h_sz M))) (170 + n) r (some (h_sz M))) (u1 (h_ln M) (h_sz M + 1) 4) (u1 (u1 (h_tg M) (h_sz M) 1) (h_sz M + 1) 23) (h_sz M + 2) (h_sl M + 18)
theorem cmF_o {f : Nat → Nat → Int32} {k : Nat} (h1 : b ≠ a) (h2 : ¬ (k = 1107 ∧ b = 1)) (h3 : ¬ (b = 150 + n ∧ (k = 402 ∨ k = 405))) : cmF f a n nc r t v1 v2 v3 v4 v5 k b = f k b := by
  unfold cmF
  rw [u2_ne h1, u2_ne h1, u2_ne h1]
  have e4 : ∀ (g : Nat → Nat → Int32) (u : Int32), u2 g 405 (150 + n) u k b = g k b := fun g u => if_neg (fun q => h3 ⟨q.2, Or.inr q.1⟩)
  have e5 : ∀ (g : Nat → Nat → Int32) (u : Int32), u2 g 402 (150 + n) u k b = g k b := fun g u => if_neg (fun q => h3 ⟨q.2, Or.inl q.1⟩)
  have e6 : ∀ (g : Nat → Nat → Int32) (u : Int32), u2 g 1107 1 u k b = g k b := fun g u => if_neg h2
  rw [e4, e5, e6, u2_ne h1, u2_ne h1, u2_ne h1, u2_ne h1, u2_ne h1, u2_ne h1, u2_ne h1]
theorem NR_cmd (hN : NR nd M S t nc ca hh lv jj G) (hI : cI sw nd rm M) (hb : bk M) (hz : 1000 ≤ h_sz M) (hn : n < nd) (hG : G n = .inl R) (hr : R.length = r) (hr4 : r < 4) (hc3 : nc < 300) (hlv : lv n = true) (hwr : wr ≤ 1) (hun : un ≤ 1) (hd : d < nd) (hm : 1 ≤ m ∧ m ≤ 4 ∧ bl + m ≤ 16) (hbN : bk (cmN M n nc r t wr d un bl m w6)) (hS : cSt S T nc n t wr d un bl m w6) (ht : t ≤ 200000) : NR nd (cmN M n nc r t wr d un bl m w6) T t (nc + 1) (u1 ca nc (h_sz M)) (u1 hh nc n) lv jj (u1 G n (.inl (R ++ [nc]))) := by
  have n8 := hI.bs.2.1.2
  have hho := hN.ho hn hG
  have cb := fun c (hc : c < nc) => cab hN hb hc
  have db := fun m q (hm : m < nd) (e : G m = .inr q) => dkb hN hb hm e
  obtain ⟨l, q1, q2, q3, ⟨r1, r2, r3, r4, r5, r6⟩, ⟨r7, r8, r9, r10, r11⟩, q4, q5, q6⟩ := hS
  obtain ⟨⟨b1, b4, b5, b6⟩, b7, b8, b9⟩ := hN
  -- what is where
  have fi : ∀ k b, b ≠ h_sz M → ¬ (k = 1107 ∧ b = 1) → ¬ (b = 150 + n ∧ (k = 402 ∨ k = 405)) → h_fi (cmN M n nc r t wr d un bl m w6) k b = h_fi M k b := fun k b h1 h2 h3 => cmF_o h1 h2 h3
  have fa : ∀ k b, h_fi (cmN M n nc r t wr d un bl m w6) k b = cmF (h_fi M) (h_sz M) n nc r t (nI wr) (nI d) (nI un) (nI bl) (nI m) k b := fun k b => rfl
  have f1107 : h_fi (cmN M n nc r t wr d un bl m w6) 1107 1 = nI nc + 1 := by
    rw [fa]; unfold cmF u2; simp
  have f402 : h_fi (cmN M n nc r t wr d un bl m w6) 402 (150 + n) = 1 := by
    rw [fa]; unfold cmF u2; simp
  have f405 : h_fi (cmN M n nc r t wr d un bl m w6) 405 (150 + n) = nI r + 1 := by
    rw [fa]; unfold cmF u2; simp
  have flv : ∀ b, b ≠ h_sz M → h_fl (cmN M n nc r t wr d un bl m w6) 4 b = h_fl M 4 b := fun b hb => u2_ne hb
  have fr : ∀ k b, b ≠ h_sz M → h_fr (cmN M n nc r t wr d un bl m w6) k b = h_fr M k b := fun k b hb => u2_ne hb
  have ai : h_ai (cmN M n nc r t wr d un bl m w6) = h_ai M := rfl
  have al : h_al (cmN M n nc r t wr d un bl m w6) = h_al M := rfl
  have ar : ∀ b, b ≠ 7 → b ≠ 170 + n → h_ar (cmN M n nc r t wr d un bl m w6) b = h_ar M b := fun b h1 h2 => funext fun j => (u2_nk h2).trans (u2_nk h1)
  have a7 : ∀ j, h_ar (cmN M n nc r t wr d un bl m w6) 7 j = if j = nc then some (h_sz M) else h_ar M 7 j := fun j => by
    show u2 (u2 (h_ar M) 7 nc (some (h_sz M))) (170 + n) r (some (h_sz M)) 7 j = _
    rw [u2_nk (by omega)]
    unfold u2
    by_cases e : j = nc
    · rw [if_pos ⟨rfl, e⟩, if_pos e]
    · rw [if_neg (fun z => e z.2), if_neg e]
  have a17 : ∀ j, h_ar (cmN M n nc r t wr d un bl m w6) (170 + n) j = if j = r then some (h_sz M) else h_ar M (170 + n) j := fun j => by
    show u2 (u2 (h_ar M) 7 nc (some (h_sz M))) (170 + n) r (some (h_sz M)) (170 + n) j = _
    unfold u2
    by_cases e : j = r
    · rw [if_pos ⟨rfl, e⟩, if_pos e]
    · rw [if_neg (fun z => e z.2), if_neg e, if_neg (fun z => absurd z.1 (by omega))]
  have tg : ∀ b, b < h_sz M → h_tg (cmN M n nc r t wr d un bl m w6) b = h_tg M b := fun b hb => by
    show u1 (u1 (h_tg M) (h_sz M) 1) (h_sz M + 1) 23 b = _
    rw [u1_ne (by omega), u1_ne (by omega)]
  have ln : ∀ b, b < h_sz M → h_ln (cmN M n nc r t wr d un bl m w6) b = h_ln M b := fun b hb => by
    show u1 (h_ln M) (h_sz M + 1) 4 b = _
    rw [u1_ne (by omega)]
  have ta : h_tg (cmN M n nc r t wr d un bl m w6) (h_sz M) = 1 ∧ h_tg (cmN M n nc r t wr d un bl m w6) (h_sz M + 1) = 23 ∧ h_ln (cmN M n nc r t wr d un bl m w6) (h_sz M + 1) = 4 := by
    refine ⟨?_, u1_eq, u1_eq⟩
    show u1 (u1 (h_tg M) (h_sz M) 1) (h_sz M + 1) 23 (h_sz M) = _
    rw [u1_ne (by omega), u1_eq]
  have fra : h_fr (cmN M n nc r t wr d un bl m w6) 5 (h_sz M) = some (h_sz M + 1) := u2_eq
  have fla : h_fl (cmN M n nc r t wr d un bl m w6) 4 (h_sz M) = w6 := u2_eq
  have za := hb (h_sz M) (Nat.le_refl _)
  have za1 := hb (h_sz M + 1) (by omega)
  have val : h_fi (cmN M n nc r t wr d un bl m w6) 0 (h_sz M) = nI wr ∧ h_fi (cmN M n nc r t wr d un bl m w6) 1 (h_sz M) = nI un ∧ h_fi (cmN M n nc r t wr d un bl m w6) 2 (h_sz M) = nI bl ∧ h_fi (cmN M n nc r t wr d un bl m w6) 3 (h_sz M) = nI m ∧ h_fi (cmN M n nc r t wr d un bl m w6) 7 (h_sz M) = nI nc ∧ h_fi (cmN M n nc r t wr d un bl m w6) 8 (h_sz M) = nI d ∧ h_fi (cmN M n nc r t wr d un bl m w6) 10 (h_sz M) = 0 ∧ h_fi (cmN M n nc r t wr d un bl m w6) 11 (h_sz M) = nI t ∧ h_fi (cmN M n nc r t wr d un bl m w6) 12 (h_sz M) = nI t ∧ h_fi (cmN M n nc r t wr d un bl m w6) 13 (h_sz M) = -1 ∧ h_fi (cmN M n nc r t wr d un bl m w6) 6 (h_sz M) = 0 := by
    refine ⟨?_, ?_, ?_, ?_, ?_, ?_, ?_, ?_, ?_, ?_, ?_⟩ <;> rw [fa] <;> unfold cmF u2 <;> simp
    exact (za.2.2.1 6).1
  generalize cmN M n nc r t wr d un bl m w6 = P at *
  have ua : ∀ c, c ≠ nc → u1 ca nc (h_sz M) c = ca c := fun c hc => u1_ne hc
  have uh : ∀ c, c ≠ nc → u1 hh nc n c = hh c := fun c hc => u1_ne hc
  refine ⟨⟨⟨?_, q2, by omega⟩, fun c hc => ?_, fun c c' hc hc' e => ?_, fun c k h1 h2 h3 => ?_⟩, fun m hm => ?_, fun mm hmm => ?_, fun mm m' q r' hmm hmm' hne e1 e2 => ?_⟩
  · rw [f1107, nI_1]
  · by_cases e : c = nc
    · subst e
      rw [u1_eq, u1_eq]
      obtain ⟨w0, w1, w2, w3, w7, w8, w10, w11, w12, w13, w6'⟩ := val
      refine ⟨⟨by rw [a7, if_pos rfl], hz, hn⟩, wr, un, bl, m, d, 0, t, t, 0, ⟨ta.1, fra, ta.2.1, ta.2.2⟩, ⟨w0, r3, hwr⟩, ⟨⟨w1, r4, hun⟩, ⟨w2, r5⟩, ⟨w3, r6, hm⟩⟩, ⟨w7, r1, w8, r2, hd⟩, ⟨w10, r8, Or.inl (by omega)⟩, ⟨⟨w11, r10, Nat.le_refl _⟩, ⟨w12, r9, Nat.le_refl _⟩, by rw [w13, r11], ⟨fun _ => r11, fun _ => by omega⟩⟩, fun h1 _ => by omega, ⟨w6', r7, by omega⟩, ⟨fun h1 k hk => ?_, fun h1 k hk => ?_⟩, fun _ => ⟨?_, fun _ => ?_, fun h1 => by omega⟩⟩
      · rw [al, (za1.2.2.2 k).2.1, q5 h1 k hk]
      · rw [fla]; exact q6 h1 k hk
      · unfold dln; rw [if_pos (by omega)]; omega
      · unfold dln; rw [if_pos (by omega)]; omega
    · have hc' : c < nc := by omega
      rw [ua c e, uh c e]
      obtain ⟨⟨c1, c2, c3⟩, hc2⟩ := b4 c hc'
      obtain ⟨z1, z2⟩ := cb c hc'
      refine ⟨⟨by rw [a7, if_neg e]; exact c1, c2, c3⟩, hc2.cg (fun k' hk => fi _ _ (by omega) (fun z => by omega) (fun z => by omega)) (flv _ (by omega)) (fr _ _ (by omega)) ⟨tg _ (by omega), tg _ z2, ln _ z2⟩ (by rw [al]) (fun k' h1 h2 => q1 k' c h1 h2 e) (fun k' hk => q4 _ (by omega))⟩
  · by_cases e1 : c = nc
    · by_cases e2 : c' = nc
      · rw [e1, e2]
      · have := cb c' (by omega)
        rw [e1, u1_eq, ua c' e2] at e
        omega
    · by_cases e2 : c' = nc
      · have := cb c (by omega)
        rw [e2, u1_eq, ua c e1] at e
        omega
      · rw [ua c e1, ua c' e2] at e
        exact b5 c c' (by omega) (by omega) e
  · rw [q4 _ (by omega)]; exact b6 c k (by omega) h2 h3
  · rw [fi _ _ (by omega) (fun z => by omega) (fun z => by omega), l.i (j := 35) (by decide)]; exact b7 m hm
  · have s1 : ∀ k i, k ≤ 46 → k ≠ 34 → T.1 k i = S.1 k i := fun k i h1 h2 => congrFun (l k (fun q => by
      have : k = 34 ∨ 47 ≤ k := by revert q; simp; omega
      omega)).1 i
    by_cases mn : mm = n
    · subst mn
      rw [u1_eq]
      obtain ⟨y1, ⟨y2, y2', y2''⟩, y3, ⟨y4, y5, y6, y7, y8, y9⟩, ⟨y10, y11, y12, y13⟩⟩ := hho
      refine ⟨?_, ⟨?_, ?_, fun e => ?_⟩, fun d hd => ?_, ⟨?_, ?_, fun i hi => ?_, ?_, fun c hc => ?_, fun c hc hm' e => ?_⟩, ?_, ?_, ?_, fun i hi => ?_⟩
      · rw [fr _ _ (by omega), fr _ _ (by omega), s1 33 _ (by omega) (by omega)]; exact y1
      · rw [f402, q3, u1_eq]
      · rw [q3, u1_eq]; exact Or.inr rfl
      · rw [q3, u1_eq] at e; exact absurd e (by decide)
      · rw [ai, s1 39 _ (by omega) (by omega)]; exact y3 d hd
      · rw [f405, nI_1, List.length_append, hr]; rfl
      · rw [List.length_append, hr]; show r + 1 ≤ 4; omega
      · rw [List.length_append, hr] at hi
        have hi : i < r + 1 := hi
        rw [a17]
        by_cases e : i = r
        · subst e
          rw [if_pos rfl, ← hr, getD_ap2, u1_eq]
        · rw [if_neg e, getD_ap1 (by omega)]
          have hmem : R.getD i 0 ∈ R := by rw [List.getD_eq_getElem?_getD, List.getElem?_eq_getElem (by omega)]; exact List.getElem_mem _
          rw [ua _ (by have := (y8 _ hmem).1; omega)]
          exact y6 i (by omega)
      · refine List.pairwise_append.mpr ⟨y7, List.pairwise_singleton _ _, fun a ha b hb => ?_⟩
        rw [List.mem_singleton.mp hb]
        exact (y8 a ha).1
      · rcases List.mem_append.mp hc with hc | hc
        · obtain ⟨z1, z2⟩ := y8 c hc
          exact ⟨by omega, by rw [uh c (by omega)]; exact z2⟩
        · rw [List.mem_singleton.mp hc, u1_eq]; exact ⟨by omega, rfl⟩
      · by_cases ec : c = nc
        · rw [ec]; exact List.mem_append.mpr (Or.inr (List.mem_singleton.mpr rfl))
        · rw [uh c ec] at hm'
          rw [q1 59 c (by omega) (by omega) ec] at e
          exact List.mem_append.mpr (Or.inl (y9 c (by omega) hm' e))
      · rw [s1 41 _ (by omega) (by omega)]; exact y10
      · rw [s1 46 _ (by omega) (by omega)]; exact y11
      · rw [s1 43 _ (by omega) (by omega)]; exact y12
      · rw [l.l (j := 42) (by decide)]; exact y13 i hi
    · rw [u1_ne mn]
      refine noR_cg (b8 mm hmm) (fun k => fr _ _ (by omega)) (fun k => fi _ _ (by omega) (fun z => by omega) (fun z => by omega)) (by rw [ai]) (ar _ (by omega) (by omega)) (fun dk OL e => ⟨fun a q1 q2 => ?_, fun c hc => ?_⟩) s1 (by rw [q3, u1_ne mn]) ⟨l.l (by decide), l.l (by decide)⟩ (fun c hc hm' => ?_) (fun c hc hm' => ?_)
      · obtain ⟨z1, z2⟩ := db mm _ hmm e
        have z1 : 1000 ≤ dk := z1
        have z2 : dk + 16 ≤ h_sz M := z2
        exact ⟨fun k => ⟨fi _ _ (by omega) (fun z => by omega) (fun z => by omega), fr _ _ (by omega)⟩, ⟨by rw [ai], by rw [al], ar _ (by omega) (by omega)⟩, tg _ (by omega), ln _ (by omega)⟩
      · obtain ⟨z1, z2⟩ := db mm _ hmm e
        have z2 : dk + 16 ≤ h_sz M := z2
        by_cases ec : c = nc
        · rw [ec, u1_eq]; exact Or.inr z2
        · have := b8 mm hmm
          rw [e] at this
          rw [ua c ec]
          exact this.2.2 c (by omega)
      · by_cases ec : c = nc
        · rw [ec, u1_eq] at hm'; exact absurd hm'.symm mn
        · rw [uh c ec] at hm'
          exact ⟨by omega, hm', q1 59 c (by omega) (by omega) ec⟩
      · exact ⟨by omega, by rw [uh c (by omega)]; exact hm', ua c (by omega)⟩
  · by_cases m1 : mm = n
    · subst m1; rw [u1_eq] at e1; cases e1
    · by_cases m2 : m' = n
      · subst m2; rw [u1_eq] at e2; cases e2
      · rw [u1_ne m1] at e1
        rw [u1_ne m2] at e2
        exact b9 mm m' q r' hmm hmm' hne e1 e2
end BG
