/-! ===== a tick ===== -/
section TK
variable {sw nd rm : Nat} {M N : hM} {S T : sT} {ia : Nat → Nat → Int32} {w t x y zb sb nc : Nat} {pe : Nat → Option Nat} {wo : Nat → Nat} {fl : Nat → List (List Int32)} {kR : Nat → rK} {ka : Nat → Nat → Nat} {tog : Nat → Bool} {ca hh : Nat → Nat} {lv : Nat → Bool} {jj : Nat → Nat} {G : Nat → nG}
/-- between calls: what was sent may have been cut off -/
def FEw (sw nd rm : Nat) (pe : Nat → Option Nat) (M : hM) (S : sT) (fl : Nat → List (List Int32)) : Prop := FLl fl ∧ (∀ k, k < 3 → S.1 5 k = 0) ∧ CRd sw nd M S fl ∧ CRu rm M S pe fl ∧ True ∧ ∀ x, sd sw nd x → h_fi M 813 (200 + x) = S.1 21 x
def TW (sw nd rm : Nat) (M : hM) (S : sT) (ia : Nat → Nat → Int32) (w : Nat) (pe : Nat → Option Nat) (wo : Nat → Nat) (t zb sb : Nat) (fl : Nat → List (List Int32)) (kR : Nat → rK) (ka : Nat → Nat → Nat) (tog : Nat → Bool) : Prop :=
  SB sw nd rm M S ia w pe wo t zb sb fl fl [] [] kR ka tog ∧ FEw sw nd rm pe M S fl ∧ OWN sw pe kR
def fx22 (fl : Nat → List (List Int32)) (S : sT) : sT := (fun k i => if k = 22 then (if fl i = [] then 0 else 1) else S.1 k i, S.2)
theorem fx22_a : ks [22] S (fx22 fl S) := fun k hk => ⟨funext fun i => if_neg (fun q => hk (by rw [q]; exact List.mem_singleton.mpr rfl)), rfl⟩
theorem fx22_b : ks [22] (fx22 fl S) S := fun k hk => ⟨(fx22_a k hk).1.symm, rfl⟩
theorem FE.tow (h : FE sw nd rm pe M S fl) : FEw sw nd rm pe M S fl := ⟨h.1, h.2.1, h.2.2.1, h.2.2.2.1, trivial, h.2.2.2.2.2⟩
theorem FEw.keep {M' : hM} {F A G : List Nat} {fm : Nat → List (List Int32)} (h : FEw sw nd rm pe M S fl) (k : kp F A M M') (hF : [806, 807, 813].all (fun x => ! F.contains x) = true) (l : ks G S T) (hG : [5, 12, 14, 20, 21].all (fun x => ! G.contains x) = true) (q : qx S fl fm) (hx48 : ∀ x y, pe x = some y → x < 48 ∧ y < 48) : FEw sw nd rm pe M' T fm := by
  have qF : ∀ x, x ∈ [806, 807, 813] → F.contains x = false := fun x hx => by have := List.all_eq_true.mp hF x hx; simpa using this
  have qG : ∀ x, x ∈ [5, 12, 14, 20, 21] → T.1 x = S.1 x := fun x hx => l.i (by have := List.all_eq_true.mp hG x hx; simpa using this)
  have eu : ∀ z, upS T z = upS S z := fun z => by unfold upS; rw [qG 14 (by decide), qG 12 (by decide)]
  obtain ⟨h1, h2, h3, h4, h5, h6⟩ := h
  refine ⟨q.l h1, by rw [qG 5 (by decide)]; exact h2, fun x hx hu => ?_, fun x y e hu => ?_, trivial, fun x hx => ?_⟩
  · rw [eu] at hu
    rw [q.1 x (by omega), q.1 (48 + x) (by omega), (q.2 x hx).1 hu, qG 20 (by decide), k.fi (qF 806 (by decide)), k.fi (qF 807 (by decide))]
    exact h3 x hx hu
  · rw [eu] at hu
    obtain ⟨b1, b2⟩ := hx48 x y e
    rw [q.1 x (by omega), q.1 (48 + y) (by omega), qG 20 (by decide), k.fi (qF 806 (by decide)), k.fi (qF 807 (by decide))]
    exact h4 x y e hu
  · rw [k.fi (qF 813 (by decide)), qG 21 (by decide)]; exact h6 x hx
theorem TB.tw (h : TB sw nd rm M S ia w pe wo t zb sb fl kR ka tog) : TW sw nd rm M S ia w pe wo t zb sb fl kR ka tog := ⟨h.1, h.2.1.tow, h.2.2⟩
theorem TW.I (h : TW sw nd rm M S ia w pe wo t zb sb fl kR ka tog) : cI sw nd rm M := h.1.st.I
theorem TW.W (h : TW sw nd rm M S ia w pe wo t zb sb fl kR ka tog) : WI sw nd M S w pe wo := h.1.st.W
theorem TW.x48 (h : TW sw nd rm M S ia w pe wo t zb sb fl kR ka tog) : ∀ x y, pe x = some y → x < 48 ∧ y < 48 := fun x y e => ⟨h.I.x8 (h.W.sds e).1, h.I.x8 (h.W.sds e).2.1⟩
theorem SB.k22 (h : SB sw nd rm M S ia w pe wo t zb sb fl fl [] [] kR ka tog) (l : ks [22] S T) : SB sw nd rm M T ia w pe wo t zb sb fl fl [] [] kR ka tog := h.keep (kp.rf h.pb.bk : kp [] [] M M) (by decide) (by decide) l (by decide) (h.pb.ks l (by decide))
theorem TW.tb (h : TW sw nd rm M S ia w pe wo t zb sb fl kR ka tog) : TB sw nd rm M (fx22 fl S) ia w pe wo t zb sb fl kR ka tog := by
  obtain ⟨g1, g2, g3, g4, g5, g6⟩ := h.2.1.keep (kp.rf h.1.pb.bk : kp [] [] M M) (by decide) (fx22_a (fl := fl)) (by decide) qx.rf h.x48
  exact ⟨h.1.k22 fx22_a, ⟨g1, g2, g3, g4, fun x _ => (if_pos rfl : (if 22 = 22 then (if fl x = [] then (0 : Int32) else 1) else S.1 22 x) = _), g6⟩, h.2.2⟩
theorem TW.of (h : TB sw nd rm M (fx22 fl S) ia w pe wo t zb sb fl kR ka tog) : TW sw nd rm M S ia w pe wo t zb sb fl kR ka tog := by
  exact ⟨h.1.k22 fx22_b, h.2.1.tow.keep (kp.rf h.1.pb.bk : kp [] [] M M) (by decide) (fx22_b (fl := fl)) (by decide) qx.rf h.x48, h.2.2⟩
theorem fx22_u {k i : Nat} {v : Int32} (hk : k ≠ 22) : fx22 fl (s_u S k i v) = s_u (fx22 fl S) k i v := by
  refine Prod.ext (funext fun a => funext fun b => ?_) rfl
  show (if a = 22 then (if fl b = [] then 0 else 1) else (if a = k ∧ b = i then v else S.1 a b)) = (if a = k ∧ b = i then v else (if a = 22 then (if fl b = [] then 0 else 1) else S.1 a b))
  by_cases c : a = 22
  · rw [if_pos c, if_pos c, if_neg (show ¬ (a = k ∧ b = i) from fun q => hk (q.1.symm.trans c))]
  · rw [if_neg c, if_neg c]
theorem TW.tick (h : TW sw nd rm M S ia w pe wo t zb sb fl kR ka tog) (ht : t + 1 ≤ 200000) : TW sw nd rm (h_pi M 903 2 (nI (t + 1))) (s_u S 3 0 (nI (t + 1))) ia w pe wo (t + 1) zb sb fl kR ka tog := by
  have g := h.tb.tick ht
  rw [← fx22_u (by decide)] at g
  exact TW.of g
theorem P_arr {v1 v2 v3 : Int32} {fuel : Nat} (h0 : TW sw nd rm M S ia w pe wo t zb sb fl kR ka tog) (ht : t + 1 ≤ 200000) (hf : 20 < fuel) : ∃ M' S' fm k, drive k140 fuel 38 [.inr (.inr (some 1)), .inl v1, .inl v2, .inl v3, .inl (nI 0)] (h_pi M 903 2 (nI (t + 1))) = drive k140 (fuel - w - 1) 80 [.inr (.inr (some 1)), .inl v1, .inl (v2 + nI k), .inl v3, .inl (nI 0)] M' ∧ e231 S = sdrive kS231 (xF - 48 - 1 - 48 - 1) 152 [.inl (nI k), .inl (nI 0)] S' ∧ TB sw nd rm M' S' ia w pe wo (t + 1) zb sb fm kR ka tog ∧ kp [203, 300, 301, 302, 806, 807, 808, 903] [] M M' ∧ ks [3, 15, 16, 17, 20, 22] S S' := by
  have h := h0.tick ht
  have kt : kp [903] [] M (h_pi M 903 2 (nI (t + 1))) := k_hpi h0.1.pb.bk (by rw [h0.I.sh0]; decide)
  have lt' : ks [3] S (s_u S 3 0 (nI (t + 1))) := k_su
  have hS3 : s_p S 3 (s_g S 3 + 1) = some (s_u S 3 0 (nI (t + 1))) := by
    show some (s_u S 3 0 (S.1 3 0 + 1)) = _
    rw [h0.1.st.2.2.2.1.2.1, nI_1]
  generalize h_pi M 903 2 (nI (t + 1)) = M1 at *
  generalize s_u S 3 0 (nI (t + 1)) = S1 at *
  have hI := h.I
  have hW := h.W
  have h48 := h.x48
  obtain ⟨h1, ⟨f1, f2, f3, f4, f5, f6⟩, h3⟩ := h
  have hrm := h1.st.2.2.1.2.2
  have r4 := hI.bs.2.2.2
  obtain ⟨ct, c1, c2, c3, c4, c5, c6, c7⟩ := h1.pb
  have hun : ∀ x, x < 48 → pe x = none → fl x = [] := fun x hx q => ((f3 x hx (upS_no hW hx q)).1).1
  have hup : ∀ x y, pe x = some y → fl x ≠ [] → upS S1 x ≠ 0 := fun x y e q z => q ((f3 x (h48 x y e).1 z).1.1)
  have hroom : ∀ x y, pe x = some y → fl x ≠ [] → (fl (48 + y)).length < rm := fun x y e q => by
    obtain ⟨c, l, -, -, -, e5⟩ := f4 x y e (hup x y e q)
    have : 0 < (fl x).length := List.length_pos_iff.mpr q
    omega
  have hw16 := hW.1.2.2
  -- the class
  have cl0 : clD sw nd M1 ia ct zb sb fl pe (Pw pe wo 0) M1 := by
    have e : dlF fl pe (Pw pe wo 0) = fl := funext fun p => by
      have n0 : ∀ z, Pw pe wo 0 z = false := fun z => by unfold Pw; simp
      unfold dlF
      split
      · rw [n0, if_neg (by decide)]
      · split
        · cases pe (p - 48) with
          | none => rfl
          | some v => show (if Pw pe wo 0 v = true then _ else _) = _; rw [n0, if_neg (by decide)]
        · rfl
    have n0 : ∀ z, Pw pe wo 0 z = false := fun z => by unfold Pw; simp
    exact ⟨by rw [e]; exact c1, fun x _ => by rw [n0, if_neg (by decide), if_neg (by decide)]; exact ⟨rfl, rfl⟩, kp.rf h1.pb.bk⟩
  have a0 : arN fl (Pw pe wo 0) = 0 := by
    have : arN fl (Pw pe wo 0) = cn (fun _ => false) 48 := cn_eq 48 (fun z _ => by show (Pw pe wo 0 z && _) = false; unfold Pw; simp)
    rw [this]; decide
  obtain ⟨N, d1, d2, d3, d4⟩ := clD_lp (v1 := v1) (v2 := v2) (v3 := v3) hI hW c3 w 0 M1 fuel (by omega) (by omega) cl0
  rw [a0, show v2 + nI 0 = v2 from Int32.add_zero v2] at d1
  -- the reference
  obtain ⟨U, u1', u2', u3'⟩ := k231_14 (v := 0) 48 0 S1 xF (by omega) (by unfold xF; omega) (fun q hq => by omega)
  have hWU : WI sw nd M1 U w pe wo := by
    obtain ⟨b1, b2, b3, b4, b5, b6⟩ := hW
    refine ⟨?_, ?_, b3, fun x y e => ?_, fun i hi => ?_, fun x hx => ?_⟩
    · rw [u2'.i (by decide)]; exact b1
    · rw [u2'.i (by decide)]; exact b2
    · rw [u2'.i (by decide), u2'.i (by decide), u2'.i (by decide)]; exact b4 x y e
    · rw [u2'.i (by decide), u2'.i (by decide), u2'.i (by decide)]; exact b5 i hi
    · rw [upS_ks u2' (by decide) (by decide)]; exact b6 x hx
  have rf0 : rfD U fl pe (fun x => decide (x < 0)) U := by
    have e : dlF fl pe (fun x => decide (x < 0)) = fl := funext fun p => by
      unfold dlF
      split
      · rw [if_neg (by simp)]
      · split
        · cases pe (p - 48) with
          | none => rfl
          | some v => show (if decide (v < 0) = true then _ else _) = _; rw [if_neg (by simp)]
        · rfl
    exact ⟨by rw [e]; exact c2.cg u2' (by decide), ks.rf, fun x _ => by rw [if_neg (by simp)]⟩
  have b0 : arN fl (fun x => decide (x < 0)) = 0 := by
    have : arN fl (fun x => decide (x < 0)) = cn (fun _ => false) 48 := cn_eq 48 (fun z _ => by simp)
    rw [this]; decide
  obtain ⟨V, w1, w2, w3, w4⟩ := k231_35 h48 hWU (by rw [u2'.i (by decide)]; exact hrm) r4 c3 hun hroom 48 0 U (xF - 48 - 1) (by omega) (by unfold xF; omega) rf0
  rw [b0] at w1
  have kS : ks [15, 16, 17, 20, 22] S1 V := (ks.rf.tr u2' rfl : ks [15, 16, 17, 20, 22] S1 U).tr w3 rfl
  -- they agree
  have wired : ∀ x y, pe x = some y → Pw pe wo w x = true := fun x y e => by
    have := ((hW.2.2.2.1 x y e).2.1).2.1
    unfold Pw
    rw [e]; simp [this]
  have cnt : arN fl (Pw pe wo w) = arN fl (fun x => decide (x < 48)) := cn_eq 48 (fun z hz => by
    show (Pw pe wo w z && ! (fl z).isEmpty) = (decide (z < 48) && ! (fl z).isEmpty)
    cases q : pe z with
    | none => rw [hun z hz q]; simp
    | some y => rw [wired z y q, decide_eq_true hz])
  have same : ∀ p, p < 144 → dlF fl pe (Pw pe wo w) p = dlF fl pe (fun x => decide (x < 48)) p := fun p hp => by
    unfold dlF
    by_cases z : p < 48
    · rw [if_pos z, if_pos z, if_pos (show decide (p < 48) = true from decide_eq_true z)]
      cases q : pe p with
      | none => rw [hun p z q]; split <;> rfl
      | some y => rw [wired p y q, if_pos rfl]
    · rw [if_neg z, if_neg z]
      by_cases z2 : p < 96
      · rw [if_pos z2, if_pos z2]
        cases q : pe (p - 48) with
        | none => rfl
        | some v =>
          have hv := (h48 _ v q).2
          show (if Pw pe wo w v = true then _ else _) = (if decide (v < 48) = true then _ else _)
          rw [wired v _ (hW.sds q).2.2, if_pos rfl, if_pos (decide_eq_true hv)]
      · rw [if_neg z2, if_neg z2]
  have F0 : ∀ x, x < 48 → dlF fl pe (Pw pe wo w) x = [] := fun x hx => by
    rw [same x (by omega)]
    unfold dlF
    rw [if_pos hx, if_pos (decide_eq_true hx)]
  have F1 : ∀ x y, pe x = some y → dlF fl pe (Pw pe wo w) (48 + x) = fl (48 + x) ++ fl y := fun x y e => by
    have hx := (h48 x y e).1
    unfold dlF
    rw [if_neg (by omega), if_pos (by omega), show 48 + x - 48 = x by omega, e]
    show (if Pw pe wo w y = true then _ else _) = _
    rw [wired y x (hW.sds e).2.2, if_pos rfl]
  have F1' : ∀ x, x < 48 → pe x = none → dlF fl pe (Pw pe wo w) (48 + x) = fl (48 + x) := fun x hx e => by
    unfold dlF
    rw [if_neg (by omega), if_pos (by omega), show 48 + x - 48 = x by omega, e]
  have F2 : ∀ x, x < 48 → dlF fl pe (Pw pe wo w) (96 + x) = fl (96 + x) := fun x hx => by
    unfold dlF
    rw [if_neg (by omega), if_neg (by omega)]
  have FB' : FLb (dlF fl pe (Pw pe wo w)) := fun x hx => by
    refine ⟨by rw [F0 x hx]; show 0 ≤ 1; omega, ?_, by rw [F2 x hx]; exact (c3 x hx).2.2⟩
    cases q : pe x with
    | none => rw [F1' x hx q]; exact (c3 x hx).2.1
    | some y =>
      rw [F1 x y q, List.length_append]
      have hy := (h48 x y q).2
      by_cases zv : fl y = []
      · rw [zv]; exact (c3 x hx).2.1
      · have := hroom y x (hW.sds q).2.2 zv
        have := (c3 y hy).1
        omega
  have hP : PB sw nd N V ia zb sb (dlF fl pe (Pw pe wo w)) (dlF fl pe (Pw pe wo w)) [] [] := by
    have : PB sw nd N V ia zb sb (dlF fl pe (Pw pe wo w)) (dlF fl pe (fun x => decide (x < 48))) [] [] := ⟨ct, d2, w2, FB', fun x hx => by
      rw [← same x (by omega), ← same (48 + x) (by omega), ← same (96 + x) (by omega)]; exact FB' x hx, fun p p1 p2 => same p p2, by rw [kS.i (by decide)]; exact c6, c7⟩
    exact this.fls (fun _ _ => rfl) same
  have eu : ∀ z, upS V z = upS S1 z := fun z => upS_ks kS (by decide) (by decide)
  have v20 : ∀ x, x < 48 → V.1 20 x = 0 := fun x hx => by rw [w3.i (by decide)]; exact u3' x hx
  refine ⟨N, V, dlF fl pe (Pw pe wo w), arN fl (Pw pe wo w), d1, ?_, ⟨h1.keep d4 (by decide) (by decide) kS (by decide) hP, ⟨?_, ?_, ?_, ?_, ?_, ?_⟩, h3⟩, ((kp.rf h0.1.pb.bk : kp [203, 300, 301, 302, 806, 807, 808, 903] [] M M).tr kt rfl rfl).tr d4 rfl rfl, (ks.rf.tr lt' rfl : ks [3, 15, 16, 17, 20, 22] S S1).tr kS rfl⟩
  · show s_go kS231 (c231_0 S) = _
    unfold c231_0
    rw [bd_s hS3]
    show sdrive kS231 xF 14 [.inl 0, .inl (nI 0)] S1 = _
    rw [u1', cnt]
    exact w1
  · -- lengths
    intro p hp L hL
    by_cases z : p < 48
    · rw [F0 p z] at hL; cases hL
    by_cases z2 : p < 96
    · obtain ⟨x, rfl⟩ : ∃ x, p = 48 + x := ⟨p - 48, by omega⟩
      cases q : pe x with
      | none => rw [F1' x (by omega) q] at hL; exact f1 _ hp L hL
      | some y =>
        rw [F1 x y q] at hL
        rcases List.mem_append.mp hL with z3 | z3
        · exact f1 _ hp L z3
        · have := f1 y (by have := (h48 x y q).2; omega) L z3
          exact ⟨fun _ => this.1 (by have := (h48 x y q).2; omega), fun _ => by omega⟩
    · obtain ⟨x, rfl⟩ : ∃ x, p = 96 + x := ⟨p - 96, by omega⟩
      rw [F2 x (by omega)] at hL
      exact f1 _ hp L hL
  · rw [kS.i (by decide)]; exact f2
  · intro x hx hu
    rw [eu] at hu
    obtain ⟨⟨q1, q2, q3⟩, q4, q5⟩ := f3 x hx hu
    refine ⟨⟨F0 x hx, ?_, by rw [F2 x hx]; exact q3⟩, v20 x hx, fun hs => ?_⟩
    · cases q : pe x with
      | none => rw [F1' x hx q]; exact q2
      | some y =>
        have hy := (h48 x y q).2
        rw [F1 x y q, q2, (f3 y hy (by rw [hW.both q]; exact hu)).1.1]; rfl
    · obtain ⟨e1, e2⟩ := d3 x hs
      rw [e1, e2, (q5 hs).1, (q5 hs).2]
      refine ⟨?_, ?_⟩
      · split <;> rfl
      · split <;> rfl
  · intro x y e hu
    rw [eu] at hu
    obtain ⟨c, l, e1, e2, e3, e4⟩ := f4 x y e hu
    obtain ⟨q1, q2⟩ := d3 x (hW.sds e).1
    refine ⟨c + l, 0, ?_, ?_, v20 y (h48 x y e).2, ?_⟩
    · rw [q1, wired x y e, if_pos rfl, e1, e2, nI_add]
    · rw [q2, wired x y e, if_pos rfl]; rfl
    · rw [F0 x (h48 x y e).1, F1 y x (hW.sds e).2.2, List.length_append]
      show c + l + 0 + _ + 0 = rm
      omega
  · intro x hx
    rw [F0 x hx, if_pos rfl, w4 x hx, if_pos (decide_eq_true hx)]
  · intro x hx
    rw [d4.fi (by decide), kS.i (by decide)]; exact f6 x hx
/-- what holds of the nodes between ticks -/
def inT (nd t : Nat) (lv : Nat → Bool) (jj : Nat → Nat) (G : Nat → nG) : Prop := ∀ m, m < nd → lv m = true ∧ jj m ≤ 4 ∧ ∀ q, G m = .inr q → ∀ e, e ∈ q.2 → ∀ o, o ≤ 200000 → e.2.1 7 = nI o → t < o + 120
theorem NR.tick (h : NR nd M S t nc ca hh lv jj G) (hin : inT nd t lv jj G) (ht : t + 1 ≤ 200000) : NR nd M S (t + 1) nc ca hh (fun _ => false) (fun _ => 0) G := by
  obtain ⟨⟨b1, b4, b5, b6⟩, b7, b8, b9⟩ := h
  refine ⟨⟨b1, fun c hc => ?_, b5, b6⟩, b7, fun n hn => ?_, b9⟩
  · obtain ⟨a1, wr, un, bl, m, d, ph, bg, pa, cb, p1, p2, p3, p4, p5, ⟨⟨g1, g2, g3⟩, ⟨g4, g5, g6⟩, g7⟩, p7, p8, p9, p10⟩ := b4 c hc
    refine ⟨a1, wr, un, bl, m, d, ph, bg, pa, cb, p1, p2, p3, p4, p5, ⟨⟨g1, g2, by omega⟩, ⟨g4, g5, by omega⟩, g7⟩, p7, p8, p9, fun q => ?_⟩
    obtain ⟨q1, q2, q3⟩ := p10 q
    have := q2 (hin (hh c) a1.2.2).1
    exact ⟨by omega, fun z => (by cases z), q3⟩
  · have q := b8 n hn
    have hi := hin n hn
    cases hG : G n with
    | inl R => rw [hG] at q; exact q
    | inr w =>
      rw [hG] at q
      obtain ⟨⟨q1, q2, q3, q4, lr, r1, r2, r3, o1, o2, o3, o4, o5, o6⟩, q5, q6⟩ := q
      refine ⟨⟨q1, q2, q3, q4, lr, r1, r2, r3, o1, o2, o3, fun e he => ?_, o5, o6⟩, q5, q6⟩
      obtain ⟨u, b, m, bits, o, r, a1, a2, a3, a4, ⟨a5, a6, a7⟩, a8, a9, a10⟩ := o4 e he
      have := hi.2.2 w hG e he o (by omega) a5
      have := hi.2.1
      exact ⟨u, b, m, bits, o, r, a1, a2, a3, a4, ⟨a5, by omega, by omega⟩, a8, a9, by omega⟩
/-- everything, between calls -/
def AL (sw nd rm : Nat) (M : hM) (S : sT) (ia : Nat → Nat → Int32) (w : Nat) (pe : Nat → Option Nat) (wo : Nat → Nat) (t zb sb : Nat) (fl : Nat → List (List Int32)) (kR : Nat → rK) (ka : Nat → Nat → Nat) (tog : Nat → Bool) (nc : Nat) (ca hh : Nat → Nat) (lv : Nat → Bool) (jj : Nat → Nat) (G : Nat → nG) : Prop :=
  TW sw nd rm M S ia w pe wo t zb sb fl kR ka tog ∧ agT sw t kR ka sw ∧ NR nd M S t nc ca hh lv jj G ∧ inT nd t lv jj G
section TK2
variable {s : Nat}
theorem P_turnK {v1 v2 v3 v4 : Int32} : ∀ d u M S ia fl kR ka tog fuel fus, TB sw nd rm M S ia w pe wo t zb sb fl kR ka tog → agT sw t kR ka u → u + d = sw → d < fuel → d < fus → ∃ M' S' ib fm kR' ka' tog', drive k140 fuel 80 [.inr (.inr (some 1)), .inl v1, .inl v2, .inl v3, .inl (nI u)] M = drive k140 (fuel - d - 1) 109 [.inr (.inr (some 1)), .inl v1, .inl v2, .inl v3, .inl (nI 0)] M' ∧ sdrive kS231 fus 152 [.inl v4, .inl (nI u)] S = sdrive kS231 (fus - d - 1) 173 [.inl v4, .inl (nI 0)] S' ∧ TB sw nd rm M' S' ib w pe wo t zb sb fm kR' ka' tog' ∧ agT sw t kR' ka' sw ∧ i20 M M' ∧ kp [200, 201, 202, 203, 300, 301, 302, 601, 602, 806, 807, 808, 811, 812, 813, 814, 907, 1005, 1010] [0, 20, 21, 36] M M' ∧ ks [4, 5, 6, 7, 8, 9, 15, 16, 17, 18, 19, 20, 21, 22, 23, 24, 25, 27, 28, 29, 30, 31, 32] S S'
  | 0, u, M, S, ia, fl, kR, ka, tog, fuel, fus, h, ha, hk, hf, hg => by
    obtain ⟨f, rfl⟩ : ∃ f, fuel = f + 1 := ⟨fuel - 1, by omega⟩
    obtain ⟨g, rfl⟩ : ∃ g, fus = g + 1 := ⟨fus - 1, by omega⟩
    have hu : u = sw := by omega
    subst hu
    have hI := h.I
    have hsw := hI.bs.1.2
    have e : nI u ≤ nI u := nI_le (by omega) (by omega)
    have g1 : g_r M 11 1 (some 1) = some (some 8) := (g_r_t (ci := 11) hI.fab0).trans (congrArg some hI.fab2)
    have gl : a_ln M 40 (some 8) = some (nI u) := by rw [a_ln_t hI.ar10, hI.ar11]
    have h1 : k140 80 [.inr (.inr (some 1)), .inl v1, .inl v2, .inl v3, .inl (nI u)] M = some (.inr (109, [.inr (.inr (some 1)), .inl v1, .inl v2, .inl v3, .inl (nI 0)], M)) := by
      show b140_80 1 v1 v2 v3 (nI u) M = _
      unfold b140_80; rw [bd_s g1, bd_s gl, if_pos e]; rfl
    have h2 : kS231 152 [.inl v4, .inl (nI u)] S = some (.inr (173, [.inl v4, .inl (nI 0)], S)) := by
      have s0 : s_g S 0 = nI u := h.1.st.2.2.1.1
      show c231_152 v4 (nI u) S = _
      unfold c231_152; rw [s0, if_pos e]; rfl
    exact ⟨M, S, ia, fl, kR, ka, tog, dr_go h1, sd_go h2, h, ha, i20_rf, kp.rf h.1.pb.bk, ks.rf⟩
  | d + 1, u, M, S, ia, fl, kR, ka, tog, fuel, fus, h, ha, hk, hf, hg => by
    obtain ⟨f, rfl⟩ : ∃ f, fuel = f + 1 := ⟨fuel - 1, by omega⟩
    obtain ⟨g, rfl⟩ : ∃ g, fus = g + 1 := ⟨fus - 1, by omega⟩
    have hI := h.I
    have hsw := hI.bs.1.2
    have hus : u < sw := by omega
    have e : ¬ nI sw ≤ nI u := nI_ge (by omega) (by omega)
    have g1 : g_r M 11 1 (some 1) = some (some 8) := (g_r_t (ci := 11) hI.fab0).trans (congrArg some hI.fab2)
    have gl : a_ln M 40 (some 8) = some (nI sw) := by rw [a_ln_t hI.ar10, hI.ar11]
    have gs : al_r M 40 (some 8) (nI u) = some (some (10 + u)) := (al_r_t hI.ar10 (by rw [hI.ar11]; exact hus) (by omega)).trans (congrArg some (hI.si9 hus))
    have go : g_o M 10 (some (10 + u)) = some (10 + u) := g_o_t (ci := 10) (hI.si0 hus)
    obtain ⟨M1, S1, ib, fm, kR1, ka1, tog1, j1, j2, j3, j4, j5, j6, j7⟩ := P_turn h hus (fun q => ⟨(ha u hus q).1, (ha u hus q).2.1⟩)
    have h1 : k140 80 [.inr (.inr (some 1)), .inl v1, .inl v2, .inl v3, .inl (nI u)] M = some (.inr (80, [.inr (.inr (some 1)), .inl v1, .inl v2, .inl v3, .inl (nI (u + 1))], M1)) := by
      show b140_80 1 v1 v2 v3 (nI u) M = _
      unfold b140_80; rw [bd_s g1, bd_s gl, if_neg e, bd_s g1, bd_s gs, bd_s go, bd_s (c_V_of j1), nI_1]
    have h2 : kS231 152 [.inl v4, .inl (nI u)] S = some (.inr (152, [.inl v4, .inl (nI (u + 1))], S1)) := by
      have s0 : s_g S 0 = nI sw := h.1.st.2.2.1.1
      show c231_152 v4 (nI u) S = _
      unfold c231_152; rw [s0, if_neg e, bd_s j2, nI_1]
    have ha1 : agT sw t kR1 ka1 (u + 1) := fun s hs q => by
      by_cases z : s = u
      · subst z; exact ⟨j6, by omega, fun _ => j7⟩
      · obtain ⟨z1, z2⟩ := j5 s z
        rw [z1] at q
        rw [z2]
        obtain ⟨y1, y2, y3⟩ := ha s hs q
        exact ⟨y1, y2, fun y => y3 (by omega)⟩
    obtain ⟨M2, S2, ib2, fm2, kR2, ka2, tog2, r1, r2, r3, r4, r5, r6, r7⟩ := P_turnK d (u + 1) M1 S1 ib fm kR1 ka1 tog1 f g j3 ha1 (by omega) (by omega) (by omega)
    refine ⟨M2, S2, ib2, fm2, kR2, ka2, tog2, ?_, ?_, r3, r4, i20_tr j4 r5, (kf138 j1 h.1.pb.bk).tr r6 rfl rfl, (ke230 j2).tr r7 rfl⟩
    · rw [dr_go h1, show f + 1 - (d + 1) - 1 = f - d - 1 by omega]; exact r1
    · rw [sd_go h2, show g + 1 - (d + 1) - 1 = g - d - 1 by omega]; exact r2
end TK2
end TK
