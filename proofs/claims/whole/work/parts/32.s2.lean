/-! reference: wayTo(II)I -/
def c196_0 (v1 : Int32) (v2 : Int32) (S : sT) : Option (sRes (Int32 × sT)) :=
  Option.bind (s_a S 27 (((5 : Int32) * v1) + v1)) fun v_1 =>
  if v_1 = 0 then
    (some (.inl ((-1 : Int32), S)))
  else
    (some (.inr (25, [.inl v1, .inl v2, .inl (1000000 : Int32), .inl (-1 : Int32), .inl (0 : Int32)], S)))
def c196_123 (v1 : Int32) (v2 : Int32) (v3 : Int32) (v4 : Int32) (v5 : Int32) (S : sT) : Option (sRes (Int32 × sT)) :=
  some (.inr (25, [.inl v1, .inl v2, .inl v3, .inl v4, .inl (v5 + (1 : Int32))], S))
def c196_25 (v1 : Int32) (v2 : Int32) (v3 : Int32) (v4 : Int32) (v5 : Int32) (S : sT) : Option (sRes (Int32 × sT)) :=
  Option.bind (e190 v1 v1 (5 : Int32) S) fun q_4 =>
  if q_4.1 ≤ v5 then
    (some (.inl (v4, q_4.2)))
  else
    (Option.bind (e190 v1 v1 ((7 : Int32) + ((3 : Int32) * v5)) q_4.2) fun q_10 =>
    if q_10.1 = v1 then
      (c196_123 v1 v2 v3 v4 v5 q_10.2)
    else
      (Option.bind (e194 v1 v1 q_10.1 q_10.2) fun q_16 =>
      if q_16.1 = 0 then
        (c196_123 v1 v2 v3 v4 v5 q_16.2)
      else
        (Option.bind (e190 v1 v1 ((8 : Int32) + ((3 : Int32) * v5)) q_16.2) fun q_22 =>
        Option.bind (s_a q_22.2 32 (((5 : Int32) * q_10.1) + v2)) fun v_28 =>
        if v3 ≤ (q_22.1 + v_28) then
          (c196_123 v1 v2 v3 v4 v5 q_22.2)
        else
          (Option.bind (e190 v1 v1 ((6 : Int32) + ((3 : Int32) * v5)) q_22.2) fun q_30 =>
          c196_123 v1 v2 (q_22.1 + v_28) q_30.1 v5 q_30.2))))
def kS196 (h : Nat) (as : List aV) (S : sT) : Option (sRes (Int32 × sT)) :=
  if h = 25 then (match as with | [.inl v1, .inl v2, .inl v3, .inl v4, .inl v5] => c196_25 v1 v2 v3 v4 v5 S | _ => none) else
  none
def J196 (m : Nat) (h : Nat) (as : List aV) : List aV := .inr (.inr (some m)) :: as
def e196 (v1 : Int32) (v2 : Int32) (S : sT) : Option (Int32 × sT) := s_go kS196 (c196_0 v1 v2 S)
theorem q196_0 {m : Nat} {ad : Nat → Nat} {M : hM} {S : sT} (hR : rR m ad M S) (v1 : Int32) (v2 : Int32) {rs : sRes (Int32 × sT)} (h : c196_0 v1 v2 S = some rs) : ∃ res, b196_0 m v1 v2 M = some res ∧ simR o_I f_2 (J196 m) m ad M rs res := by
  have hs : sm m ad M M := sm.rf
  unfold c196_0 at h
  unfold b196_0
  refine exb (rR_gr hR 27) ?_
  obtain ⟨v_1, h2, h⟩ := bd h
  refine exb (rR_al hR h2) ?_
  by_cases q3 : v_1 = 0
  · rw [if_pos q3] at h ⊢
    obtain rfl := Option.some.inj h
    exact ⟨_, rfl, _, rfl, hR, hs⟩
  · rw [if_neg q3] at h ⊢
    obtain rfl := Option.some.inj h
    exact ⟨_, rfl, _, rfl, hR, hs⟩
theorem q196_123 {m : Nat} {ad : Nat → Nat} {M : hM} {S : sT} (hR : rR m ad M S) (v1 : Int32) (v2 : Int32) (v3 : Int32) (v4 : Int32) (v5 : Int32) {rs : sRes (Int32 × sT)} (h : c196_123 v1 v2 v3 v4 v5 S = some rs) : ∃ res, b196_123 m v1 v2 v3 v4 v5 M = some res ∧ simR o_I f_2 (J196 m) m ad M rs res := by
  have hs : sm m ad M M := sm.rf
  unfold c196_123 at h
  unfold b196_123
  obtain rfl := Option.some.inj h
  exact ⟨_, rfl, _, rfl, hR, hs⟩
theorem q196_25 {m : Nat} {ad : Nat → Nat} {M : hM} {S : sT} (hR : rR m ad M S) (v1 : Int32) (v2 : Int32) (v3 : Int32) (v4 : Int32) (v5 : Int32) {rs : sRes (Int32 × sT)} (h : c196_25 v1 v2 v3 v4 v5 S = some rs) : ∃ res, b196_25 m v1 v2 v3 v4 v5 M = some res ∧ simR o_I f_2 (J196 m) m ad M rs res := by
  have hs : sm m ad M M := sm.rf
  unfold c196_25 at h
  unfold b196_25
  refine exb (rR_go hR) ?_
  obtain ⟨q_4, h5, h⟩ := bd h
  obtain ⟨M6, e7, hR8, hs9⟩ := u190 hR h5
  replace hs9 := hs.tr hs9
  refine exb (c_I_of e7) ?_
  by_cases q39 : q_4.1 ≤ v5
  · rw [if_pos q39] at h ⊢
    obtain rfl := Option.some.inj h
    exact ⟨_, rfl, _, rfl, hR8, hs9⟩
  · rw [if_neg q39] at h ⊢
    refine exb (rR_go hR8) ?_
    obtain ⟨q_10, h11, h⟩ := bd h
    obtain ⟨M12, e13, hR14, hs15⟩ := u190 hR8 h11
    replace hs15 := hs9.tr hs15
    refine exb (c_I_of e13) ?_
    by_cases q38 : q_10.1 = v1
    · rw [if_pos q38] at h ⊢
      exact simT hs15 (q196_123 hR14 v1 v2 v3 v4 v5 h)
    · rw [if_neg q38] at h ⊢
      refine exb (rR_go hR14) ?_
      obtain ⟨q_16, h17, h⟩ := bd h
      obtain ⟨M18, e19, hR20, hs21⟩ := u194 hR14 h17
      replace hs21 := hs15.tr hs21
      refine exb (c_I_of e19) ?_
      by_cases q37 : q_16.1 = 0
      · rw [if_pos q37] at h ⊢
        exact simT hs21 (q196_123 hR20 v1 v2 v3 v4 v5 h)
      · rw [if_neg q37] at h ⊢
        refine exb (rR_go hR20) ?_
        obtain ⟨q_22, h23, h⟩ := bd h
        obtain ⟨M24, e25, hR26, hs27⟩ := u190 hR20 h23
        replace hs27 := hs21.tr hs27
        refine exb (c_I_of e25) ?_
        refine exb (rR_gr hR26 32) ?_
        obtain ⟨v_28, h29, h⟩ := bd h
        refine exb (rR_al hR26 h29) ?_
        by_cases q36 : v3 ≤ (q_22.1 + v_28)
        · rw [if_pos q36] at h ⊢
          exact simT hs27 (q196_123 hR26 v1 v2 v3 v4 v5 h)
        · rw [if_neg q36] at h ⊢
          refine exb (rR_go hR26) ?_
          obtain ⟨q_30, h31, h⟩ := bd h
          obtain ⟨M32, e33, hR34, hs35⟩ := u190 hR26 h31
          replace hs35 := hs27.tr hs35
          refine exb (c_I_of e33) ?_
          exact simT hs35 (q196_123 hR34 v1 v2 (q_22.1 + v_28) q_30.1 v5 h)
theorem u196 {m : Nat} {ad : Nat → Nat} {M : hM} {S : sT} (hR : rR m ad M S) {v1 : Int32} {v2 : Int32} {q : (Int32 × sT)} (h : e196 v1 v2 S = some q) : ∃ M1, f196 [.inr (.inr (some m)), .inl v1, .inl v2] M = some (some (.inl q.1), M1) ∧ rR m ad M1 q.2 ∧ sm m ad M M1 := by
  unfold e196 at h
  show ∃ M1, x_go k196 (b196_0 m v1 v2 M) = some (o_I q, M1) ∧ rR m ad M1 (f_2 q) ∧ sm m ad M M1
  refine s_go_ok (o := o_I) (f := f_2) (J := J196 m) (bs := kS196) (bk := k196) (xs := c196_0 v1 v2 S) (x := b196_0 m v1 v2 M) (M := M) (q := q) ?_ (fun rs hx => q196_0 hR v1 v2 hx) h
  intro h as S M rs hR hb
  unfold kS196 at hb
  unfold k196 J196
  by_cases e0 : h = 25
  · rw [if_pos e0] at hb ⊢
    split at hb
    · subst e0; exact q196_25 hR _ _ _ _ _ hb
    · cases hb
  · rw [if_neg e0] at hb
    cases hb
/-! reference: isReached(II)Z -/
def c197_20 (si0 : Int32) (S : sT) : Option (sRes (Int32 × sT)) :=
  if si0 = 0 ∨ si0 = 1 then
    (some (.inl (si0, S)))
  else
    none
def c197_15  (S : sT) : Option (sRes (Int32 × sT)) :=
  c197_20 (1 : Int32) S
def c197_0 (v1 : Int32) (v2 : Int32) (S : sT) : Option (sRes (Int32 × sT)) :=
  if v2 = v1 then
    (c197_15  S)
  else
    (Option.bind (e196 v1 v2 S) fun q_1 =>
    if q_1.1 = (-1 : Int32) then
      (c197_20 (0 : Int32) q_1.2)
    else
      (c197_15  q_1.2))
def e197 (v1 : Int32) (v2 : Int32) (S : sT) : Option (Int32 × sT) := s_out (c197_0 v1 v2 S)
theorem q197_20 {m : Nat} {ad : Nat → Nat} {M : hM} {S : sT} (hR : rR m ad M S) (si0 : Int32) {rs : sRes (Int32 × sT)} (h : c197_20 si0 S = some rs) : ∃ res, b197_20 si0 M = some res ∧ simR o_I f_2 (fun _ as => as) m ad M rs res := by
  have hs : sm m ad M M := sm.rf
  unfold c197_20 at h
  unfold b197_20
  by_cases q9 : si0 = 0 ∨ si0 = 1
  · rw [if_pos q9] at h ⊢
    obtain rfl := Option.some.inj h
    exact ⟨_, rfl, _, rfl, hR, hs⟩
  · rw [if_neg q9] at h
    cases h
theorem q197_15 {m : Nat} {ad : Nat → Nat} {M : hM} {S : sT} (hR : rR m ad M S)  {rs : sRes (Int32 × sT)} (h : c197_15  S = some rs) : ∃ res, b197_15  M = some res ∧ simR o_I f_2 (fun _ as => as) m ad M rs res := by
  have hs : sm m ad M M := sm.rf
  unfold c197_15 at h
  unfold b197_15
  exact simT hs (q197_20 hR (1 : Int32) h)
theorem q197_0 {m : Nat} {ad : Nat → Nat} {M : hM} {S : sT} (hR : rR m ad M S) (v1 : Int32) (v2 : Int32) {rs : sRes (Int32 × sT)} (h : c197_0 v1 v2 S = some rs) : ∃ res, b197_0 m v1 v2 M = some res ∧ simR o_I f_2 (fun _ as => as) m ad M rs res := by
  have hs : sm m ad M M := sm.rf
  unfold c197_0 at h
  unfold b197_0
  by_cases q8 : v2 = v1
  · rw [if_pos q8] at h ⊢
    exact simT hs (q197_15 hR  h)
  · rw [if_neg q8] at h ⊢
    refine exb (rR_go hR) ?_
    obtain ⟨q_1, h2, h⟩ := bd h
    obtain ⟨M3, e4, hR5, hs6⟩ := u196 hR h2
    replace hs6 := hs.tr hs6
    refine exb (c_I_of e4) ?_
    by_cases q7 : q_1.1 = (-1 : Int32)
    · rw [if_pos q7] at h ⊢
      exact simT hs6 (q197_20 hR5 (0 : Int32) h)
    · rw [if_neg q7] at h ⊢
      exact simT hs6 (q197_15 hR5  h)
theorem u197 {m : Nat} {ad : Nat → Nat} {M : hM} {S : sT} (hR : rR m ad M S) {v1 : Int32} {v2 : Int32} {q : (Int32 × sT)} (h : e197 v1 v2 S = some q) : ∃ M1, f197 [.inr (.inr (some m)), .inl v1, .inl v2] M = some (some (.inl q.1), M1) ∧ rR m ad M1 q.2 ∧ sm m ad M M1 := by
  exact s_out_sim (o := o_I) (f := f_2) (J := fun _ as => as) (fun rs hx => q197_0 hR v1 v2 hx) h
/-! reference: domainOf(II)I -/
def c198_24 (si0 : Int32) (S : sT) : Option (sRes (Int32 × sT)) :=
  some (.inl (si0, S))
def c198_0 (v1 : Int32) (v2 : Int32) (S : sT) : Option (sRes (Int32 × sT)) :=
  Option.bind (s_a S 27 (((5 : Int32) * v1) + v2)) fun v_1 =>
  if v_1 = 0 then
    (c198_24 (-1 : Int32) S)
  else
    (Option.bind (e190 v1 v2 (4 : Int32) S) fun q_3 =>
    c198_24 q_3.1 q_3.2)
def e198 (v1 : Int32) (v2 : Int32) (S : sT) : Option (Int32 × sT) := s_out (c198_0 v1 v2 S)
theorem q198_24 {m : Nat} {ad : Nat → Nat} {M : hM} {S : sT} (hR : rR m ad M S) (si0 : Int32) {rs : sRes (Int32 × sT)} (h : c198_24 si0 S = some rs) : ∃ res, b198_24 si0 M = some res ∧ simR o_I f_2 (fun _ as => as) m ad M rs res := by
  have hs : sm m ad M M := sm.rf
  unfold c198_24 at h
  unfold b198_24
  obtain rfl := Option.some.inj h
  exact ⟨_, rfl, _, rfl, hR, hs⟩
theorem q198_0 {m : Nat} {ad : Nat → Nat} {M : hM} {S : sT} (hR : rR m ad M S) (v1 : Int32) (v2 : Int32) {rs : sRes (Int32 × sT)} (h : c198_0 v1 v2 S = some rs) : ∃ res, b198_0 m v1 v2 M = some res ∧ simR o_I f_2 (fun _ as => as) m ad M rs res := by
  have hs : sm m ad M M := sm.rf
  unfold c198_0 at h
  unfold b198_0
  refine exb (rR_gr hR 27) ?_
  obtain ⟨v_1, h2, h⟩ := bd h
  refine exb (rR_al hR h2) ?_
  by_cases q9 : v_1 = 0
  · rw [if_pos q9] at h ⊢
    exact simT hs (q198_24 hR (-1 : Int32) h)
  · rw [if_neg q9] at h ⊢
    refine exb (rR_go hR) ?_
    obtain ⟨q_3, h4, h⟩ := bd h
    obtain ⟨M5, e6, hR7, hs8⟩ := u190 hR h4
    replace hs8 := hs.tr hs8
    refine exb (c_I_of e6) ?_
    exact simT hs8 (q198_24 hR7 q_3.1 h)
theorem u198 {m : Nat} {ad : Nat → Nat} {M : hM} {S : sT} (hR : rR m ad M S) {v1 : Int32} {v2 : Int32} {q : (Int32 × sT)} (h : e198 v1 v2 S = some q) : ∃ M1, f198 [.inr (.inr (some m)), .inl v1, .inl v2] M = some (some (.inl q.1), M1) ∧ rR m ad M1 q.2 ∧ sm m ad M M1 := by
  exact s_out_sim (o := o_I) (f := f_2) (J := fun _ as => as) (fun rs hx => q198_0 hR v1 v2 hx) h
/-! reference: isOff(II)Z -/
def c199_0 (v1 : Int32) (v2 : Int32) (S : sT) : Option (sRes (Int32 × sT)) :=
  some (.inr (5, [.inl v1, .inl v2, .inl (0 : Int32), .inl (0 : Int32)], S))
def c199_57 (v1 : Int32) (v2 : Int32) (v4 : Int32) (si0 : Int32) (S : sT) : Option (sRes (Int32 × sT)) :=
  some (.inr (5, [.inl v1, .inl v2, .inl si0, .inl (v4 + (1 : Int32))], S))
def c199_52 (v1 : Int32) (v2 : Int32) (v4 : Int32) (S : sT) : Option (sRes (Int32 × sT)) :=
  c199_57 v1 v2 v4 (1 : Int32) S
def c199_56 (v1 : Int32) (v2 : Int32) (v4 : Int32) (S : sT) : Option (sRes (Int32 × sT)) :=
  c199_57 v1 v2 v4 (0 : Int32) S
def c199_5 (v1 : Int32) (v2 : Int32) (v3 : Int32) (v4 : Int32) (S : sT) : Option (sRes (Int32 × sT)) :=
  if v2 ≤ v4 then
    (if v3 = 0 ∨ v3 = 1 then
      (some (.inl (v3, S)))
    else
      none)
  else
    (if v3 = 0 then
      (Option.bind (e198 v1 v4 S) fun q_2 =>
      if q_2.1 = (-1 : Int32) then
        (c199_56 v1 v2 v4 q_2.2)
      else
        (Option.bind (e198 v1 v4 q_2.2) fun q_8 =>
        Option.bind (e198 v1 v2 q_8.2) fun q_14 =>
        if q_8.1 = q_14.1 then
          (Option.bind (e197 v1 v4 q_14.2) fun q_20 =>
          if q_20.1 = 0 then
            (c199_56 v1 v2 v4 q_20.2)
          else
            (c199_52 v1 v2 v4 q_20.2))
        else
          (c199_56 v1 v2 v4 q_14.2)))
    else
      (c199_52 v1 v2 v4 S))
def kS199 (h : Nat) (as : List aV) (S : sT) : Option (sRes (Int32 × sT)) :=
  if h = 5 then (match as with | [.inl v1, .inl v2, .inl v3, .inl v4] => c199_5 v1 v2 v3 v4 S | _ => none) else
  none
def J199 (m : Nat) (h : Nat) (as : List aV) : List aV := .inr (.inr (some m)) :: as
def e199 (v1 : Int32) (v2 : Int32) (S : sT) : Option (Int32 × sT) := s_go kS199 (c199_0 v1 v2 S)
theorem q199_0 {m : Nat} {ad : Nat → Nat} {M : hM} {S : sT} (hR : rR m ad M S) (v1 : Int32) (v2 : Int32) {rs : sRes (Int32 × sT)} (h : c199_0 v1 v2 S = some rs) : ∃ res, b199_0 m v1 v2 M = some res ∧ simR o_I f_2 (J199 m) m ad M rs res := by
  have hs : sm m ad M M := sm.rf
  unfold c199_0 at h
  unfold b199_0
  obtain rfl := Option.some.inj h
  exact ⟨_, rfl, _, rfl, hR, hs⟩
theorem q199_57 {m : Nat} {ad : Nat → Nat} {M : hM} {S : sT} (hR : rR m ad M S) (v1 : Int32) (v2 : Int32) (v4 : Int32) (si0 : Int32) {rs : sRes (Int32 × sT)} (h : c199_57 v1 v2 v4 si0 S = some rs) : ∃ res, b199_57 m v1 v2 v4 si0 M = some res ∧ simR o_I f_2 (J199 m) m ad M rs res := by
  have hs : sm m ad M M := sm.rf
  unfold c199_57 at h
  unfold b199_57
  obtain rfl := Option.some.inj h
  exact ⟨_, rfl, _, rfl, hR, hs⟩
theorem q199_52 {m : Nat} {ad : Nat → Nat} {M : hM} {S : sT} (hR : rR m ad M S) (v1 : Int32) (v2 : Int32) (v4 : Int32) {rs : sRes (Int32 × sT)} (h : c199_52 v1 v2 v4 S = some rs) : ∃ res, b199_52 m v1 v2 v4 M = some res ∧ simR o_I f_2 (J199 m) m ad M rs res := by
  have hs : sm m ad M M := sm.rf
  unfold c199_52 at h
  unfold b199_52
  exact simT hs (q199_57 hR v1 v2 v4 (1 : Int32) h)
theorem q199_56 {m : Nat} {ad : Nat → Nat} {M : hM} {S : sT} (hR : rR m ad M S) (v1 : Int32) (v2 : Int32) (v4 : Int32) {rs : sRes (Int32 × sT)} (h : c199_56 v1 v2 v4 S = some rs) : ∃ res, b199_56 m v1 v2 v4 M = some res ∧ simR o_I f_2 (J199 m) m ad M rs res := by
  have hs : sm m ad M M := sm.rf
  unfold c199_56 at h
  unfold b199_56
  exact simT hs (q199_57 hR v1 v2 v4 (0 : Int32) h)
theorem q199_5 {m : Nat} {ad : Nat → Nat} {M : hM} {S : sT} (hR : rR m ad M S) (v1 : Int32) (v2 : Int32) (v3 : Int32) (v4 : Int32) {rs : sRes (Int32 × sT)} (h : c199_5 v1 v2 v3 v4 S = some rs) : ∃ res, b199_5 m v1 v2 v3 v4 M = some res ∧ simR o_I f_2 (J199 m) m ad M rs res := by
  have hs : sm m ad M M := sm.rf
  unfold c199_5 at h
  unfold b199_5
  by_cases q30 : v2 ≤ v4
  · rw [if_pos q30] at h ⊢
    by_cases q1 : v3 = 0 ∨ v3 = 1
    · rw [if_pos q1] at h ⊢
      obtain rfl := Option.some.inj h
      exact ⟨_, rfl, _, rfl, hR, hs⟩
    · rw [if_neg q1] at h
      cases h
  · rw [if_neg q30] at h ⊢
    by_cases q29 : v3 = 0
    · rw [if_pos q29] at h ⊢
      refine exb (rR_go hR) ?_
      obtain ⟨q_2, h3, h⟩ := bd h
      obtain ⟨M4, e5, hR6, hs7⟩ := u198 hR h3
      replace hs7 := hs.tr hs7
      refine exb (c_I_of e5) ?_
      by_cases q28 : q_2.1 = (-1 : Int32)
      · rw [if_pos q28] at h ⊢
        exact simT hs7 (q199_56 hR6 v1 v2 v4 h)
      · rw [if_neg q28] at h ⊢
        refine exb (rR_go hR6) ?_
        obtain ⟨q_8, h9, h⟩ := bd h
        obtain ⟨M10, e11, hR12, hs13⟩ := u198 hR6 h9
        replace hs13 := hs7.tr hs13
        refine exb (c_I_of e11) ?_
        refine exb (rR_go hR12) ?_
        obtain ⟨q_14, h15, h⟩ := bd h
        obtain ⟨M16, e17, hR18, hs19⟩ := u198 hR12 h15
        replace hs19 := hs13.tr hs19
        refine exb (c_I_of e17) ?_
        by_cases q27 : q_8.1 = q_14.1
        · rw [if_pos q27] at h ⊢
          refine exb (rR_go hR18) ?_
          obtain ⟨q_20, h21, h⟩ := bd h
          obtain ⟨M22, e23, hR24, hs25⟩ := u197 hR18 h21
          replace hs25 := hs19.tr hs25
          refine exb (c_I_of e23) ?_
          by_cases q26 : q_20.1 = 0
          · rw [if_pos q26] at h ⊢
            exact simT hs25 (q199_56 hR24 v1 v2 v4 h)
          · rw [if_neg q26] at h ⊢
            exact simT hs25 (q199_52 hR24 v1 v2 v4 h)
        · rw [if_neg q27] at h ⊢
          exact simT hs19 (q199_56 hR18 v1 v2 v4 h)
    · rw [if_neg q29] at h ⊢
      exact simT hs (q199_52 hR v1 v2 v4 h)
theorem u199 {m : Nat} {ad : Nat → Nat} {M : hM} {S : sT} (hR : rR m ad M S) {v1 : Int32} {v2 : Int32} {q : (Int32 × sT)} (h : e199 v1 v2 S = some q) : ∃ M1, f199 [.inr (.inr (some m)), .inl v1, .inl v2] M = some (some (.inl q.1), M1) ∧ rR m ad M1 q.2 ∧ sm m ad M M1 := by
  unfold e199 at h
  show ∃ M1, x_go k199 (b199_0 m v1 v2 M) = some (o_I q, M1) ∧ rR m ad M1 (f_2 q) ∧ sm m ad M M1
  refine s_go_ok (o := o_I) (f := f_2) (J := J199 m) (bs := kS199) (bk := k199) (xs := c199_0 v1 v2 S) (x := b199_0 m v1 v2 M) (M := M) (q := q) ?_ (fun rs hx => q199_0 hR v1 v2 hx) h
  intro h as S M rs hR hb
  unfold kS199 at hb
  unfold k199 J199
  by_cases e0 : h = 5
  · rw [if_pos e0] at hb ⊢
    split at hb
    · subst e0; exact q199_5 hR _ _ _ _ hb
    · cases hb
  · rw [if_neg e0] at hb
    cases hb
/-! reference: isOffItself(I)Z -/
def c200_0 (v1 : Int32) (S : sT) : Option (sRes (Int32 × sT)) :=
  Option.bind (e195 v1 S) fun q_1 =>
  Option.bind (e199 v1 v1 q_1) fun q_7 =>
  if q_7.1 = 0 ∨ q_7.1 = 1 then
    (some (.inl (q_7.1, q_7.2)))
  else
    none
def e200 (v1 : Int32) (S : sT) : Option (Int32 × sT) := s_out (c200_0 v1 S)
theorem q200_0 {m : Nat} {ad : Nat → Nat} {M : hM} {S : sT} (hR : rR m ad M S) (v1 : Int32) {rs : sRes (Int32 × sT)} (h : c200_0 v1 S = some rs) : ∃ res, b200_0 m v1 M = some res ∧ simR o_I f_2 (fun _ as => as) m ad M rs res := by
  have hs : sm m ad M M := sm.rf
  unfold c200_0 at h
  unfold b200_0
  refine exb (rR_go hR) ?_
  obtain ⟨q_1, h2, h⟩ := bd h
  obtain ⟨M3, e4, hR5, hs6⟩ := u195 hR h2
  replace hs6 := hs.tr hs6
  refine exb (c_V_of e4) ?_
  refine exb (rR_go hR5) ?_
  obtain ⟨q_7, h8, h⟩ := bd h
  obtain ⟨M9, e10, hR11, hs12⟩ := u199 hR5 h8
  replace hs12 := hs6.tr hs12
  refine exb (c_I_of e10) ?_
  by_cases q13 : q_7.1 = 0 ∨ q_7.1 = 1
  · rw [if_pos q13] at h ⊢
    obtain rfl := Option.some.inj h
    exact ⟨_, rfl, _, rfl, hR11, hs12⟩
  · rw [if_neg q13] at h
    cases h
theorem u200 {m : Nat} {ad : Nat → Nat} {M : hM} {S : sT} (hR : rR m ad M S) {v1 : Int32} {q : (Int32 × sT)} (h : e200 v1 S = some q) : ∃ M1, f200 [.inr (.inr (some m)), .inl v1] M = some (some (.inl q.1), M1) ∧ rR m ad M1 q.2 ∧ sm m ad M M1 := by
  exact s_out_sim (o := o_I) (f := f_2) (J := fun _ as => as) (fun rs hx => q200_0 hR v1 hx) h
/-! reference: wayOut(II)I -/
def c201_0 (v1 : Int32) (v2 : Int32) (S : sT) : Option (sRes (Int32 × sT)) :=
  Option.bind (e195 v1 S) fun q_1 =>
  some (.inr (7, [.inl v1, .inl v2, .inl (0 : Int32)], q_1))
def c201_58 (si0 : Int32) (S : sT) : Option (sRes (Int32 × sT)) :=
  some (.inl (si0, S))
def c201_59 (v1 : Int32) (v2 : Int32) (v3 : Int32) (S : sT) : Option (sRes (Int32 × sT)) :=
  some (.inr (7, [.inl v1, .inl v2, .inl (v3 + (1 : Int32))], S))
def c201_7 (v1 : Int32) (v2 : Int32) (v3 : Int32) (S : sT) : Option (sRes (Int32 × sT)) :=
  if (s_g S 0) ≤ v3 then
    (some (.inl ((-1 : Int32), S)))
  else
    (Option.bind (e198 v1 v3 S) fun q_7 =>
    if q_7.1 = v2 then
      (Option.bind (e197 v1 v3 q_7.2) fun q_13 =>
      if q_13.1 = 0 then
        (c201_59 v1 v2 v3 q_13.2)
      else
        (Option.bind (e199 v1 v3 q_13.2) fun q_19 =>
        if q_19.1 = 0 then
          (if v3 = v1 then
            (c201_58 (-1 : Int32) q_19.2)
          else
            (Option.bind (e196 v1 v3 q_19.2) fun q_25 =>
            c201_58 q_25.1 q_25.2))
        else
          (c201_59 v1 v2 v3 q_19.2)))
    else
      (c201_59 v1 v2 v3 q_7.2))
def kS201 (h : Nat) (as : List aV) (S : sT) : Option (sRes (Int32 × sT)) :=
  if h = 7 then (match as with | [.inl v1, .inl v2, .inl v3] => c201_7 v1 v2 v3 S | _ => none) else
  none
def J201 (m : Nat) (h : Nat) (as : List aV) : List aV := .inr (.inr (some m)) :: as
def e201 (v1 : Int32) (v2 : Int32) (S : sT) : Option (Int32 × sT) := s_go kS201 (c201_0 v1 v2 S)
theorem q201_0 {m : Nat} {ad : Nat → Nat} {M : hM} {S : sT} (hR : rR m ad M S) (v1 : Int32) (v2 : Int32) {rs : sRes (Int32 × sT)} (h : c201_0 v1 v2 S = some rs) : ∃ res, b201_0 m v1 v2 M = some res ∧ simR o_I f_2 (J201 m) m ad M rs res := by
  have hs : sm m ad M M := sm.rf
  unfold c201_0 at h
  unfold b201_0
  refine exb (rR_go hR) ?_
  obtain ⟨q_1, h2, h⟩ := bd h
  obtain ⟨M3, e4, hR5, hs6⟩ := u195 hR h2
  replace hs6 := hs.tr hs6
  refine exb (c_V_of e4) ?_
  obtain rfl := Option.some.inj h
  exact ⟨_, rfl, _, rfl, hR5, hs6⟩
theorem q201_58 {m : Nat} {ad : Nat → Nat} {M : hM} {S : sT} (hR : rR m ad M S) (si0 : Int32) {rs : sRes (Int32 × sT)} (h : c201_58 si0 S = some rs) : ∃ res, b201_58 si0 M = some res ∧ simR o_I f_2 (J201 m) m ad M rs res := by
  have hs : sm m ad M M := sm.rf
  unfold c201_58 at h
  unfold b201_58
  obtain rfl := Option.some.inj h
  exact ⟨_, rfl, _, rfl, hR, hs⟩
theorem q201_59 {m : Nat} {ad : Nat → Nat} {M : hM} {S : sT} (hR : rR m ad M S) (v1 : Int32) (v2 : Int32) (v3 : Int32) {rs : sRes (Int32 × sT)} (h : c201_59 v1 v2 v3 S = some rs) : ∃ res, b201_59 m v1 v2 v3 M = some res ∧ simR o_I f_2 (J201 m) m ad M rs res := by
  have hs : sm m ad M M := sm.rf
  unfold c201_59 at h
  unfold b201_59
  obtain rfl := Option.some.inj h
  exact ⟨_, rfl, _, rfl, hR, hs⟩
theorem q201_7 {m : Nat} {ad : Nat → Nat} {M : hM} {S : sT} (hR : rR m ad M S) (v1 : Int32) (v2 : Int32) (v3 : Int32) {rs : sRes (Int32 × sT)} (h : c201_7 v1 v2 v3 S = some rs) : ∃ res, b201_7 m v1 v2 v3 M = some res ∧ simR o_I f_2 (J201 m) m ad M rs res := by
  have hs : sm m ad M M := sm.rf
  unfold c201_7 at h
  unfold b201_7
  refine exb (rR_gi hR 0) ?_
  by_cases q35 : (s_g S 0) ≤ v3
  · rw [if_pos q35] at h ⊢
    obtain rfl := Option.some.inj h
    exact ⟨_, rfl, _, rfl, hR, hs⟩
  · rw [if_neg q35] at h ⊢
    refine exb (rR_go hR) ?_
    obtain ⟨q_7, h8, h⟩ := bd h
    obtain ⟨M9, e10, hR11, hs12⟩ := u198 hR h8
    replace hs12 := hs.tr hs12
    refine exb (c_I_of e10) ?_
    by_cases q34 : q_7.1 = v2
    · rw [if_pos q34] at h ⊢
      refine exb (rR_go hR11) ?_
      obtain ⟨q_13, h14, h⟩ := bd h
      obtain ⟨M15, e16, hR17, hs18⟩ := u197 hR11 h14
      replace hs18 := hs12.tr hs18
      refine exb (c_I_of e16) ?_
      by_cases q33 : q_13.1 = 0
      · rw [if_pos q33] at h ⊢
        exact simT hs18 (q201_59 hR17 v1 v2 v3 h)
      · rw [if_neg q33] at h ⊢
        refine exb (rR_go hR17) ?_
        obtain ⟨q_19, h20, h⟩ := bd h
        obtain ⟨M21, e22, hR23, hs24⟩ := u199 hR17 h20
        replace hs24 := hs18.tr hs24
        refine exb (c_I_of e22) ?_
        by_cases q32 : q_19.1 = 0
        · rw [if_pos q32] at h ⊢
          by_cases q31 : v3 = v1
          · rw [if_pos q31] at h ⊢
            exact simT hs24 (q201_58 hR23 (-1 : Int32) h)
          · rw [if_neg q31] at h ⊢
            refine exb (rR_go hR23) ?_
            obtain ⟨q_25, h26, h⟩ := bd h
            obtain ⟨M27, e28, hR29, hs30⟩ := u196 hR23 h26
            replace hs30 := hs24.tr hs30
            refine exb (c_I_of e28) ?_
            exact simT hs30 (q201_58 hR29 q_25.1 h)
        · rw [if_neg q32] at h ⊢
          exact simT hs24 (q201_59 hR23 v1 v2 v3 h)
    · rw [if_neg q34] at h ⊢
      exact simT hs12 (q201_59 hR11 v1 v2 v3 h)
theorem u201 {m : Nat} {ad : Nat → Nat} {M : hM} {S : sT} (hR : rR m ad M S) {v1 : Int32} {v2 : Int32} {q : (Int32 × sT)} (h : e201 v1 v2 S = some q) : ∃ M1, f201 [.inr (.inr (some m)), .inl v1, .inl v2] M = some (some (.inl q.1), M1) ∧ rR m ad M1 q.2 ∧ sm m ad M M1 := by
  unfold e201 at h
  show ∃ M1, x_go k201 (b201_0 m v1 v2 M) = some (o_I q, M1) ∧ rR m ad M1 (f_2 q) ∧ sm m ad M M1
  refine s_go_ok (o := o_I) (f := f_2) (J := J201 m) (bs := kS201) (bk := k201) (xs := c201_0 v1 v2 S) (x := b201_0 m v1 v2 M) (M := M) (q := q) ?_ (fun rs hx => q201_0 hR v1 v2 hx) h
  intro h as S M rs hR hb
  unfold kS201 at hb
  unfold k201 J201
  by_cases e0 : h = 7
  · rw [if_pos e0] at hb ⊢
    split at hb
    · subst e0; exact q201_7 hR _ _ _ hb
    · cases hb
  · rw [if_neg e0] at hb
    cases hb
/-! reference: recordFrame(II)I -/
def c202_0 (v1 : Int32) (v2 : Int32) (S : sT) : Option (sRes (Int32 × sT)) :=
  Option.bind (e168 (2 : Int32) (16777213 : Int32) (16777213 : Int32) (0 : Int32) (0 : Int32) (0 : Int32) S) fun q_1 =>
  some (.inr (18, [.inl v1, .inl v2, .inl q_1.1, .inl (0 : Int32)], q_1.2))
def c202_18 (v1 : Int32) (v2 : Int32) (v3 : Int32) (v4 : Int32) (S : sT) : Option (sRes (Int32 × sT)) :=
  Option.bind (s_a S 30 (((5 : Int32) * v1) + v2)) fun v_7 =>
  if v_7 ≤ v4 then
    (some (.inl (v3, S)))
  else
    (Option.bind (e190 v1 v2 v4 S) fun q_9 =>
    Option.bind (e167 v3 (Int32.toInt64 q_9.1) (1 : Int32) q_9.2) fun q_15 =>
    some (.inr (18, [.inl v1, .inl v2, .inl v3, .inl (v4 + (1 : Int32))], q_15)))
def kS202 (h : Nat) (as : List aV) (S : sT) : Option (sRes (Int32 × sT)) :=
  if h = 18 then (match as with | [.inl v1, .inl v2, .inl v3, .inl v4] => c202_18 v1 v2 v3 v4 S | _ => none) else
  none
def J202 (m : Nat) (h : Nat) (as : List aV) : List aV := .inr (.inr (some m)) :: as
def e202 (v1 : Int32) (v2 : Int32) (S : sT) : Option (Int32 × sT) := s_go kS202 (c202_0 v1 v2 S)
theorem q202_0 {m : Nat} {ad : Nat → Nat} {M : hM} {S : sT} (hR : rR m ad M S) (v1 : Int32) (v2 : Int32) {rs : sRes (Int32 × sT)} (h : c202_0 v1 v2 S = some rs) : ∃ res, b202_0 m v1 v2 M = some res ∧ simR o_I f_2 (J202 m) m ad M rs res := by
  have hs : sm m ad M M := sm.rf
  unfold c202_0 at h
  unfold b202_0
  refine exb (rR_go hR) ?_
  obtain ⟨q_1, h2, h⟩ := bd h
  obtain ⟨M3, e4, hR5, hs6⟩ := u168 hR h2
  replace hs6 := hs.tr hs6
  refine exb (c_I_of e4) ?_
  obtain rfl := Option.some.inj h
  exact ⟨_, rfl, _, rfl, hR5, hs6⟩
theorem q202_18 {m : Nat} {ad : Nat → Nat} {M : hM} {S : sT} (hR : rR m ad M S) (v1 : Int32) (v2 : Int32) (v3 : Int32) (v4 : Int32) {rs : sRes (Int32 × sT)} (h : c202_18 v1 v2 v3 v4 S = some rs) : ∃ res, b202_18 m v1 v2 v3 v4 M = some res ∧ simR o_I f_2 (J202 m) m ad M rs res := by
  have hs : sm m ad M M := sm.rf
  unfold c202_18 at h
  unfold b202_18
  refine exb (rR_gr hR 30) ?_
  obtain ⟨v_7, h8, h⟩ := bd h
  refine exb (rR_al hR h8) ?_
  by_cases q21 : v_7 ≤ v4
  · rw [if_pos q21] at h ⊢
    obtain rfl := Option.some.inj h
    exact ⟨_, rfl, _, rfl, hR, hs⟩
  · rw [if_neg q21] at h ⊢
    refine exb (rR_go hR) ?_
    obtain ⟨q_9, h10, h⟩ := bd h
    obtain ⟨M11, e12, hR13, hs14⟩ := u190 hR h10
    replace hs14 := hs.tr hs14
    refine exb (c_I_of e12) ?_
    refine exb (rR_go hR13) ?_
    obtain ⟨q_15, h16, h⟩ := bd h
    obtain ⟨M17, e18, hR19, hs20⟩ := u167 hR13 h16
    replace hs20 := hs14.tr hs20
    refine exb (c_V_of e18) ?_
    obtain rfl := Option.some.inj h
    exact ⟨_, rfl, _, rfl, hR19, hs20⟩
theorem u202 {m : Nat} {ad : Nat → Nat} {M : hM} {S : sT} (hR : rR m ad M S) {v1 : Int32} {v2 : Int32} {q : (Int32 × sT)} (h : e202 v1 v2 S = some q) : ∃ M1, f202 [.inr (.inr (some m)), .inl v1, .inl v2] M = some (some (.inl q.1), M1) ∧ rR m ad M1 q.2 ∧ sm m ad M M1 := by
  unfold e202 at h
  show ∃ M1, x_go k202 (b202_0 m v1 v2 M) = some (o_I q, M1) ∧ rR m ad M1 (f_2 q) ∧ sm m ad M M1
  refine s_go_ok (o := o_I) (f := f_2) (J := J202 m) (bs := kS202) (bk := k202) (xs := c202_0 v1 v2 S) (x := b202_0 m v1 v2 M) (M := M) (q := q) ?_ (fun rs hx => q202_0 hR v1 v2 hx) h
  intro h as S M rs hR hb
  unfold kS202 at hb
  unfold k202 J202
  by_cases e0 : h = 18
  · rw [if_pos e0] at hb ⊢
    split at hb
    · subst e0; exact q202_18 hR _ _ _ _ hb
    · cases hb
  · rw [if_neg e0] at hb
    cases hb
/-! reference: closesOpen(II)V -/
def c203_0 (v1 : Int32) (v2 : Int32) (S : sT) : Option (sRes sT) :=
  Option.bind (s_a S 46 v1) fun v_1 =>
  Option.bind (s_s S 46 v1 (v_1 - (1 : Int32))) fun S3 =>
  some (.inr (12, [.inl v1, .inl v2], S3))
def c203_12 (v1 : Int32) (v3 : Int32) (S : sT) : Option (sRes sT) :=
  Option.bind (s_a S 46 v1) fun v_9 =>
  if v_9 ≤ v3 then
    (some (.inl S))
  else
    (some (.inr (25, [.inl v1, .inl v3, .inl (0 : Int32)], S)))
def c203_25 (v1 : Int32) (v3 : Int32) (v4 : Int32) (S : sT) : Option (sRes sT) :=
  if (8 : Int32) ≤ v4 then
    (some (.inr (78, [.inl v1, .inl v3, .inl (0 : Int32)], S)))
  else
    (Option.bind (s_a S 44 (((((48 : Int32) * v1) + ((8 : Int32) * v3)) + (8 : Int32)) + v4)) fun v_12 =>
    Option.bind (s_s S 44 ((((48 : Int32) * v1) + ((8 : Int32) * v3)) + v4) v_12) fun S14 =>
    some (.inr (25, [.inl v1, .inl v3, .inl (v4 + (1 : Int32))], S14)))
def c203_78 (v1 : Int32) (v3 : Int32) (v4 : Int32) (S : sT) : Option (sRes sT) :=
  if (4 : Int32) ≤ v4 then
    (some (.inr (12, [.inl v1, .inl (v3 + (1 : Int32))], S)))
  else
    (Option.bind (s_al S 45 (((((24 : Int32) * v1) + ((4 : Int32) * v3)) + (4 : Int32)) + v4)) fun w_21 =>
    Option.bind (s_sl S 45 ((((24 : Int32) * v1) + ((4 : Int32) * v3)) + v4) w_21) fun S23 =>
    some (.inr (78, [.inl v1, .inl v3, .inl (v4 + (1 : Int32))], S23)))
def kS203 (h : Nat) (as : List aV) (S : sT) : Option (sRes sT) :=
  if h = 12 then (match as with | [.inl v1, .inl v3] => c203_12 v1 v3 S | _ => none) else
  if h = 25 then (match as with | [.inl v1, .inl v3, .inl v4] => c203_25 v1 v3 v4 S | _ => none) else
  if h = 78 then (match as with | [.inl v1, .inl v3, .inl v4] => c203_78 v1 v3 v4 S | _ => none) else
  none
def J203 (m : Nat) (h : Nat) (as : List aV) : List aV := .inr (.inr (some m)) :: as
def e203 (v1 : Int32) (v2 : Int32) (S : sT) : Option sT := s_go kS203 (c203_0 v1 v2 S)
theorem q203_0 {m : Nat} {ad : Nat → Nat} {M : hM} {S : sT} (hR : rR m ad M S) (v1 : Int32) (v2 : Int32) {rs : sRes sT} (h : c203_0 v1 v2 S = some rs) : ∃ res, b203_0 m v1 v2 M = some res ∧ simR o_V f_1 (J203 m) m ad M rs res := by
  have hs : sm m ad M M := sm.rf
  unfold c203_0 at h
  unfold b203_0
  refine exb (rR_gr hR 46) ?_
  obtain ⟨v_1, h2, h⟩ := bd h
  refine exb (rR_al hR h2) ?_
  obtain ⟨S3, h5, h⟩ := bd h
  obtain ⟨M4, e6, hR7, hs8⟩ := rR_si hR h5
  replace hs8 := hs.tr hs8
  refine exb e6 ?_
  obtain rfl := Option.some.inj h
  exact ⟨_, rfl, _, rfl, hR7, hs8⟩
theorem q203_12 {m : Nat} {ad : Nat → Nat} {M : hM} {S : sT} (hR : rR m ad M S) (v1 : Int32) (v3 : Int32) {rs : sRes sT} (h : c203_12 v1 v3 S = some rs) : ∃ res, b203_12 m v1 v3 M = some res ∧ simR o_V f_1 (J203 m) m ad M rs res := by
  have hs : sm m ad M M := sm.rf
  unfold c203_12 at h
  unfold b203_12
  refine exb (rR_gr hR 46) ?_
  obtain ⟨v_9, h10, h⟩ := bd h
  refine exb (rR_al hR h10) ?_
  by_cases q11 : v_9 ≤ v3
  · rw [if_pos q11] at h ⊢
    obtain rfl := Option.some.inj h
    exact ⟨_, rfl, _, rfl, hR, hs⟩
  · rw [if_neg q11] at h ⊢
    obtain rfl := Option.some.inj h
    exact ⟨_, rfl, _, rfl, hR, hs⟩
theorem q203_25 {m : Nat} {ad : Nat → Nat} {M : hM} {S : sT} (hR : rR m ad M S) (v1 : Int32) (v3 : Int32) (v4 : Int32) {rs : sRes sT} (h : c203_25 v1 v3 v4 S = some rs) : ∃ res, b203_25 m v1 v3 v4 M = some res ∧ simR o_V f_1 (J203 m) m ad M rs res := by
  have hs : sm m ad M M := sm.rf
  unfold c203_25 at h
  unfold b203_25
  by_cases q20 : (8 : Int32) ≤ v4
  · rw [if_pos q20] at h ⊢
    obtain rfl := Option.some.inj h
    exact ⟨_, rfl, _, rfl, hR, hs⟩
  · rw [if_neg q20] at h ⊢
    refine exb (rR_gr hR 44) ?_
    refine exb (rR_gr hR 44) ?_
    obtain ⟨v_12, h13, h⟩ := bd h
    refine exb (rR_al hR h13) ?_
    obtain ⟨S14, h16, h⟩ := bd h
    obtain ⟨M15, e17, hR18, hs19⟩ := rR_si hR h16
    replace hs19 := hs.tr hs19
    refine exb e17 ?_
    obtain rfl := Option.some.inj h
    exact ⟨_, rfl, _, rfl, hR18, hs19⟩
theorem q203_78 {m : Nat} {ad : Nat → Nat} {M : hM} {S : sT} (hR : rR m ad M S) (v1 : Int32) (v3 : Int32) (v4 : Int32) {rs : sRes sT} (h : c203_78 v1 v3 v4 S = some rs) : ∃ res, b203_78 m v1 v3 v4 M = some res ∧ simR o_V f_1 (J203 m) m ad M rs res := by
  have hs : sm m ad M M := sm.rf
  unfold c203_78 at h
  unfold b203_78
  by_cases q29 : (4 : Int32) ≤ v4
  · rw [if_pos q29] at h ⊢
    obtain rfl := Option.some.inj h
    exact ⟨_, rfl, _, rfl, hR, hs⟩
  · rw [if_neg q29] at h ⊢
    refine exb (rR_gr hR 45) ?_
    refine exb (rR_gr hR 45) ?_
    obtain ⟨w_21, h22, h⟩ := bd h
    refine exb (rR_all hR h22) ?_
    obtain ⟨S23, h25, h⟩ := bd h
    obtain ⟨M24, e26, hR27, hs28⟩ := rR_sl hR h25
    replace hs28 := hs.tr hs28
    refine exb e26 ?_
    obtain rfl := Option.some.inj h
    exact ⟨_, rfl, _, rfl, hR27, hs28⟩
theorem u203 {m : Nat} {ad : Nat → Nat} {M : hM} {S : sT} (hR : rR m ad M S) {v1 : Int32} {v2 : Int32} {q : sT} (h : e203 v1 v2 S = some q) : ∃ M1, f203 [.inr (.inr (some m)), .inl v1, .inl v2] M = some (none, M1) ∧ rR m ad M1 q ∧ sm m ad M M1 := by
  unfold e203 at h
  show ∃ M1, x_go k203 (b203_0 m v1 v2 M) = some (o_V q, M1) ∧ rR m ad M1 (f_1 q) ∧ sm m ad M M1
  refine s_go_ok (o := o_V) (f := f_1) (J := J203 m) (bs := kS203) (bk := k203) (xs := c203_0 v1 v2 S) (x := b203_0 m v1 v2 M) (M := M) (q := q) ?_ (fun rs hx => q203_0 hR v1 v2 hx) h
  intro h as S M rs hR hb
  unfold kS203 at hb
  unfold k203 J203
  by_cases e0 : h = 12
  · rw [if_pos e0] at hb ⊢
    split at hb
    · subst e0; exact q203_12 hR _ _ hb
    · cases hb
  · rw [if_neg e0] at hb
    by_cases e1 : h = 25
    · rw [if_pos e1] at hb ⊢
      split at hb
      · subst e1; exact q203_25 hR _ _ _ hb
      · cases hb
    · rw [if_neg e1] at hb
      by_cases e2 : h = 78
      · rw [if_pos e2] at hb ⊢
        split at hb
        · subst e2; exact q203_78 hR _ _ _ hb
        · cases hb
      · rw [if_neg e2] at hb
        cases hb
/-! reference: tellsPhase(I)V -/
def c204_189 (v2 : Int32) (v5 : Int32) (S : sT) : Option (sRes sT) :=
  Option.bind (e176 v2 S) fun q_72 =>
  Option.bind (e183 q_72.1 v5 q_72.2) fun q_78 =>
  some (.inl q_78)
def c204_157 (v1 : Int32) (v2 : Int32) (v5 : Int32) (sl0 : Int64) (si1 : Int32) (S : sT) : Option (sRes sT) :=
  Option.bind (e167 si1 sl0 (1 : Int32) S) fun q_50 =>
  Option.bind (s_a q_50 52 v1) fun v_56 =>
  Option.bind (e167 v5 (Int32.toInt64 v_56) (1 : Int32) q_50) fun q_58 =>
  Option.bind (s_a q_58 53 v1) fun v_64 =>
  Option.bind (e167 v5 (Int32.toInt64 v_64) (1 : Int32) q_58) fun q_66 =>
  c204_189 v2 v5 q_66
def c204_121 (v1 : Int32) (v2 : Int32) (v3 : Int32) (v5 : Int32) (S : sT) : Option (sRes sT) :=
  if v3 = (2 : Int32) then
    (Option.bind (s_a S 51 v1) fun v_38 =>
    Option.bind (e167 v5 (Int32.toInt64 v_38) (1 : Int32) S) fun q_40 =>
    Option.bind (s_a q_40 50 v1) fun v_46 =>
    if v_46 = 0 then
      (c204_157 v1 v2 v5 (0 : Int64) v5 q_40)
    else
      (c204_157 v1 v2 v5 (1 : Int64) v5 q_40))
  else
    (c204_189 v2 v5 S)
def c204_107 (v1 : Int32) (v2 : Int32) (v3 : Int32) (v5 : Int32) (S : sT) : Option (sRes sT) :=
  if v3 = (1 : Int32) then
    (Option.bind (e167 v5 (Int32.toInt64 v2) (1 : Int32) S) fun q_31 =>
    c204_121 v1 v2 v3 v5 q_31)
  else
    (c204_121 v1 v2 v3 v5 S)
def c204_75 (v1 : Int32) (v2 : Int32) (v3 : Int32) (si0 : Int32) (si1 : Int32) (S : sT) : Option (sRes sT) :=
  Option.bind (s_a S 35 v2) fun v_14 =>
  Option.bind (e168 si1 si0 v_14 v1 (0 : Int32) (0 : Int32) S) fun q_16 =>
  if v3 = 0 then
    (Option.bind (s_a q_16.2 49 v1) fun v_22 =>
    Option.bind (e167 q_16.1 (Int32.toInt64 v_22) (1 : Int32) q_16.2) fun q_24 =>
    c204_107 v1 v2 v3 q_16.1 q_24)
  else
    (c204_107 v1 v2 v3 q_16.1 q_16.2)
def c204_54 (v1 : Int32) (v2 : Int32) (v3 : Int32) (si0 : Int32) (S : sT) : Option (sRes sT) :=
  if v3 = 0 then
    (c204_75 v1 v2 v3 (16777212 : Int32) si0 S)
  else
    (Option.bind (s_a S 60 v1) fun v_11 =>
    c204_75 v1 v2 v3 v_11 si0 S)
def c204_0 (v1 : Int32) (S : sT) : Option (sRes sT) :=
  Option.bind (s_a S 48 v1) fun v_1 =>
  Option.bind (s_a S 35 v_1) fun v_3 =>
  if v_3 = 0 then
    (some (.inl S))
  else
    (Option.bind (s_a S 56 v1) fun v_5 =>
    if v_5 = 0 then
      (c204_54 v1 v_1 v_5 (5 : Int32) S)
    else
      (if v_5 = (1 : Int32) then
        (c204_54 v1 v_1 v_5 (7 : Int32) S)
      else
        (if v_5 = (2 : Int32) then
          (c204_54 v1 v_1 v_5 (9 : Int32) S)
        else
          (c204_54 v1 v_1 v_5 (13 : Int32) S))))
def e204 (v1 : Int32) (S : sT) : Option sT := s_out (c204_0 v1 S)
theorem q204_189 {m : Nat} {ad : Nat → Nat} {M : hM} {S : sT} (hR : rR m ad M S) (v2 : Int32) (v5 : Int32) {rs : sRes sT} (h : c204_189 v2 v5 S = some rs) : ∃ res, b204_189 m v2 v5 M = some res ∧ simR o_V f_1 (fun _ as => as) m ad M rs res := by
  have hs : sm m ad M M := sm.rf
  unfold c204_189 at h
  unfold b204_189
  refine exb (rR_go hR) ?_
  obtain ⟨q_72, h73, h⟩ := bd h
  obtain ⟨M74, e75, hR76, hs77⟩ := u176 hR h73
  replace hs77 := hs.tr hs77
  refine exb (c_I_of e75) ?_
  refine exb (rR_go hR76) ?_
  obtain ⟨q_78, h79, h⟩ := bd h
  obtain ⟨M80, e81, hR82, hs83⟩ := u183 hR76 h79
  replace hs83 := hs77.tr hs83
  refine exb (c_V_of e81) ?_
  obtain rfl := Option.some.inj h
  exact ⟨_, rfl, _, rfl, hR82, hs83⟩
theorem q204_157 {m : Nat} {ad : Nat → Nat} {M : hM} {S : sT} (hR : rR m ad M S) (v1 : Int32) (v2 : Int32) (v5 : Int32) (sl0 : Int64) (si1 : Int32) {rs : sRes sT} (h : c204_157 v1 v2 v5 sl0 si1 S = some rs) : ∃ res, b204_157 m v1 v2 v5 sl0 si1 (some m) M = some res ∧ simR o_V f_1 (fun _ as => as) m ad M rs res := by
  have hs : sm m ad M M := sm.rf
  unfold c204_157 at h
  unfold b204_157
  refine exb (rR_go hR) ?_
  obtain ⟨q_50, h51, h⟩ := bd h
  obtain ⟨M52, e53, hR54, hs55⟩ := u167 hR h51
  replace hs55 := hs.tr hs55
  refine exb (c_V_of e53) ?_
  refine exb (rR_gr hR54 52) ?_
  obtain ⟨v_56, h57, h⟩ := bd h
  refine exb (rR_al hR54 h57) ?_
  refine exb (rR_go hR54) ?_
  obtain ⟨q_58, h59, h⟩ := bd h
  obtain ⟨M60, e61, hR62, hs63⟩ := u167 hR54 h59
  replace hs63 := hs55.tr hs63
  refine exb (c_V_of e61) ?_
  refine exb (rR_gr hR62 53) ?_
  obtain ⟨v_64, h65, h⟩ := bd h
  refine exb (rR_al hR62 h65) ?_
  refine exb (rR_go hR62) ?_
  obtain ⟨q_66, h67, h⟩ := bd h
  obtain ⟨M68, e69, hR70, hs71⟩ := u167 hR62 h67
  replace hs71 := hs63.tr hs71
  refine exb (c_V_of e69) ?_
  exact simT hs71 (q204_189 hR70 v2 v5 h)
theorem q204_121 {m : Nat} {ad : Nat → Nat} {M : hM} {S : sT} (hR : rR m ad M S) (v1 : Int32) (v2 : Int32) (v3 : Int32) (v5 : Int32) {rs : sRes sT} (h : c204_121 v1 v2 v3 v5 S = some rs) : ∃ res, b204_121 m v1 v2 v3 v5 M = some res ∧ simR o_V f_1 (fun _ as => as) m ad M rs res := by
  have hs : sm m ad M M := sm.rf
  unfold c204_121 at h
  unfold b204_121
  by_cases q49 : v3 = (2 : Int32)
  · rw [if_pos q49] at h ⊢
    refine exb (rR_gr hR 51) ?_
    obtain ⟨v_38, h39, h⟩ := bd h
    refine exb (rR_al hR h39) ?_
    refine exb (rR_go hR) ?_
    obtain ⟨q_40, h41, h⟩ := bd h
    obtain ⟨M42, e43, hR44, hs45⟩ := u167 hR h41
    replace hs45 := hs.tr hs45
    refine exb (c_V_of e43) ?_
    refine exb (rR_gr hR44 50) ?_
    obtain ⟨v_46, h47, h⟩ := bd h
    refine exb (rR_al hR44 h47) ?_
    by_cases q48 : v_46 = 0
    · rw [if_pos q48] at h ⊢
      exact simT hs45 (q204_157 hR44 v1 v2 v5 (0 : Int64) v5 h)
    · rw [if_neg q48] at h ⊢
      exact simT hs45 (q204_157 hR44 v1 v2 v5 (1 : Int64) v5 h)
  · rw [if_neg q49] at h ⊢
    exact simT hs (q204_189 hR v2 v5 h)
theorem q204_107 {m : Nat} {ad : Nat → Nat} {M : hM} {S : sT} (hR : rR m ad M S) (v1 : Int32) (v2 : Int32) (v3 : Int32) (v5 : Int32) {rs : sRes sT} (h : c204_107 v1 v2 v3 v5 S = some rs) : ∃ res, b204_107 m v1 v2 v3 v5 M = some res ∧ simR o_V f_1 (fun _ as => as) m ad M rs res := by
  have hs : sm m ad M M := sm.rf
  unfold c204_107 at h
  unfold b204_107
  by_cases q37 : v3 = (1 : Int32)
  · rw [if_pos q37] at h ⊢
    refine exb (rR_go hR) ?_
    obtain ⟨q_31, h32, h⟩ := bd h
    obtain ⟨M33, e34, hR35, hs36⟩ := u167 hR h32
    replace hs36 := hs.tr hs36
    refine exb (c_V_of e34) ?_
    exact simT hs36 (q204_121 hR35 v1 v2 v3 v5 h)
  · rw [if_neg q37] at h ⊢
    exact simT hs (q204_121 hR v1 v2 v3 v5 h)
theorem q204_75 {m : Nat} {ad : Nat → Nat} {M : hM} {S : sT} (hR : rR m ad M S) (v1 : Int32) (v2 : Int32) (v3 : Int32) (si0 : Int32) (si1 : Int32) {rs : sRes sT} (h : c204_75 v1 v2 v3 si0 si1 S = some rs) : ∃ res, b204_75 m v1 v2 v3 si0 si1 (some m) M = some res ∧ simR o_V f_1 (fun _ as => as) m ad M rs res := by
  have hs : sm m ad M M := sm.rf
  unfold c204_75 at h
  unfold b204_75
  refine exb (rR_gr hR 35) ?_
  obtain ⟨v_14, h15, h⟩ := bd h
  refine exb (rR_al hR h15) ?_
  refine exb (rR_go hR) ?_
  obtain ⟨q_16, h17, h⟩ := bd h
  obtain ⟨M18, e19, hR20, hs21⟩ := u168 hR h17
  replace hs21 := hs.tr hs21
  refine exb (c_I_of e19) ?_
  by_cases q30 : v3 = 0
  · rw [if_pos q30] at h ⊢
    refine exb (rR_gr hR20 49) ?_
    obtain ⟨v_22, h23, h⟩ := bd h
    refine exb (rR_al hR20 h23) ?_
    refine exb (rR_go hR20) ?_
    obtain ⟨q_24, h25, h⟩ := bd h
    obtain ⟨M26, e27, hR28, hs29⟩ := u167 hR20 h25
    replace hs29 := hs21.tr hs29
    refine exb (c_V_of e27) ?_
    exact simT hs29 (q204_107 hR28 v1 v2 v3 q_16.1 h)
  · rw [if_neg q30] at h ⊢
    exact simT hs21 (q204_107 hR20 v1 v2 v3 q_16.1 h)
theorem q204_54 {m : Nat} {ad : Nat → Nat} {M : hM} {S : sT} (hR : rR m ad M S) (v1 : Int32) (v2 : Int32) (v3 : Int32) (si0 : Int32) {rs : sRes sT} (h : c204_54 v1 v2 v3 si0 S = some rs) : ∃ res, b204_54 m v1 v2 v3 si0 M = some res ∧ simR o_V f_1 (fun _ as => as) m ad M rs res := by
  have hs : sm m ad M M := sm.rf
  unfold c204_54 at h
  unfold b204_54
  by_cases q13 : v3 = 0
  · rw [if_pos q13] at h ⊢
    exact simT hs (q204_75 hR v1 v2 v3 (16777212 : Int32) si0 h)
  · rw [if_neg q13] at h ⊢
    refine exb (rR_gr hR 60) ?_
    obtain ⟨v_11, h12, h⟩ := bd h
    refine exb (rR_al hR h12) ?_
    exact simT hs (q204_75 hR v1 v2 v3 v_11 si0 h)
theorem q204_0 {m : Nat} {ad : Nat → Nat} {M : hM} {S : sT} (hR : rR m ad M S) (v1 : Int32) {rs : sRes sT} (h : c204_0 v1 S = some rs) : ∃ res, b204_0 m v1 M = some res ∧ simR o_V f_1 (fun _ as => as) m ad M rs res := by
  have hs : sm m ad M M := sm.rf
  unfold c204_0 at h
  unfold b204_0
  refine exb (rR_gr hR 48) ?_
  obtain ⟨v_1, h2, h⟩ := bd h
  refine exb (rR_al hR h2) ?_
  refine exb (rR_gr hR 35) ?_
  obtain ⟨v_3, h4, h⟩ := bd h
  refine exb (rR_al hR h4) ?_
  by_cases q10 : v_3 = 0
  · rw [if_pos q10] at h ⊢
    obtain rfl := Option.some.inj h
    exact ⟨_, rfl, _, rfl, hR, hs⟩
  · rw [if_neg q10] at h ⊢
    refine exb (rR_gr hR 56) ?_
    obtain ⟨v_5, h6, h⟩ := bd h
    refine exb (rR_al hR h6) ?_
    by_cases q9 : v_5 = 0
    · rw [if_pos q9] at h ⊢
      exact simT hs (q204_54 hR v1 v_1 v_5 (5 : Int32) h)
    · rw [if_neg q9] at h ⊢
      by_cases q8 : v_5 = (1 : Int32)
      · rw [if_pos q8] at h ⊢
        exact simT hs (q204_54 hR v1 v_1 v_5 (7 : Int32) h)
      · rw [if_neg q8] at h ⊢
        by_cases q7 : v_5 = (2 : Int32)
        · rw [if_pos q7] at h ⊢
          exact simT hs (q204_54 hR v1 v_1 v_5 (9 : Int32) h)
        · rw [if_neg q7] at h ⊢
          exact simT hs (q204_54 hR v1 v_1 v_5 (13 : Int32) h)
theorem u204 {m : Nat} {ad : Nat → Nat} {M : hM} {S : sT} (hR : rR m ad M S) {v1 : Int32} {q : sT} (h : e204 v1 S = some q) : ∃ M1, f204 [.inr (.inr (some m)), .inl v1] M = some (none, M1) ∧ rR m ad M1 q ∧ sm m ad M M1 := by
  exact s_out_sim (o := o_V) (f := f_1) (J := fun _ as => as) (fun rs hx => q204_0 hR v1 hx) h
/-! reference: ends(II)V -/
def c205_0 (v1 : Int32) (v2 : Int32) (S : sT) : Option (sRes sT) :=
  Option.bind (s_s S 56 v1 v2) fun S1 =>
  Option.bind (s_s S1 59 v1 (s_g S1 3)) fun S7 =>
  some (.inl S7)
def e205 (v1 : Int32) (v2 : Int32) (S : sT) : Option sT := s_out (c205_0 v1 v2 S)
theorem q205_0 {m : Nat} {ad : Nat → Nat} {M : hM} {S : sT} (hR : rR m ad M S) (v1 : Int32) (v2 : Int32) {rs : sRes sT} (h : c205_0 v1 v2 S = some rs) : ∃ res, b205_0 m v1 v2 M = some res ∧ simR o_V f_1 (fun _ as => as) m ad M rs res := by
  have hs : sm m ad M M := sm.rf
  unfold c205_0 at h
  unfold b205_0
  refine exb (rR_gr hR 56) ?_
  obtain ⟨S1, h3, h⟩ := bd h
  obtain ⟨M2, e4, hR5, hs6⟩ := rR_si hR h3
  replace hs6 := hs.tr hs6
  refine exb e4 ?_
  refine exb (rR_gr hR5 59) ?_
  refine exb (rR_gi hR5 3) ?_
  obtain ⟨S7, h9, h⟩ := bd h
  obtain ⟨M8, e10, hR11, hs12⟩ := rR_si hR5 h9
  replace hs12 := hs6.tr hs12
  refine exb e10 ?_
  obtain rfl := Option.some.inj h
  exact ⟨_, rfl, _, rfl, hR11, hs12⟩
theorem u205 {m : Nat} {ad : Nat → Nat} {M : hM} {S : sT} (hR : rR m ad M S) {v1 : Int32} {v2 : Int32} {q : sT} (h : e205 v1 v2 S = some q) : ∃ M1, f205 [.inr (.inr (some m)), .inl v1, .inl v2] M = some (none, M1) ∧ rR m ad M1 q ∧ sm m ad M M1 := by
  exact s_out_sim (o := o_V) (f := f_1) (J := fun _ as => as) (fun rs hx => q205_0 hR v1 v2 hx) h
/-! reference: turns(II)V -/
def c206_0 (v1 : Int32) (v2 : Int32) (S : sT) : Option (sRes sT) :=
  Option.bind (s_s S 56 v1 v2) fun S1 =>
  Option.bind (s_s S1 57 v1 (s_g S1 3)) fun S7 =>
  Option.bind (e204 v1 S7) fun q_13 =>
  some (.inl q_13)
def e206 (v1 : Int32) (v2 : Int32) (S : sT) : Option sT := s_out (c206_0 v1 v2 S)
theorem q206_0 {m : Nat} {ad : Nat → Nat} {M : hM} {S : sT} (hR : rR m ad M S) (v1 : Int32) (v2 : Int32) {rs : sRes sT} (h : c206_0 v1 v2 S = some rs) : ∃ res, b206_0 m v1 v2 M = some res ∧ simR o_V f_1 (fun _ as => as) m ad M rs res := by
  have hs : sm m ad M M := sm.rf
  unfold c206_0 at h
  unfold b206_0
  refine exb (rR_gr hR 56) ?_
  obtain ⟨S1, h3, h⟩ := bd h
  obtain ⟨M2, e4, hR5, hs6⟩ := rR_si hR h3
  replace hs6 := hs.tr hs6
  refine exb e4 ?_
  refine exb (rR_gr hR5 57) ?_
  refine exb (rR_gi hR5 3) ?_
  obtain ⟨S7, h9, h⟩ := bd h
  obtain ⟨M8, e10, hR11, hs12⟩ := rR_si hR5 h9
  replace hs12 := hs6.tr hs12
  refine exb e10 ?_
  refine exb (rR_go hR11) ?_
  obtain ⟨q_13, h14, h⟩ := bd h
  obtain ⟨M15, e16, hR17, hs18⟩ := u204 hR11 h14
  replace hs18 := hs12.tr hs18
  refine exb (c_V_of e16) ?_
  obtain rfl := Option.some.inj h
  exact ⟨_, rfl, _, rfl, hR17, hs18⟩
theorem u206 {m : Nat} {ad : Nat → Nat} {M : hM} {S : sT} (hR : rR m ad M S) {v1 : Int32} {v2 : Int32} {q : sT} (h : e206 v1 v2 S = some q) : ∃ M1, f206 [.inr (.inr (some m)), .inl v1, .inl v2] M = some (none, M1) ∧ rR m ad M1 q ∧ sm m ad M M1 := by
  exact s_out_sim (o := o_V) (f := f_1) (J := fun _ as => as) (fun rs hx => q206_0 hR v1 v2 hx) h
/-! reference: commandTimer(I)V -/
def c207_152  (S : sT) : Option (sRes sT) :=
  some (.inl S)
def c207_107 (v1 : Int32) (S : sT) : Option (sRes sT) :=
  Option.bind (s_a S 56 v1) fun v_37 =>
  if v_37 = (2 : Int32) then
    (c207_152  S)
  else
    (Option.bind (s_a S 57 v1) fun v_39 =>
    if (s_g S 3) ≤ v_39 then
      (c207_152  S)
    else
      (Option.bind (s_a S 57 v1) fun v_41 =>
      Option.bind (d_m ((s_g S 3) - v_41) (20 : Int32)) fun v_43 =>
      if v_43 = 0 then
        (Option.bind (e204 v1 S) fun q_45 =>
        c207_152  q_45)
      else
        (c207_152  S)))
def c207_71 (v1 : Int32) (S : sT) : Option (sRes sT) :=
  Option.bind (s_a S 56 v1) fun v_25 =>
  if v_25 = (3 : Int32) then
    (Option.bind (s_a S 57 v1) fun v_27 =>
    if ((s_g S 3) - v_27) < (60 : Int32) then
      (c207_107 v1 S)
    else
      (Option.bind (e205 v1 (12 : Int32) S) fun q_29 =>
      c207_152  q_29))
  else
    (c207_107 v1 S)
def c207_36 (v1 : Int32) (S : sT) : Option (sRes sT) :=
  Option.bind (s_a S 56 v1) fun v_13 =>
  if v_13 = (2 : Int32) then
    (Option.bind (s_a S 58 v1) fun v_15 =>
    if ((s_g S 3) - v_15) < (120 : Int32) then
      (c207_71 v1 S)
    else
      (Option.bind (e206 v1 (3 : Int32) S) fun q_17 =>
      c207_152  q_17))
  else
    (c207_71 v1 S)
def c207_0 (v1 : Int32) (S : sT) : Option (sRes sT) :=
  Option.bind (s_a S 56 v1) fun v_1 =>
  if (2 : Int32) ≤ v_1 then
    (c207_36 v1 S)
  else
    (Option.bind (s_a S 58 v1) fun v_3 =>
    if ((s_g S 3) - v_3) < (120 : Int32) then
      (c207_36 v1 S)
    else
      (Option.bind (e205 v1 (13 : Int32) S) fun q_5 =>
      c207_152  q_5))
def e207 (v1 : Int32) (S : sT) : Option sT := s_out (c207_0 v1 S)
theorem q207_152 {m : Nat} {ad : Nat → Nat} {M : hM} {S : sT} (hR : rR m ad M S)  {rs : sRes sT} (h : c207_152  S = some rs) : ∃ res, b207_152  M = some res ∧ simR o_V f_1 (fun _ as => as) m ad M rs res := by
  have hs : sm m ad M M := sm.rf
  unfold c207_152 at h
  unfold b207_152
  obtain rfl := Option.some.inj h
  exact ⟨_, rfl, _, rfl, hR, hs⟩
theorem q207_107 {m : Nat} {ad : Nat → Nat} {M : hM} {S : sT} (hR : rR m ad M S) (v1 : Int32) {rs : sRes sT} (h : c207_107 v1 S = some rs) : ∃ res, b207_107 m v1 M = some res ∧ simR o_V f_1 (fun _ as => as) m ad M rs res := by
  have hs : sm m ad M M := sm.rf
  unfold c207_107 at h
  unfold b207_107
  refine exb (rR_gr hR 56) ?_
  obtain ⟨v_37, h38, h⟩ := bd h
  refine exb (rR_al hR h38) ?_
  by_cases q53 : v_37 = (2 : Int32)
  · rw [if_pos q53] at h ⊢
    exact simT hs (q207_152 hR  h)
  · rw [if_neg q53] at h ⊢
    refine exb (rR_gi hR 3) ?_
    refine exb (rR_gr hR 57) ?_
    obtain ⟨v_39, h40, h⟩ := bd h
    refine exb (rR_al hR h40) ?_
    by_cases q52 : (s_g S 3) ≤ v_39
    · rw [if_pos q52] at h ⊢
      exact simT hs (q207_152 hR  h)
    · rw [if_neg q52] at h ⊢
      refine exb (rR_gi hR 3) ?_
      refine exb (rR_gr hR 57) ?_
      obtain ⟨v_41, h42, h⟩ := bd h
      refine exb (rR_al hR h42) ?_
      obtain ⟨v_43, h44, h⟩ := bd h
      refine exb h44 ?_
      by_cases q51 : v_43 = 0
      · rw [if_pos q51] at h ⊢
        refine exb (rR_go hR) ?_
        obtain ⟨q_45, h46, h⟩ := bd h
        obtain ⟨M47, e48, hR49, hs50⟩ := u204 hR h46
        replace hs50 := hs.tr hs50
        refine exb (c_V_of e48) ?_
        exact simT hs50 (q207_152 hR49  h)
      · rw [if_neg q51] at h ⊢
        exact simT hs (q207_152 hR  h)
theorem q207_71 {m : Nat} {ad : Nat → Nat} {M : hM} {S : sT} (hR : rR m ad M S) (v1 : Int32) {rs : sRes sT} (h : c207_71 v1 S = some rs) : ∃ res, b207_71 m v1 M = some res ∧ simR o_V f_1 (fun _ as => as) m ad M rs res := by
  have hs : sm m ad M M := sm.rf
  unfold c207_71 at h
  unfold b207_71
  refine exb (rR_gr hR 56) ?_
  obtain ⟨v_25, h26, h⟩ := bd h
  refine exb (rR_al hR h26) ?_
  by_cases q36 : v_25 = (3 : Int32)
  · rw [if_pos q36] at h ⊢
    refine exb (rR_gi hR 3) ?_
    refine exb (rR_gr hR 57) ?_
    obtain ⟨v_27, h28, h⟩ := bd h
    refine exb (rR_al hR h28) ?_
    by_cases q35 : ((s_g S 3) - v_27) < (60 : Int32)
    · rw [if_pos q35] at h ⊢
      exact simT hs (q207_107 hR v1 h)
    · rw [if_neg q35] at h ⊢
      refine exb (rR_go hR) ?_
      obtain ⟨q_29, h30, h⟩ := bd h
      obtain ⟨M31, e32, hR33, hs34⟩ := u205 hR h30
      replace hs34 := hs.tr hs34
      refine exb (c_V_of e32) ?_
      exact simT hs34 (q207_152 hR33  h)
  · rw [if_neg q36] at h ⊢
    exact simT hs (q207_107 hR v1 h)
theorem q207_36 {m : Nat} {ad : Nat → Nat} {M : hM} {S : sT} (hR : rR m ad M S) (v1 : Int32) {rs : sRes sT} (h : c207_36 v1 S = some rs) : ∃ res, b207_36 m v1 M = some res ∧ simR o_V f_1 (fun _ as => as) m ad M rs res := by
  have hs : sm m ad M M := sm.rf
  unfold c207_36 at h
  unfold b207_36
  refine exb (rR_gr hR 56) ?_
  obtain ⟨v_13, h14, h⟩ := bd h
  refine exb (rR_al hR h14) ?_
  by_cases q24 : v_13 = (2 : Int32)
  · rw [if_pos q24] at h ⊢
    refine exb (rR_gi hR 3) ?_
    refine exb (rR_gr hR 58) ?_
    obtain ⟨v_15, h16, h⟩ := bd h
    refine exb (rR_al hR h16) ?_
    by_cases q23 : ((s_g S 3) - v_15) < (120 : Int32)
    · rw [if_pos q23] at h ⊢
      exact simT hs (q207_71 hR v1 h)
    · rw [if_neg q23] at h ⊢
      refine exb (rR_go hR) ?_
      obtain ⟨q_17, h18, h⟩ := bd h
      obtain ⟨M19, e20, hR21, hs22⟩ := u206 hR h18
      replace hs22 := hs.tr hs22
      refine exb (c_V_of e20) ?_
      exact simT hs22 (q207_152 hR21  h)
  · rw [if_neg q24] at h ⊢
    exact simT hs (q207_71 hR v1 h)
theorem q207_0 {m : Nat} {ad : Nat → Nat} {M : hM} {S : sT} (hR : rR m ad M S) (v1 : Int32) {rs : sRes sT} (h : c207_0 v1 S = some rs) : ∃ res, b207_0 m v1 M = some res ∧ simR o_V f_1 (fun _ as => as) m ad M rs res := by
  have hs : sm m ad M M := sm.rf
  unfold c207_0 at h
  unfold b207_0
  refine exb (rR_gr hR 56) ?_
  obtain ⟨v_1, h2, h⟩ := bd h
  refine exb (rR_al hR h2) ?_
  by_cases q12 : (2 : Int32) ≤ v_1
  · rw [if_pos q12] at h ⊢
    exact simT hs (q207_36 hR v1 h)
  · rw [if_neg q12] at h ⊢
    refine exb (rR_gi hR 3) ?_
    refine exb (rR_gr hR 58) ?_
    obtain ⟨v_3, h4, h⟩ := bd h
    refine exb (rR_al hR h4) ?_
    by_cases q11 : ((s_g S 3) - v_3) < (120 : Int32)
    · rw [if_pos q11] at h ⊢
      exact simT hs (q207_36 hR v1 h)
    · rw [if_neg q11] at h ⊢
      refine exb (rR_go hR) ?_
      obtain ⟨q_5, h6, h⟩ := bd h
      obtain ⟨M7, e8, hR9, hs10⟩ := u205 hR h6
      replace hs10 := hs.tr hs10
      refine exb (c_V_of e8) ?_
      exact simT hs10 (q207_152 hR9  h)
theorem u207 {m : Nat} {ad : Nat → Nat} {M : hM} {S : sT} (hR : rR m ad M S) {v1 : Int32} {q : sT} (h : e207 v1 S = some q) : ∃ M1, f207 [.inr (.inr (some m)), .inl v1] M = some (none, M1) ∧ rR m ad M1 q ∧ sm m ad M M1 := by
  exact s_out_sim (o := o_V) (f := f_1) (J := fun _ as => as) (fun rs hx => q207_0 hR v1 hx) h
/-! reference: nodeTimers(I)V -/
def c208_86 (v1 : Int32) (S : sT) : Option (sRes sT) :=
  some (.inr (88, [.inl v1, .inl (0 : Int32)], S))
def c208_41 (v1 : Int32) (v2 : Int32) (si0 : Int32) (si1 : Int32) (S : sT) : Option (sRes sT) :=
  if si1 < si0 then
    (c208_86 v1 S)
  else
    (Option.bind (s_s S 36 v1 (s_g S 3)) fun S19 =>
    Option.bind (s_a S19 35 v1) fun v_25 =>
    Option.bind (e168 (3 : Int32) (16777214 : Int32) v_25 (0 : Int32) (0 : Int32) (0 : Int32) S19) fun q_27 =>
    Option.bind (e167 q_27.1 (Int32.toInt64 v1) (1 : Int32) q_27.2) fun q_33 =>
    Option.bind (e183 v2 q_27.1 q_33) fun q_39 =>
    c208_86 v1 q_39)
def c208_0 (v1 : Int32) (S : sT) : Option (sRes sT) :=
  Option.bind (e176 v1 S) fun q_1 =>
  Option.bind (e177 q_1.1 q_1.2) fun q_7 =>
  if q_7.1 = 0 then
    (c208_86 v1 q_7.2)
  else
    (Option.bind (s_a q_7.2 36 v1) fun v_13 =>
    Option.bind (s_a q_7.2 35 v1) fun v_15 =>
    if v_15 = 0 then
      (c208_41 v1 q_1.1 (30 : Int32) ((s_g q_7.2 3) - v_13) q_7.2)
    else
      (c208_41 v1 q_1.1 (90 : Int32) ((s_g q_7.2 3) - v_13) q_7.2))
def c208_121 (v1 : Int32) (v3 : Int32) (S : sT) : Option (sRes sT) :=
  some (.inr (88, [.inl v1, .inl (v3 + (1 : Int32))], S))
def c208_88 (v1 : Int32) (v3 : Int32) (S : sT) : Option (sRes sT) :=
  if (s_g S 47) ≤ v3 then
    (some (.inr (129, [.inl v1, .inl (0 : Int32)], S)))
  else
    (Option.bind (s_a S 48 v3) fun v_46 =>
    if v_46 = v1 then
      (Option.bind (s_a S 59 v3) fun v_48 =>
      if v_48 = (-1 : Int32) then
        (Option.bind (e207 v3 S) fun q_50 =>
        c208_121 v1 v3 q_50)
      else
        (c208_121 v1 v3 S))
    else
      (c208_121 v1 v3 S))
def c208_129 (v1 : Int32) (v3 : Int32) (S : sT) : Option (sRes sT) :=
  Option.bind (s_a S 46 v1) fun v_59 =>
  if v_59 ≤ v3 then
    (some (.inl S))
  else
    (Option.bind (s_a S 44 ((((48 : Int32) * v1) + ((8 : Int32) * v3)) + (7 : Int32))) fun v_61 =>
    if ((s_g S 3) - v_61) < (120 : Int32) then
      (some (.inr (129, [.inl v1, .inl (v3 + (1 : Int32))], S)))
    else
      (Option.bind (e203 v1 v3 S) fun q_63 =>
      some (.inr (129, [.inl v1, .inl v3], q_63))))
def kS208 (h : Nat) (as : List aV) (S : sT) : Option (sRes sT) :=
  if h = 88 then (match as with | [.inl v1, .inl v3] => c208_88 v1 v3 S | _ => none) else
  if h = 129 then (match as with | [.inl v1, .inl v3] => c208_129 v1 v3 S | _ => none) else
  none
def J208 (m : Nat) (h : Nat) (as : List aV) : List aV := .inr (.inr (some m)) :: as
def e208 (v1 : Int32) (S : sT) : Option sT := s_go kS208 (c208_0 v1 S)
theorem q208_86 {m : Nat} {ad : Nat → Nat} {M : hM} {S : sT} (hR : rR m ad M S) (v1 : Int32) {rs : sRes sT} (h : c208_86 v1 S = some rs) : ∃ res, b208_86 m v1 M = some res ∧ simR o_V f_1 (J208 m) m ad M rs res := by
  have hs : sm m ad M M := sm.rf
  unfold c208_86 at h
  unfold b208_86
  obtain rfl := Option.some.inj h
  exact ⟨_, rfl, _, rfl, hR, hs⟩
theorem q208_41 {m : Nat} {ad : Nat → Nat} {M : hM} {S : sT} (hR : rR m ad M S) (v1 : Int32) (v2 : Int32) (si0 : Int32) (si1 : Int32) {rs : sRes sT} (h : c208_41 v1 v2 si0 si1 S = some rs) : ∃ res, b208_41 m v1 v2 si0 si1 M = some res ∧ simR o_V f_1 (J208 m) m ad M rs res := by
  have hs : sm m ad M M := sm.rf
  unfold c208_41 at h
  unfold b208_41
  by_cases q45 : si1 < si0
  · rw [if_pos q45] at h ⊢
    exact simT hs (q208_86 hR v1 h)
  · rw [if_neg q45] at h ⊢
    refine exb (rR_gr hR 36) ?_
    refine exb (rR_gi hR 3) ?_
    obtain ⟨S19, h21, h⟩ := bd h
    obtain ⟨M20, e22, hR23, hs24⟩ := rR_si hR h21
    replace hs24 := hs.tr hs24
    refine exb e22 ?_
    refine exb (rR_gr hR23 35) ?_
    obtain ⟨v_25, h26, h⟩ := bd h
    refine exb (rR_al hR23 h26) ?_
    refine exb (rR_go hR23) ?_
    obtain ⟨q_27, h28, h⟩ := bd h
    obtain ⟨M29, e30, hR31, hs32⟩ := u168 hR23 h28
    replace hs32 := hs24.tr hs32
    refine exb (c_I_of e30) ?_
    refine exb (rR_go hR31) ?_
    obtain ⟨q_33, h34, h⟩ := bd h
    obtain ⟨M35, e36, hR37, hs38⟩ := u167 hR31 h34
    replace hs38 := hs32.tr hs38
    refine exb (c_V_of e36) ?_
    refine exb (rR_go hR37) ?_
    obtain ⟨q_39, h40, h⟩ := bd h
    obtain ⟨M41, e42, hR43, hs44⟩ := u183 hR37 h40
    replace hs44 := hs38.tr hs44
    refine exb (c_V_of e42) ?_
    exact simT hs44 (q208_86 hR43 v1 h)
theorem q208_0 {m : Nat} {ad : Nat → Nat} {M : hM} {S : sT} (hR : rR m ad M S) (v1 : Int32) {rs : sRes sT} (h : c208_0 v1 S = some rs) : ∃ res, b208_0 m v1 M = some res ∧ simR o_V f_1 (J208 m) m ad M rs res := by
  have hs : sm m ad M M := sm.rf
  unfold c208_0 at h
  unfold b208_0
  refine exb (rR_go hR) ?_
  obtain ⟨q_1, h2, h⟩ := bd h
  obtain ⟨M3, e4, hR5, hs6⟩ := u176 hR h2
  replace hs6 := hs.tr hs6
  refine exb (c_I_of e4) ?_
  refine exb (rR_go hR5) ?_
  obtain ⟨q_7, h8, h⟩ := bd h
  obtain ⟨M9, e10, hR11, hs12⟩ := u177 hR5 h8
  replace hs12 := hs6.tr hs12
  refine exb (c_I_of e10) ?_
  by_cases q18 : q_7.1 = 0
  · rw [if_pos q18] at h ⊢
    exact simT hs12 (q208_86 hR11 v1 h)
  · rw [if_neg q18] at h ⊢
    refine exb (rR_gi hR11 3) ?_
    refine exb (rR_gr hR11 36) ?_
    obtain ⟨v_13, h14, h⟩ := bd h
    refine exb (rR_al hR11 h14) ?_
    refine exb (rR_gr hR11 35) ?_
    obtain ⟨v_15, h16, h⟩ := bd h
    refine exb (rR_al hR11 h16) ?_
    by_cases q17 : v_15 = 0
    · rw [if_pos q17] at h ⊢
      exact simT hs12 (q208_41 hR11 v1 q_1.1 (30 : Int32) ((s_g q_7.2 3) - v_13) h)
    · rw [if_neg q17] at h ⊢
      exact simT hs12 (q208_41 hR11 v1 q_1.1 (90 : Int32) ((s_g q_7.2 3) - v_13) h)
theorem q208_121 {m : Nat} {ad : Nat → Nat} {M : hM} {S : sT} (hR : rR m ad M S) (v1 : Int32) (v3 : Int32) {rs : sRes sT} (h : c208_121 v1 v3 S = some rs) : ∃ res, b208_121 m v1 v3 M = some res ∧ simR o_V f_1 (J208 m) m ad M rs res := by
  have hs : sm m ad M M := sm.rf
  unfold c208_121 at h
  unfold b208_121
  obtain rfl := Option.some.inj h
  exact ⟨_, rfl, _, rfl, hR, hs⟩
theorem q208_88 {m : Nat} {ad : Nat → Nat} {M : hM} {S : sT} (hR : rR m ad M S) (v1 : Int32) (v3 : Int32) {rs : sRes sT} (h : c208_88 v1 v3 S = some rs) : ∃ res, b208_88 m v1 v3 M = some res ∧ simR o_V f_1 (J208 m) m ad M rs res := by
  have hs : sm m ad M M := sm.rf
  unfold c208_88 at h
  unfold b208_88
  refine exb (rR_gi hR 47) ?_
  by_cases q58 : (s_g S 47) ≤ v3
  · rw [if_pos q58] at h ⊢
    obtain rfl := Option.some.inj h
    exact ⟨_, rfl, _, rfl, hR, hs⟩
  · rw [if_neg q58] at h ⊢
    refine exb (rR_gr hR 48) ?_
    obtain ⟨v_46, h47, h⟩ := bd h
    refine exb (rR_al hR h47) ?_
    by_cases q57 : v_46 = v1
    · rw [if_pos q57] at h ⊢
      refine exb (rR_gr hR 59) ?_
      obtain ⟨v_48, h49, h⟩ := bd h
      refine exb (rR_al hR h49) ?_
      by_cases q56 : v_48 = (-1 : Int32)
      · rw [if_pos q56] at h ⊢
        refine exb (rR_go hR) ?_
        obtain ⟨q_50, h51, h⟩ := bd h
        obtain ⟨M52, e53, hR54, hs55⟩ := u207 hR h51
        replace hs55 := hs.tr hs55
        refine exb (c_V_of e53) ?_
        exact simT hs55 (q208_121 hR54 v1 v3 h)
      · rw [if_neg q56] at h ⊢
        exact simT hs (q208_121 hR v1 v3 h)
    · rw [if_neg q57] at h ⊢
      exact simT hs (q208_121 hR v1 v3 h)
theorem q208_129 {m : Nat} {ad : Nat → Nat} {M : hM} {S : sT} (hR : rR m ad M S) (v1 : Int32) (v3 : Int32) {rs : sRes sT} (h : c208_129 v1 v3 S = some rs) : ∃ res, b208_129 m v1 v3 M = some res ∧ simR o_V f_1 (J208 m) m ad M rs res := by
  have hs : sm m ad M M := sm.rf
  unfold c208_129 at h
  unfold b208_129
  refine exb (rR_gr hR 46) ?_
  obtain ⟨v_59, h60, h⟩ := bd h
  refine exb (rR_al hR h60) ?_
  by_cases q70 : v_59 ≤ v3
  · rw [if_pos q70] at h ⊢
    obtain rfl := Option.some.inj h
    exact ⟨_, rfl, _, rfl, hR, hs⟩
  · rw [if_neg q70] at h ⊢
    refine exb (rR_gi hR 3) ?_
    refine exb (rR_gr hR 44) ?_
    obtain ⟨v_61, h62, h⟩ := bd h
    refine exb (rR_al hR h62) ?_
    by_cases q69 : ((s_g S 3) - v_61) < (120 : Int32)
    · rw [if_pos q69] at h ⊢
      obtain rfl := Option.some.inj h
      exact ⟨_, rfl, _, rfl, hR, hs⟩
    · rw [if_neg q69] at h ⊢
      refine exb (rR_go hR) ?_
      obtain ⟨q_63, h64, h⟩ := bd h
      obtain ⟨M65, e66, hR67, hs68⟩ := u203 hR h64
      replace hs68 := hs.tr hs68
      refine exb (c_V_of e66) ?_
      obtain rfl := Option.some.inj h
      exact ⟨_, rfl, _, rfl, hR67, hs68⟩
theorem u208 {m : Nat} {ad : Nat → Nat} {M : hM} {S : sT} (hR : rR m ad M S) {v1 : Int32} {q : sT} (h : e208 v1 S = some q) : ∃ M1, f208 [.inr (.inr (some m)), .inl v1] M = some (none, M1) ∧ rR m ad M1 q ∧ sm m ad M M1 := by
  unfold e208 at h
  show ∃ M1, x_go k208 (b208_0 m v1 M) = some (o_V q, M1) ∧ rR m ad M1 (f_1 q) ∧ sm m ad M M1
  refine s_go_ok (o := o_V) (f := f_1) (J := J208 m) (bs := kS208) (bk := k208) (xs := c208_0 v1 S) (x := b208_0 m v1 M) (M := M) (q := q) ?_ (fun rs hx => q208_0 hR v1 hx) h
  intro h as S M rs hR hb
  unfold kS208 at hb
  unfold k208 J208
  by_cases e0 : h = 88
  · rw [if_pos e0] at hb ⊢
    split at hb
    · subst e0; exact q208_88 hR _ _ hb
    · cases hb
  · rw [if_neg e0] at hb
    by_cases e1 : h = 129
    · rw [if_pos e1] at hb ⊢
      split at hb
      · subst e1; exact q208_129 hR _ _ hb
      · cases hb
    · rw [if_neg e1] at hb
      cases hb
/-! reference: eight(I)J -/
def c209_0 (v1 : Int32) (S : sT) : Option (sRes (Int64 × sT)) :=
  some (.inr (5, [.inl v1, .inr (.inl (0 : Int64)), .inl (0 : Int32)], S))
def c209_5 (v1 : Int32) (w2 : Int64) (v4 : Int32) (S : sT) : Option (sRes (Int64 × sT)) :=
  if (8 : Int32) ≤ v4 then
    (some (.inl (w2, S)))
  else
    (Option.bind (e165 v1 ((13 : Int32) + v4) S) fun q_1 =>
    some (.inr (5, [.inl v1, .inr (.inl ((w2 <<< (Int32.toInt64 (8 : Int32) &&& 63)) ||| (Int32.toInt64 q_1.1))), .inl (v4 + (1 : Int32))], q_1.2)))
def kS209 (h : Nat) (as : List aV) (S : sT) : Option (sRes (Int64 × sT)) :=
  if h = 5 then (match as with | [.inl v1, .inr (.inl w2), .inl v4] => c209_5 v1 w2 v4 S | _ => none) else
  none
def J209 (m : Nat) (h : Nat) (as : List aV) : List aV := .inr (.inr (some m)) :: as
def e209 (v1 : Int32) (S : sT) : Option (Int64 × sT) := s_go kS209 (c209_0 v1 S)
theorem q209_0 {m : Nat} {ad : Nat → Nat} {M : hM} {S : sT} (hR : rR m ad M S) (v1 : Int32) {rs : sRes (Int64 × sT)} (h : c209_0 v1 S = some rs) : ∃ res, b209_0 m v1 M = some res ∧ simR o_L f_2 (J209 m) m ad M rs res := by
  have hs : sm m ad M M := sm.rf
  unfold c209_0 at h
  unfold b209_0
  obtain rfl := Option.some.inj h
  exact ⟨_, rfl, _, rfl, hR, hs⟩
theorem q209_5 {m : Nat} {ad : Nat → Nat} {M : hM} {S : sT} (hR : rR m ad M S) (v1 : Int32) (w2 : Int64) (v4 : Int32) {rs : sRes (Int64 × sT)} (h : c209_5 v1 w2 v4 S = some rs) : ∃ res, b209_5 m v1 w2 v4 M = some res ∧ simR o_L f_2 (J209 m) m ad M rs res := by
  have hs : sm m ad M M := sm.rf
  unfold c209_5 at h
  unfold b209_5
  by_cases q7 : (8 : Int32) ≤ v4
  · rw [if_pos q7] at h ⊢
    obtain rfl := Option.some.inj h
    exact ⟨_, rfl, _, rfl, hR, hs⟩
  · rw [if_neg q7] at h ⊢
    refine exb (rR_go hR) ?_
    obtain ⟨q_1, h2, h⟩ := bd h
    obtain ⟨M3, e4, hR5, hs6⟩ := u165 hR h2
    replace hs6 := hs.tr hs6
    refine exb (c_I_of e4) ?_
    obtain rfl := Option.some.inj h
    exact ⟨_, rfl, _, rfl, hR5, hs6⟩
theorem u209 {m : Nat} {ad : Nat → Nat} {M : hM} {S : sT} (hR : rR m ad M S) {v1 : Int32} {q : (Int64 × sT)} (h : e209 v1 S = some q) : ∃ M1, f209 [.inr (.inr (some m)), .inl v1] M = some (some (.inr (.inl q.1)), M1) ∧ rR m ad M1 q.2 ∧ sm m ad M M1 := by
  unfold e209 at h
  show ∃ M1, x_go k209 (b209_0 m v1 M) = some (o_L q, M1) ∧ rR m ad M1 (f_2 q) ∧ sm m ad M M1
  refine s_go_ok (o := o_L) (f := f_2) (J := J209 m) (bs := kS209) (bk := k209) (xs := c209_0 v1 S) (x := b209_0 m v1 M) (M := M) (q := q) ?_ (fun rs hx => q209_0 hR v1 hx) h
  intro h as S M rs hR hb
  unfold kS209 at hb
  unfold k209 J209
  by_cases e0 : h = 5
  · rw [if_pos e0] at hb ⊢
    split at hb
    · subst e0; exact q209_5 hR _ _ _ hb
    · cases hb
  · rw [if_neg e0] at hb
    cases hb
/-! reference: ofCommand(III)V -/
def c210_289  (S : sT) : Option (sRes sT) :=
  some (.inl S)
def c210_273 (v1 : Int32) (S : sT) : Option (sRes sT) :=
  Option.bind (e205 v1 (10 : Int32) S) fun q_126 =>
  c210_289  q_126
def c210_196 (v1 : Int32) (v2 : Int32) (v3 : Int32) (S : sT) : Option (sRes sT) :=
  if v3 = (12 : Int32) then
    (Option.bind (e165 v2 (13 : Int32) S) fun q_88 =>
    if q_88.1 = (1 : Int32) then
      (Option.bind (s_a q_88.2 48 v1) fun v_108 =>
      Option.bind (s_a q_88.2 49 v1) fun v_110 =>
      Option.bind (s_s q_88.2 39 (((8 : Int32) * v_108) + v_110) (0 : Int32)) fun S112 =>
      Option.bind (e205 v1 (11 : Int32) S112) fun q_118 =>
      c210_289  q_118)
    else
      (Option.bind (s_a q_88.2 50 v1) fun v_94 =>
      if v_94 = 0 then
        (Option.bind (s_a q_88.2 55 v1) fun v_96 =>
        Option.bind (s_a q_88.2 53 v1) fun v_98 =>
        if v_96 = (((1 : Int32) <<< (v_98 &&& 31)) - (1 : Int32)) then
          (c210_273 v1 q_88.2)
        else
          (Option.bind (e206 v1 (3 : Int32) q_88.2) fun q_100 =>
          c210_289  q_100))
      else
        (c210_273 v1 q_88.2)))
  else
    (c210_289  S)
def c210_138 (v1 : Int32) (v2 : Int32) (v3 : Int32) (v4 : Int32) (S : sT) : Option (sRes sT) :=
  if v3 = (11 : Int32) then
    (Option.bind (s_a S 50 v1) fun v_61 =>
    if v_61 = 0 then
      (Option.bind (s_a S 53 v1) fun v_63 =>
      if v_63 ≤ v4 then
        (c210_196 v1 v2 v3 S)
      else
        (Option.bind (e209 v2 S) fun q_65 =>
        Option.bind (s_sl q_65.2 54 (((4 : Int32) * v1) + v4) q_65.1) fun S71 =>
        Option.bind (s_a S71 55 v1) fun v_77 =>
        Option.bind (s_s S71 55 v1 (v_77 ||| ((1 : Int32) <<< (v4 &&& 31)))) fun S79 =>
        c210_289  S79))
    else
      (c210_196 v1 v2 v3 S))
  else
    (c210_196 v1 v2 v3 S)
def c210_0 (v1 : Int32) (v2 : Int32) (v3 : Int32) (S : sT) : Option (sRes sT) :=
  Option.bind (e165 v2 (11 : Int32) S) fun q_1 =>
  Option.bind (s_a q_1.2 48 v1) fun v_7 =>
  Option.bind (e176 v_7 q_1.2) fun q_9 =>
  if v3 = (14 : Int32) then
    (Option.bind (e205 v1 (12 : Int32) q_9.2) fun q_19 =>
    c210_289  q_19)
  else
    (if v3 = (10 : Int32) then
      (Option.bind (s_a q_9.2 50 v1) fun v_15 =>
      if v_15 = 0 then
        (c210_138 v1 v2 v3 q_1.1 q_9.2)
      else
        (some (.inr (55, [.inl v1, .inl v2, .inl q_9.1, .inl (0 : Int32)], q_9.2))))
    else
      (c210_138 v1 v2 v3 q_1.1 q_9.2))
def c210_55 (v1 : Int32) (v2 : Int32) (v5 : Int32) (v6 : Int32) (S : sT) : Option (sRes sT) :=
  Option.bind (s_a S 53 v1) fun v_26 =>
  if v_26 ≤ v6 then
    (c210_289  S)
  else
    (Option.bind (s_a S 60 v1) fun v_28 =>
    Option.bind (s_a S 48 v1) fun v_30 =>
    Option.bind (s_a S 35 v_30) fun v_32 =>
    Option.bind (e166 v2 (9 : Int32) (2 : Int32) S) fun q_34 =>
    Option.bind (e168 (11 : Int32) v_28 v_32 v1 q_34.1 v6 q_34.2) fun q_40 =>
    Option.bind (s_al q_40.2 54 (((4 : Int32) * v1) + v6)) fun w_46 =>
    Option.bind (e167 q_40.1 w_46 (8 : Int32) q_40.2) fun q_48 =>
    Option.bind (e183 v5 q_40.1 q_48) fun q_54 =>
    some (.inr (55, [.inl v1, .inl v2, .inl v5, .inl (v6 + (1 : Int32))], q_54)))
def kS210 (h : Nat) (as : List aV) (S : sT) : Option (sRes sT) :=
  if h = 55 then (match as with | [.inl v1, .inl v2, .inl v5, .inl v6] => c210_55 v1 v2 v5 v6 S | _ => none) else
  none
def J210 (m : Nat) (h : Nat) (as : List aV) : List aV := .inr (.inr (some m)) :: as
def e210 (v1 : Int32) (v2 : Int32) (v3 : Int32) (S : sT) : Option sT := s_go kS210 (c210_0 v1 v2 v3 S)
theorem q210_289 {m : Nat} {ad : Nat → Nat} {M : hM} {S : sT} (hR : rR m ad M S)  {rs : sRes sT} (h : c210_289  S = some rs) : ∃ res, b210_289  M = some res ∧ simR o_V f_1 (J210 m) m ad M rs res := by
  have hs : sm m ad M M := sm.rf
  unfold c210_289 at h
  unfold b210_289
  obtain rfl := Option.some.inj h
  exact ⟨_, rfl, _, rfl, hR, hs⟩
theorem q210_273 {m : Nat} {ad : Nat → Nat} {M : hM} {S : sT} (hR : rR m ad M S) (v1 : Int32) {rs : sRes sT} (h : c210_273 v1 S = some rs) : ∃ res, b210_273 m v1 M = some res ∧ simR o_V f_1 (J210 m) m ad M rs res := by
  have hs : sm m ad M M := sm.rf
  unfold c210_273 at h
  unfold b210_273
  refine exb (rR_go hR) ?_
  obtain ⟨q_126, h127, h⟩ := bd h
  obtain ⟨M128, e129, hR130, hs131⟩ := u205 hR h127
  replace hs131 := hs.tr hs131
  refine exb (c_V_of e129) ?_
  exact simT hs131 (q210_289 hR130  h)
theorem q210_196 {m : Nat} {ad : Nat → Nat} {M : hM} {S : sT} (hR : rR m ad M S) (v1 : Int32) (v2 : Int32) (v3 : Int32) {rs : sRes sT} (h : c210_196 v1 v2 v3 S = some rs) : ∃ res, b210_196 m v1 v2 v3 M = some res ∧ simR o_V f_1 (J210 m) m ad M rs res := by
  have hs : sm m ad M M := sm.rf
  unfold c210_196 at h
  unfold b210_196
  by_cases q125 : v3 = (12 : Int32)
  · rw [if_pos q125] at h ⊢
    refine exb (rR_go hR) ?_
    obtain ⟨q_88, h89, h⟩ := bd h
    obtain ⟨M90, e91, hR92, hs93⟩ := u165 hR h89
    replace hs93 := hs.tr hs93
    refine exb (c_I_of e91) ?_
    by_cases q124 : q_88.1 = (1 : Int32)
    · rw [if_pos q124] at h ⊢
      refine exb (rR_gr hR92 39) ?_
      refine exb (rR_gr hR92 48) ?_
      obtain ⟨v_108, h109, h⟩ := bd h
      refine exb (rR_al hR92 h109) ?_
      refine exb (rR_gr hR92 49) ?_
      obtain ⟨v_110, h111, h⟩ := bd h
      refine exb (rR_al hR92 h111) ?_
      obtain ⟨S112, h114, h⟩ := bd h
      obtain ⟨M113, e115, hR116, hs117⟩ := rR_si hR92 h114
      replace hs117 := hs93.tr hs117
      refine exb e115 ?_
      refine exb (rR_go hR116) ?_
      obtain ⟨q_118, h119, h⟩ := bd h
      obtain ⟨M120, e121, hR122, hs123⟩ := u205 hR116 h119
      replace hs123 := hs117.tr hs123
      refine exb (c_V_of e121) ?_
      exact simT hs123 (q210_289 hR122  h)
    · rw [if_neg q124] at h ⊢
      refine exb (rR_gr hR92 50) ?_
      obtain ⟨v_94, h95, h⟩ := bd h
      refine exb (rR_al hR92 h95) ?_
      by_cases q107 : v_94 = 0
      · rw [if_pos q107] at h ⊢
        refine exb (rR_gr hR92 55) ?_
        obtain ⟨v_96, h97, h⟩ := bd h
        refine exb (rR_al hR92 h97) ?_
        refine exb (rR_gr hR92 53) ?_
        obtain ⟨v_98, h99, h⟩ := bd h
        refine exb (rR_al hR92 h99) ?_
        by_cases q106 : v_96 = (((1 : Int32) <<< (v_98 &&& 31)) - (1 : Int32))
        · rw [if_pos q106] at h ⊢
          exact simT hs93 (q210_273 hR92 v1 h)
        · rw [if_neg q106] at h ⊢
          refine exb (rR_go hR92) ?_
          obtain ⟨q_100, h101, h⟩ := bd h
          obtain ⟨M102, e103, hR104, hs105⟩ := u206 hR92 h101
          replace hs105 := hs93.tr hs105
          refine exb (c_V_of e103) ?_
          exact simT hs105 (q210_289 hR104  h)
      · rw [if_neg q107] at h ⊢
        exact simT hs93 (q210_273 hR92 v1 h)
  · rw [if_neg q125] at h ⊢
    exact simT hs (q210_289 hR  h)
theorem q210_138 {m : Nat} {ad : Nat → Nat} {M : hM} {S : sT} (hR : rR m ad M S) (v1 : Int32) (v2 : Int32) (v3 : Int32) (v4 : Int32) {rs : sRes sT} (h : c210_138 v1 v2 v3 v4 S = some rs) : ∃ res, b210_138 m v1 v2 v3 v4 M = some res ∧ simR o_V f_1 (J210 m) m ad M rs res := by
  have hs : sm m ad M M := sm.rf
  unfold c210_138 at h
  unfold b210_138
  by_cases q87 : v3 = (11 : Int32)
  · rw [if_pos q87] at h ⊢
    refine exb (rR_gr hR 50) ?_
    obtain ⟨v_61, h62, h⟩ := bd h
    refine exb (rR_al hR h62) ?_
    by_cases q86 : v_61 = 0
    · rw [if_pos q86] at h ⊢
      refine exb (rR_gr hR 53) ?_
      obtain ⟨v_63, h64, h⟩ := bd h
      refine exb (rR_al hR h64) ?_
      by_cases q85 : v_63 ≤ v4
      · rw [if_pos q85] at h ⊢
        exact simT hs (q210_196 hR v1 v2 v3 h)
      · rw [if_neg q85] at h ⊢
        refine exb (rR_gr hR 54) ?_
        refine exb (rR_go hR) ?_
        obtain ⟨q_65, h66, h⟩ := bd h
        obtain ⟨M67, e68, hR69, hs70⟩ := u209 hR h66
        replace hs70 := hs.tr hs70
        refine exb (c_L_of e68) ?_
        obtain ⟨S71, h73, h⟩ := bd h
        obtain ⟨M72, e74, hR75, hs76⟩ := rR_sl hR69 h73
        replace hs76 := hs70.tr hs76
        refine exb e74 ?_
        refine exb (rR_gr hR75 55) ?_
        obtain ⟨v_77, h78, h⟩ := bd h
        refine exb (rR_al hR75 h78) ?_
        obtain ⟨S79, h81, h⟩ := bd h
        obtain ⟨M80, e82, hR83, hs84⟩ := rR_si hR75 h81
        replace hs84 := hs76.tr hs84
        refine exb e82 ?_
        exact simT hs84 (q210_289 hR83  h)
    · rw [if_neg q86] at h ⊢
      exact simT hs (q210_196 hR v1 v2 v3 h)
  · rw [if_neg q87] at h ⊢
    exact simT hs (q210_196 hR v1 v2 v3 h)
theorem q210_0 {m : Nat} {ad : Nat → Nat} {M : hM} {S : sT} (hR : rR m ad M S) (v1 : Int32) (v2 : Int32) (v3 : Int32) {rs : sRes sT} (h : c210_0 v1 v2 v3 S = some rs) : ∃ res, b210_0 m v1 v2 v3 M = some res ∧ simR o_V f_1 (J210 m) m ad M rs res := by
  have hs : sm m ad M M := sm.rf
  unfold c210_0 at h
  unfold b210_0
  refine exb (rR_go hR) ?_
  obtain ⟨q_1, h2, h⟩ := bd h
  obtain ⟨M3, e4, hR5, hs6⟩ := u165 hR h2
  replace hs6 := hs.tr hs6
  refine exb (c_I_of e4) ?_
  refine exb (rR_gr hR5 48) ?_
  obtain ⟨v_7, h8, h⟩ := bd h
  refine exb (rR_al hR5 h8) ?_
  refine exb (rR_go hR5) ?_
  obtain ⟨q_9, h10, h⟩ := bd h
  obtain ⟨M11, e12, hR13, hs14⟩ := u176 hR5 h10
  replace hs14 := hs6.tr hs14
  refine exb (c_I_of e12) ?_
  by_cases q25 : v3 = (14 : Int32)
  · rw [if_pos q25] at h ⊢
    refine exb (rR_go hR13) ?_
    obtain ⟨q_19, h20, h⟩ := bd h
    obtain ⟨M21, e22, hR23, hs24⟩ := u205 hR13 h20
    replace hs24 := hs14.tr hs24
    refine exb (c_V_of e22) ?_
    exact simT hs24 (q210_289 hR23  h)
  · rw [if_neg q25] at h ⊢
    by_cases q18 : v3 = (10 : Int32)
    · rw [if_pos q18] at h ⊢
      refine exb (rR_gr hR13 50) ?_
      obtain ⟨v_15, h16, h⟩ := bd h
      refine exb (rR_al hR13 h16) ?_
      by_cases q17 : v_15 = 0
      · rw [if_pos q17] at h ⊢
        exact simT hs14 (q210_138 hR13 v1 v2 v3 q_1.1 h)
      · rw [if_neg q17] at h ⊢
        obtain rfl := Option.some.inj h
        exact ⟨_, rfl, _, rfl, hR13, hs14⟩
    · rw [if_neg q18] at h ⊢
      exact simT hs14 (q210_138 hR13 v1 v2 v3 q_1.1 h)
theorem q210_55 {m : Nat} {ad : Nat → Nat} {M : hM} {S : sT} (hR : rR m ad M S) (v1 : Int32) (v2 : Int32) (v5 : Int32) (v6 : Int32) {rs : sRes sT} (h : c210_55 v1 v2 v5 v6 S = some rs) : ∃ res, b210_55 m v1 v2 v5 v6 M = some res ∧ simR o_V f_1 (J210 m) m ad M rs res := by
  have hs : sm m ad M M := sm.rf
  unfold c210_55 at h
  unfold b210_55
  refine exb (rR_gr hR 53) ?_
  obtain ⟨v_26, h27, h⟩ := bd h
  refine exb (rR_al hR h27) ?_
  by_cases q60 : v_26 ≤ v6
  · rw [if_pos q60] at h ⊢
    exact simT hs (q210_289 hR  h)
  · rw [if_neg q60] at h ⊢
    refine exb (rR_gr hR 60) ?_
    obtain ⟨v_28, h29, h⟩ := bd h
    refine exb (rR_al hR h29) ?_
    refine exb (rR_gr hR 35) ?_
    refine exb (rR_gr hR 48) ?_
    obtain ⟨v_30, h31, h⟩ := bd h
    refine exb (rR_al hR h31) ?_
    obtain ⟨v_32, h33, h⟩ := bd h
    refine exb (rR_al hR h33) ?_
    refine exb (rR_go hR) ?_
    obtain ⟨q_34, h35, h⟩ := bd h
    obtain ⟨M36, e37, hR38, hs39⟩ := u166 hR h35
    replace hs39 := hs.tr hs39
    refine exb (c_I_of e37) ?_
    refine exb (rR_go hR38) ?_
    obtain ⟨q_40, h41, h⟩ := bd h
    obtain ⟨M42, e43, hR44, hs45⟩ := u168 hR38 h41
    replace hs45 := hs39.tr hs45
    refine exb (c_I_of e43) ?_
    refine exb (rR_gr hR44 54) ?_
    obtain ⟨w_46, h47, h⟩ := bd h
    refine exb (rR_all hR44 h47) ?_
    refine exb (rR_go hR44) ?_
    obtain ⟨q_48, h49, h⟩ := bd h
    obtain ⟨M50, e51, hR52, hs53⟩ := u167 hR44 h49
    replace hs53 := hs45.tr hs53
    refine exb (c_V_of e51) ?_
    refine exb (rR_go hR52) ?_
    obtain ⟨q_54, h55, h⟩ := bd h
    obtain ⟨M56, e57, hR58, hs59⟩ := u183 hR52 h55
    replace hs59 := hs53.tr hs59
    refine exb (c_V_of e57) ?_
    obtain rfl := Option.some.inj h
    exact ⟨_, rfl, _, rfl, hR58, hs59⟩
theorem u210 {m : Nat} {ad : Nat → Nat} {M : hM} {S : sT} (hR : rR m ad M S) {v1 : Int32} {v2 : Int32} {v3 : Int32} {q : sT} (h : e210 v1 v2 v3 S = some q) : ∃ M1, f210 [.inr (.inr (some m)), .inl v1, .inl v2, .inl v3] M = some (none, M1) ∧ rR m ad M1 q ∧ sm m ad M M1 := by
  unfold e210 at h
  show ∃ M1, x_go k210 (b210_0 m v1 v2 v3 M) = some (o_V q, M1) ∧ rR m ad M1 (f_1 q) ∧ sm m ad M M1
  refine s_go_ok (o := o_V) (f := f_1) (J := J210 m) (bs := kS210) (bk := k210) (xs := c210_0 v1 v2 v3 S) (x := b210_0 m v1 v2 v3 M) (M := M) (q := q) ?_ (fun rs hx => q210_0 hR v1 v2 v3 hx) h
  intro h as S M rs hR hb
  unfold kS210 at hb
  unfold k210 J210
  by_cases e0 : h = 55
  · rw [if_pos e0] at hb ⊢
    split at hb
    · subst e0; exact q210_55 hR _ _ _ _ hb
    · cases hb
  · rw [if_neg e0] at hb
    cases hb
/-! reference: hostGets(II)V -/
def c211_45  (S : sT) : Option (sRes sT) :=
  some (.inl S)
def c211_178  (S : sT) : Option (sRes sT) :=
  some (.inl S)
def c211_344  (S : sT) : Option (sRes sT) :=
  some (.inl S)
def c211_333 (v2 : Int32) (v3 : Int32) (v5 : Int32) (si0 : Int32) (si1 : Int32) (S : sT) : Option (sRes sT) :=
  if si1 = si0 then
    (Option.bind (e210 v5 v2 v3 S) fun q_105 =>
    c211_344  q_105)
  else
    (c211_344  S)
def c211_273 (v1 : Int32) (v2 : Int32) (v3 : Int32) (v4 : Int32) (S : sT) : Option (sRes sT) :=
  Option.bind (e166 v2 (7 : Int32) (2 : Int32) S) fun q_89 =>
  if (s_g q_89.2 47) ≤ q_89.1 then
    (c211_344  q_89.2)
  else
    (Option.bind (s_a q_89.2 48 q_89.1) fun v_95 =>
    if v_95 = v1 then
      (Option.bind (s_a q_89.2 60 q_89.1) fun v_97 =>
      if v_97 = v4 then
        (Option.bind (s_a q_89.2 56 q_89.1) fun v_99 =>
        if v3 = (14 : Int32) then
          (c211_333 v2 v3 q_89.1 (3 : Int32) v_99 q_89.2)
        else
          (c211_333 v2 v3 q_89.1 (2 : Int32) v_99 q_89.2))
      else
        (c211_344  q_89.2))
    else
      (c211_344  q_89.2))
def c211_267 (v1 : Int32) (v2 : Int32) (v3 : Int32) (v4 : Int32) (S : sT) : Option (sRes sT) :=
  if v3 = (14 : Int32) then
    (c211_273 v1 v2 v3 v4 S)
  else
    (c211_344  S)
def c211_0 (v1 : Int32) (v2 : Int32) (S : sT) : Option (sRes sT) :=
  Option.bind (e165 v2 (0 : Int32) S) fun q_1 =>
  Option.bind (e166 v2 (4 : Int32) (3 : Int32) q_1.2) fun q_7 =>
  if q_1.1 = (6 : Int32) then
    (Option.bind (e166 v2 (14 : Int32) (3 : Int32) q_7.2) fun q_30 =>
    if q_7.1 = (16777212 : Int32) then
      (if q_30.1 = 0 then
        (c211_45  q_30.2)
      else
        (some (.inr (49, [.inl v1, .inl v2, .inl q_30.1, .inl (0 : Int32)], q_30.2))))
    else
      (c211_45  q_30.2))
  else
    (if q_1.1 = (8 : Int32) then
      (Option.bind (e189 q_7.1 q_7.2) fun q_15 =>
      if q_15.1 < 0 then
        (c211_178  q_15.2)
      else
        (if q_15.1 < (s_g q_15.2 1) then
          (Option.bind (s_s q_15.2 39 (((8 : Int32) * v1) + q_15.1) q_7.1) fun S21 =>
          some (.inr (196, [.inl v1, .inl q_7.1, .inl (0 : Int32)], S21)))
        else
          (c211_178  q_15.2)))
    else
      (if q_1.1 < (10 : Int32) then
        (c211_267 v1 v2 q_1.1 q_7.1 q_7.2)
      else
        (if q_1.1 ≤ (12 : Int32) then
          (c211_273 v1 v2 q_1.1 q_7.1 q_7.2)
        else
          (c211_267 v1 v2 q_1.1 q_7.1 q_7.2))))
def c211_141 (v1 : Int32) (v2 : Int32) (v5 : Int32) (v6 : Int32) (S : sT) : Option (sRes sT) :=
  some (.inr (49, [.inl v1, .inl v2, .inl v5, .inl (v6 + (1 : Int32))], S))
def c211_138 (v1 : Int32) (v2 : Int32) (v5 : Int32) (v6 : Int32) (si0 : Int32) (si1 : Int32) (S : sT) : Option (sRes sT) :=
  Option.bind (e206 si1 si0 S) fun q_66 =>
  c211_141 v1 v2 v5 v6 q_66
def c211_49 (v1 : Int32) (v2 : Int32) (v5 : Int32) (v6 : Int32) (S : sT) : Option (sRes sT) :=
  if (s_g S 47) ≤ v6 then
    (c211_344  S)
  else
    (Option.bind (s_a S 48 v6) fun v_39 =>
    if v_39 = v1 then
      (Option.bind (s_a S 56 v6) fun v_41 =>
      if v_41 = 0 then
        (Option.bind (s_a S 49 v6) fun v_43 =>
        Option.bind (e165 v2 (13 : Int32) S) fun q_45 =>
        if v_43 = q_45.1 then
          (Option.bind (s_s q_45.2 60 v6 v5) fun S51 =>
          Option.bind (s_a S51 49 v6) fun v_57 =>
          Option.bind (s_a S51 39 (((8 : Int32) * v1) + v_57)) fun v_59 =>
          if v_59 = v5 then
            (c211_138 v1 v2 v5 v6 (2 : Int32) v6 S51)
          else
            (c211_138 v1 v2 v5 v6 (1 : Int32) v6 S51))
        else
          (c211_141 v1 v2 v5 v6 q_45.2))
      else
        (c211_141 v1 v2 v5 v6 S))
    else
      (c211_141 v1 v2 v5 v6 S))
def c211_246 (v1 : Int32) (v4 : Int32) (v6 : Int32) (S : sT) : Option (sRes sT) :=
  some (.inr (196, [.inl v1, .inl v4, .inl (v6 + (1 : Int32))], S))
def c211_196 (v1 : Int32) (v4 : Int32) (v6 : Int32) (S : sT) : Option (sRes sT) :=
  if (s_g S 47) ≤ v6 then
    (c211_344  S)
  else
    (Option.bind (s_a S 48 v6) fun v_72 =>
    if v_72 = v1 then
      (Option.bind (s_a S 56 v6) fun v_74 =>
      if v_74 = (1 : Int32) then
        (Option.bind (s_a S 60 v6) fun v_76 =>
        if v_76 = v4 then
          (Option.bind (e206 v6 (2 : Int32) S) fun q_78 =>
          c211_246 v1 v4 v6 q_78)
        else
          (c211_246 v1 v4 v6 S))
      else
        (c211_246 v1 v4 v6 S))
    else
      (c211_246 v1 v4 v6 S))
def kS211 (h : Nat) (as : List aV) (S : sT) : Option (sRes sT) :=
  if h = 49 then (match as with | [.inl v1, .inl v2, .inl v5, .inl v6] => c211_49 v1 v2 v5 v6 S | _ => none) else
  if h = 196 then (match as with | [.inl v1, .inl v4, .inl v6] => c211_196 v1 v4 v6 S | _ => none) else
  none
def J211 (m : Nat) (h : Nat) (as : List aV) : List aV := .inr (.inr (some m)) :: as
def e211 (v1 : Int32) (v2 : Int32) (S : sT) : Option sT := s_go kS211 (c211_0 v1 v2 S)
theorem q211_45 {m : Nat} {ad : Nat → Nat} {M : hM} {S : sT} (hR : rR m ad M S)  {rs : sRes sT} (h : c211_45  S = some rs) : ∃ res, b211_45  M = some res ∧ simR o_V f_1 (J211 m) m ad M rs res := by
  have hs : sm m ad M M := sm.rf
  unfold c211_45 at h
  unfold b211_45
  obtain rfl := Option.some.inj h
  exact ⟨_, rfl, _, rfl, hR, hs⟩
theorem q211_178 {m : Nat} {ad : Nat → Nat} {M : hM} {S : sT} (hR : rR m ad M S)  {rs : sRes sT} (h : c211_178  S = some rs) : ∃ res, b211_178  M = some res ∧ simR o_V f_1 (J211 m) m ad M rs res := by
  have hs : sm m ad M M := sm.rf
  unfold c211_178 at h
  unfold b211_178
  obtain rfl := Option.some.inj h
  exact ⟨_, rfl, _, rfl, hR, hs⟩
theorem q211_344 {m : Nat} {ad : Nat → Nat} {M : hM} {S : sT} (hR : rR m ad M S)  {rs : sRes sT} (h : c211_344  S = some rs) : ∃ res, b211_344  M = some res ∧ simR o_V f_1 (J211 m) m ad M rs res := by
  have hs : sm m ad M M := sm.rf
  unfold c211_344 at h
  unfold b211_344
  obtain rfl := Option.some.inj h
  exact ⟨_, rfl, _, rfl, hR, hs⟩
theorem q211_333 {m : Nat} {ad : Nat → Nat} {M : hM} {S : sT} (hR : rR m ad M S) (v2 : Int32) (v3 : Int32) (v5 : Int32) (si0 : Int32) (si1 : Int32) {rs : sRes sT} (h : c211_333 v2 v3 v5 si0 si1 S = some rs) : ∃ res, b211_333 m v2 v3 v5 si0 si1 M = some res ∧ simR o_V f_1 (J211 m) m ad M rs res := by
  have hs : sm m ad M M := sm.rf
  unfold c211_333 at h
  unfold b211_333
  by_cases q111 : si1 = si0
  · rw [if_pos q111] at h ⊢
    refine exb (rR_go hR) ?_
    obtain ⟨q_105, h106, h⟩ := bd h
    obtain ⟨M107, e108, hR109, hs110⟩ := u210 hR h106
    replace hs110 := hs.tr hs110
    refine exb (c_V_of e108) ?_
    exact simT hs110 (q211_344 hR109  h)
  · rw [if_neg q111] at h ⊢
    exact simT hs (q211_344 hR  h)
theorem q211_273 {m : Nat} {ad : Nat → Nat} {M : hM} {S : sT} (hR : rR m ad M S) (v1 : Int32) (v2 : Int32) (v3 : Int32) (v4 : Int32) {rs : sRes sT} (h : c211_273 v1 v2 v3 v4 S = some rs) : ∃ res, b211_273 m v1 v2 v3 v4 M = some res ∧ simR o_V f_1 (J211 m) m ad M rs res := by
  have hs : sm m ad M M := sm.rf
  unfold c211_273 at h
  unfold b211_273
  refine exb (rR_go hR) ?_
  obtain ⟨q_89, h90, h⟩ := bd h
  obtain ⟨M91, e92, hR93, hs94⟩ := u166 hR h90
  replace hs94 := hs.tr hs94
  refine exb (c_I_of e92) ?_
  refine exb (rR_gi hR93 47) ?_
  by_cases q104 : (s_g q_89.2 47) ≤ q_89.1
  · rw [if_pos q104] at h ⊢
    exact simT hs94 (q211_344 hR93  h)
  · rw [if_neg q104] at h ⊢
    refine exb (rR_gr hR93 48) ?_
    obtain ⟨v_95, h96, h⟩ := bd h
    refine exb (rR_al hR93 h96) ?_
    by_cases q103 : v_95 = v1
    · rw [if_pos q103] at h ⊢
      refine exb (rR_gr hR93 60) ?_
      obtain ⟨v_97, h98, h⟩ := bd h
      refine exb (rR_al hR93 h98) ?_
      by_cases q102 : v_97 = v4
      · rw [if_pos q102] at h ⊢
        refine exb (rR_gr hR93 56) ?_
        obtain ⟨v_99, h100, h⟩ := bd h
        refine exb (rR_al hR93 h100) ?_
        by_cases q101 : v3 = (14 : Int32)
        · rw [if_pos q101] at h ⊢
          exact simT hs94 (q211_333 hR93 v2 v3 q_89.1 (3 : Int32) v_99 h)
        · rw [if_neg q101] at h ⊢
          exact simT hs94 (q211_333 hR93 v2 v3 q_89.1 (2 : Int32) v_99 h)
      · rw [if_neg q102] at h ⊢
        exact simT hs94 (q211_344 hR93  h)
    · rw [if_neg q103] at h ⊢
      exact simT hs94 (q211_344 hR93  h)
theorem q211_267 {m : Nat} {ad : Nat → Nat} {M : hM} {S : sT} (hR : rR m ad M S) (v1 : Int32) (v2 : Int32) (v3 : Int32) (v4 : Int32) {rs : sRes sT} (h : c211_267 v1 v2 v3 v4 S = some rs) : ∃ res, b211_267 m v1 v2 v3 v4 M = some res ∧ simR o_V f_1 (J211 m) m ad M rs res := by
  have hs : sm m ad M M := sm.rf
  unfold c211_267 at h
  unfold b211_267
  by_cases q88 : v3 = (14 : Int32)
  · rw [if_pos q88] at h ⊢
    exact simT hs (q211_273 hR v1 v2 v3 v4 h)
  · rw [if_neg q88] at h ⊢
    exact simT hs (q211_344 hR  h)
theorem q211_0 {m : Nat} {ad : Nat → Nat} {M : hM} {S : sT} (hR : rR m ad M S) (v1 : Int32) (v2 : Int32) {rs : sRes sT} (h : c211_0 v1 v2 S = some rs) : ∃ res, b211_0 m v1 v2 M = some res ∧ simR o_V f_1 (J211 m) m ad M rs res := by
  have hs : sm m ad M M := sm.rf
  unfold c211_0 at h
  unfold b211_0
  refine exb (rR_go hR) ?_
  obtain ⟨q_1, h2, h⟩ := bd h
  obtain ⟨M3, e4, hR5, hs6⟩ := u165 hR h2
  replace hs6 := hs.tr hs6
  refine exb (c_I_of e4) ?_
  refine exb (rR_go hR5) ?_
  obtain ⟨q_7, h8, h⟩ := bd h
  obtain ⟨M9, e10, hR11, hs12⟩ := u166 hR5 h8
  replace hs12 := hs6.tr hs12
  refine exb (c_I_of e10) ?_
  by_cases q38 : q_1.1 = (6 : Int32)
  · rw [if_pos q38] at h ⊢
    refine exb (rR_go hR11) ?_
    obtain ⟨q_30, h31, h⟩ := bd h
    obtain ⟨M32, e33, hR34, hs35⟩ := u166 hR11 h31
    replace hs35 := hs12.tr hs35
    refine exb (c_I_of e33) ?_
    by_cases q37 : q_7.1 = (16777212 : Int32)
    · rw [if_pos q37] at h ⊢
      by_cases q36 : q_30.1 = 0
      · rw [if_pos q36] at h ⊢
        exact simT hs35 (q211_45 hR34  h)
      · rw [if_neg q36] at h ⊢
        obtain rfl := Option.some.inj h
        exact ⟨_, rfl, _, rfl, hR34, hs35⟩
    · rw [if_neg q37] at h ⊢
      exact simT hs35 (q211_45 hR34  h)
  · rw [if_neg q38] at h ⊢
    by_cases q29 : q_1.1 = (8 : Int32)
    · rw [if_pos q29] at h ⊢
      refine exb (rR_go hR11) ?_
      obtain ⟨q_15, h16, h⟩ := bd h
      obtain ⟨M17, e18, hR19, hs20⟩ := u189 hR11 h16
      replace hs20 := hs12.tr hs20
      refine exb (c_I_of e18) ?_
      by_cases q28 : q_15.1 < 0
      · rw [if_pos q28] at h ⊢
        exact simT hs20 (q211_178 hR19  h)
      · rw [if_neg q28] at h ⊢
        refine exb (rR_gi hR19 1) ?_
        by_cases q27 : q_15.1 < (s_g q_15.2 1)
        · rw [if_pos q27] at h ⊢
          refine exb (rR_gr hR19 39) ?_
          obtain ⟨S21, h23, h⟩ := bd h
          obtain ⟨M22, e24, hR25, hs26⟩ := rR_si hR19 h23
          replace hs26 := hs20.tr hs26
          refine exb e24 ?_
          obtain rfl := Option.some.inj h
          exact ⟨_, rfl, _, rfl, hR25, hs26⟩
        · rw [if_neg q27] at h ⊢
          exact simT hs20 (q211_178 hR19  h)
    · rw [if_neg q29] at h ⊢
      by_cases q14 : q_1.1 < (10 : Int32)
      · rw [if_pos q14] at h ⊢
        exact simT hs12 (q211_267 hR11 v1 v2 q_1.1 q_7.1 h)
      · rw [if_neg q14] at h ⊢
        by_cases q13 : q_1.1 ≤ (12 : Int32)
        · rw [if_pos q13] at h ⊢
          exact simT hs12 (q211_273 hR11 v1 v2 q_1.1 q_7.1 h)
        · rw [if_neg q13] at h ⊢
          exact simT hs12 (q211_267 hR11 v1 v2 q_1.1 q_7.1 h)
theorem q211_141 {m : Nat} {ad : Nat → Nat} {M : hM} {S : sT} (hR : rR m ad M S) (v1 : Int32) (v2 : Int32) (v5 : Int32) (v6 : Int32) {rs : sRes sT} (h : c211_141 v1 v2 v5 v6 S = some rs) : ∃ res, b211_141 m v1 v2 v5 v6 M = some res ∧ simR o_V f_1 (J211 m) m ad M rs res := by
  have hs : sm m ad M M := sm.rf
  unfold c211_141 at h
  unfold b211_141
  obtain rfl := Option.some.inj h
  exact ⟨_, rfl, _, rfl, hR, hs⟩
theorem q211_138 {m : Nat} {ad : Nat → Nat} {M : hM} {S : sT} (hR : rR m ad M S) (v1 : Int32) (v2 : Int32) (v5 : Int32) (v6 : Int32) (si0 : Int32) (si1 : Int32) {rs : sRes sT} (h : c211_138 v1 v2 v5 v6 si0 si1 S = some rs) : ∃ res, b211_138 m v1 v2 v5 v6 si0 si1 (some m) M = some res ∧ simR o_V f_1 (J211 m) m ad M rs res := by
  have hs : sm m ad M M := sm.rf
  unfold c211_138 at h
  unfold b211_138
  refine exb (rR_go hR) ?_
  obtain ⟨q_66, h67, h⟩ := bd h
  obtain ⟨M68, e69, hR70, hs71⟩ := u206 hR h67
  replace hs71 := hs.tr hs71
  refine exb (c_V_of e69) ?_
  exact simT hs71 (q211_141 hR70 v1 v2 v5 v6 h)
theorem q211_49 {m : Nat} {ad : Nat → Nat} {M : hM} {S : sT} (hR : rR m ad M S) (v1 : Int32) (v2 : Int32) (v5 : Int32) (v6 : Int32) {rs : sRes sT} (h : c211_49 v1 v2 v5 v6 S = some rs) : ∃ res, b211_49 m v1 v2 v5 v6 M = some res ∧ simR o_V f_1 (J211 m) m ad M rs res := by
  have hs : sm m ad M M := sm.rf
  unfold c211_49 at h
  unfold b211_49
  refine exb (rR_gi hR 47) ?_
  by_cases q65 : (s_g S 47) ≤ v6
  · rw [if_pos q65] at h ⊢
    exact simT hs (q211_344 hR  h)
  · rw [if_neg q65] at h ⊢
    refine exb (rR_gr hR 48) ?_
    obtain ⟨v_39, h40, h⟩ := bd h
    refine exb (rR_al hR h40) ?_
    by_cases q64 : v_39 = v1
    · rw [if_pos q64] at h ⊢
      refine exb (rR_gr hR 56) ?_
      obtain ⟨v_41, h42, h⟩ := bd h
      refine exb (rR_al hR h42) ?_
      by_cases q63 : v_41 = 0
      · rw [if_pos q63] at h ⊢
        refine exb (rR_gr hR 49) ?_
        obtain ⟨v_43, h44, h⟩ := bd h
        refine exb (rR_al hR h44) ?_
        refine exb (rR_go hR) ?_
        obtain ⟨q_45, h46, h⟩ := bd h
        obtain ⟨M47, e48, hR49, hs50⟩ := u165 hR h46
        replace hs50 := hs.tr hs50
        refine exb (c_I_of e48) ?_
        by_cases q62 : v_43 = q_45.1
        · rw [if_pos q62] at h ⊢
          refine exb (rR_gr hR49 60) ?_
          obtain ⟨S51, h53, h⟩ := bd h
          obtain ⟨M52, e54, hR55, hs56⟩ := rR_si hR49 h53
          replace hs56 := hs50.tr hs56
          refine exb e54 ?_
          refine exb (rR_gr hR55 39) ?_
          refine exb (rR_gr hR55 49) ?_
          obtain ⟨v_57, h58, h⟩ := bd h
          refine exb (rR_al hR55 h58) ?_
          obtain ⟨v_59, h60, h⟩ := bd h
          refine exb (rR_al hR55 h60) ?_
          by_cases q61 : v_59 = v5
          · rw [if_pos q61] at h ⊢
            exact simT hs56 (q211_138 hR55 v1 v2 v5 v6 (2 : Int32) v6 h)
          · rw [if_neg q61] at h ⊢
            exact simT hs56 (q211_138 hR55 v1 v2 v5 v6 (1 : Int32) v6 h)
        · rw [if_neg q62] at h ⊢
          exact simT hs50 (q211_141 hR49 v1 v2 v5 v6 h)
      · rw [if_neg q63] at h ⊢
        exact simT hs (q211_141 hR v1 v2 v5 v6 h)
    · rw [if_neg q64] at h ⊢
      exact simT hs (q211_141 hR v1 v2 v5 v6 h)
theorem q211_246 {m : Nat} {ad : Nat → Nat} {M : hM} {S : sT} (hR : rR m ad M S) (v1 : Int32) (v4 : Int32) (v6 : Int32) {rs : sRes sT} (h : c211_246 v1 v4 v6 S = some rs) : ∃ res, b211_246 m v1 v4 v6 M = some res ∧ simR o_V f_1 (J211 m) m ad M rs res := by
  have hs : sm m ad M M := sm.rf
  unfold c211_246 at h
  unfold b211_246
  obtain rfl := Option.some.inj h
  exact ⟨_, rfl, _, rfl, hR, hs⟩
theorem q211_196 {m : Nat} {ad : Nat → Nat} {M : hM} {S : sT} (hR : rR m ad M S) (v1 : Int32) (v4 : Int32) (v6 : Int32) {rs : sRes sT} (h : c211_196 v1 v4 v6 S = some rs) : ∃ res, b211_196 m v1 v4 v6 M = some res ∧ simR o_V f_1 (J211 m) m ad M rs res := by
  have hs : sm m ad M M := sm.rf
  unfold c211_196 at h
  unfold b211_196
  refine exb (rR_gi hR 47) ?_
  by_cases q87 : (s_g S 47) ≤ v6
  · rw [if_pos q87] at h ⊢
    exact simT hs (q211_344 hR  h)
  · rw [if_neg q87] at h ⊢
    refine exb (rR_gr hR 48) ?_
    obtain ⟨v_72, h73, h⟩ := bd h
    refine exb (rR_al hR h73) ?_
    by_cases q86 : v_72 = v1
    · rw [if_pos q86] at h ⊢
      refine exb (rR_gr hR 56) ?_
      obtain ⟨v_74, h75, h⟩ := bd h
      refine exb (rR_al hR h75) ?_
      by_cases q85 : v_74 = (1 : Int32)
      · rw [if_pos q85] at h ⊢
        refine exb (rR_gr hR 60) ?_
        obtain ⟨v_76, h77, h⟩ := bd h
        refine exb (rR_al hR h77) ?_
        by_cases q84 : v_76 = v4
        · rw [if_pos q84] at h ⊢
          refine exb (rR_go hR) ?_
          obtain ⟨q_78, h79, h⟩ := bd h
          obtain ⟨M80, e81, hR82, hs83⟩ := u206 hR h79
          replace hs83 := hs.tr hs83
          refine exb (c_V_of e81) ?_
          exact simT hs83 (q211_246 hR82 v1 v4 v6 h)
        · rw [if_neg q84] at h ⊢
          exact simT hs (q211_246 hR v1 v4 v6 h)
      · rw [if_neg q85] at h ⊢
        exact simT hs (q211_246 hR v1 v4 v6 h)
    · rw [if_neg q86] at h ⊢
      exact simT hs (q211_246 hR v1 v4 v6 h)
theorem u211 {m : Nat} {ad : Nat → Nat} {M : hM} {S : sT} (hR : rR m ad M S) {v1 : Int32} {v2 : Int32} {q : sT} (h : e211 v1 v2 S = some q) : ∃ M1, f211 [.inr (.inr (some m)), .inl v1, .inl v2] M = some (none, M1) ∧ rR m ad M1 q ∧ sm m ad M M1 := by
  unfold e211 at h
  show ∃ M1, x_go k211 (b211_0 m v1 v2 M) = some (o_V q, M1) ∧ rR m ad M1 (f_1 q) ∧ sm m ad M M1
  refine s_go_ok (o := o_V) (f := f_1) (J := J211 m) (bs := kS211) (bk := k211) (xs := c211_0 v1 v2 S) (x := b211_0 m v1 v2 M) (M := M) (q := q) ?_ (fun rs hx => q211_0 hR v1 v2 hx) h
  intro h as S M rs hR hb
  unfold kS211 at hb
  unfold k211 J211
  by_cases e0 : h = 49
  · rw [if_pos e0] at hb ⊢
    split at hb
    · subst e0; exact q211_49 hR _ _ _ _ hb
    · cases hb
  · rw [if_neg e0] at hb
    by_cases e1 : h = 196
    · rw [if_pos e1] at hb ⊢
      split at hb
      · subst e1; exact q211_196 hR _ _ _ hb
      · cases hb
    · rw [if_neg e1] at hb
      cases hb
/-! reference: answers(IIIII)I -/
def c212_0 (v1 : Int32) (v2 : Int32) (v3 : Int32) (v4 : Int32) (v5 : Int32) (S : sT) : Option (sRes (Int32 × sT)) :=
  Option.bind (e166 v2 (4 : Int32) (3 : Int32) S) fun q_1 =>
  Option.bind (s_a q_1.2 35 v1) fun v_7 =>
  Option.bind (e166 v2 (7 : Int32) (2 : Int32) q_1.2) fun q_9 =>
  Option.bind (e168 v3 q_1.1 v_7 q_9.1 v4 v5 q_9.2) fun q_15 =>
  some (.inl (q_15.1, q_15.2))
def e212 (v1 : Int32) (v2 : Int32) (v3 : Int32) (v4 : Int32) (v5 : Int32) (S : sT) : Option (Int32 × sT) := s_out (c212_0 v1 v2 v3 v4 v5 S)
theorem q212_0 {m : Nat} {ad : Nat → Nat} {M : hM} {S : sT} (hR : rR m ad M S) (v1 : Int32) (v2 : Int32) (v3 : Int32) (v4 : Int32) (v5 : Int32) {rs : sRes (Int32 × sT)} (h : c212_0 v1 v2 v3 v4 v5 S = some rs) : ∃ res, b212_0 m v1 v2 v3 v4 v5 M = some res ∧ simR o_I f_2 (fun _ as => as) m ad M rs res := by
  have hs : sm m ad M M := sm.rf
  unfold c212_0 at h
  unfold b212_0
  refine exb (rR_go hR) ?_
  obtain ⟨q_1, h2, h⟩ := bd h
  obtain ⟨M3, e4, hR5, hs6⟩ := u166 hR h2
  replace hs6 := hs.tr hs6
  refine exb (c_I_of e4) ?_
  refine exb (rR_gr hR5 35) ?_
  obtain ⟨v_7, h8, h⟩ := bd h
  refine exb (rR_al hR5 h8) ?_
  refine exb (rR_go hR5) ?_
  obtain ⟨q_9, h10, h⟩ := bd h
  obtain ⟨M11, e12, hR13, hs14⟩ := u166 hR5 h10
  replace hs14 := hs6.tr hs14
  refine exb (c_I_of e12) ?_
  refine exb (rR_go hR13) ?_
  obtain ⟨q_15, h16, h⟩ := bd h
  obtain ⟨M17, e18, hR19, hs20⟩ := u168 hR13 h16
  replace hs20 := hs14.tr hs20
  refine exb (c_I_of e18) ?_
  obtain rfl := Option.some.inj h
  exact ⟨_, rfl, _, rfl, hR19, hs20⟩
theorem u212 {m : Nat} {ad : Nat → Nat} {M : hM} {S : sT} (hR : rR m ad M S) {v1 : Int32} {v2 : Int32} {v3 : Int32} {v4 : Int32} {v5 : Int32} {q : (Int32 × sT)} (h : e212 v1 v2 v3 v4 v5 S = some q) : ∃ M1, f212 [.inr (.inr (some m)), .inl v1, .inl v2, .inl v3, .inl v4, .inl v5] M = some (some (.inl q.1), M1) ∧ rR m ad M1 q.2 ∧ sm m ad M M1 := by
  exact s_out_sim (o := o_I) (f := f_2) (J := fun _ as => as) (fun rs hx => q212_0 hR v1 v2 v3 v4 v5 hx) h
/-! reference: done(IIII)V -/
def c213_0 (v1 : Int32) (v2 : Int32) (v3 : Int32) (v4 : Int32) (S : sT) : Option (sRes sT) :=
  Option.bind (e212 v1 v2 (12 : Int32) v3 (0 : Int32) S) fun q_1 =>
  Option.bind (e167 q_1.1 (Int32.toInt64 v4) (1 : Int32) q_1.2) fun q_7 =>
  Option.bind (e176 v1 q_7) fun q_13 =>
  Option.bind (e183 q_13.1 q_1.1 q_13.2) fun q_19 =>
  some (.inl q_19)
def e213 (v1 : Int32) (v2 : Int32) (v3 : Int32) (v4 : Int32) (S : sT) : Option sT := s_out (c213_0 v1 v2 v3 v4 S)
theorem q213_0 {m : Nat} {ad : Nat → Nat} {M : hM} {S : sT} (hR : rR m ad M S) (v1 : Int32) (v2 : Int32) (v3 : Int32) (v4 : Int32) {rs : sRes sT} (h : c213_0 v1 v2 v3 v4 S = some rs) : ∃ res, b213_0 m v1 v2 v3 v4 M = some res ∧ simR o_V f_1 (fun _ as => as) m ad M rs res := by
  have hs : sm m ad M M := sm.rf
  unfold c213_0 at h
  unfold b213_0
  refine exb (rR_go hR) ?_
  obtain ⟨q_1, h2, h⟩ := bd h
  obtain ⟨M3, e4, hR5, hs6⟩ := u212 hR h2
  replace hs6 := hs.tr hs6
  refine exb (c_I_of e4) ?_
  refine exb (rR_go hR5) ?_
  obtain ⟨q_7, h8, h⟩ := bd h
  obtain ⟨M9, e10, hR11, hs12⟩ := u167 hR5 h8
  replace hs12 := hs6.tr hs12
  refine exb (c_V_of e10) ?_
  refine exb (rR_go hR11) ?_
  obtain ⟨q_13, h14, h⟩ := bd h
  obtain ⟨M15, e16, hR17, hs18⟩ := u176 hR11 h14
  replace hs18 := hs12.tr hs18
  refine exb (c_I_of e16) ?_
  refine exb (rR_go hR17) ?_
  obtain ⟨q_19, h20, h⟩ := bd h
  obtain ⟨M21, e22, hR23, hs24⟩ := u183 hR17 h20
  replace hs24 := hs18.tr hs24
  refine exb (c_V_of e22) ?_
  obtain rfl := Option.some.inj h
  exact ⟨_, rfl, _, rfl, hR23, hs24⟩
theorem u213 {m : Nat} {ad : Nat → Nat} {M : hM} {S : sT} (hR : rR m ad M S) {v1 : Int32} {v2 : Int32} {v3 : Int32} {v4 : Int32} {q : sT} (h : e213 v1 v2 v3 v4 S = some q) : ∃ M1, f213 [.inr (.inr (some m)), .inl v1, .inl v2, .inl v3, .inl v4] M = some (none, M1) ∧ rR m ad M1 q ∧ sm m ad M M1 := by
  exact s_out_sim (o := o_V) (f := f_1) (J := fun _ as => as) (fun rs hx => q213_0 hR v1 v2 v3 v4 hx) h
/-! reference: data(III)V -/
def c214_0 (v1 : Int32) (v2 : Int32) (v3 : Int32) (S : sT) : Option (sRes sT) :=
  Option.bind (e165 v2 (11 : Int32) S) fun q_1 =>
  some (.inr (12, [.inl v1, .inl v2, .inl v3, .inl q_1.1, .inl (0 : Int32)], q_1.2))
def c214_269 (v1 : Int32) (v2 : Int32) (v3 : Int32) (v4 : Int32) (v5 : Int32) (S : sT) : Option (sRes sT) :=
  some (.inr (12, [.inl v1, .inl v2, .inl v3, .inl v4, .inl (v5 + (1 : Int32))], S))
def c214_12 (v1 : Int32) (v2 : Int32) (v3 : Int32) (v4 : Int32) (v5 : Int32) (S : sT) : Option (sRes sT) :=
  Option.bind (s_a S 46 v1) fun v_7 =>
  if v_7 ≤ v5 then
    (some (.inl S))
  else
    (Option.bind (s_a S 44 (((48 : Int32) * v1) + ((8 : Int32) * v5))) fun v_9 =>
    if v_9 = v3 then
      (Option.bind (s_a S 44 ((((48 : Int32) * v1) + ((8 : Int32) * v5)) + (1 : Int32))) fun v_11 =>
      Option.bind (e166 v2 (7 : Int32) (2 : Int32) S) fun q_13 =>
      if v_11 = q_13.1 then
        (Option.bind (s_a q_13.2 44 ((((48 : Int32) * v1) + ((8 : Int32) * v5)) + (2 : Int32))) fun v_19 =>
        Option.bind (e166 v2 (9 : Int32) (2 : Int32) q_13.2) fun q_21 =>
        if v_19 = q_21.1 then
          (Option.bind (s_a q_21.2 44 ((((48 : Int32) * v1) + ((8 : Int32) * v5)) + (5 : Int32))) fun v_27 =>
          if v4 < v_27 then
            (Option.bind (e209 v2 q_21.2) fun q_29 =>
            Option.bind (s_sl q_29.2 45 ((((24 : Int32) * v1) + ((4 : Int32) * v5)) + v4) q_29.1) fun S35 =>
            Option.bind (s_a S35 44 ((((48 : Int32) * v1) + ((8 : Int32) * v5)) + (6 : Int32))) fun v_41 =>
            Option.bind (s_s S35 44 ((((48 : Int32) * v1) + ((8 : Int32) * v5)) + (6 : Int32)) (v_41 ||| ((1 : Int32) <<< (v4 &&& 31)))) fun S43 =>
            Option.bind (s_a S43 44 ((((48 : Int32) * v1) + ((8 : Int32) * v5)) + (6 : Int32))) fun v_49 =>
            Option.bind (s_a S43 44 ((((48 : Int32) * v1) + ((8 : Int32) * v5)) + (5 : Int32))) fun v_51 =>
            if v_49 = (((1 : Int32) <<< (v_51 &&& 31)) - (1 : Int32)) then
              (some (.inr (173, [.inl v1, .inl v2, .inl v5, .inl (((48 : Int32) * v1) + ((8 : Int32) * v5)), .inl (0 : Int32)], S43)))
            else
              (some (.inl S43)))
          else
            (some (.inl q_21.2)))
        else
          (c214_269 v1 v2 v3 v4 v5 q_21.2))
      else
        (c214_269 v1 v2 v3 v4 v5 q_13.2))
    else
      (c214_269 v1 v2 v3 v4 v5 S))
def c214_173 (v1 : Int32) (v2 : Int32) (v5 : Int32) (v6 : Int32) (v7 : Int32) (S : sT) : Option (sRes sT) :=
  Option.bind (s_a S 44 (v6 + (5 : Int32))) fun v_59 =>
  if v_59 ≤ v7 then
    (Option.bind (s_a S 44 (v6 + (2 : Int32))) fun v_61 =>
    Option.bind (e213 v1 v2 v_61 (0 : Int32) S) fun q_63 =>
    Option.bind (e203 v1 v5 q_63) fun q_69 =>
    some (.inl q_69))
  else
    (Option.bind (s_a S 44 (v6 + (3 : Int32))) fun v_75 =>
    Option.bind (s_a S 44 (v6 + (4 : Int32))) fun v_77 =>
    Option.bind (s_al S 45 ((((24 : Int32) * v1) + ((4 : Int32) * v5)) + v7)) fun w_79 =>
    Option.bind (s_sl S 42 (((((32 : Int32) * v1) + ((16 : Int32) * v_75)) + v_77) + v7) w_79) fun S81 =>
    some (.inr (173, [.inl v1, .inl v2, .inl v5, .inl v6, .inl (v7 + (1 : Int32))], S81)))
def kS214 (h : Nat) (as : List aV) (S : sT) : Option (sRes sT) :=
  if h = 12 then (match as with | [.inl v1, .inl v2, .inl v3, .inl v4, .inl v5] => c214_12 v1 v2 v3 v4 v5 S | _ => none) else
  if h = 173 then (match as with | [.inl v1, .inl v2, .inl v5, .inl v6, .inl v7] => c214_173 v1 v2 v5 v6 v7 S | _ => none) else
  none
def J214 (m : Nat) (h : Nat) (as : List aV) : List aV := .inr (.inr (some m)) :: as
def e214 (v1 : Int32) (v2 : Int32) (v3 : Int32) (S : sT) : Option sT := s_go kS214 (c214_0 v1 v2 v3 S)
theorem q214_0 {m : Nat} {ad : Nat → Nat} {M : hM} {S : sT} (hR : rR m ad M S) (v1 : Int32) (v2 : Int32) (v3 : Int32) {rs : sRes sT} (h : c214_0 v1 v2 v3 S = some rs) : ∃ res, b214_0 m v1 v2 v3 M = some res ∧ simR o_V f_1 (J214 m) m ad M rs res := by
  have hs : sm m ad M M := sm.rf
  unfold c214_0 at h
  unfold b214_0
  refine exb (rR_go hR) ?_
  obtain ⟨q_1, h2, h⟩ := bd h
  obtain ⟨M3, e4, hR5, hs6⟩ := u165 hR h2
  replace hs6 := hs.tr hs6
  refine exb (c_I_of e4) ?_
  obtain rfl := Option.some.inj h
  exact ⟨_, rfl, _, rfl, hR5, hs6⟩
theorem q214_269 {m : Nat} {ad : Nat → Nat} {M : hM} {S : sT} (hR : rR m ad M S) (v1 : Int32) (v2 : Int32) (v3 : Int32) (v4 : Int32) (v5 : Int32) {rs : sRes sT} (h : c214_269 v1 v2 v3 v4 v5 S = some rs) : ∃ res, b214_269 m v1 v2 v3 v4 v5 M = some res ∧ simR o_V f_1 (J214 m) m ad M rs res := by
  have hs : sm m ad M M := sm.rf
  unfold c214_269 at h
  unfold b214_269
  obtain rfl := Option.some.inj h
  exact ⟨_, rfl, _, rfl, hR, hs⟩
theorem q214_12 {m : Nat} {ad : Nat → Nat} {M : hM} {S : sT} (hR : rR m ad M S) (v1 : Int32) (v2 : Int32) (v3 : Int32) (v4 : Int32) (v5 : Int32) {rs : sRes sT} (h : c214_12 v1 v2 v3 v4 v5 S = some rs) : ∃ res, b214_12 m v1 v2 v3 v4 v5 M = some res ∧ simR o_V f_1 (J214 m) m ad M rs res := by
  have hs : sm m ad M M := sm.rf
  unfold c214_12 at h
  unfold b214_12
  refine exb (rR_gr hR 46) ?_
  obtain ⟨v_7, h8, h⟩ := bd h
  refine exb (rR_al hR h8) ?_
  by_cases q58 : v_7 ≤ v5
  · rw [if_pos q58] at h ⊢
    obtain rfl := Option.some.inj h
    exact ⟨_, rfl, _, rfl, hR, hs⟩
  · rw [if_neg q58] at h ⊢
    refine exb (rR_gr hR 44) ?_
    obtain ⟨v_9, h10, h⟩ := bd h
    refine exb (rR_al hR h10) ?_
    by_cases q57 : v_9 = v3
    · rw [if_pos q57] at h ⊢
      refine exb (rR_gr hR 44) ?_
      obtain ⟨v_11, h12, h⟩ := bd h
      refine exb (rR_al hR h12) ?_
      refine exb (rR_go hR) ?_
      obtain ⟨q_13, h14, h⟩ := bd h
      obtain ⟨M15, e16, hR17, hs18⟩ := u166 hR h14
      replace hs18 := hs.tr hs18
      refine exb (c_I_of e16) ?_
      by_cases q56 : v_11 = q_13.1
      · rw [if_pos q56] at h ⊢
        refine exb (rR_gr hR17 44) ?_
        obtain ⟨v_19, h20, h⟩ := bd h
        refine exb (rR_al hR17 h20) ?_
        refine exb (rR_go hR17) ?_
        obtain ⟨q_21, h22, h⟩ := bd h
        obtain ⟨M23, e24, hR25, hs26⟩ := u166 hR17 h22
        replace hs26 := hs18.tr hs26
        refine exb (c_I_of e24) ?_
        by_cases q55 : v_19 = q_21.1
        · rw [if_pos q55] at h ⊢
          refine exb (rR_gr hR25 44) ?_
          obtain ⟨v_27, h28, h⟩ := bd h
          refine exb (rR_al hR25 h28) ?_
          by_cases q54 : v4 < v_27
          · rw [if_pos q54] at h ⊢
            refine exb (rR_gr hR25 45) ?_
            refine exb (rR_go hR25) ?_
            obtain ⟨q_29, h30, h⟩ := bd h
            obtain ⟨M31, e32, hR33, hs34⟩ := u209 hR25 h30
            replace hs34 := hs26.tr hs34
            refine exb (c_L_of e32) ?_
            obtain ⟨S35, h37, h⟩ := bd h
            obtain ⟨M36, e38, hR39, hs40⟩ := rR_sl hR33 h37
            replace hs40 := hs34.tr hs40
            refine exb e38 ?_
            refine exb (rR_gr hR39 44) ?_
            obtain ⟨v_41, h42, h⟩ := bd h
            refine exb (rR_al hR39 h42) ?_
            obtain ⟨S43, h45, h⟩ := bd h
            obtain ⟨M44, e46, hR47, hs48⟩ := rR_si hR39 h45
            replace hs48 := hs40.tr hs48
            refine exb e46 ?_
            refine exb (rR_gr hR47 44) ?_
            obtain ⟨v_49, h50, h⟩ := bd h
            refine exb (rR_al hR47 h50) ?_
            refine exb (rR_gr hR47 44) ?_
            obtain ⟨v_51, h52, h⟩ := bd h
            refine exb (rR_al hR47 h52) ?_
            by_cases q53 : v_49 = (((1 : Int32) <<< (v_51 &&& 31)) - (1 : Int32))
            · rw [if_pos q53] at h ⊢
              obtain rfl := Option.some.inj h
              exact ⟨_, rfl, _, rfl, hR47, hs48⟩
            · rw [if_neg q53] at h ⊢
              obtain rfl := Option.some.inj h
              exact ⟨_, rfl, _, rfl, hR47, hs48⟩
          · rw [if_neg q54] at h ⊢
            obtain rfl := Option.some.inj h
            exact ⟨_, rfl, _, rfl, hR25, hs26⟩
        · rw [if_neg q55] at h ⊢
          exact simT hs26 (q214_269 hR25 v1 v2 v3 v4 v5 h)
      · rw [if_neg q56] at h ⊢
        exact simT hs18 (q214_269 hR17 v1 v2 v3 v4 v5 h)
    · rw [if_neg q57] at h ⊢
      exact simT hs (q214_269 hR v1 v2 v3 v4 v5 h)
theorem q214_173 {m : Nat} {ad : Nat → Nat} {M : hM} {S : sT} (hR : rR m ad M S) (v1 : Int32) (v2 : Int32) (v5 : Int32) (v6 : Int32) (v7 : Int32) {rs : sRes sT} (h : c214_173 v1 v2 v5 v6 v7 S = some rs) : ∃ res, b214_173 m v1 v2 v5 v6 v7 M = some res ∧ simR o_V f_1 (J214 m) m ad M rs res := by
  have hs : sm m ad M M := sm.rf
  unfold c214_173 at h
  unfold b214_173
  refine exb (rR_gr hR 44) ?_
  obtain ⟨v_59, h60, h⟩ := bd h
  refine exb (rR_al hR h60) ?_
  by_cases q87 : v_59 ≤ v7
  · rw [if_pos q87] at h ⊢
    refine exb (rR_gr hR 44) ?_
    obtain ⟨v_61, h62, h⟩ := bd h
    refine exb (rR_al hR h62) ?_
    refine exb (rR_go hR) ?_
    obtain ⟨q_63, h64, h⟩ := bd h
    obtain ⟨M65, e66, hR67, hs68⟩ := u213 hR h64
    replace hs68 := hs.tr hs68
    refine exb (c_V_of e66) ?_
    refine exb (rR_go hR67) ?_
    obtain ⟨q_69, h70, h⟩ := bd h
    obtain ⟨M71, e72, hR73, hs74⟩ := u203 hR67 h70
    replace hs74 := hs68.tr hs74
    refine exb (c_V_of e72) ?_
    obtain rfl := Option.some.inj h
    exact ⟨_, rfl, _, rfl, hR73, hs74⟩
  · rw [if_neg q87] at h ⊢
    refine exb (rR_gr hR 42) ?_
    refine exb (rR_gr hR 44) ?_
    obtain ⟨v_75, h76, h⟩ := bd h
    refine exb (rR_al hR h76) ?_
    refine exb (rR_gr hR 44) ?_
    obtain ⟨v_77, h78, h⟩ := bd h
    refine exb (rR_al hR h78) ?_
    refine exb (rR_gr hR 45) ?_
    obtain ⟨w_79, h80, h⟩ := bd h
    refine exb (rR_all hR h80) ?_
    obtain ⟨S81, h83, h⟩ := bd h
    obtain ⟨M82, e84, hR85, hs86⟩ := rR_sl hR h83
    replace hs86 := hs.tr hs86
    refine exb e84 ?_
    obtain rfl := Option.some.inj h
    exact ⟨_, rfl, _, rfl, hR85, hs86⟩
theorem u214 {m : Nat} {ad : Nat → Nat} {M : hM} {S : sT} (hR : rR m ad M S) {v1 : Int32} {v2 : Int32} {v3 : Int32} {q : sT} (h : e214 v1 v2 v3 S = some q) : ∃ M1, f214 [.inr (.inr (some m)), .inl v1, .inl v2, .inl v3] M = some (none, M1) ∧ rR m ad M1 q ∧ sm m ad M M1 := by
  unfold e214 at h
  show ∃ M1, x_go k214 (b214_0 m v1 v2 v3 M) = some (o_V q, M1) ∧ rR m ad M1 (f_1 q) ∧ sm m ad M M1
  refine s_go_ok (o := o_V) (f := f_1) (J := J214 m) (bs := kS214) (bk := k214) (xs := c214_0 v1 v2 v3 S) (x := b214_0 m v1 v2 v3 M) (M := M) (q := q) ?_ (fun rs hx => q214_0 hR v1 v2 v3 hx) h
  intro h as S M rs hR hb
  unfold kS214 at hb
  unfold k214 J214
  by_cases e0 : h = 12
  · rw [if_pos e0] at hb ⊢
    split at hb
    · subst e0; exact q214_12 hR _ _ _ _ _ hb
    · cases hb
  · rw [if_neg e0] at hb
    by_cases e1 : h = 173
    · rw [if_pos e1] at hb ⊢
      split at hb
      · subst e1; exact q214_173 hR _ _ _ _ _ hb
      · cases hb
    · rw [if_neg e1] at hb
      cases hb
