/-! reference: status(I)I -/
def c247_18 (si0 : Int32) (S : sT) : Option (sRes (Int32 × sT)) :=
  some (.inl (si0, S))
def c247_0 (v1 : Int32) (S : sT) : Option (sRes (Int32 × sT)) :=
  Option.bind (e246 v1 S) fun q_1 =>
  if q_1.1 = 0 then
    (c247_18 (-1 : Int32) q_1.2)
  else
    (Option.bind (s_a q_1.2 56 v1) fun v_7 =>
    c247_18 v_7 q_1.2)
def e247 (v1 : Int32) (S : sT) : Option (Int32 × sT) := s_out (c247_0 v1 S)
theorem q247_18 {m : Nat} {ad : Nat → Nat} {M : hM} {S : sT} (hR : rR m ad M S) (si0 : Int32) {rs : sRes (Int32 × sT)} (h : c247_18 si0 S = some rs) : ∃ res, b247_18 si0 M = some res ∧ simR o_I f_2 (fun _ as => as) m ad M rs res := by
  have hs : sm m ad M M := sm.rf
  unfold c247_18 at h
  unfold b247_18
  obtain rfl := Option.some.inj h
  exact ⟨_, rfl, _, rfl, hR, hs⟩
theorem q247_0 {m : Nat} {ad : Nat → Nat} {M : hM} {S : sT} (hR : rR m ad M S) (v1 : Int32) {rs : sRes (Int32 × sT)} (h : c247_0 v1 S = some rs) : ∃ res, b247_0 m v1 M = some res ∧ simR o_I f_2 (fun _ as => as) m ad M rs res := by
  have hs : sm m ad M M := sm.rf
  unfold c247_0 at h
  unfold b247_0
  refine exb (rR_go hR) ?_
  obtain ⟨q_1, h2, h⟩ := bd h
  obtain ⟨M3, e4, hR5, hs6⟩ := u246 hR h2
  replace hs6 := hs.tr hs6
  refine exb (c_I_of e4) ?_
  by_cases q9 : q_1.1 = 0
  · rw [if_pos q9] at h ⊢
    exact simT hs6 (q247_18 hR5 (-1 : Int32) h)
  · rw [if_neg q9] at h ⊢
    refine exb (rR_gr hR5 56) ?_
    obtain ⟨v_7, h8, h⟩ := bd h
    refine exb (rR_al hR5 h8) ?_
    exact simT hs6 (q247_18 hR5 v_7 h)
theorem u247 {m : Nat} {ad : Nat → Nat} {M : hM} {S : sT} (hR : rR m ad M S) {v1 : Int32} {q : (Int32 × sT)} (h : e247 v1 S = some q) : ∃ M1, f247 [.inr (.inr (some m)), .inl v1] M = some (some (.inl q.1), M1) ∧ rR m ad M1 q.2 ∧ sm m ad M M1 := by
  exact s_out_sim (o := o_I) (f := f_2) (J := fun _ as => as) (fun rs hx => q247_0 hR v1 hx) h
/-! reference: got(II)J -/
def c248_40 (sl0 : Int64) (S : sT) : Option (sRes (Int64 × sT)) :=
  some (.inl (sl0, S))
def c248_39  (S : sT) : Option (sRes (Int64 × sT)) :=
  c248_40 (0 : Int64) S
def c248_0 (v1 : Int32) (v2 : Int32) (S : sT) : Option (sRes (Int64 × sT)) :=
  Option.bind (e246 v1 S) fun q_1 =>
  if q_1.1 = 0 then
    (c248_39  q_1.2)
  else
    (Option.bind (s_a q_1.2 50 v1) fun v_7 =>
    if v_7 = 0 then
      (if v2 < 0 then
        (c248_39  q_1.2)
      else
        (if (4 : Int32) ≤ v2 then
          (c248_39  q_1.2)
        else
          (Option.bind (s_al q_1.2 54 (((4 : Int32) * v1) + v2)) fun w_9 =>
          c248_40 w_9 q_1.2)))
    else
      (c248_39  q_1.2))
def e248 (v1 : Int32) (v2 : Int32) (S : sT) : Option (Int64 × sT) := s_out (c248_0 v1 v2 S)
theorem q248_40 {m : Nat} {ad : Nat → Nat} {M : hM} {S : sT} (hR : rR m ad M S) (sl0 : Int64) {rs : sRes (Int64 × sT)} (h : c248_40 sl0 S = some rs) : ∃ res, b248_40 sl0 M = some res ∧ simR o_L f_2 (fun _ as => as) m ad M rs res := by
  have hs : sm m ad M M := sm.rf
  unfold c248_40 at h
  unfold b248_40
  obtain rfl := Option.some.inj h
  exact ⟨_, rfl, _, rfl, hR, hs⟩
theorem q248_39 {m : Nat} {ad : Nat → Nat} {M : hM} {S : sT} (hR : rR m ad M S)  {rs : sRes (Int64 × sT)} (h : c248_39  S = some rs) : ∃ res, b248_39  M = some res ∧ simR o_L f_2 (fun _ as => as) m ad M rs res := by
  have hs : sm m ad M M := sm.rf
  unfold c248_39 at h
  unfold b248_39
  exact simT hs (q248_40 hR (0 : Int64) h)
theorem q248_0 {m : Nat} {ad : Nat → Nat} {M : hM} {S : sT} (hR : rR m ad M S) (v1 : Int32) (v2 : Int32) {rs : sRes (Int64 × sT)} (h : c248_0 v1 v2 S = some rs) : ∃ res, b248_0 m v1 v2 M = some res ∧ simR o_L f_2 (fun _ as => as) m ad M rs res := by
  have hs : sm m ad M M := sm.rf
  unfold c248_0 at h
  unfold b248_0
  refine exb (rR_go hR) ?_
  obtain ⟨q_1, h2, h⟩ := bd h
  obtain ⟨M3, e4, hR5, hs6⟩ := u246 hR h2
  replace hs6 := hs.tr hs6
  refine exb (c_I_of e4) ?_
  by_cases q14 : q_1.1 = 0
  · rw [if_pos q14] at h ⊢
    exact simT hs6 (q248_39 hR5  h)
  · rw [if_neg q14] at h ⊢
    refine exb (rR_gr hR5 50) ?_
    obtain ⟨v_7, h8, h⟩ := bd h
    refine exb (rR_al hR5 h8) ?_
    by_cases q13 : v_7 = 0
    · rw [if_pos q13] at h ⊢
      by_cases q12 : v2 < 0
      · rw [if_pos q12] at h ⊢
        exact simT hs6 (q248_39 hR5  h)
      · rw [if_neg q12] at h ⊢
        by_cases q11 : (4 : Int32) ≤ v2
        · rw [if_pos q11] at h ⊢
          exact simT hs6 (q248_39 hR5  h)
        · rw [if_neg q11] at h ⊢
          refine exb (rR_gr hR5 54) ?_
          obtain ⟨w_9, h10, h⟩ := bd h
          refine exb (rR_all hR5 h10) ?_
          exact simT hs6 (q248_40 hR5 w_9 h)
    · rw [if_neg q13] at h ⊢
      exact simT hs6 (q248_39 hR5  h)
theorem u248 {m : Nat} {ad : Nat → Nat} {M : hM} {S : sT} (hR : rR m ad M S) {v1 : Int32} {v2 : Int32} {q : (Int64 × sT)} (h : e248 v1 v2 S = some q) : ∃ M1, f248 [.inr (.inr (some m)), .inl v1, .inl v2] M = some (some (.inr (.inl q.1)), M1) ∧ rR m ad M1 q.2 ∧ sm m ad M M1 := by
  exact s_out_sim (o := o_L) (f := f_2) (J := fun _ as => as) (fun rs hx => q248_0 hR v1 v2 hx) h
/-! reference: when(II)I -/
def c249_52 (si0 : Int32) (S : sT) : Option (sRes (Int32 × sT)) :=
  some (.inl (si0, S))
def c249_0 (v1 : Int32) (v2 : Int32) (S : sT) : Option (sRes (Int32 × sT)) :=
  Option.bind (e246 v1 S) fun q_1 =>
  if q_1.1 = 0 then
    (some (.inl ((-1 : Int32), q_1.2)))
  else
    (if v2 = 0 then
      (Option.bind (s_a q_1.2 58 v1) fun v_13 =>
      c249_52 v_13 q_1.2)
    else
      (if v2 = (1 : Int32) then
        (Option.bind (s_a q_1.2 59 v1) fun v_10 =>
        c249_52 v_10 q_1.2)
      else
        (if v2 = (2 : Int32) then
          (Option.bind (s_a q_1.2 57 v1) fun v_7 =>
          c249_52 v_7 q_1.2)
        else
          (c249_52 (-1 : Int32) q_1.2))))
def e249 (v1 : Int32) (v2 : Int32) (S : sT) : Option (Int32 × sT) := s_out (c249_0 v1 v2 S)
theorem q249_52 {m : Nat} {ad : Nat → Nat} {M : hM} {S : sT} (hR : rR m ad M S) (si0 : Int32) {rs : sRes (Int32 × sT)} (h : c249_52 si0 S = some rs) : ∃ res, b249_52 si0 M = some res ∧ simR o_I f_2 (fun _ as => as) m ad M rs res := by
  have hs : sm m ad M M := sm.rf
  unfold c249_52 at h
  unfold b249_52
  obtain rfl := Option.some.inj h
  exact ⟨_, rfl, _, rfl, hR, hs⟩
theorem q249_0 {m : Nat} {ad : Nat → Nat} {M : hM} {S : sT} (hR : rR m ad M S) (v1 : Int32) (v2 : Int32) {rs : sRes (Int32 × sT)} (h : c249_0 v1 v2 S = some rs) : ∃ res, b249_0 m v1 v2 M = some res ∧ simR o_I f_2 (fun _ as => as) m ad M rs res := by
  have hs : sm m ad M M := sm.rf
  unfold c249_0 at h
  unfold b249_0
  refine exb (rR_go hR) ?_
  obtain ⟨q_1, h2, h⟩ := bd h
  obtain ⟨M3, e4, hR5, hs6⟩ := u246 hR h2
  replace hs6 := hs.tr hs6
  refine exb (c_I_of e4) ?_
  by_cases q16 : q_1.1 = 0
  · rw [if_pos q16] at h ⊢
    obtain rfl := Option.some.inj h
    exact ⟨_, rfl, _, rfl, hR5, hs6⟩
  · rw [if_neg q16] at h ⊢
    by_cases q15 : v2 = 0
    · rw [if_pos q15] at h ⊢
      refine exb (rR_gr hR5 58) ?_
      obtain ⟨v_13, h14, h⟩ := bd h
      refine exb (rR_al hR5 h14) ?_
      exact simT hs6 (q249_52 hR5 v_13 h)
    · rw [if_neg q15] at h ⊢
      by_cases q12 : v2 = (1 : Int32)
      · rw [if_pos q12] at h ⊢
        refine exb (rR_gr hR5 59) ?_
        obtain ⟨v_10, h11, h⟩ := bd h
        refine exb (rR_al hR5 h11) ?_
        exact simT hs6 (q249_52 hR5 v_10 h)
      · rw [if_neg q12] at h ⊢
        by_cases q9 : v2 = (2 : Int32)
        · rw [if_pos q9] at h ⊢
          refine exb (rR_gr hR5 57) ?_
          obtain ⟨v_7, h8, h⟩ := bd h
          refine exb (rR_al hR5 h8) ?_
          exact simT hs6 (q249_52 hR5 v_7 h)
        · rw [if_neg q9] at h ⊢
          exact simT hs6 (q249_52 hR5 (-1 : Int32) h)
theorem u249 {m : Nat} {ad : Nat → Nat} {M : hM} {S : sT} (hR : rR m ad M S) {v1 : Int32} {v2 : Int32} {q : (Int32 × sT)} (h : e249 v1 v2 S = some q) : ∃ M1, f249 [.inr (.inr (some m)), .inl v1, .inl v2] M = some (some (.inl q.1), M1) ∧ rR m ad M1 q.2 ∧ sm m ad M M1 := by
  exact s_out_sim (o := o_I) (f := f_2) (J := fun _ as => as) (fun rs hx => q249_0 hR v1 v2 hx) h
/-! reference: block(III)J -/
def c250_40  (S : sT) : Option (sRes (Int64 × sT)) :=
  some (.inl ((-9223372036854775808 : Int64), S))
def c250_0 (v1 : Int32) (v2 : Int32) (v3 : Int32) (S : sT) : Option (sRes (Int64 × sT)) :=
  if v1 < 0 then
    (c250_40  S)
  else
    (if (s_g S 1) ≤ v1 then
      (c250_40  S)
    else
      (Option.bind (s_a S 33 v1) fun v_1 =>
      if v_1 = 0 then
        (c250_40  S)
      else
        (if v2 < 0 then
          (c250_40  S)
        else
          (if (1 : Int32) < v2 then
            (c250_40  S)
          else
            (if v3 < 0 then
              (c250_40  S)
            else
              (if v3 ≤ (15 : Int32) then
                (Option.bind (s_al S 42 ((((32 : Int32) * v1) + ((16 : Int32) * v2)) + v3)) fun w_3 =>
                some (.inl (w_3, S)))
              else
                (c250_40  S)))))))
def e250 (v1 : Int32) (v2 : Int32) (v3 : Int32) (S : sT) : Option (Int64 × sT) := s_out (c250_0 v1 v2 v3 S)
theorem q250_40 {m : Nat} {ad : Nat → Nat} {M : hM} {S : sT} (hR : rR m ad M S)  {rs : sRes (Int64 × sT)} (h : c250_40  S = some rs) : ∃ res, b250_40  M = some res ∧ simR o_L f_2 (fun _ as => as) m ad M rs res := by
  have hs : sm m ad M M := sm.rf
  unfold c250_40 at h
  unfold b250_40
  obtain rfl := Option.some.inj h
  exact ⟨_, rfl, _, rfl, hR, hs⟩
theorem q250_0 {m : Nat} {ad : Nat → Nat} {M : hM} {S : sT} (hR : rR m ad M S) (v1 : Int32) (v2 : Int32) (v3 : Int32) {rs : sRes (Int64 × sT)} (h : c250_0 v1 v2 v3 S = some rs) : ∃ res, b250_0 m v1 v2 v3 M = some res ∧ simR o_L f_2 (fun _ as => as) m ad M rs res := by
  have hs : sm m ad M M := sm.rf
  unfold c250_0 at h
  unfold b250_0
  by_cases q11 : v1 < 0
  · rw [if_pos q11] at h ⊢
    exact simT hs (q250_40 hR  h)
  · rw [if_neg q11] at h ⊢
    refine exb (rR_gi hR 1) ?_
    by_cases q10 : (s_g S 1) ≤ v1
    · rw [if_pos q10] at h ⊢
      exact simT hs (q250_40 hR  h)
    · rw [if_neg q10] at h ⊢
      refine exb (rR_gr hR 33) ?_
      obtain ⟨v_1, h2, h⟩ := bd h
      refine exb (rR_al hR h2) ?_
      by_cases q9 : v_1 = 0
      · rw [if_pos q9] at h ⊢
        exact simT hs (q250_40 hR  h)
      · rw [if_neg q9] at h ⊢
        by_cases q8 : v2 < 0
        · rw [if_pos q8] at h ⊢
          exact simT hs (q250_40 hR  h)
        · rw [if_neg q8] at h ⊢
          by_cases q7 : (1 : Int32) < v2
          · rw [if_pos q7] at h ⊢
            exact simT hs (q250_40 hR  h)
          · rw [if_neg q7] at h ⊢
            by_cases q6 : v3 < 0
            · rw [if_pos q6] at h ⊢
              exact simT hs (q250_40 hR  h)
            · rw [if_neg q6] at h ⊢
              by_cases q5 : v3 ≤ (15 : Int32)
              · rw [if_pos q5] at h ⊢
                refine exb (rR_gr hR 42) ?_
                obtain ⟨w_3, h4, h⟩ := bd h
                refine exb (rR_all hR h4) ?_
                obtain rfl := Option.some.inj h
                exact ⟨_, rfl, _, rfl, hR, hs⟩
              · rw [if_neg q5] at h ⊢
                exact simT hs (q250_40 hR  h)
theorem u250 {m : Nat} {ad : Nat → Nat} {M : hM} {S : sT} (hR : rR m ad M S) {v1 : Int32} {v2 : Int32} {v3 : Int32} {q : (Int64 × sT)} (h : e250 v1 v2 v3 S = some q) : ∃ M1, f250 [.inr (.inr (some m)), .inl v1, .inl v2, .inl v3] M = some (some (.inr (.inl q.1)), M1) ∧ rR m ad M1 q.2 ∧ sm m ad M M1 := by
  exact s_out_sim (o := o_L) (f := f_2) (J := fun _ as => as) (fun rs hx => q250_0 hR v1 v2 v3 hx) h
/-! reference: way(II)I -/
def c251_23  (S : sT) : Option (sRes (Int32 × sT)) :=
  some (.inl ((-1 : Int32), S))
def c251_54 (si0 : Int32) (S : sT) : Option (sRes (Int32 × sT)) :=
  some (.inl (si0, S))
def c251_48 (v1 : Int32) (v2 : Int32) (S : sT) : Option (sRes (Int32 × sT)) :=
  Option.bind (e201 v1 v2 S) fun q_15 =>
  c251_54 q_15.1 q_15.2
def c251_0 (v1 : Int32) (v2 : Int32) (S : sT) : Option (sRes (Int32 × sT)) :=
  if v1 < 0 then
    (c251_23  S)
  else
    (if (s_g S 0) ≤ v1 then
      (c251_23  S)
    else
      (if v2 < (1 : Int32) then
        (c251_23  S)
      else
        (if v2 ≤ (15 : Int32) then
          (Option.bind (s_a S 26 v1) fun v_1 =>
          if v2 = v_1 then
            (Option.bind (e200 v1 S) fun q_3 =>
            if q_3.1 = 0 then
              (c251_54 (8 : Int32) q_3.2)
            else
              (c251_48 v1 v2 q_3.2))
          else
            (c251_48 v1 v2 S))
        else
          (c251_23  S))))
def e251 (v1 : Int32) (v2 : Int32) (S : sT) : Option (Int32 × sT) := s_out (c251_0 v1 v2 S)
theorem q251_23 {m : Nat} {ad : Nat → Nat} {M : hM} {S : sT} (hR : rR m ad M S)  {rs : sRes (Int32 × sT)} (h : c251_23  S = some rs) : ∃ res, b251_23  M = some res ∧ simR o_I f_2 (fun _ as => as) m ad M rs res := by
  have hs : sm m ad M M := sm.rf
  unfold c251_23 at h
  unfold b251_23
  obtain rfl := Option.some.inj h
  exact ⟨_, rfl, _, rfl, hR, hs⟩
theorem q251_54 {m : Nat} {ad : Nat → Nat} {M : hM} {S : sT} (hR : rR m ad M S) (si0 : Int32) {rs : sRes (Int32 × sT)} (h : c251_54 si0 S = some rs) : ∃ res, b251_54 si0 M = some res ∧ simR o_I f_2 (fun _ as => as) m ad M rs res := by
  have hs : sm m ad M M := sm.rf
  unfold c251_54 at h
  unfold b251_54
  obtain rfl := Option.some.inj h
  exact ⟨_, rfl, _, rfl, hR, hs⟩
theorem q251_48 {m : Nat} {ad : Nat → Nat} {M : hM} {S : sT} (hR : rR m ad M S) (v1 : Int32) (v2 : Int32) {rs : sRes (Int32 × sT)} (h : c251_48 v1 v2 S = some rs) : ∃ res, b251_48 m v1 v2 M = some res ∧ simR o_I f_2 (fun _ as => as) m ad M rs res := by
  have hs : sm m ad M M := sm.rf
  unfold c251_48 at h
  unfold b251_48
  refine exb (rR_go hR) ?_
  obtain ⟨q_15, h16, h⟩ := bd h
  obtain ⟨M17, e18, hR19, hs20⟩ := u201 hR h16
  replace hs20 := hs.tr hs20
  refine exb (c_I_of e18) ?_
  exact simT hs20 (q251_54 hR19 q_15.1 h)
theorem q251_0 {m : Nat} {ad : Nat → Nat} {M : hM} {S : sT} (hR : rR m ad M S) (v1 : Int32) (v2 : Int32) {rs : sRes (Int32 × sT)} (h : c251_0 v1 v2 S = some rs) : ∃ res, b251_0 m v1 v2 M = some res ∧ simR o_I f_2 (fun _ as => as) m ad M rs res := by
  have hs : sm m ad M M := sm.rf
  unfold c251_0 at h
  unfold b251_0
  by_cases q14 : v1 < 0
  · rw [if_pos q14] at h ⊢
    exact simT hs (q251_23 hR  h)
  · rw [if_neg q14] at h ⊢
    refine exb (rR_gi hR 0) ?_
    by_cases q13 : (s_g S 0) ≤ v1
    · rw [if_pos q13] at h ⊢
      exact simT hs (q251_23 hR  h)
    · rw [if_neg q13] at h ⊢
      by_cases q12 : v2 < (1 : Int32)
      · rw [if_pos q12] at h ⊢
        exact simT hs (q251_23 hR  h)
      · rw [if_neg q12] at h ⊢
        by_cases q11 : v2 ≤ (15 : Int32)
        · rw [if_pos q11] at h ⊢
          refine exb (rR_gr hR 26) ?_
          obtain ⟨v_1, h2, h⟩ := bd h
          refine exb (rR_al hR h2) ?_
          by_cases q10 : v2 = v_1
          · rw [if_pos q10] at h ⊢
            refine exb (rR_go hR) ?_
            obtain ⟨q_3, h4, h⟩ := bd h
            obtain ⟨M5, e6, hR7, hs8⟩ := u200 hR h4
            replace hs8 := hs.tr hs8
            refine exb (c_I_of e6) ?_
            by_cases q9 : q_3.1 = 0
            · rw [if_pos q9] at h ⊢
              exact simT hs8 (q251_54 hR7 (8 : Int32) h)
            · rw [if_neg q9] at h ⊢
              exact simT hs8 (q251_48 hR7 v1 v2 h)
          · rw [if_neg q10] at h ⊢
            exact simT hs (q251_48 hR v1 v2 h)
        · rw [if_neg q11] at h ⊢
          exact simT hs (q251_23 hR  h)
theorem u251 {m : Nat} {ad : Nat → Nat} {M : hM} {S : sT} (hR : rR m ad M S) {v1 : Int32} {v2 : Int32} {q : (Int32 × sT)} (h : e251 v1 v2 S = some q) : ∃ M1, f251 [.inr (.inr (some m)), .inl v1, .inl v2] M = some (some (.inl q.1), M1) ∧ rR m ad M1 q.2 ∧ sm m ad M M1 := by
  exact s_out_sim (o := o_I) (f := f_2) (J := fun _ as => as) (fun rs hx => q251_0 hR v1 v2 hx) h
/-! reference: record(III)I -/
def c252_37  (S : sT) : Option (sRes (Int32 × sT)) :=
  some (.inl ((-1 : Int32), S))
def c252_0 (v1 : Int32) (v2 : Int32) (v3 : Int32) (S : sT) : Option (sRes (Int32 × sT)) :=
  if v1 < 0 then
    (c252_37  S)
  else
    (if (s_g S 0) ≤ v1 then
      (c252_37  S)
    else
      (if v2 < 0 then
        (c252_37  S)
      else
        (if (s_g S 0) ≤ v2 then
          (c252_37  S)
        else
          (Option.bind (s_a S 27 (((5 : Int32) * v1) + v2)) fun v_1 =>
          if v_1 = 0 then
            (c252_37  S)
          else
            (if v3 = 0 then
              (Option.bind (e191 v1 v2 S) fun q_3 =>
              some (.inl (q_3.1, q_3.2)))
            else
              (if v3 = 1 then
                (Option.bind (e190 v1 v2 (4 : Int32) S) fun q_9 =>
                some (.inl (q_9.1, q_9.2)))
              else
                (if v3 = 2 then
                  (Option.bind (e190 v1 v2 (5 : Int32) S) fun q_15 =>
                  some (.inl (q_15.1, q_15.2)))
                else
                  (if v3 = 3 then
                    (Option.bind (e192 v1 v2 S) fun q_21 =>
                    Option.bind (e190 v1 v2 (q_21.1 - (1 : Int32)) q_21.2) fun q_27 =>
                    some (.inl (q_27.1, q_27.2)))
                  else
                    (if v3 = 4 then
                      (Option.bind (s_a S 28 (((5 : Int32) * v1) + v2)) fun v_33 =>
                      some (.inl (v_33, S)))
                    else
                      (some (.inl ((-1 : Int32), S))))))))))))
def e252 (v1 : Int32) (v2 : Int32) (v3 : Int32) (S : sT) : Option (Int32 × sT) := s_out (c252_0 v1 v2 v3 S)
theorem q252_37 {m : Nat} {ad : Nat → Nat} {M : hM} {S : sT} (hR : rR m ad M S)  {rs : sRes (Int32 × sT)} (h : c252_37  S = some rs) : ∃ res, b252_37  M = some res ∧ simR o_I f_2 (fun _ as => as) m ad M rs res := by
  have hs : sm m ad M M := sm.rf
  unfold c252_37 at h
  unfold b252_37
  obtain rfl := Option.some.inj h
  exact ⟨_, rfl, _, rfl, hR, hs⟩
theorem q252_0 {m : Nat} {ad : Nat → Nat} {M : hM} {S : sT} (hR : rR m ad M S) (v1 : Int32) (v2 : Int32) (v3 : Int32) {rs : sRes (Int32 × sT)} (h : c252_0 v1 v2 v3 S = some rs) : ∃ res, b252_0 m v1 v2 v3 M = some res ∧ simR o_I f_2 (fun _ as => as) m ad M rs res := by
  have hs : sm m ad M M := sm.rf
  unfold c252_0 at h
  unfold b252_0
  by_cases q44 : v1 < 0
  · rw [if_pos q44] at h ⊢
    exact simT hs (q252_37 hR  h)
  · rw [if_neg q44] at h ⊢
    refine exb (rR_gi hR 0) ?_
    by_cases q43 : (s_g S 0) ≤ v1
    · rw [if_pos q43] at h ⊢
      exact simT hs (q252_37 hR  h)
    · rw [if_neg q43] at h ⊢
      by_cases q42 : v2 < 0
      · rw [if_pos q42] at h ⊢
        exact simT hs (q252_37 hR  h)
      · rw [if_neg q42] at h ⊢
        refine exb (rR_gi hR 0) ?_
        by_cases q41 : (s_g S 0) ≤ v2
        · rw [if_pos q41] at h ⊢
          exact simT hs (q252_37 hR  h)
        · rw [if_neg q41] at h ⊢
          refine exb (rR_gr hR 27) ?_
          obtain ⟨v_1, h2, h⟩ := bd h
          refine exb (rR_al hR h2) ?_
          by_cases q40 : v_1 = 0
          · rw [if_pos q40] at h ⊢
            exact simT hs (q252_37 hR  h)
          · rw [if_neg q40] at h ⊢
            by_cases q39 : v3 = 0
            · rw [if_pos q39] at h ⊢
              refine exb (rR_go hR) ?_
              obtain ⟨q_3, h4, h⟩ := bd h
              obtain ⟨M5, e6, hR7, hs8⟩ := u191 hR h4
              replace hs8 := hs.tr hs8
              refine exb (c_I_of e6) ?_
              obtain rfl := Option.some.inj h
              exact ⟨_, rfl, _, rfl, hR7, hs8⟩
            · rw [if_neg q39] at h ⊢
              by_cases q38 : v3 = 1
              · rw [if_pos q38] at h ⊢
                refine exb (rR_go hR) ?_
                obtain ⟨q_9, h10, h⟩ := bd h
                obtain ⟨M11, e12, hR13, hs14⟩ := u190 hR h10
                replace hs14 := hs.tr hs14
                refine exb (c_I_of e12) ?_
                obtain rfl := Option.some.inj h
                exact ⟨_, rfl, _, rfl, hR13, hs14⟩
              · rw [if_neg q38] at h ⊢
                by_cases q37 : v3 = 2
                · rw [if_pos q37] at h ⊢
                  refine exb (rR_go hR) ?_
                  obtain ⟨q_15, h16, h⟩ := bd h
                  obtain ⟨M17, e18, hR19, hs20⟩ := u190 hR h16
                  replace hs20 := hs.tr hs20
                  refine exb (c_I_of e18) ?_
                  obtain rfl := Option.some.inj h
                  exact ⟨_, rfl, _, rfl, hR19, hs20⟩
                · rw [if_neg q37] at h ⊢
                  by_cases q36 : v3 = 3
                  · rw [if_pos q36] at h ⊢
                    refine exb (rR_go hR) ?_
                    obtain ⟨q_21, h22, h⟩ := bd h
                    obtain ⟨M23, e24, hR25, hs26⟩ := u192 hR h22
                    replace hs26 := hs.tr hs26
                    refine exb (c_I_of e24) ?_
                    refine exb (rR_go hR25) ?_
                    obtain ⟨q_27, h28, h⟩ := bd h
                    obtain ⟨M29, e30, hR31, hs32⟩ := u190 hR25 h28
                    replace hs32 := hs26.tr hs32
                    refine exb (c_I_of e30) ?_
                    obtain rfl := Option.some.inj h
                    exact ⟨_, rfl, _, rfl, hR31, hs32⟩
                  · rw [if_neg q36] at h ⊢
                    by_cases q35 : v3 = 4
                    · rw [if_pos q35] at h ⊢
                      refine exb (rR_gr hR 28) ?_
                      obtain ⟨v_33, h34, h⟩ := bd h
                      refine exb (rR_al hR h34) ?_
                      obtain rfl := Option.some.inj h
                      exact ⟨_, rfl, _, rfl, hR, hs⟩
                    · rw [if_neg q35] at h ⊢
                      obtain rfl := Option.some.inj h
                      exact ⟨_, rfl, _, rfl, hR, hs⟩
theorem u252 {m : Nat} {ad : Nat → Nat} {M : hM} {S : sT} (hR : rR m ad M S) {v1 : Int32} {v2 : Int32} {v3 : Int32} {q : (Int32 × sT)} (h : e252 v1 v2 v3 S = some q) : ∃ M1, f252 [.inr (.inr (some m)), .inl v1, .inl v2, .inl v3] M = some (some (.inl q.1), M1) ∧ rR m ad M1 q.2 ∧ sm m ad M M1 := by
  exact s_out_sim (o := o_I) (f := f_2) (J := fun _ as => as) (fun rs hx => q252_0 hR v1 v2 v3 hx) h
/-! reference: port(III)I -/
def c253_58  (S : sT) : Option (sRes (Int32 × sT)) :=
  some (.inl ((-1 : Int32), S))
def c253_198 (si0 : Int32) (S : sT) : Option (sRes (Int32 × sT)) :=
  some (.inl (si0, S))
def c253_213 (si0 : Int32) (S : sT) : Option (sRes (Int32 × sT)) :=
  some (.inl (si0, S))
def c253_82 (v3 : Int32) (v4 : Int32) (si0 : Int32) (S : sT) : Option (sRes (Int32 × sT)) :=
  Option.bind (s_a S 14 si0) fun v_22 =>
  if v_22 = (-1 : Int32) then
    (some (.inl ((-1 : Int32), S)))
  else
    (if v3 = 0 then
      (Option.bind (e180 si0 S) fun q_24 =>
      some (.inl (q_24.1, q_24.2)))
    else
      (if v3 = 1 then
        (Option.bind (s_a S 17 si0) fun v_30 =>
        some (.inl (v_30, S)))
      else
        (if v3 = 2 then
          (Option.bind (s_a S 19 si0) fun v_32 =>
          some (.inl (v_32, S)))
        else
          (if v3 = 3 then
            (if v4 = 0 then
              (Option.bind (e179 si0 S) fun q_34 =>
              if q_34.1 = (-1 : Int32) then
                (Option.bind (s_a q_34.2 23 si0) fun v_40 =>
                c253_198 v_40 q_34.2)
              else
                (Option.bind (e179 si0 q_34.2) fun q_42 =>
                c253_198 q_42.1 q_42.2))
            else
              (Option.bind (e178 si0 S) fun q_49 =>
              Option.bind (d_v q_49.1 (8 : Int32)) fun v_55 =>
              c253_198 v_55 q_49.2))
          else
            (if v3 = 4 then
              (Option.bind (e177 si0 S) fun q_58 =>
              if q_58.1 = 0 then
                (c253_213 (0 : Int32) q_58.2)
              else
                (c253_213 (1 : Int32) q_58.2))
            else
              (some (.inl ((-1 : Int32), S))))))))
def c253_60 (v1 : Int32) (v2 : Int32) (v3 : Int32) (v4 : Int32) (S : sT) : Option (sRes (Int32 × sT)) :=
  if v4 = 0 then
    (Option.bind (e175 v1 v2 S) fun q_9 =>
    c253_82 v3 v4 q_9.1 q_9.2)
  else
    (Option.bind (e176 (v1 - (16 : Int32)) S) fun q_15 =>
    c253_82 v3 v4 q_15.1 q_15.2)
def c253_11 (v1 : Int32) (v2 : Int32) (v3 : Int32) (si0 : Int32) (S : sT) : Option (sRes (Int32 × sT)) :=
  if si0 = 0 then
    (if v1 < 0 then
      (c253_58  S)
    else
      (if (s_g S 0) ≤ v1 then
        (c253_58  S)
      else
        (if v2 < 0 then
          (c253_58  S)
        else
          (if v2 ≤ (7 : Int32) then
            (c253_60 v1 v2 v3 si0 S)
          else
            (c253_58  S)))))
  else
    (if (s_g S 1) ≤ (v1 - (16 : Int32)) then
      (c253_58  S)
    else
      (if v2 = 0 then
        (c253_60 v1 v2 v3 si0 S)
      else
        (c253_58  S)))
def c253_0 (v1 : Int32) (v2 : Int32) (v3 : Int32) (S : sT) : Option (sRes (Int32 × sT)) :=
  if v1 < (16 : Int32) then
    (c253_11 v1 v2 v3 (0 : Int32) S)
  else
    (c253_11 v1 v2 v3 (1 : Int32) S)
def e253 (v1 : Int32) (v2 : Int32) (v3 : Int32) (S : sT) : Option (Int32 × sT) := s_out (c253_0 v1 v2 v3 S)
theorem q253_58 {m : Nat} {ad : Nat → Nat} {M : hM} {S : sT} (hR : rR m ad M S)  {rs : sRes (Int32 × sT)} (h : c253_58  S = some rs) : ∃ res, b253_58  M = some res ∧ simR o_I f_2 (fun _ as => as) m ad M rs res := by
  have hs : sm m ad M M := sm.rf
  unfold c253_58 at h
  unfold b253_58
  obtain rfl := Option.some.inj h
  exact ⟨_, rfl, _, rfl, hR, hs⟩
theorem q253_198 {m : Nat} {ad : Nat → Nat} {M : hM} {S : sT} (hR : rR m ad M S) (si0 : Int32) {rs : sRes (Int32 × sT)} (h : c253_198 si0 S = some rs) : ∃ res, b253_198 si0 M = some res ∧ simR o_I f_2 (fun _ as => as) m ad M rs res := by
  have hs : sm m ad M M := sm.rf
  unfold c253_198 at h
  unfold b253_198
  obtain rfl := Option.some.inj h
  exact ⟨_, rfl, _, rfl, hR, hs⟩
theorem q253_213 {m : Nat} {ad : Nat → Nat} {M : hM} {S : sT} (hR : rR m ad M S) (si0 : Int32) {rs : sRes (Int32 × sT)} (h : c253_213 si0 S = some rs) : ∃ res, b253_213 si0 M = some res ∧ simR o_I f_2 (fun _ as => as) m ad M rs res := by
  have hs : sm m ad M M := sm.rf
  unfold c253_213 at h
  unfold b253_213
  obtain rfl := Option.some.inj h
  exact ⟨_, rfl, _, rfl, hR, hs⟩
theorem q253_82 {m : Nat} {ad : Nat → Nat} {M : hM} {S : sT} (hR : rR m ad M S) (v3 : Int32) (v4 : Int32) (si0 : Int32) {rs : sRes (Int32 × sT)} (h : c253_82 v3 v4 si0 S = some rs) : ∃ res, b253_82 m v3 v4 si0 M = some res ∧ simR o_I f_2 (fun _ as => as) m ad M rs res := by
  have hs : sm m ad M M := sm.rf
  unfold c253_82 at h
  unfold b253_82
  refine exb (rR_gr hR 14) ?_
  obtain ⟨v_22, h23, h⟩ := bd h
  refine exb (rR_al hR h23) ?_
  by_cases q70 : v_22 = (-1 : Int32)
  · rw [if_pos q70] at h ⊢
    obtain rfl := Option.some.inj h
    exact ⟨_, rfl, _, rfl, hR, hs⟩
  · rw [if_neg q70] at h ⊢
    by_cases q69 : v3 = 0
    · rw [if_pos q69] at h ⊢
      refine exb (rR_go hR) ?_
      obtain ⟨q_24, h25, h⟩ := bd h
      obtain ⟨M26, e27, hR28, hs29⟩ := u180 hR h25
      replace hs29 := hs.tr hs29
      refine exb (c_I_of e27) ?_
      obtain rfl := Option.some.inj h
      exact ⟨_, rfl, _, rfl, hR28, hs29⟩
    · rw [if_neg q69] at h ⊢
      by_cases q68 : v3 = 1
      · rw [if_pos q68] at h ⊢
        refine exb (rR_gr hR 17) ?_
        obtain ⟨v_30, h31, h⟩ := bd h
        refine exb (rR_al hR h31) ?_
        obtain rfl := Option.some.inj h
        exact ⟨_, rfl, _, rfl, hR, hs⟩
      · rw [if_neg q68] at h ⊢
        by_cases q67 : v3 = 2
        · rw [if_pos q67] at h ⊢
          refine exb (rR_gr hR 19) ?_
          obtain ⟨v_32, h33, h⟩ := bd h
          refine exb (rR_al hR h33) ?_
          obtain rfl := Option.some.inj h
          exact ⟨_, rfl, _, rfl, hR, hs⟩
        · rw [if_neg q67] at h ⊢
          by_cases q66 : v3 = 3
          · rw [if_pos q66] at h ⊢
            by_cases q57 : v4 = 0
            · rw [if_pos q57] at h ⊢
              refine exb (rR_go hR) ?_
              obtain ⟨q_34, h35, h⟩ := bd h
              obtain ⟨M36, e37, hR38, hs39⟩ := u179 hR h35
              replace hs39 := hs.tr hs39
              refine exb (c_I_of e37) ?_
              by_cases q48 : q_34.1 = (-1 : Int32)
              · rw [if_pos q48] at h ⊢
                refine exb (rR_gr hR38 23) ?_
                obtain ⟨v_40, h41, h⟩ := bd h
                refine exb (rR_al hR38 h41) ?_
                exact simT hs39 (q253_198 hR38 v_40 h)
              · rw [if_neg q48] at h ⊢
                refine exb (rR_go hR38) ?_
                obtain ⟨q_42, h43, h⟩ := bd h
                obtain ⟨M44, e45, hR46, hs47⟩ := u179 hR38 h43
                replace hs47 := hs39.tr hs47
                refine exb (c_I_of e45) ?_
                exact simT hs47 (q253_198 hR46 q_42.1 h)
            · rw [if_neg q57] at h ⊢
              refine exb (rR_go hR) ?_
              obtain ⟨q_49, h50, h⟩ := bd h
              obtain ⟨M51, e52, hR53, hs54⟩ := u178 hR h50
              replace hs54 := hs.tr hs54
              refine exb (c_I_of e52) ?_
              obtain ⟨v_55, h56, h⟩ := bd h
              refine exb h56 ?_
              exact simT hs54 (q253_198 hR53 v_55 h)
          · rw [if_neg q66] at h ⊢
            by_cases q65 : v3 = 4
            · rw [if_pos q65] at h ⊢
              refine exb (rR_go hR) ?_
              obtain ⟨q_58, h59, h⟩ := bd h
              obtain ⟨M60, e61, hR62, hs63⟩ := u177 hR h59
              replace hs63 := hs.tr hs63
              refine exb (c_I_of e61) ?_
              by_cases q64 : q_58.1 = 0
              · rw [if_pos q64] at h ⊢
                exact simT hs63 (q253_213 hR62 (0 : Int32) h)
              · rw [if_neg q64] at h ⊢
                exact simT hs63 (q253_213 hR62 (1 : Int32) h)
            · rw [if_neg q65] at h ⊢
              obtain rfl := Option.some.inj h
              exact ⟨_, rfl, _, rfl, hR, hs⟩
theorem q253_60 {m : Nat} {ad : Nat → Nat} {M : hM} {S : sT} (hR : rR m ad M S) (v1 : Int32) (v2 : Int32) (v3 : Int32) (v4 : Int32) {rs : sRes (Int32 × sT)} (h : c253_60 v1 v2 v3 v4 S = some rs) : ∃ res, b253_60 m v1 v2 v3 v4 M = some res ∧ simR o_I f_2 (fun _ as => as) m ad M rs res := by
  have hs : sm m ad M M := sm.rf
  unfold c253_60 at h
  unfold b253_60
  by_cases q21 : v4 = 0
  · rw [if_pos q21] at h ⊢
    refine exb (rR_go hR) ?_
    obtain ⟨q_9, h10, h⟩ := bd h
    obtain ⟨M11, e12, hR13, hs14⟩ := u175 hR h10
    replace hs14 := hs.tr hs14
    refine exb (c_I_of e12) ?_
    exact simT hs14 (q253_82 hR13 v3 v4 q_9.1 h)
  · rw [if_neg q21] at h ⊢
    refine exb (rR_go hR) ?_
    obtain ⟨q_15, h16, h⟩ := bd h
    obtain ⟨M17, e18, hR19, hs20⟩ := u176 hR h16
    replace hs20 := hs.tr hs20
    refine exb (c_I_of e18) ?_
    exact simT hs20 (q253_82 hR19 v3 v4 q_15.1 h)
theorem q253_11 {m : Nat} {ad : Nat → Nat} {M : hM} {S : sT} (hR : rR m ad M S) (v1 : Int32) (v2 : Int32) (v3 : Int32) (si0 : Int32) {rs : sRes (Int32 × sT)} (h : c253_11 v1 v2 v3 si0 S = some rs) : ∃ res, b253_11 m v1 v2 v3 si0 M = some res ∧ simR o_I f_2 (fun _ as => as) m ad M rs res := by
  have hs : sm m ad M M := sm.rf
  unfold c253_11 at h
  unfold b253_11
  by_cases q8 : si0 = 0
  · rw [if_pos q8] at h ⊢
    by_cases q5 : v1 < 0
    · rw [if_pos q5] at h ⊢
      exact simT hs (q253_58 hR  h)
    · rw [if_neg q5] at h ⊢
      refine exb (rR_gi hR 0) ?_
      by_cases q4 : (s_g S 0) ≤ v1
      · rw [if_pos q4] at h ⊢
        exact simT hs (q253_58 hR  h)
      · rw [if_neg q4] at h ⊢
        by_cases q3 : v2 < 0
        · rw [if_pos q3] at h ⊢
          exact simT hs (q253_58 hR  h)
        · rw [if_neg q3] at h ⊢
          by_cases q2 : v2 ≤ (7 : Int32)
          · rw [if_pos q2] at h ⊢
            exact simT hs (q253_60 hR v1 v2 v3 si0 h)
          · rw [if_neg q2] at h ⊢
            exact simT hs (q253_58 hR  h)
  · rw [if_neg q8] at h ⊢
    refine exb (rR_gi hR 1) ?_
    by_cases q7 : (s_g S 1) ≤ (v1 - (16 : Int32))
    · rw [if_pos q7] at h ⊢
      exact simT hs (q253_58 hR  h)
    · rw [if_neg q7] at h ⊢
      by_cases q6 : v2 = 0
      · rw [if_pos q6] at h ⊢
        exact simT hs (q253_60 hR v1 v2 v3 si0 h)
      · rw [if_neg q6] at h ⊢
        exact simT hs (q253_58 hR  h)
theorem q253_0 {m : Nat} {ad : Nat → Nat} {M : hM} {S : sT} (hR : rR m ad M S) (v1 : Int32) (v2 : Int32) (v3 : Int32) {rs : sRes (Int32 × sT)} (h : c253_0 v1 v2 v3 S = some rs) : ∃ res, b253_0 m v1 v2 v3 M = some res ∧ simR o_I f_2 (fun _ as => as) m ad M rs res := by
  have hs : sm m ad M M := sm.rf
  unfold c253_0 at h
  unfold b253_0
  by_cases q1 : v1 < (16 : Int32)
  · rw [if_pos q1] at h ⊢
    exact simT hs (q253_11 hR v1 v2 v3 (0 : Int32) h)
  · rw [if_neg q1] at h ⊢
    exact simT hs (q253_11 hR v1 v2 v3 (1 : Int32) h)
theorem u253 {m : Nat} {ad : Nat → Nat} {M : hM} {S : sT} (hR : rR m ad M S) {v1 : Int32} {v2 : Int32} {v3 : Int32} {q : (Int32 × sT)} (h : e253 v1 v2 v3 S = some q) : ∃ M1, f253 [.inr (.inr (some m)), .inl v1, .inl v2, .inl v3] M = some (some (.inl q.1), M1) ∧ rR m ad M1 q.2 ∧ sm m ad M M1 := by
  exact s_out_sim (o := o_I) (f := f_2) (J := fun _ as => as) (fun rs hx => q253_0 hR v1 v2 v3 hx) h
/-! reference: address(I)I -/
def c254_22 (si0 : Int32) (S : sT) : Option (sRes (Int32 × sT)) :=
  some (.inl (si0, S))
def c254_12  (S : sT) : Option (sRes (Int32 × sT)) :=
  c254_22 (-1 : Int32) S
def c254_0 (v1 : Int32) (S : sT) : Option (sRes (Int32 × sT)) :=
  if v1 < 0 then
    (c254_12  S)
  else
    (if v1 < (s_g S 1) then
      (Option.bind (s_a S 35 v1) fun v_1 =>
      c254_22 v_1 S)
    else
      (c254_12  S))
def e254 (v1 : Int32) (S : sT) : Option (Int32 × sT) := s_out (c254_0 v1 S)
theorem q254_22 {m : Nat} {ad : Nat → Nat} {M : hM} {S : sT} (hR : rR m ad M S) (si0 : Int32) {rs : sRes (Int32 × sT)} (h : c254_22 si0 S = some rs) : ∃ res, b254_22 si0 M = some res ∧ simR o_I f_2 (fun _ as => as) m ad M rs res := by
  have hs : sm m ad M M := sm.rf
  unfold c254_22 at h
  unfold b254_22
  obtain rfl := Option.some.inj h
  exact ⟨_, rfl, _, rfl, hR, hs⟩
theorem q254_12 {m : Nat} {ad : Nat → Nat} {M : hM} {S : sT} (hR : rR m ad M S)  {rs : sRes (Int32 × sT)} (h : c254_12  S = some rs) : ∃ res, b254_12  M = some res ∧ simR o_I f_2 (fun _ as => as) m ad M rs res := by
  have hs : sm m ad M M := sm.rf
  unfold c254_12 at h
  unfold b254_12
  exact simT hs (q254_22 hR (-1 : Int32) h)
theorem q254_0 {m : Nat} {ad : Nat → Nat} {M : hM} {S : sT} (hR : rR m ad M S) (v1 : Int32) {rs : sRes (Int32 × sT)} (h : c254_0 v1 S = some rs) : ∃ res, b254_0 m v1 M = some res ∧ simR o_I f_2 (fun _ as => as) m ad M rs res := by
  have hs : sm m ad M M := sm.rf
  unfold c254_0 at h
  unfold b254_0
  by_cases q4 : v1 < 0
  · rw [if_pos q4] at h ⊢
    exact simT hs (q254_12 hR  h)
  · rw [if_neg q4] at h ⊢
    refine exb (rR_gi hR 1) ?_
    by_cases q3 : v1 < (s_g S 1)
    · rw [if_pos q3] at h ⊢
      refine exb (rR_gr hR 35) ?_
      obtain ⟨v_1, h2, h⟩ := bd h
      refine exb (rR_al hR h2) ?_
      exact simT hs (q254_22 hR v_1 h)
    · rw [if_neg q3] at h ⊢
      exact simT hs (q254_12 hR  h)
theorem u254 {m : Nat} {ad : Nat → Nat} {M : hM} {S : sT} (hR : rR m ad M S) {v1 : Int32} {q : (Int32 × sT)} (h : e254 v1 S = some q) : ∃ M1, f254 [.inr (.inr (some m)), .inl v1] M = some (some (.inl q.1), M1) ∧ rR m ad M1 q.2 ∧ sm m ad M M1 := by
  exact s_out_sim (o := o_I) (f := f_2) (J := fun _ as => as) (fun rs hx => q254_0 hR v1 hx) h
/-! reference: frame(III)J -/
def c255_29  (S : sT) : Option (sRes (Int64 × sT)) :=
  some (.inl ((0 : Int64), S))
def c255_0 (v1 : Int32) (v2 : Int32) (v3 : Int32) (S : sT) : Option (sRes (Int64 × sT)) :=
  Option.bind (e240 v1 v2 S) fun q_1 =>
  if q_1.1 = (-1 : Int32) then
    (c255_29  q_1.2)
  else
    (if v3 < 0 then
      (c255_29  q_1.2)
    else
      (Option.bind (s_a q_1.2 7 q_1.1) fun v_7 =>
      if v3 < v_7 then
        (some (.inr (37, [.inl v3, .inl q_1.1, .inr (.inl (0 : Int64)), .inl (0 : Int32)], q_1.2)))
      else
        (c255_29  q_1.2)))
def c255_77 (v3 : Int32) (v4 : Int32) (v7 : Int32) (si0 : Int32) (sl1 : Int64) (S : sT) : Option (sRes (Int64 × sT)) :=
  some (.inr (37, [.inl v3, .inl v4, .inr (.inl (sl1 ||| (Int32.toInt64 si0))), .inl (v7 + (1 : Int32))], S))
def c255_37 (v3 : Int32) (v4 : Int32) (w5 : Int64) (v7 : Int32) (S : sT) : Option (sRes (Int64 × sT)) :=
  if (8 : Int32) ≤ v7 then
    (some (.inl (w5, S)))
  else
    (Option.bind (s_a S 7 v4) fun v_12 =>
    if v_12 ≤ (v3 + v7) then
      (c255_77 v3 v4 v7 (0 : Int32) (w5 <<< (Int32.toInt64 (8 : Int32) &&& 63)) S)
    else
      (Option.bind (e165 v4 (v3 + v7) S) fun q_14 =>
      c255_77 v3 v4 v7 q_14.1 (w5 <<< (Int32.toInt64 (8 : Int32) &&& 63)) q_14.2))
def kS255 (h : Nat) (as : List aV) (S : sT) : Option (sRes (Int64 × sT)) :=
  if h = 37 then (match as with | [.inl v3, .inl v4, .inr (.inl w5), .inl v7] => c255_37 v3 v4 w5 v7 S | _ => none) else
  none
def J255 (m : Nat) (h : Nat) (as : List aV) : List aV := .inr (.inr (some m)) :: as
def e255 (v1 : Int32) (v2 : Int32) (v3 : Int32) (S : sT) : Option (Int64 × sT) := s_go kS255 (c255_0 v1 v2 v3 S)
theorem q255_29 {m : Nat} {ad : Nat → Nat} {M : hM} {S : sT} (hR : rR m ad M S)  {rs : sRes (Int64 × sT)} (h : c255_29  S = some rs) : ∃ res, b255_29  M = some res ∧ simR o_L f_2 (J255 m) m ad M rs res := by
  have hs : sm m ad M M := sm.rf
  unfold c255_29 at h
  unfold b255_29
  obtain rfl := Option.some.inj h
  exact ⟨_, rfl, _, rfl, hR, hs⟩
theorem q255_0 {m : Nat} {ad : Nat → Nat} {M : hM} {S : sT} (hR : rR m ad M S) (v1 : Int32) (v2 : Int32) (v3 : Int32) {rs : sRes (Int64 × sT)} (h : c255_0 v1 v2 v3 S = some rs) : ∃ res, b255_0 m v1 v2 v3 M = some res ∧ simR o_L f_2 (J255 m) m ad M rs res := by
  have hs : sm m ad M M := sm.rf
  unfold c255_0 at h
  unfold b255_0
  refine exb (rR_go hR) ?_
  obtain ⟨q_1, h2, h⟩ := bd h
  obtain ⟨M3, e4, hR5, hs6⟩ := u240 hR h2
  replace hs6 := hs.tr hs6
  refine exb (c_I_of e4) ?_
  by_cases q11 : q_1.1 = (-1 : Int32)
  · rw [if_pos q11] at h ⊢
    exact simT hs6 (q255_29 hR5  h)
  · rw [if_neg q11] at h ⊢
    by_cases q10 : v3 < 0
    · rw [if_pos q10] at h ⊢
      exact simT hs6 (q255_29 hR5  h)
    · rw [if_neg q10] at h ⊢
      refine exb (rR_gr hR5 7) ?_
      obtain ⟨v_7, h8, h⟩ := bd h
      refine exb (rR_al hR5 h8) ?_
      by_cases q9 : v3 < v_7
      · rw [if_pos q9] at h ⊢
        obtain rfl := Option.some.inj h
        exact ⟨_, rfl, _, rfl, hR5, hs6⟩
      · rw [if_neg q9] at h ⊢
        exact simT hs6 (q255_29 hR5  h)
theorem q255_77 {m : Nat} {ad : Nat → Nat} {M : hM} {S : sT} (hR : rR m ad M S) (v3 : Int32) (v4 : Int32) (v7 : Int32) (si0 : Int32) (sl1 : Int64) {rs : sRes (Int64 × sT)} (h : c255_77 v3 v4 v7 si0 sl1 S = some rs) : ∃ res, b255_77 m v3 v4 v7 si0 sl1 M = some res ∧ simR o_L f_2 (J255 m) m ad M rs res := by
  have hs : sm m ad M M := sm.rf
  unfold c255_77 at h
  unfold b255_77
  obtain rfl := Option.some.inj h
  exact ⟨_, rfl, _, rfl, hR, hs⟩
theorem q255_37 {m : Nat} {ad : Nat → Nat} {M : hM} {S : sT} (hR : rR m ad M S) (v3 : Int32) (v4 : Int32) (w5 : Int64) (v7 : Int32) {rs : sRes (Int64 × sT)} (h : c255_37 v3 v4 w5 v7 S = some rs) : ∃ res, b255_37 m v3 v4 w5 v7 M = some res ∧ simR o_L f_2 (J255 m) m ad M rs res := by
  have hs : sm m ad M M := sm.rf
  unfold c255_37 at h
  unfold b255_37
  by_cases q21 : (8 : Int32) ≤ v7
  · rw [if_pos q21] at h ⊢
    obtain rfl := Option.some.inj h
    exact ⟨_, rfl, _, rfl, hR, hs⟩
  · rw [if_neg q21] at h ⊢
    refine exb (rR_gr hR 7) ?_
    obtain ⟨v_12, h13, h⟩ := bd h
    refine exb (rR_al hR h13) ?_
    by_cases q20 : v_12 ≤ (v3 + v7)
    · rw [if_pos q20] at h ⊢
      exact simT hs (q255_77 hR v3 v4 v7 (0 : Int32) (w5 <<< (Int32.toInt64 (8 : Int32) &&& 63)) h)
    · rw [if_neg q20] at h ⊢
      refine exb (rR_go hR) ?_
      obtain ⟨q_14, h15, h⟩ := bd h
      obtain ⟨M16, e17, hR18, hs19⟩ := u165 hR h15
      replace hs19 := hs.tr hs19
      refine exb (c_I_of e17) ?_
      exact simT hs19 (q255_77 hR18 v3 v4 v7 q_14.1 (w5 <<< (Int32.toInt64 (8 : Int32) &&& 63)) h)
theorem u255 {m : Nat} {ad : Nat → Nat} {M : hM} {S : sT} (hR : rR m ad M S) {v1 : Int32} {v2 : Int32} {v3 : Int32} {q : (Int64 × sT)} (h : e255 v1 v2 v3 S = some q) : ∃ M1, f255 [.inr (.inr (some m)), .inl v1, .inl v2, .inl v3] M = some (some (.inr (.inl q.1)), M1) ∧ rR m ad M1 q.2 ∧ sm m ad M M1 := by
  unfold e255 at h
  show ∃ M1, x_go k255 (b255_0 m v1 v2 v3 M) = some (o_L q, M1) ∧ rR m ad M1 (f_2 q) ∧ sm m ad M M1
  refine s_go_ok (o := o_L) (f := f_2) (J := J255 m) (bs := kS255) (bk := k255) (xs := c255_0 v1 v2 v3 S) (x := b255_0 m v1 v2 v3 M) (M := M) (q := q) ?_ (fun rs hx => q255_0 hR v1 v2 v3 hx) h
  intro h as S M rs hR hb
  unfold kS255 at hb
  unfold k255 J255
  by_cases e0 : h = 37
  · rw [if_pos e0] at hb ⊢
    split at hb
    · subst e0; exact q255_37 hR _ _ _ _ hb
    · cases hb
  · rw [if_neg e0] at hb
    cases hb
/-! reference: count(I)I -/
def c256_71 (si0 : Int32) (S : sT) : Option (sRes (Int32 × sT)) :=
  some (.inl (si0, S))
def c256_70  (S : sT) : Option (sRes (Int32 × sT)) :=
  c256_71 (-1 : Int32) S
def c256_0 (v1 : Int32) (S : sT) : Option (sRes (Int32 × sT)) :=
  if v1 = 0 then
    (some (.inl ((s_g S 3), S)))
  else
    (if v1 = 9 then
      (some (.inl ((s_g S 13), S)))
    else
      (if v1 = 10 then
        (some (.inl ((s_g S 47), S)))
      else
        (if v1 ≤ 0 then
          (c256_70  S)
        else
          (if (9 : Int32) ≤ v1 then
            (c256_70  S)
          else
            (Option.bind (s_a S 4 v1) fun v_1 =>
            c256_71 v_1 S)))))
def e256 (v1 : Int32) (S : sT) : Option (Int32 × sT) := s_out (c256_0 v1 S)
theorem q256_71 {m : Nat} {ad : Nat → Nat} {M : hM} {S : sT} (hR : rR m ad M S) (si0 : Int32) {rs : sRes (Int32 × sT)} (h : c256_71 si0 S = some rs) : ∃ res, b256_71 si0 M = some res ∧ simR o_I f_2 (fun _ as => as) m ad M rs res := by
  have hs : sm m ad M M := sm.rf
  unfold c256_71 at h
  unfold b256_71
  obtain rfl := Option.some.inj h
  exact ⟨_, rfl, _, rfl, hR, hs⟩
theorem q256_70 {m : Nat} {ad : Nat → Nat} {M : hM} {S : sT} (hR : rR m ad M S)  {rs : sRes (Int32 × sT)} (h : c256_70  S = some rs) : ∃ res, b256_70  M = some res ∧ simR o_I f_2 (fun _ as => as) m ad M rs res := by
  have hs : sm m ad M M := sm.rf
  unfold c256_70 at h
  unfold b256_70
  exact simT hs (q256_71 hR (-1 : Int32) h)
theorem q256_0 {m : Nat} {ad : Nat → Nat} {M : hM} {S : sT} (hR : rR m ad M S) (v1 : Int32) {rs : sRes (Int32 × sT)} (h : c256_0 v1 S = some rs) : ∃ res, b256_0 m v1 M = some res ∧ simR o_I f_2 (fun _ as => as) m ad M rs res := by
  have hs : sm m ad M M := sm.rf
  unfold c256_0 at h
  unfold b256_0
  by_cases q7 : v1 = 0
  · rw [if_pos q7] at h ⊢
    refine exb (rR_gi hR 3) ?_
    obtain rfl := Option.some.inj h
    exact ⟨_, rfl, _, rfl, hR, hs⟩
  · rw [if_neg q7] at h ⊢
    by_cases q6 : v1 = 9
    · rw [if_pos q6] at h ⊢
      refine exb (rR_gi hR 13) ?_
      obtain rfl := Option.some.inj h
      exact ⟨_, rfl, _, rfl, hR, hs⟩
    · rw [if_neg q6] at h ⊢
      by_cases q5 : v1 = 10
      · rw [if_pos q5] at h ⊢
        refine exb (rR_gi hR 47) ?_
        obtain rfl := Option.some.inj h
        exact ⟨_, rfl, _, rfl, hR, hs⟩
      · rw [if_neg q5] at h ⊢
        by_cases q4 : v1 ≤ 0
        · rw [if_pos q4] at h ⊢
          exact simT hs (q256_70 hR  h)
        · rw [if_neg q4] at h ⊢
          by_cases q3 : (9 : Int32) ≤ v1
          · rw [if_pos q3] at h ⊢
            exact simT hs (q256_70 hR  h)
          · rw [if_neg q3] at h ⊢
            refine exb (rR_gr hR 4) ?_
            obtain ⟨v_1, h2, h⟩ := bd h
            refine exb (rR_al hR h2) ?_
            exact simT hs (q256_71 hR v_1 h)
theorem u256 {m : Nat} {ad : Nat → Nat} {M : hM} {S : sT} (hR : rR m ad M S) {v1 : Int32} {q : (Int32 × sT)} (h : e256 v1 S = some q) : ∃ M1, f256 [.inr (.inr (some m)), .inl v1] M = some (some (.inl q.1), M1) ∧ rR m ad M1 q.2 ∧ sm m ad M M1 := by
  exact s_out_sim (o := o_I) (f := f_2) (J := fun _ as => as) (fun rs hx => q256_0 hR v1 hx) h
/-! reference: broken(I)I -/
def c257_24 (si0 : Int32) (S : sT) : Option (sRes (Int32 × sT)) :=
  some (.inl (si0, S))
def c257_14 (v1 : Int32) (S : sT) : Option (sRes (Int32 × sT)) :=
  Option.bind (s_a S 5 v1) fun v_4 =>
  c257_24 v_4 S
def c257_0 (v1 : Int32) (S : sT) : Option (sRes (Int32 × sT)) :=
  if v1 = (2 : Int32) then
    (some (.inr (29, [.inl (0 : Int32), .inl (0 : Int32)], S)))
  else
    (if v1 = 0 then
      (c257_14 v1 S)
    else
      (if v1 = (1 : Int32) then
        (c257_14 v1 S)
      else
        (c257_24 (0 : Int32) S)))
def c257_67 (v2 : Int32) (v3 : Int32) (S : sT) : Option (sRes (Int32 × sT)) :=
  some (.inr (29, [.inl v2, .inl (v3 + (1 : Int32))], S))
def c257_29 (v2 : Int32) (v3 : Int32) (S : sT) : Option (sRes (Int32 × sT)) :=
  if (s_g S 47) ≤ v3 then
    (some (.inl (v2, S)))
  else
    (Option.bind (s_a S 59 v3) fun v_6 =>
    if v_6 = (-1 : Int32) then
      (Option.bind (s_a S 58 v3) fun v_8 =>
      if ((s_g S 3) - v_8) < (181 : Int32) then
        (c257_67 v2 v3 S)
      else
        (c257_67 (v2 + (1 : Int32)) v3 S))
    else
      (c257_67 v2 v3 S))
def kS257 (h : Nat) (as : List aV) (S : sT) : Option (sRes (Int32 × sT)) :=
  if h = 29 then (match as with | [.inl v2, .inl v3] => c257_29 v2 v3 S | _ => none) else
  none
def J257 (m : Nat) (h : Nat) (as : List aV) : List aV := .inr (.inr (some m)) :: as
def e257 (v1 : Int32) (S : sT) : Option (Int32 × sT) := s_go kS257 (c257_0 v1 S)
theorem q257_24 {m : Nat} {ad : Nat → Nat} {M : hM} {S : sT} (hR : rR m ad M S) (si0 : Int32) {rs : sRes (Int32 × sT)} (h : c257_24 si0 S = some rs) : ∃ res, b257_24 si0 M = some res ∧ simR o_I f_2 (J257 m) m ad M rs res := by
  have hs : sm m ad M M := sm.rf
  unfold c257_24 at h
  unfold b257_24
  obtain rfl := Option.some.inj h
  exact ⟨_, rfl, _, rfl, hR, hs⟩
theorem q257_14 {m : Nat} {ad : Nat → Nat} {M : hM} {S : sT} (hR : rR m ad M S) (v1 : Int32) {rs : sRes (Int32 × sT)} (h : c257_14 v1 S = some rs) : ∃ res, b257_14 m v1 M = some res ∧ simR o_I f_2 (J257 m) m ad M rs res := by
  have hs : sm m ad M M := sm.rf
  unfold c257_14 at h
  unfold b257_14
  refine exb (rR_gr hR 5) ?_
  obtain ⟨v_4, h5, h⟩ := bd h
  refine exb (rR_al hR h5) ?_
  exact simT hs (q257_24 hR v_4 h)
theorem q257_0 {m : Nat} {ad : Nat → Nat} {M : hM} {S : sT} (hR : rR m ad M S) (v1 : Int32) {rs : sRes (Int32 × sT)} (h : c257_0 v1 S = some rs) : ∃ res, b257_0 m v1 M = some res ∧ simR o_I f_2 (J257 m) m ad M rs res := by
  have hs : sm m ad M M := sm.rf
  unfold c257_0 at h
  unfold b257_0
  by_cases q3 : v1 = (2 : Int32)
  · rw [if_pos q3] at h ⊢
    obtain rfl := Option.some.inj h
    exact ⟨_, rfl, _, rfl, hR, hs⟩
  · rw [if_neg q3] at h ⊢
    by_cases q2 : v1 = 0
    · rw [if_pos q2] at h ⊢
      exact simT hs (q257_14 hR v1 h)
    · rw [if_neg q2] at h ⊢
      by_cases q1 : v1 = (1 : Int32)
      · rw [if_pos q1] at h ⊢
        exact simT hs (q257_14 hR v1 h)
      · rw [if_neg q1] at h ⊢
        exact simT hs (q257_24 hR (0 : Int32) h)
theorem q257_67 {m : Nat} {ad : Nat → Nat} {M : hM} {S : sT} (hR : rR m ad M S) (v2 : Int32) (v3 : Int32) {rs : sRes (Int32 × sT)} (h : c257_67 v2 v3 S = some rs) : ∃ res, b257_67 m v2 v3 M = some res ∧ simR o_I f_2 (J257 m) m ad M rs res := by
  have hs : sm m ad M M := sm.rf
  unfold c257_67 at h
  unfold b257_67
  obtain rfl := Option.some.inj h
  exact ⟨_, rfl, _, rfl, hR, hs⟩
theorem q257_29 {m : Nat} {ad : Nat → Nat} {M : hM} {S : sT} (hR : rR m ad M S) (v2 : Int32) (v3 : Int32) {rs : sRes (Int32 × sT)} (h : c257_29 v2 v3 S = some rs) : ∃ res, b257_29 m v2 v3 M = some res ∧ simR o_I f_2 (J257 m) m ad M rs res := by
  have hs : sm m ad M M := sm.rf
  unfold c257_29 at h
  unfold b257_29
  refine exb (rR_gi hR 47) ?_
  by_cases q12 : (s_g S 47) ≤ v3
  · rw [if_pos q12] at h ⊢
    obtain rfl := Option.some.inj h
    exact ⟨_, rfl, _, rfl, hR, hs⟩
  · rw [if_neg q12] at h ⊢
    refine exb (rR_gr hR 59) ?_
    obtain ⟨v_6, h7, h⟩ := bd h
    refine exb (rR_al hR h7) ?_
    by_cases q11 : v_6 = (-1 : Int32)
    · rw [if_pos q11] at h ⊢
      refine exb (rR_gi hR 3) ?_
      refine exb (rR_gr hR 58) ?_
      obtain ⟨v_8, h9, h⟩ := bd h
      refine exb (rR_al hR h9) ?_
      by_cases q10 : ((s_g S 3) - v_8) < (181 : Int32)
      · rw [if_pos q10] at h ⊢
        exact simT hs (q257_67 hR v2 v3 h)
      · rw [if_neg q10] at h ⊢
        exact simT hs (q257_67 hR (v2 + (1 : Int32)) v3 h)
    · rw [if_neg q11] at h ⊢
      exact simT hs (q257_67 hR v2 v3 h)
theorem u257 {m : Nat} {ad : Nat → Nat} {M : hM} {S : sT} (hR : rR m ad M S) {v1 : Int32} {q : (Int32 × sT)} (h : e257 v1 S = some q) : ∃ M1, f257 [.inr (.inr (some m)), .inl v1] M = some (some (.inl q.1), M1) ∧ rR m ad M1 q.2 ∧ sm m ad M M1 := by
  unfold e257 at h
  show ∃ M1, x_go k257 (b257_0 m v1 M) = some (o_I q, M1) ∧ rR m ad M1 (f_2 q) ∧ sm m ad M M1
  refine s_go_ok (o := o_I) (f := f_2) (J := J257 m) (bs := kS257) (bk := k257) (xs := c257_0 v1 S) (x := b257_0 m v1 M) (M := M) (q := q) ?_ (fun rs hx => q257_0 hR v1 hx) h
  intro h as S M rs hR hb
  unfold kS257 at hb
  unfold k257 J257
  by_cases e0 : h = 29
  · rw [if_pos e0] at hb ⊢
    split at hb
    · subst e0; exact q257_29 hR _ _ hb
    · cases hb
  · rw [if_neg e0] at hb
    cases hb
