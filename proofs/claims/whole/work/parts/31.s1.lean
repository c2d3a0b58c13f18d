/-! reference: at(II)I -/
def c165_0 (v1 : Int32) (v2 : Int32) (S : sT) : Option (sRes (Int32 × sT)) :=
  Option.bind (s_a S 6 ((v1 * (80 : Int32)) + v2)) fun v_1 =>
  some (.inl ((v_1 &&& (255 : Int32)), S))
def e165 (v1 : Int32) (v2 : Int32) (S : sT) : Option (Int32 × sT) := s_out (c165_0 v1 v2 S)
theorem q165_0 {m : Nat} {ad : Nat → Nat} {M : hM} {S : sT} (hR : rR m ad M S) (v1 : Int32) (v2 : Int32) {rs : sRes (Int32 × sT)} (h : c165_0 v1 v2 S = some rs) : ∃ res, b165_0 m v1 v2 M = some res ∧ simR o_I f_2 (fun _ as => as) m ad M rs res := by
  have hs : sm m ad M M := sm.rf
  unfold c165_0 at h
  unfold b165_0
  refine exb (rR_gr hR 6) ?_
  obtain ⟨v_1, h2, h⟩ := bd h
  refine exb (rR_al hR h2) ?_
  obtain rfl := Option.some.inj h
  exact ⟨_, rfl, _, rfl, hR, hs⟩
theorem u165 {m : Nat} {ad : Nat → Nat} {M : hM} {S : sT} (hR : rR m ad M S) {v1 : Int32} {v2 : Int32} {q : (Int32 × sT)} (h : e165 v1 v2 S = some q) : ∃ M1, f165 [.inr (.inr (some m)), .inl v1, .inl v2] M = some (some (.inl q.1), M1) ∧ rR m ad M1 q.2 ∧ sm m ad M M1 := by
  exact s_out_sim (o := o_I) (f := f_2) (J := fun _ as => as) (fun rs hx => q165_0 hR v1 v2 hx) h
/-! reference: number(III)I -/
def c166_0 (v1 : Int32) (v2 : Int32) (v3 : Int32) (S : sT) : Option (sRes (Int32 × sT)) :=
  some (.inr (6, [.inl v1, .inl v2, .inl v3, .inl (0 : Int32), .inl (0 : Int32)], S))
def c166_6 (v1 : Int32) (v2 : Int32) (v3 : Int32) (v4 : Int32) (v5 : Int32) (S : sT) : Option (sRes (Int32 × sT)) :=
  if v3 ≤ v5 then
    (some (.inl (v4, S)))
  else
    (Option.bind (e165 v1 (v2 + v5) S) fun q_1 =>
    some (.inr (6, [.inl v1, .inl v2, .inl v3, .inl ((v4 <<< ((8 : Int32) &&& 31)) ||| q_1.1), .inl (v5 + (1 : Int32))], q_1.2)))
def kS166 (h : Nat) (as : List aV) (S : sT) : Option (sRes (Int32 × sT)) :=
  if h = 6 then (match as with | [.inl v1, .inl v2, .inl v3, .inl v4, .inl v5] => c166_6 v1 v2 v3 v4 v5 S | _ => none) else
  none
def J166 (m : Nat) (h : Nat) (as : List aV) : List aV := .inr (.inr (some m)) :: as
def e166 (v1 : Int32) (v2 : Int32) (v3 : Int32) (S : sT) : Option (Int32 × sT) := s_go kS166 (c166_0 v1 v2 v3 S)
theorem q166_0 {m : Nat} {ad : Nat → Nat} {M : hM} {S : sT} (hR : rR m ad M S) (v1 : Int32) (v2 : Int32) (v3 : Int32) {rs : sRes (Int32 × sT)} (h : c166_0 v1 v2 v3 S = some rs) : ∃ res, b166_0 m v1 v2 v3 M = some res ∧ simR o_I f_2 (J166 m) m ad M rs res := by
  have hs : sm m ad M M := sm.rf
  unfold c166_0 at h
  unfold b166_0
  obtain rfl := Option.some.inj h
  exact ⟨_, rfl, _, rfl, hR, hs⟩
theorem q166_6 {m : Nat} {ad : Nat → Nat} {M : hM} {S : sT} (hR : rR m ad M S) (v1 : Int32) (v2 : Int32) (v3 : Int32) (v4 : Int32) (v5 : Int32) {rs : sRes (Int32 × sT)} (h : c166_6 v1 v2 v3 v4 v5 S = some rs) : ∃ res, b166_6 m v1 v2 v3 v4 v5 M = some res ∧ simR o_I f_2 (J166 m) m ad M rs res := by
  have hs : sm m ad M M := sm.rf
  unfold c166_6 at h
  unfold b166_6
  by_cases q7 : v3 ≤ v5
  · rw [if_pos q7] at h ⊢
    obtain rfl := Option.some.inj h
    exact ⟨_, rfl, _, rfl, hR, hs⟩
  · rw [if_neg q7] at h ⊢
    refine exb (rR_go hR) ?_
    obtain ⟨q_1, h2, h⟩ := bd h
    obtain ⟨M3, e4, hR5, hs6⟩ := u165 hR h2
    replace hs6 := hs.tr hs6
    refine exb (c_I_of e4) ?_
    obtain rfl := Option.some.inj h
    exact ⟨_, rfl, _, rfl, hR5, hs6⟩
theorem u166 {m : Nat} {ad : Nat → Nat} {M : hM} {S : sT} (hR : rR m ad M S) {v1 : Int32} {v2 : Int32} {v3 : Int32} {q : (Int32 × sT)} (h : e166 v1 v2 v3 S = some q) : ∃ M1, f166 [.inr (.inr (some m)), .inl v1, .inl v2, .inl v3] M = some (some (.inl q.1), M1) ∧ rR m ad M1 q.2 ∧ sm m ad M M1 := by
  unfold e166 at h
  show ∃ M1, x_go k166 (b166_0 m v1 v2 v3 M) = some (o_I q, M1) ∧ rR m ad M1 (f_2 q) ∧ sm m ad M M1
  refine s_go_ok (o := o_I) (f := f_2) (J := J166 m) (bs := kS166) (bk := k166) (xs := c166_0 v1 v2 v3 S) (x := b166_0 m v1 v2 v3 M) (M := M) (q := q) ?_ (fun rs hx => q166_0 hR v1 v2 v3 hx) h
  intro h as S M rs hR hb
  unfold kS166 at hb
  unfold k166 J166
  by_cases e0 : h = 6
  · rw [if_pos e0] at hb ⊢
    split at hb
    · subst e0; exact q166_6 hR _ _ _ _ _ hb
    · cases hb
  · rw [if_neg e0] at hb
    cases hb
/-! reference: add(IJI)V -/
def c167_0 (v1 : Int32) (w2 : Int64) (v4 : Int32) (S : sT) : Option (sRes sT) :=
  some (.inr (6, [.inl v1, .inr (.inl w2), .inl (v4 - (1 : Int32))], S))
def c167_6 (v1 : Int32) (w2 : Int64) (v5 : Int32) (S : sT) : Option (sRes sT) :=
  if v5 < 0 then
    (some (.inl S))
  else
    (Option.bind (s_a S 7 v1) fun v_1 =>
    Option.bind (s_sb S 6 ((v1 * (80 : Int32)) + v_1) (Int32.toInt8 (Int64.toInt32 (w2 >>> (Int32.toInt64 ((8 : Int32) * v5) &&& 63)))).toInt32) fun S3 =>
    Option.bind (s_a S3 7 v1) fun v_9 =>
    Option.bind (s_s S3 7 v1 (v_9 + (1 : Int32))) fun S11 =>
    some (.inr (6, [.inl v1, .inr (.inl w2), .inl (v5 + (-1 : Int32))], S11)))
def kS167 (h : Nat) (as : List aV) (S : sT) : Option (sRes sT) :=
  if h = 6 then (match as with | [.inl v1, .inr (.inl w2), .inl v5] => c167_6 v1 w2 v5 S | _ => none) else
  none
def J167 (m : Nat) (h : Nat) (as : List aV) : List aV := .inr (.inr (some m)) :: as
def e167 (v1 : Int32) (w2 : Int64) (v4 : Int32) (S : sT) : Option sT := s_go kS167 (c167_0 v1 w2 v4 S)
theorem q167_0 {m : Nat} {ad : Nat → Nat} {M : hM} {S : sT} (hR : rR m ad M S) (v1 : Int32) (w2 : Int64) (v4 : Int32) {rs : sRes sT} (h : c167_0 v1 w2 v4 S = some rs) : ∃ res, b167_0 m v1 w2 v4 M = some res ∧ simR o_V f_1 (J167 m) m ad M rs res := by
  have hs : sm m ad M M := sm.rf
  unfold c167_0 at h
  unfold b167_0
  obtain rfl := Option.some.inj h
  exact ⟨_, rfl, _, rfl, hR, hs⟩
theorem q167_6 {m : Nat} {ad : Nat → Nat} {M : hM} {S : sT} (hR : rR m ad M S) (v1 : Int32) (w2 : Int64) (v5 : Int32) {rs : sRes sT} (h : c167_6 v1 w2 v5 S = some rs) : ∃ res, b167_6 m v1 w2 v5 M = some res ∧ simR o_V f_1 (J167 m) m ad M rs res := by
  have hs : sm m ad M M := sm.rf
  unfold c167_6 at h
  unfold b167_6
  by_cases q17 : v5 < 0
  · rw [if_pos q17] at h ⊢
    obtain rfl := Option.some.inj h
    exact ⟨_, rfl, _, rfl, hR, hs⟩
  · rw [if_neg q17] at h ⊢
    refine exb (rR_gr hR 6) ?_
    refine exb (rR_gr hR 7) ?_
    obtain ⟨v_1, h2, h⟩ := bd h
    refine exb (rR_al hR h2) ?_
    obtain ⟨S3, h5, h⟩ := bd h
    obtain ⟨M4, e6, hR7, hs8⟩ := rR_sb hR h5
    replace hs8 := hs.tr hs8
    refine exb e6 ?_
    refine exb (rR_gr hR7 7) ?_
    obtain ⟨v_9, h10, h⟩ := bd h
    refine exb (rR_al hR7 h10) ?_
    obtain ⟨S11, h13, h⟩ := bd h
    obtain ⟨M12, e14, hR15, hs16⟩ := rR_si hR7 h13
    replace hs16 := hs8.tr hs16
    refine exb e14 ?_
    obtain rfl := Option.some.inj h
    exact ⟨_, rfl, _, rfl, hR15, hs16⟩
theorem u167 {m : Nat} {ad : Nat → Nat} {M : hM} {S : sT} (hR : rR m ad M S) {v1 : Int32} {w2 : Int64} {v4 : Int32} {q : sT} (h : e167 v1 w2 v4 S = some q) : ∃ M1, f167 [.inr (.inr (some m)), .inl v1, .inr (.inl w2), .inl v4] M = some (none, M1) ∧ rR m ad M1 q ∧ sm m ad M M1 := by
  unfold e167 at h
  show ∃ M1, x_go k167 (b167_0 m v1 w2 v4 M) = some (o_V q, M1) ∧ rR m ad M1 (f_1 q) ∧ sm m ad M M1
  refine s_go_ok (o := o_V) (f := f_1) (J := J167 m) (bs := kS167) (bk := k167) (xs := c167_0 v1 w2 v4 S) (x := b167_0 m v1 w2 v4 M) (M := M) (q := q) ?_ (fun rs hx => q167_0 hR v1 w2 v4 hx) h
  intro h as S M rs hR hb
  unfold kS167 at hb
  unfold k167 J167
  by_cases e0 : h = 6
  · rw [if_pos e0] at hb ⊢
    split at hb
    · subst e0; exact q167_6 hR _ _ _ hb
    · cases hb
  · rw [if_neg e0] at hb
    cases hb
/-! reference: begins(IIIIII)I -/
def c168_0 (v1 : Int32) (v2 : Int32) (v3 : Int32) (v4 : Int32) (v5 : Int32) (v6 : Int32) (S : sT) : Option (sRes (Int32 × sT)) :=
  Option.bind (s_p S 9 ((s_g S 9) - (1 : Int32))) fun S1 =>
  Option.bind (s_a S1 8 (s_g S1 9)) fun v_7 =>
  Option.bind (s_s S1 7 v_7 (0 : Int32)) fun S9 =>
  Option.bind (e167 v_7 (Int32.toInt64 v1) (1 : Int32) S9) fun q_15 =>
  Option.bind (e167 v_7 (Int32.toInt64 v2) (3 : Int32) q_15) fun q_21 =>
  Option.bind (e167 v_7 (Int32.toInt64 v3) (3 : Int32) q_21) fun q_27 =>
  Option.bind (e167 v_7 (Int32.toInt64 v4) (2 : Int32) q_27) fun q_33 =>
  Option.bind (e167 v_7 (Int32.toInt64 v5) (2 : Int32) q_33) fun q_39 =>
  Option.bind (e167 v_7 (Int32.toInt64 v6) (1 : Int32) q_39) fun q_45 =>
  Option.bind (e167 v_7 (0 : Int64) (1 : Int32) q_45) fun q_51 =>
  some (.inl (v_7, q_51))
def e168 (v1 : Int32) (v2 : Int32) (v3 : Int32) (v4 : Int32) (v5 : Int32) (v6 : Int32) (S : sT) : Option (Int32 × sT) := s_out (c168_0 v1 v2 v3 v4 v5 v6 S)
theorem q168_0 {m : Nat} {ad : Nat → Nat} {M : hM} {S : sT} (hR : rR m ad M S) (v1 : Int32) (v2 : Int32) (v3 : Int32) (v4 : Int32) (v5 : Int32) (v6 : Int32) {rs : sRes (Int32 × sT)} (h : c168_0 v1 v2 v3 v4 v5 v6 S = some rs) : ∃ res, b168_0 m v1 v2 v3 v4 v5 v6 M = some res ∧ simR o_I f_2 (fun _ as => as) m ad M rs res := by
  have hs : sm m ad M M := sm.rf
  unfold c168_0 at h
  unfold b168_0
  refine exb (rR_gi hR 9) ?_
  obtain ⟨S1, h3, h⟩ := bd h
  obtain ⟨M2, e4, hR5, hs6⟩ := rR_pi hR h3
  replace hs6 := hs.tr hs6
  refine exb e4 ?_
  refine exb (rR_gr hR5 8) ?_
  refine exb (rR_gi hR5 9) ?_
  obtain ⟨v_7, h8, h⟩ := bd h
  refine exb (rR_al hR5 h8) ?_
  refine exb (rR_gr hR5 7) ?_
  obtain ⟨S9, h11, h⟩ := bd h
  obtain ⟨M10, e12, hR13, hs14⟩ := rR_si hR5 h11
  replace hs14 := hs6.tr hs14
  refine exb e12 ?_
  refine exb (rR_go hR13) ?_
  obtain ⟨q_15, h16, h⟩ := bd h
  obtain ⟨M17, e18, hR19, hs20⟩ := u167 hR13 h16
  replace hs20 := hs14.tr hs20
  refine exb (c_V_of e18) ?_
  refine exb (rR_go hR19) ?_
  obtain ⟨q_21, h22, h⟩ := bd h
  obtain ⟨M23, e24, hR25, hs26⟩ := u167 hR19 h22
  replace hs26 := hs20.tr hs26
  refine exb (c_V_of e24) ?_
  refine exb (rR_go hR25) ?_
  obtain ⟨q_27, h28, h⟩ := bd h
  obtain ⟨M29, e30, hR31, hs32⟩ := u167 hR25 h28
  replace hs32 := hs26.tr hs32
  refine exb (c_V_of e30) ?_
  refine exb (rR_go hR31) ?_
  obtain ⟨q_33, h34, h⟩ := bd h
  obtain ⟨M35, e36, hR37, hs38⟩ := u167 hR31 h34
  replace hs38 := hs32.tr hs38
  refine exb (c_V_of e36) ?_
  refine exb (rR_go hR37) ?_
  obtain ⟨q_39, h40, h⟩ := bd h
  obtain ⟨M41, e42, hR43, hs44⟩ := u167 hR37 h40
  replace hs44 := hs38.tr hs44
  refine exb (c_V_of e42) ?_
  refine exb (rR_go hR43) ?_
  obtain ⟨q_45, h46, h⟩ := bd h
  obtain ⟨M47, e48, hR49, hs50⟩ := u167 hR43 h46
  replace hs50 := hs44.tr hs50
  refine exb (c_V_of e48) ?_
  refine exb (rR_go hR49) ?_
  obtain ⟨q_51, h52, h⟩ := bd h
  obtain ⟨M53, e54, hR55, hs56⟩ := u167 hR49 h52
  replace hs56 := hs50.tr hs56
  refine exb (c_V_of e54) ?_
  obtain rfl := Option.some.inj h
  exact ⟨_, rfl, _, rfl, hR55, hs56⟩
theorem u168 {m : Nat} {ad : Nat → Nat} {M : hM} {S : sT} (hR : rR m ad M S) {v1 : Int32} {v2 : Int32} {v3 : Int32} {v4 : Int32} {v5 : Int32} {v6 : Int32} {q : (Int32 × sT)} (h : e168 v1 v2 v3 v4 v5 v6 S = some q) : ∃ M1, f168 [.inr (.inr (some m)), .inl v1, .inl v2, .inl v3, .inl v4, .inl v5, .inl v6] M = some (some (.inl q.1), M1) ∧ rR m ad M1 q.2 ∧ sm m ad M M1 := by
  exact s_out_sim (o := o_I) (f := f_2) (J := fun _ as => as) (fun rs hx => q168_0 hR v1 v2 v3 v4 v5 v6 hx) h
/-! reference: check(II)I -/
def c169_0 (v1 : Int32) (v2 : Int32) (S : sT) : Option (sRes (Int32 × sT)) :=
  some (.inr (5, [.inl v1, .inl v2, .inl (-1 : Int32), .inl (0 : Int32)], S))
def c169_5 (v1 : Int32) (v2 : Int32) (v3 : Int32) (v4 : Int32) (S : sT) : Option (sRes (Int32 × sT)) :=
  if v2 ≤ v4 then
    (some (.inl ((v3 ^^^ (-1 : Int32)), S)))
  else
    (Option.bind (e165 v1 v4 S) fun q_1 =>
    some (.inr (24, [.inl v1, .inl v2, .inl (v3 ^^^ q_1.1), .inl v4, .inl (0 : Int32)], q_1.2)))
def c169_51 (v1 : Int32) (v2 : Int32) (v3 : Int32) (v4 : Int32) (v5 : Int32) (S : sT) : Option (sRes (Int32 × sT)) :=
  some (.inr (24, [.inl v1, .inl v2, .inl v3, .inl v4, .inl (v5 + (1 : Int32))], S))
def c169_24 (v1 : Int32) (v2 : Int32) (v3 : Int32) (v4 : Int32) (v5 : Int32) (S : sT) : Option (sRes (Int32 × sT)) :=
  if (8 : Int32) ≤ v5 then
    (some (.inr (5, [.inl v1, .inl v2, .inl v3, .inl (v4 + (1 : Int32))], S)))
  else
    (if (v3 &&& (1 : Int32)) = (1 : Int32) then
      (c169_51 v1 v2 ((Int32.toUInt32 v3 >>> (Int32.toUInt32 (1 : Int32) &&& Int32.toUInt32 31)).toInt32 ^^^ (-306674912 : Int32)) v4 v5 S)
    else
      (c169_51 v1 v2 (Int32.toUInt32 v3 >>> (Int32.toUInt32 (1 : Int32) &&& Int32.toUInt32 31)).toInt32 v4 v5 S))
def kS169 (h : Nat) (as : List aV) (S : sT) : Option (sRes (Int32 × sT)) :=
  if h = 5 then (match as with | [.inl v1, .inl v2, .inl v3, .inl v4] => c169_5 v1 v2 v3 v4 S | _ => none) else
  if h = 24 then (match as with | [.inl v1, .inl v2, .inl v3, .inl v4, .inl v5] => c169_24 v1 v2 v3 v4 v5 S | _ => none) else
  none
def J169 (m : Nat) (h : Nat) (as : List aV) : List aV := .inr (.inr (some m)) :: as
def e169 (v1 : Int32) (v2 : Int32) (S : sT) : Option (Int32 × sT) := s_go kS169 (c169_0 v1 v2 S)
theorem q169_0 {m : Nat} {ad : Nat → Nat} {M : hM} {S : sT} (hR : rR m ad M S) (v1 : Int32) (v2 : Int32) {rs : sRes (Int32 × sT)} (h : c169_0 v1 v2 S = some rs) : ∃ res, b169_0 m v1 v2 M = some res ∧ simR o_I f_2 (J169 m) m ad M rs res := by
  have hs : sm m ad M M := sm.rf
  unfold c169_0 at h
  unfold b169_0
  obtain rfl := Option.some.inj h
  exact ⟨_, rfl, _, rfl, hR, hs⟩
theorem q169_5 {m : Nat} {ad : Nat → Nat} {M : hM} {S : sT} (hR : rR m ad M S) (v1 : Int32) (v2 : Int32) (v3 : Int32) (v4 : Int32) {rs : sRes (Int32 × sT)} (h : c169_5 v1 v2 v3 v4 S = some rs) : ∃ res, b169_5 m v1 v2 v3 v4 M = some res ∧ simR o_I f_2 (J169 m) m ad M rs res := by
  have hs : sm m ad M M := sm.rf
  unfold c169_5 at h
  unfold b169_5
  by_cases q7 : v2 ≤ v4
  · rw [if_pos q7] at h ⊢
    obtain rfl := Option.some.inj h
    exact ⟨_, rfl, _, rfl, hR, hs⟩
  · rw [if_neg q7] at h ⊢
    refine exb (rR_go hR) ?_
    obtain ⟨q_1, h2, h⟩ := bd h
    obtain ⟨M3, e4, hR5, hs6⟩ := u165 hR h2
    replace hs6 := hs.tr hs6
    refine exb (c_I_of e4) ?_
    obtain rfl := Option.some.inj h
    exact ⟨_, rfl, _, rfl, hR5, hs6⟩
theorem q169_51 {m : Nat} {ad : Nat → Nat} {M : hM} {S : sT} (hR : rR m ad M S) (v1 : Int32) (v2 : Int32) (v3 : Int32) (v4 : Int32) (v5 : Int32) {rs : sRes (Int32 × sT)} (h : c169_51 v1 v2 v3 v4 v5 S = some rs) : ∃ res, b169_51 m v1 v2 v3 v4 v5 M = some res ∧ simR o_I f_2 (J169 m) m ad M rs res := by
  have hs : sm m ad M M := sm.rf
  unfold c169_51 at h
  unfold b169_51
  obtain rfl := Option.some.inj h
  exact ⟨_, rfl, _, rfl, hR, hs⟩
theorem q169_24 {m : Nat} {ad : Nat → Nat} {M : hM} {S : sT} (hR : rR m ad M S) (v1 : Int32) (v2 : Int32) (v3 : Int32) (v4 : Int32) (v5 : Int32) {rs : sRes (Int32 × sT)} (h : c169_24 v1 v2 v3 v4 v5 S = some rs) : ∃ res, b169_24 m v1 v2 v3 v4 v5 M = some res ∧ simR o_I f_2 (J169 m) m ad M rs res := by
  have hs : sm m ad M M := sm.rf
  unfold c169_24 at h
  unfold b169_24
  by_cases q9 : (8 : Int32) ≤ v5
  · rw [if_pos q9] at h ⊢
    obtain rfl := Option.some.inj h
    exact ⟨_, rfl, _, rfl, hR, hs⟩
  · rw [if_neg q9] at h ⊢
    by_cases q8 : (v3 &&& (1 : Int32)) = (1 : Int32)
    · rw [if_pos q8] at h ⊢
      exact simT hs (q169_51 hR v1 v2 ((Int32.toUInt32 v3 >>> (Int32.toUInt32 (1 : Int32) &&& Int32.toUInt32 31)).toInt32 ^^^ (-306674912 : Int32)) v4 v5 h)
    · rw [if_neg q8] at h ⊢
      exact simT hs (q169_51 hR v1 v2 (Int32.toUInt32 v3 >>> (Int32.toUInt32 (1 : Int32) &&& Int32.toUInt32 31)).toInt32 v4 v5 h)
theorem u169 {m : Nat} {ad : Nat → Nat} {M : hM} {S : sT} (hR : rR m ad M S) {v1 : Int32} {v2 : Int32} {q : (Int32 × sT)} (h : e169 v1 v2 S = some q) : ∃ M1, f169 [.inr (.inr (some m)), .inl v1, .inl v2] M = some (some (.inl q.1), M1) ∧ rR m ad M1 q.2 ∧ sm m ad M M1 := by
  unfold e169 at h
  show ∃ M1, x_go k169 (b169_0 m v1 v2 M) = some (o_I q, M1) ∧ rR m ad M1 (f_2 q) ∧ sm m ad M M1
  refine s_go_ok (o := o_I) (f := f_2) (J := J169 m) (bs := kS169) (bk := k169) (xs := c169_0 v1 v2 S) (x := b169_0 m v1 v2 M) (M := M) (q := q) ?_ (fun rs hx => q169_0 hR v1 v2 hx) h
  intro h as S M rs hR hb
  unfold kS169 at hb
  unfold k169 J169
  by_cases e0 : h = 5
  · rw [if_pos e0] at hb ⊢
    split at hb
    · subst e0; exact q169_5 hR _ _ _ _ hb
    · cases hb
  · rw [if_neg e0] at hb
    by_cases e1 : h = 24
    · rw [if_pos e1] at hb ⊢
      split at hb
      · subst e1; exact q169_24 hR _ _ _ _ _ hb
      · cases hb
    · rw [if_neg e1] at hb
      cases hb
/-! reference: closes(I)V -/
def c170_0 (v1 : Int32) (S : sT) : Option (sRes sT) :=
  Option.bind (s_a S 7 v1) fun v_1 =>
  Option.bind (s_sb S 6 ((v1 * (80 : Int32)) + (12 : Int32)) (Int32.toInt8 (v_1 - (13 : Int32))).toInt32) fun S3 =>
  Option.bind (s_a S3 7 v1) fun v_9 =>
  Option.bind (e169 v1 v_9 S3) fun q_11 =>
  Option.bind (e167 v1 (Int32.toInt64 q_11.1) (4 : Int32) q_11.2) fun q_17 =>
  some (.inl q_17)
def e170 (v1 : Int32) (S : sT) : Option sT := s_out (c170_0 v1 S)
theorem q170_0 {m : Nat} {ad : Nat → Nat} {M : hM} {S : sT} (hR : rR m ad M S) (v1 : Int32) {rs : sRes sT} (h : c170_0 v1 S = some rs) : ∃ res, b170_0 m v1 M = some res ∧ simR o_V f_1 (fun _ as => as) m ad M rs res := by
  have hs : sm m ad M M := sm.rf
  unfold c170_0 at h
  unfold b170_0
  refine exb (rR_gr hR 6) ?_
  refine exb (rR_gr hR 7) ?_
  obtain ⟨v_1, h2, h⟩ := bd h
  refine exb (rR_al hR h2) ?_
  obtain ⟨S3, h5, h⟩ := bd h
  obtain ⟨M4, e6, hR7, hs8⟩ := rR_sb hR h5
  replace hs8 := hs.tr hs8
  refine exb e6 ?_
  refine exb (rR_gr hR7 7) ?_
  obtain ⟨v_9, h10, h⟩ := bd h
  refine exb (rR_al hR7 h10) ?_
  refine exb (rR_go hR7) ?_
  obtain ⟨q_11, h12, h⟩ := bd h
  obtain ⟨M13, e14, hR15, hs16⟩ := u169 hR7 h12
  replace hs16 := hs8.tr hs16
  refine exb (c_I_of e14) ?_
  refine exb (rR_go hR15) ?_
  obtain ⟨q_17, h18, h⟩ := bd h
  obtain ⟨M19, e20, hR21, hs22⟩ := u167 hR15 h18
  replace hs22 := hs16.tr hs22
  refine exb (c_V_of e20) ?_
  obtain rfl := Option.some.inj h
  exact ⟨_, rfl, _, rfl, hR21, hs22⟩
theorem u170 {m : Nat} {ad : Nat → Nat} {M : hM} {S : sT} (hR : rR m ad M S) {v1 : Int32} {q : sT} (h : e170 v1 S = some q) : ∃ M1, f170 [.inr (.inr (some m)), .inl v1] M = some (none, M1) ∧ rR m ad M1 q ∧ sm m ad M M1 := by
  exact s_out_sim (o := o_V) (f := f_1) (J := fun _ as => as) (fun rs hx => q170_0 hR v1 hx) h
/-! reference: drops(I)V -/
def c171_0 (v1 : Int32) (S : sT) : Option (sRes sT) :=
  Option.bind (s_s S 8 (s_g S 9) v1) fun S1 =>
  Option.bind (s_p S1 9 ((s_g S1 9) + (1 : Int32))) fun S7 =>
  some (.inl S7)
def e171 (v1 : Int32) (S : sT) : Option sT := s_out (c171_0 v1 S)
theorem q171_0 {m : Nat} {ad : Nat → Nat} {M : hM} {S : sT} (hR : rR m ad M S) (v1 : Int32) {rs : sRes sT} (h : c171_0 v1 S = some rs) : ∃ res, b171_0 m v1 M = some res ∧ simR o_V f_1 (fun _ as => as) m ad M rs res := by
  have hs : sm m ad M M := sm.rf
  unfold c171_0 at h
  unfold b171_0
  refine exb (rR_gr hR 8) ?_
  refine exb (rR_gi hR 9) ?_
  obtain ⟨S1, h3, h⟩ := bd h
  obtain ⟨M2, e4, hR5, hs6⟩ := rR_si hR h3
  replace hs6 := hs.tr hs6
  refine exb e4 ?_
  refine exb (rR_gi hR5 9) ?_
  obtain ⟨S7, h9, h⟩ := bd h
  obtain ⟨M8, e10, hR11, hs12⟩ := rR_pi hR5 h9
  replace hs12 := hs6.tr hs12
  refine exb e10 ?_
  obtain rfl := Option.some.inj h
  exact ⟨_, rfl, _, rfl, hR11, hs12⟩
theorem u171 {m : Nat} {ad : Nat → Nat} {M : hM} {S : sT} (hR : rR m ad M S) {v1 : Int32} {q : sT} (h : e171 v1 S = some q) : ∃ M1, f171 [.inr (.inr (some m)), .inl v1] M = some (none, M1) ∧ rR m ad M1 q ∧ sm m ad M M1 := by
  exact s_out_sim (o := o_V) (f := f_1) (J := fun _ as => as) (fun rs hx => q171_0 hR v1 hx) h
/-! reference: isRecord(II)Z -/
def c172_99 (v1 : Int32) (v3 : Int32) (v4 : Int32) (si0 : Int32) (S : sT) : Option (sRes (Int32 × sT)) :=
  some (.inr (107, [.inl v1, .inl v3, .inl v4, .inl si0, .inl (-1 : Int32), .inl (0 : Int32)], S))
def c172_98 (v1 : Int32) (v3 : Int32) (v4 : Int32) (S : sT) : Option (sRes (Int32 × sT)) :=
  c172_99 v1 v3 v4 (0 : Int32) S
def c172_0 (v1 : Int32) (v2 : Int32) (S : sT) : Option (sRes (Int32 × sT)) :=
  if (7 : Int32) ≤ v2 then
    (Option.bind (e165 v1 (18 : Int32) S) fun q_1 =>
    if ((7 : Int32) + ((3 : Int32) * q_1.1)) ≤ v2 then
      (Option.bind (e165 v1 ((19 : Int32) + ((3 : Int32) * q_1.1)) q_1.2) fun q_7 =>
      if (((7 : Int32) + ((3 : Int32) * q_1.1)) + ((2 : Int32) * q_7.1)) = v2 then
        (Option.bind (e165 v1 (17 : Int32) q_7.2) fun q_13 =>
        Option.bind (e165 v1 (13 : Int32) q_13.2) fun q_19 =>
        if (s_g q_19.2 0) ≤ q_19.1 then
          (c172_98 v1 q_1.1 q_7.1 q_19.2)
        else
          (if q_13.1 < (1 : Int32) then
            (c172_98 v1 q_1.1 q_7.1 q_19.2)
          else
            (if (15 : Int32) < q_13.1 then
              (c172_98 v1 q_1.1 q_7.1 q_19.2)
            else
              (c172_99 v1 q_1.1 q_7.1 (1 : Int32) q_19.2))))
      else
        (some (.inl ((0 : Int32), q_7.2))))
    else
      (some (.inl ((0 : Int32), q_1.2))))
  else
    (some (.inl ((0 : Int32), S)))
def c172_199 (v1 : Int32) (v3 : Int32) (v4 : Int32) (v8 : Int32) (v9 : Int32) (si0 : Int32) (S : sT) : Option (sRes (Int32 × sT)) :=
  Option.bind (e165 v1 v9 S) fun q_68 =>
  some (.inr (107, [.inl v1, .inl v3, .inl v4, .inl si0, .inl q_68.1, .inl (v8 + (1 : Int32))], q_68.2))
def c172_198 (v1 : Int32) (v3 : Int32) (v4 : Int32) (v8 : Int32) (v9 : Int32) (S : sT) : Option (sRes (Int32 × sT)) :=
  c172_199 v1 v3 v4 v8 v9 (0 : Int32) S
def c172_107 (v1 : Int32) (v3 : Int32) (v4 : Int32) (v6 : Int32) (v7 : Int32) (v8 : Int32) (S : sT) : Option (sRes (Int32 × sT)) :=
  if v3 ≤ v8 then
    (some (.inr (225, [.inl v1, .inl v3, .inl v4, .inl v6, .inl (-1 : Int32), .inl (0 : Int32), .inl (0 : Int32)], S)))
  else
    (if v6 = 0 then
      (c172_198 v1 v3 v4 v8 ((19 : Int32) + ((3 : Int32) * v8)) S)
    else
      (Option.bind (e165 v1 ((19 : Int32) + ((3 : Int32) * v8)) S) fun q_31 =>
      if q_31.1 ≤ v7 then
        (c172_198 v1 v3 v4 v8 ((19 : Int32) + ((3 : Int32) * v8)) q_31.2)
      else
        (Option.bind (e165 v1 ((19 : Int32) + ((3 : Int32) * v8)) q_31.2) fun q_37 =>
        if (8 : Int32) ≤ q_37.1 then
          (c172_198 v1 v3 v4 v8 ((19 : Int32) + ((3 : Int32) * v8)) q_37.2)
        else
          (Option.bind (e165 v1 (((19 : Int32) + ((3 : Int32) * v8)) + (1 : Int32)) q_37.2) fun q_43 =>
          if (s_g q_43.2 0) ≤ q_43.1 then
            (c172_198 v1 v3 v4 v8 ((19 : Int32) + ((3 : Int32) * v8)) q_43.2)
          else
            (Option.bind (e165 v1 (((19 : Int32) + ((3 : Int32) * v8)) + (2 : Int32)) q_43.2) fun q_49 =>
            if q_49.1 < (1 : Int32) then
              (c172_198 v1 v3 v4 v8 ((19 : Int32) + ((3 : Int32) * v8)) q_49.2)
            else
              (Option.bind (e165 v1 (((19 : Int32) + ((3 : Int32) * v8)) + (2 : Int32)) q_49.2) fun q_55 =>
              if (9 : Int32) < q_55.1 then
                (c172_198 v1 v3 v4 v8 ((19 : Int32) + ((3 : Int32) * v8)) q_55.2)
              else
                (c172_199 v1 v3 v4 v8 ((19 : Int32) + ((3 : Int32) * v8)) (1 : Int32) q_55.2)))))))
def c172_333 (v1 : Int32) (v3 : Int32) (v4 : Int32) (v6 : Int32) (v8 : Int32) (v9 : Int32) (v10 : Int32) (S : sT) : Option (sRes (Int32 × sT)) :=
  Option.bind (e165 v1 (v10 + (1 : Int32)) S) fun q_112 =>
  some (.inr (225, [.inl v1, .inl v3, .inl v4, .inl v6, .inl q_112.1, .inl v8, .inl (v9 + (1 : Int32))], q_112.2))
def c172_312 (v1 : Int32) (v3 : Int32) (v4 : Int32) (v8 : Int32) (v9 : Int32) (v10 : Int32) (si0 : Int32) (S : sT) : Option (sRes (Int32 × sT)) :=
  if si0 = 0 then
    (c172_333 v1 v3 v4 si0 v8 v9 v10 S)
  else
    (Option.bind (e165 v1 v10 S) fun q_105 =>
    c172_333 v1 v3 v4 si0 (v8 ||| ((1 : Int32) <<< (q_105.1 &&& 31))) v9 v10 q_105.2)
def c172_311 (v1 : Int32) (v3 : Int32) (v4 : Int32) (v8 : Int32) (v9 : Int32) (v10 : Int32) (S : sT) : Option (sRes (Int32 × sT)) :=
  c172_312 v1 v3 v4 v8 v9 v10 (0 : Int32) S
def c172_225 (v1 : Int32) (v3 : Int32) (v4 : Int32) (v6 : Int32) (v7 : Int32) (v8 : Int32) (v9 : Int32) (S : sT) : Option (sRes (Int32 × sT)) :=
  if v4 ≤ v9 then
    (if v6 = 0 ∨ v6 = 1 then
      (some (.inl (v6, S)))
    else
      none)
  else
    (if v6 = 0 then
      (c172_311 v1 v3 v4 v8 v9 (((20 : Int32) + ((3 : Int32) * v3)) + ((2 : Int32) * v9)) S)
    else
      (Option.bind (e165 v1 (((20 : Int32) + ((3 : Int32) * v3)) + ((2 : Int32) * v9)) S) fun q_75 =>
      if (s_g q_75.2 1) ≤ q_75.1 then
        (c172_311 v1 v3 v4 v8 v9 (((20 : Int32) + ((3 : Int32) * v3)) + ((2 : Int32) * v9)) q_75.2)
      else
        (Option.bind (e165 v1 (((20 : Int32) + ((3 : Int32) * v3)) + ((2 : Int32) * v9)) q_75.2) fun q_81 =>
        if ((v8 >>> (q_81.1 &&& 31)) &&& (1 : Int32)) = 0 then
          (Option.bind (e165 v1 ((((20 : Int32) + ((3 : Int32) * v3)) + ((2 : Int32) * v9)) + (1 : Int32)) q_81.2) fun q_87 =>
          if q_87.1 ≤ v7 then
            (c172_311 v1 v3 v4 v8 v9 (((20 : Int32) + ((3 : Int32) * v3)) + ((2 : Int32) * v9)) q_87.2)
          else
            (Option.bind (e165 v1 ((((20 : Int32) + ((3 : Int32) * v3)) + ((2 : Int32) * v9)) + (1 : Int32)) q_87.2) fun q_93 =>
            if (8 : Int32) ≤ q_93.1 then
              (c172_311 v1 v3 v4 v8 v9 (((20 : Int32) + ((3 : Int32) * v3)) + ((2 : Int32) * v9)) q_93.2)
            else
              (c172_312 v1 v3 v4 v8 v9 (((20 : Int32) + ((3 : Int32) * v3)) + ((2 : Int32) * v9)) (1 : Int32) q_93.2)))
        else
          (c172_311 v1 v3 v4 v8 v9 (((20 : Int32) + ((3 : Int32) * v3)) + ((2 : Int32) * v9)) q_81.2))))
def kS172 (h : Nat) (as : List aV) (S : sT) : Option (sRes (Int32 × sT)) :=
  if h = 107 then (match as with | [.inl v1, .inl v3, .inl v4, .inl v6, .inl v7, .inl v8] => c172_107 v1 v3 v4 v6 v7 v8 S | _ => none) else
  if h = 225 then (match as with | [.inl v1, .inl v3, .inl v4, .inl v6, .inl v7, .inl v8, .inl v9] => c172_225 v1 v3 v4 v6 v7 v8 v9 S | _ => none) else
  none
def J172 (m : Nat) (h : Nat) (as : List aV) : List aV := .inr (.inr (some m)) :: as
def e172 (v1 : Int32) (v2 : Int32) (S : sT) : Option (Int32 × sT) := s_go kS172 (c172_0 v1 v2 S)
theorem q172_99 {m : Nat} {ad : Nat → Nat} {M : hM} {S : sT} (hR : rR m ad M S) (v1 : Int32) (v3 : Int32) (v4 : Int32) (si0 : Int32) {rs : sRes (Int32 × sT)} (h : c172_99 v1 v3 v4 si0 S = some rs) : ∃ res, b172_99 m v1 v3 v4 si0 M = some res ∧ simR o_I f_2 (J172 m) m ad M rs res := by
  have hs : sm m ad M M := sm.rf
  unfold c172_99 at h
  unfold b172_99
  obtain rfl := Option.some.inj h
  exact ⟨_, rfl, _, rfl, hR, hs⟩
theorem q172_98 {m : Nat} {ad : Nat → Nat} {M : hM} {S : sT} (hR : rR m ad M S) (v1 : Int32) (v3 : Int32) (v4 : Int32) {rs : sRes (Int32 × sT)} (h : c172_98 v1 v3 v4 S = some rs) : ∃ res, b172_98 m v1 v3 v4 M = some res ∧ simR o_I f_2 (J172 m) m ad M rs res := by
  have hs : sm m ad M M := sm.rf
  unfold c172_98 at h
  unfold b172_98
  exact simT hs (q172_99 hR v1 v3 v4 (0 : Int32) h)
theorem q172_0 {m : Nat} {ad : Nat → Nat} {M : hM} {S : sT} (hR : rR m ad M S) (v1 : Int32) (v2 : Int32) {rs : sRes (Int32 × sT)} (h : c172_0 v1 v2 S = some rs) : ∃ res, b172_0 m v1 v2 M = some res ∧ simR o_I f_2 (J172 m) m ad M rs res := by
  have hs : sm m ad M M := sm.rf
  unfold c172_0 at h
  unfold b172_0
  by_cases q30 : (7 : Int32) ≤ v2
  · rw [if_pos q30] at h ⊢
    refine exb (rR_go hR) ?_
    obtain ⟨q_1, h2, h⟩ := bd h
    obtain ⟨M3, e4, hR5, hs6⟩ := u165 hR h2
    replace hs6 := hs.tr hs6
    refine exb (c_I_of e4) ?_
    by_cases q29 : ((7 : Int32) + ((3 : Int32) * q_1.1)) ≤ v2
    · rw [if_pos q29] at h ⊢
      refine exb (rR_go hR5) ?_
      obtain ⟨q_7, h8, h⟩ := bd h
      obtain ⟨M9, e10, hR11, hs12⟩ := u165 hR5 h8
      replace hs12 := hs6.tr hs12
      refine exb (c_I_of e10) ?_
      by_cases q28 : (((7 : Int32) + ((3 : Int32) * q_1.1)) + ((2 : Int32) * q_7.1)) = v2
      · rw [if_pos q28] at h ⊢
        refine exb (rR_go hR11) ?_
        obtain ⟨q_13, h14, h⟩ := bd h
        obtain ⟨M15, e16, hR17, hs18⟩ := u165 hR11 h14
        replace hs18 := hs12.tr hs18
        refine exb (c_I_of e16) ?_
        refine exb (rR_go hR17) ?_
        obtain ⟨q_19, h20, h⟩ := bd h
        obtain ⟨M21, e22, hR23, hs24⟩ := u165 hR17 h20
        replace hs24 := hs18.tr hs24
        refine exb (c_I_of e22) ?_
        refine exb (rR_gi hR23 0) ?_
        by_cases q27 : (s_g q_19.2 0) ≤ q_19.1
        · rw [if_pos q27] at h ⊢
          exact simT hs24 (q172_98 hR23 v1 q_1.1 q_7.1 h)
        · rw [if_neg q27] at h ⊢
          by_cases q26 : q_13.1 < (1 : Int32)
          · rw [if_pos q26] at h ⊢
            exact simT hs24 (q172_98 hR23 v1 q_1.1 q_7.1 h)
          · rw [if_neg q26] at h ⊢
            by_cases q25 : (15 : Int32) < q_13.1
            · rw [if_pos q25] at h ⊢
              exact simT hs24 (q172_98 hR23 v1 q_1.1 q_7.1 h)
            · rw [if_neg q25] at h ⊢
              exact simT hs24 (q172_99 hR23 v1 q_1.1 q_7.1 (1 : Int32) h)
      · rw [if_neg q28] at h ⊢
        obtain rfl := Option.some.inj h
        exact ⟨_, rfl, _, rfl, hR11, hs12⟩
    · rw [if_neg q29] at h ⊢
      obtain rfl := Option.some.inj h
      exact ⟨_, rfl, _, rfl, hR5, hs6⟩
  · rw [if_neg q30] at h ⊢
    obtain rfl := Option.some.inj h
    exact ⟨_, rfl, _, rfl, hR, hs⟩
theorem q172_199 {m : Nat} {ad : Nat → Nat} {M : hM} {S : sT} (hR : rR m ad M S) (v1 : Int32) (v3 : Int32) (v4 : Int32) (v8 : Int32) (v9 : Int32) (si0 : Int32) {rs : sRes (Int32 × sT)} (h : c172_199 v1 v3 v4 v8 v9 si0 S = some rs) : ∃ res, b172_199 m v1 v3 v4 v8 v9 si0 M = some res ∧ simR o_I f_2 (J172 m) m ad M rs res := by
  have hs : sm m ad M M := sm.rf
  unfold c172_199 at h
  unfold b172_199
  refine exb (rR_go hR) ?_
  obtain ⟨q_68, h69, h⟩ := bd h
  obtain ⟨M70, e71, hR72, hs73⟩ := u165 hR h69
  replace hs73 := hs.tr hs73
  refine exb (c_I_of e71) ?_
  obtain rfl := Option.some.inj h
  exact ⟨_, rfl, _, rfl, hR72, hs73⟩
theorem q172_198 {m : Nat} {ad : Nat → Nat} {M : hM} {S : sT} (hR : rR m ad M S) (v1 : Int32) (v3 : Int32) (v4 : Int32) (v8 : Int32) (v9 : Int32) {rs : sRes (Int32 × sT)} (h : c172_198 v1 v3 v4 v8 v9 S = some rs) : ∃ res, b172_198 m v1 v3 v4 v8 v9 M = some res ∧ simR o_I f_2 (J172 m) m ad M rs res := by
  have hs : sm m ad M M := sm.rf
  unfold c172_198 at h
  unfold b172_198
  exact simT hs (q172_199 hR v1 v3 v4 v8 v9 (0 : Int32) h)
theorem q172_107 {m : Nat} {ad : Nat → Nat} {M : hM} {S : sT} (hR : rR m ad M S) (v1 : Int32) (v3 : Int32) (v4 : Int32) (v6 : Int32) (v7 : Int32) (v8 : Int32) {rs : sRes (Int32 × sT)} (h : c172_107 v1 v3 v4 v6 v7 v8 S = some rs) : ∃ res, b172_107 m v1 v3 v4 v6 v7 v8 M = some res ∧ simR o_I f_2 (J172 m) m ad M rs res := by
  have hs : sm m ad M M := sm.rf
  unfold c172_107 at h
  unfold b172_107
  by_cases q67 : v3 ≤ v8
  · rw [if_pos q67] at h ⊢
    obtain rfl := Option.some.inj h
    exact ⟨_, rfl, _, rfl, hR, hs⟩
  · rw [if_neg q67] at h ⊢
    by_cases q66 : v6 = 0
    · rw [if_pos q66] at h ⊢
      exact simT hs (q172_198 hR v1 v3 v4 v8 ((19 : Int32) + ((3 : Int32) * v8)) h)
    · rw [if_neg q66] at h ⊢
      refine exb (rR_go hR) ?_
      obtain ⟨q_31, h32, h⟩ := bd h
      obtain ⟨M33, e34, hR35, hs36⟩ := u165 hR h32
      replace hs36 := hs.tr hs36
      refine exb (c_I_of e34) ?_
      by_cases q65 : q_31.1 ≤ v7
      · rw [if_pos q65] at h ⊢
        exact simT hs36 (q172_198 hR35 v1 v3 v4 v8 ((19 : Int32) + ((3 : Int32) * v8)) h)
      · rw [if_neg q65] at h ⊢
        refine exb (rR_go hR35) ?_
        obtain ⟨q_37, h38, h⟩ := bd h
        obtain ⟨M39, e40, hR41, hs42⟩ := u165 hR35 h38
        replace hs42 := hs36.tr hs42
        refine exb (c_I_of e40) ?_
        by_cases q64 : (8 : Int32) ≤ q_37.1
        · rw [if_pos q64] at h ⊢
          exact simT hs42 (q172_198 hR41 v1 v3 v4 v8 ((19 : Int32) + ((3 : Int32) * v8)) h)
        · rw [if_neg q64] at h ⊢
          refine exb (rR_go hR41) ?_
          obtain ⟨q_43, h44, h⟩ := bd h
          obtain ⟨M45, e46, hR47, hs48⟩ := u165 hR41 h44
          replace hs48 := hs42.tr hs48
          refine exb (c_I_of e46) ?_
          refine exb (rR_gi hR47 0) ?_
          by_cases q63 : (s_g q_43.2 0) ≤ q_43.1
          · rw [if_pos q63] at h ⊢
            exact simT hs48 (q172_198 hR47 v1 v3 v4 v8 ((19 : Int32) + ((3 : Int32) * v8)) h)
          · rw [if_neg q63] at h ⊢
            refine exb (rR_go hR47) ?_
            obtain ⟨q_49, h50, h⟩ := bd h
            obtain ⟨M51, e52, hR53, hs54⟩ := u165 hR47 h50
            replace hs54 := hs48.tr hs54
            refine exb (c_I_of e52) ?_
            by_cases q62 : q_49.1 < (1 : Int32)
            · rw [if_pos q62] at h ⊢
              exact simT hs54 (q172_198 hR53 v1 v3 v4 v8 ((19 : Int32) + ((3 : Int32) * v8)) h)
            · rw [if_neg q62] at h ⊢
              refine exb (rR_go hR53) ?_
              obtain ⟨q_55, h56, h⟩ := bd h
              obtain ⟨M57, e58, hR59, hs60⟩ := u165 hR53 h56
              replace hs60 := hs54.tr hs60
              refine exb (c_I_of e58) ?_
              by_cases q61 : (9 : Int32) < q_55.1
              · rw [if_pos q61] at h ⊢
                exact simT hs60 (q172_198 hR59 v1 v3 v4 v8 ((19 : Int32) + ((3 : Int32) * v8)) h)
              · rw [if_neg q61] at h ⊢
                exact simT hs60 (q172_199 hR59 v1 v3 v4 v8 ((19 : Int32) + ((3 : Int32) * v8)) (1 : Int32) h)
theorem q172_333 {m : Nat} {ad : Nat → Nat} {M : hM} {S : sT} (hR : rR m ad M S) (v1 : Int32) (v3 : Int32) (v4 : Int32) (v6 : Int32) (v8 : Int32) (v9 : Int32) (v10 : Int32) {rs : sRes (Int32 × sT)} (h : c172_333 v1 v3 v4 v6 v8 v9 v10 S = some rs) : ∃ res, b172_333 m v1 v3 v4 v6 v8 v9 v10 M = some res ∧ simR o_I f_2 (J172 m) m ad M rs res := by
  have hs : sm m ad M M := sm.rf
  unfold c172_333 at h
  unfold b172_333
  refine exb (rR_go hR) ?_
  obtain ⟨q_112, h113, h⟩ := bd h
  obtain ⟨M114, e115, hR116, hs117⟩ := u165 hR h113
  replace hs117 := hs.tr hs117
  refine exb (c_I_of e115) ?_
  obtain rfl := Option.some.inj h
  exact ⟨_, rfl, _, rfl, hR116, hs117⟩
theorem q172_312 {m : Nat} {ad : Nat → Nat} {M : hM} {S : sT} (hR : rR m ad M S) (v1 : Int32) (v3 : Int32) (v4 : Int32) (v8 : Int32) (v9 : Int32) (v10 : Int32) (si0 : Int32) {rs : sRes (Int32 × sT)} (h : c172_312 v1 v3 v4 v8 v9 v10 si0 S = some rs) : ∃ res, b172_312 m v1 v3 v4 v8 v9 v10 si0 M = some res ∧ simR o_I f_2 (J172 m) m ad M rs res := by
  have hs : sm m ad M M := sm.rf
  unfold c172_312 at h
  unfold b172_312
  by_cases q111 : si0 = 0
  · rw [if_pos q111] at h ⊢
    exact simT hs (q172_333 hR v1 v3 v4 si0 v8 v9 v10 h)
  · rw [if_neg q111] at h ⊢
    refine exb (rR_go hR) ?_
    obtain ⟨q_105, h106, h⟩ := bd h
    obtain ⟨M107, e108, hR109, hs110⟩ := u165 hR h106
    replace hs110 := hs.tr hs110
    refine exb (c_I_of e108) ?_
    exact simT hs110 (q172_333 hR109 v1 v3 v4 si0 (v8 ||| ((1 : Int32) <<< (q_105.1 &&& 31))) v9 v10 h)
theorem q172_311 {m : Nat} {ad : Nat → Nat} {M : hM} {S : sT} (hR : rR m ad M S) (v1 : Int32) (v3 : Int32) (v4 : Int32) (v8 : Int32) (v9 : Int32) (v10 : Int32) {rs : sRes (Int32 × sT)} (h : c172_311 v1 v3 v4 v8 v9 v10 S = some rs) : ∃ res, b172_311 m v1 v3 v4 v8 v9 v10 M = some res ∧ simR o_I f_2 (J172 m) m ad M rs res := by
  have hs : sm m ad M M := sm.rf
  unfold c172_311 at h
  unfold b172_311
  exact simT hs (q172_312 hR v1 v3 v4 v8 v9 v10 (0 : Int32) h)
theorem q172_225 {m : Nat} {ad : Nat → Nat} {M : hM} {S : sT} (hR : rR m ad M S) (v1 : Int32) (v3 : Int32) (v4 : Int32) (v6 : Int32) (v7 : Int32) (v8 : Int32) (v9 : Int32) {rs : sRes (Int32 × sT)} (h : c172_225 v1 v3 v4 v6 v7 v8 v9 S = some rs) : ∃ res, b172_225 m v1 v3 v4 v6 v7 v8 v9 M = some res ∧ simR o_I f_2 (J172 m) m ad M rs res := by
  have hs : sm m ad M M := sm.rf
  unfold c172_225 at h
  unfold b172_225
  by_cases q104 : v4 ≤ v9
  · rw [if_pos q104] at h ⊢
    by_cases q74 : v6 = 0 ∨ v6 = 1
    · rw [if_pos q74] at h ⊢
      obtain rfl := Option.some.inj h
      exact ⟨_, rfl, _, rfl, hR, hs⟩
    · rw [if_neg q74] at h
      cases h
  · rw [if_neg q104] at h ⊢
    by_cases q103 : v6 = 0
    · rw [if_pos q103] at h ⊢
      exact simT hs (q172_311 hR v1 v3 v4 v8 v9 (((20 : Int32) + ((3 : Int32) * v3)) + ((2 : Int32) * v9)) h)
    · rw [if_neg q103] at h ⊢
      refine exb (rR_go hR) ?_
      obtain ⟨q_75, h76, h⟩ := bd h
      obtain ⟨M77, e78, hR79, hs80⟩ := u165 hR h76
      replace hs80 := hs.tr hs80
      refine exb (c_I_of e78) ?_
      refine exb (rR_gi hR79 1) ?_
      by_cases q102 : (s_g q_75.2 1) ≤ q_75.1
      · rw [if_pos q102] at h ⊢
        exact simT hs80 (q172_311 hR79 v1 v3 v4 v8 v9 (((20 : Int32) + ((3 : Int32) * v3)) + ((2 : Int32) * v9)) h)
      · rw [if_neg q102] at h ⊢
        refine exb (rR_go hR79) ?_
        obtain ⟨q_81, h82, h⟩ := bd h
        obtain ⟨M83, e84, hR85, hs86⟩ := u165 hR79 h82
        replace hs86 := hs80.tr hs86
        refine exb (c_I_of e84) ?_
        by_cases q101 : ((v8 >>> (q_81.1 &&& 31)) &&& (1 : Int32)) = 0
        · rw [if_pos q101] at h ⊢
          refine exb (rR_go hR85) ?_
          obtain ⟨q_87, h88, h⟩ := bd h
          obtain ⟨M89, e90, hR91, hs92⟩ := u165 hR85 h88
          replace hs92 := hs86.tr hs92
          refine exb (c_I_of e90) ?_
          by_cases q100 : q_87.1 ≤ v7
          · rw [if_pos q100] at h ⊢
            exact simT hs92 (q172_311 hR91 v1 v3 v4 v8 v9 (((20 : Int32) + ((3 : Int32) * v3)) + ((2 : Int32) * v9)) h)
          · rw [if_neg q100] at h ⊢
            refine exb (rR_go hR91) ?_
            obtain ⟨q_93, h94, h⟩ := bd h
            obtain ⟨M95, e96, hR97, hs98⟩ := u165 hR91 h94
            replace hs98 := hs92.tr hs98
            refine exb (c_I_of e96) ?_
            by_cases q99 : (8 : Int32) ≤ q_93.1
            · rw [if_pos q99] at h ⊢
              exact simT hs98 (q172_311 hR97 v1 v3 v4 v8 v9 (((20 : Int32) + ((3 : Int32) * v3)) + ((2 : Int32) * v9)) h)
            · rw [if_neg q99] at h ⊢
              exact simT hs98 (q172_312 hR97 v1 v3 v4 v8 v9 (((20 : Int32) + ((3 : Int32) * v3)) + ((2 : Int32) * v9)) (1 : Int32) h)
        · rw [if_neg q101] at h ⊢
          exact simT hs86 (q172_311 hR85 v1 v3 v4 v8 v9 (((20 : Int32) + ((3 : Int32) * v3)) + ((2 : Int32) * v9)) h)
theorem u172 {m : Nat} {ad : Nat → Nat} {M : hM} {S : sT} (hR : rR m ad M S) {v1 : Int32} {v2 : Int32} {q : (Int32 × sT)} (h : e172 v1 v2 S = some q) : ∃ M1, f172 [.inr (.inr (some m)), .inl v1, .inl v2] M = some (some (.inl q.1), M1) ∧ rR m ad M1 q.2 ∧ sm m ad M M1 := by
  unfold e172 at h
  show ∃ M1, x_go k172 (b172_0 m v1 v2 M) = some (o_I q, M1) ∧ rR m ad M1 (f_2 q) ∧ sm m ad M M1
  refine s_go_ok (o := o_I) (f := f_2) (J := J172 m) (bs := kS172) (bk := k172) (xs := c172_0 v1 v2 S) (x := b172_0 m v1 v2 M) (M := M) (q := q) ?_ (fun rs hx => q172_0 hR v1 v2 hx) h
  intro h as S M rs hR hb
  unfold kS172 at hb
  unfold k172 J172
  by_cases e0 : h = 107
  · rw [if_pos e0] at hb ⊢
    split at hb
    · subst e0; exact q172_107 hR _ _ _ _ _ _ hb
    · cases hb
  · rw [if_neg e0] at hb
    by_cases e1 : h = 225
    · rw [if_pos e1] at hb ⊢
      split at hb
      · subst e1; exact q172_225 hR _ _ _ _ _ _ _ hb
      · cases hb
    · rw [if_neg e1] at hb
      cases hb
/-! reference: hasForm(II)Z -/
def c173_94 (si0 : Int32) (S : sT) : Option (sRes (Int32 × sT)) :=
  if si0 = 0 ∨ si0 = 1 then
    (some (.inl (si0, S)))
  else
    none
def c173_93  (S : sT) : Option (sRes (Int32 × sT)) :=
  c173_94 (0 : Int32) S
def c173_120 (si0 : Int32) (S : sT) : Option (sRes (Int32 × sT)) :=
  if si0 = 0 ∨ si0 = 1 then
    (some (.inl (si0, S)))
  else
    none
def c173_119  (S : sT) : Option (sRes (Int32 × sT)) :=
  c173_120 (0 : Int32) S
def c173_163 (si0 : Int32) (S : sT) : Option (sRes (Int32 × sT)) :=
  if si0 = 0 ∨ si0 = 1 then
    (some (.inl (si0, S)))
  else
    none
def c173_158  (S : sT) : Option (sRes (Int32 × sT)) :=
  c173_163 (1 : Int32) S
def c173_162  (S : sT) : Option (sRes (Int32 × sT)) :=
  c173_163 (0 : Int32) S
def c173_185 (si0 : Int32) (S : sT) : Option (sRes (Int32 × sT)) :=
  if si0 = 0 ∨ si0 = 1 then
    (some (.inl (si0, S)))
  else
    none
def c173_184  (S : sT) : Option (sRes (Int32 × sT)) :=
  c173_185 (0 : Int32) S
def c173_196 (si0 : Int32) (S : sT) : Option (sRes (Int32 × sT)) :=
  if si0 = 0 ∨ si0 = 1 then
    (some (.inl (si0, S)))
  else
    none
def c173_208 (si0 : Int32) (S : sT) : Option (sRes (Int32 × sT)) :=
  if si0 = 0 ∨ si0 = 1 then
    (some (.inl (si0, S)))
  else
    none
def c173_224 (si0 : Int32) (S : sT) : Option (sRes (Int32 × sT)) :=
  if si0 = 0 ∨ si0 = 1 then
    (some (.inl (si0, S)))
  else
    none
def c173_223  (S : sT) : Option (sRes (Int32 × sT)) :=
  c173_224 (0 : Int32) S
def c173_0 (v1 : Int32) (v2 : Int32) (S : sT) : Option (sRes (Int32 × sT)) :=
  Option.bind (e165 v1 (13 : Int32) S) fun q_1 =>
  Option.bind (e165 v1 (0 : Int32) q_1.2) fun q_7 =>
  if q_7.1 = 1 then
    (if v2 = (1 : Int32) then
      (if (s_g q_7.2 0) ≤ q_1.1 then
        (c173_93  q_7.2)
      else
        (c173_94 (1 : Int32) q_7.2))
    else
      (c173_93  q_7.2))
  else
    (if q_7.1 = 2 then
      (Option.bind (e172 v1 v2 q_7.2) fun q_15 =>
      if q_15.1 = 0 ∨ q_15.1 = 1 then
        (some (.inl (q_15.1, q_15.2)))
      else
        none)
    else
      (if q_7.1 = 3 then
        (if v2 = (1 : Int32) then
          (if (s_g q_7.2 1) ≤ q_1.1 then
            (c173_119  q_7.2)
          else
            (c173_120 (1 : Int32) q_7.2))
        else
          (c173_119  q_7.2))
      else
        (if q_7.1 = 4 then
          (some (.inl ((1 : Int32), q_7.2)))
        else
          (if q_7.1 = 5 then
            (if v2 = (1 : Int32) then
              (if (s_g q_7.2 1) ≤ q_1.1 then
                (c173_119  q_7.2)
              else
                (c173_120 (1 : Int32) q_7.2))
            else
              (c173_119  q_7.2))
          else
            (if q_7.1 = 6 then
              (if v2 = (4 : Int32) then
                (if (s_g q_7.2 1) ≤ q_1.1 then
                  (c173_162  q_7.2)
                else
                  (Option.bind (e166 v1 (14 : Int32) (3 : Int32) q_7.2) fun q_26 =>
                  if q_26.1 = 0 then
                    (c173_158  q_26.2)
                  else
                    (Option.bind (e165 v1 (16 : Int32) q_26.2) fun q_32 =>
                    if q_32.1 = (q_1.1 + (1 : Int32)) then
                      (c173_158  q_32.2)
                    else
                      (c173_162  q_32.2))))
              else
                (c173_162  q_7.2))
            else
              (if q_7.1 = 7 then
                (if v2 = (1 : Int32) then
                  (if (s_g q_7.2 1) ≤ q_1.1 then
                    (c173_119  q_7.2)
                  else
                    (c173_120 (1 : Int32) q_7.2))
                else
                  (c173_119  q_7.2))
              else
                (if q_7.1 = 8 then
                  (some (.inl ((1 : Int32), q_7.2)))
                else
                  (if q_7.1 = 9 then
                    (if v2 = (4 : Int32) then
                      (Option.bind (e165 v1 (14 : Int32) q_7.2) fun q_44 =>
                      if (2 : Int32) ≤ q_44.1 then
                        (c173_184  q_44.2)
                      else
                        (c173_185 (1 : Int32) q_44.2))
                    else
                      (c173_184  q_7.2))
                  else
                    (if q_7.1 = 10 then
                      (if v2 = (1 : Int32) then
                        (c173_196 (1 : Int32) q_7.2)
                      else
                        (c173_196 (0 : Int32) q_7.2))
                    else
                      (if q_7.1 = 11 then
                        (if v2 = (8 : Int32) then
                          (c173_208 (1 : Int32) q_7.2)
                        else
                          (c173_208 (0 : Int32) q_7.2))
                      else
                        (if q_7.1 = 12 then
                          (if v2 = (1 : Int32) then
                            (if (2 : Int32) ≤ q_1.1 then
                              (c173_223  q_7.2)
                            else
                              (c173_224 (1 : Int32) q_7.2))
                          else
                            (c173_223  q_7.2))
                        else
                          (some (.inl ((1 : Int32), q_7.2))))))))))))))
def e173 (v1 : Int32) (v2 : Int32) (S : sT) : Option (Int32 × sT) := s_out (c173_0 v1 v2 S)
theorem q173_94 {m : Nat} {ad : Nat → Nat} {M : hM} {S : sT} (hR : rR m ad M S) (si0 : Int32) {rs : sRes (Int32 × sT)} (h : c173_94 si0 S = some rs) : ∃ res, b173_94 si0 M = some res ∧ simR o_I f_2 (fun _ as => as) m ad M rs res := by
  have hs : sm m ad M M := sm.rf
  unfold c173_94 at h
  unfold b173_94
  by_cases q68 : si0 = 0 ∨ si0 = 1
  · rw [if_pos q68] at h ⊢
    obtain rfl := Option.some.inj h
    exact ⟨_, rfl, _, rfl, hR, hs⟩
  · rw [if_neg q68] at h
    cases h
theorem q173_93 {m : Nat} {ad : Nat → Nat} {M : hM} {S : sT} (hR : rR m ad M S)  {rs : sRes (Int32 × sT)} (h : c173_93  S = some rs) : ∃ res, b173_93  M = some res ∧ simR o_I f_2 (fun _ as => as) m ad M rs res := by
  have hs : sm m ad M M := sm.rf
  unfold c173_93 at h
  unfold b173_93
  exact simT hs (q173_94 hR (0 : Int32) h)
theorem q173_120 {m : Nat} {ad : Nat → Nat} {M : hM} {S : sT} (hR : rR m ad M S) (si0 : Int32) {rs : sRes (Int32 × sT)} (h : c173_120 si0 S = some rs) : ∃ res, b173_120 si0 M = some res ∧ simR o_I f_2 (fun _ as => as) m ad M rs res := by
  have hs : sm m ad M M := sm.rf
  unfold c173_120 at h
  unfold b173_120
  by_cases q69 : si0 = 0 ∨ si0 = 1
  · rw [if_pos q69] at h ⊢
    obtain rfl := Option.some.inj h
    exact ⟨_, rfl, _, rfl, hR, hs⟩
  · rw [if_neg q69] at h
    cases h
theorem q173_119 {m : Nat} {ad : Nat → Nat} {M : hM} {S : sT} (hR : rR m ad M S)  {rs : sRes (Int32 × sT)} (h : c173_119  S = some rs) : ∃ res, b173_119  M = some res ∧ simR o_I f_2 (fun _ as => as) m ad M rs res := by
  have hs : sm m ad M M := sm.rf
  unfold c173_119 at h
  unfold b173_119
  exact simT hs (q173_120 hR (0 : Int32) h)
theorem q173_163 {m : Nat} {ad : Nat → Nat} {M : hM} {S : sT} (hR : rR m ad M S) (si0 : Int32) {rs : sRes (Int32 × sT)} (h : c173_163 si0 S = some rs) : ∃ res, b173_163 si0 M = some res ∧ simR o_I f_2 (fun _ as => as) m ad M rs res := by
  have hs : sm m ad M M := sm.rf
  unfold c173_163 at h
  unfold b173_163
  by_cases q70 : si0 = 0 ∨ si0 = 1
  · rw [if_pos q70] at h ⊢
    obtain rfl := Option.some.inj h
    exact ⟨_, rfl, _, rfl, hR, hs⟩
  · rw [if_neg q70] at h
    cases h
theorem q173_158 {m : Nat} {ad : Nat → Nat} {M : hM} {S : sT} (hR : rR m ad M S)  {rs : sRes (Int32 × sT)} (h : c173_158  S = some rs) : ∃ res, b173_158  M = some res ∧ simR o_I f_2 (fun _ as => as) m ad M rs res := by
  have hs : sm m ad M M := sm.rf
  unfold c173_158 at h
  unfold b173_158
  exact simT hs (q173_163 hR (1 : Int32) h)
theorem q173_162 {m : Nat} {ad : Nat → Nat} {M : hM} {S : sT} (hR : rR m ad M S)  {rs : sRes (Int32 × sT)} (h : c173_162  S = some rs) : ∃ res, b173_162  M = some res ∧ simR o_I f_2 (fun _ as => as) m ad M rs res := by
  have hs : sm m ad M M := sm.rf
  unfold c173_162 at h
  unfold b173_162
  exact simT hs (q173_163 hR (0 : Int32) h)
theorem q173_185 {m : Nat} {ad : Nat → Nat} {M : hM} {S : sT} (hR : rR m ad M S) (si0 : Int32) {rs : sRes (Int32 × sT)} (h : c173_185 si0 S = some rs) : ∃ res, b173_185 si0 M = some res ∧ simR o_I f_2 (fun _ as => as) m ad M rs res := by
  have hs : sm m ad M M := sm.rf
  unfold c173_185 at h
  unfold b173_185
  by_cases q71 : si0 = 0 ∨ si0 = 1
  · rw [if_pos q71] at h ⊢
    obtain rfl := Option.some.inj h
    exact ⟨_, rfl, _, rfl, hR, hs⟩
  · rw [if_neg q71] at h
    cases h
theorem q173_184 {m : Nat} {ad : Nat → Nat} {M : hM} {S : sT} (hR : rR m ad M S)  {rs : sRes (Int32 × sT)} (h : c173_184  S = some rs) : ∃ res, b173_184  M = some res ∧ simR o_I f_2 (fun _ as => as) m ad M rs res := by
  have hs : sm m ad M M := sm.rf
  unfold c173_184 at h
  unfold b173_184
  exact simT hs (q173_185 hR (0 : Int32) h)
theorem q173_196 {m : Nat} {ad : Nat → Nat} {M : hM} {S : sT} (hR : rR m ad M S) (si0 : Int32) {rs : sRes (Int32 × sT)} (h : c173_196 si0 S = some rs) : ∃ res, b173_196 si0 M = some res ∧ simR o_I f_2 (fun _ as => as) m ad M rs res := by
  have hs : sm m ad M M := sm.rf
  unfold c173_196 at h
  unfold b173_196
  by_cases q72 : si0 = 0 ∨ si0 = 1
  · rw [if_pos q72] at h ⊢
    obtain rfl := Option.some.inj h
    exact ⟨_, rfl, _, rfl, hR, hs⟩
  · rw [if_neg q72] at h
    cases h
theorem q173_208 {m : Nat} {ad : Nat → Nat} {M : hM} {S : sT} (hR : rR m ad M S) (si0 : Int32) {rs : sRes (Int32 × sT)} (h : c173_208 si0 S = some rs) : ∃ res, b173_208 si0 M = some res ∧ simR o_I f_2 (fun _ as => as) m ad M rs res := by
  have hs : sm m ad M M := sm.rf
  unfold c173_208 at h
  unfold b173_208
  by_cases q73 : si0 = 0 ∨ si0 = 1
  · rw [if_pos q73] at h ⊢
    obtain rfl := Option.some.inj h
    exact ⟨_, rfl, _, rfl, hR, hs⟩
  · rw [if_neg q73] at h
    cases h
theorem q173_224 {m : Nat} {ad : Nat → Nat} {M : hM} {S : sT} (hR : rR m ad M S) (si0 : Int32) {rs : sRes (Int32 × sT)} (h : c173_224 si0 S = some rs) : ∃ res, b173_224 si0 M = some res ∧ simR o_I f_2 (fun _ as => as) m ad M rs res := by
  have hs : sm m ad M M := sm.rf
  unfold c173_224 at h
  unfold b173_224
  by_cases q74 : si0 = 0 ∨ si0 = 1
  · rw [if_pos q74] at h ⊢
    obtain rfl := Option.some.inj h
    exact ⟨_, rfl, _, rfl, hR, hs⟩
  · rw [if_neg q74] at h
    cases h
theorem q173_223 {m : Nat} {ad : Nat → Nat} {M : hM} {S : sT} (hR : rR m ad M S)  {rs : sRes (Int32 × sT)} (h : c173_223  S = some rs) : ∃ res, b173_223  M = some res ∧ simR o_I f_2 (fun _ as => as) m ad M rs res := by
  have hs : sm m ad M M := sm.rf
  unfold c173_223 at h
  unfold b173_223
  exact simT hs (q173_224 hR (0 : Int32) h)
theorem q173_0 {m : Nat} {ad : Nat → Nat} {M : hM} {S : sT} (hR : rR m ad M S) (v1 : Int32) (v2 : Int32) {rs : sRes (Int32 × sT)} (h : c173_0 v1 v2 S = some rs) : ∃ res, b173_0 m v1 v2 M = some res ∧ simR o_I f_2 (fun _ as => as) m ad M rs res := by
  have hs : sm m ad M M := sm.rf
  unfold c173_0 at h
  unfold b173_0
  refine exb (rR_go hR) ?_
  obtain ⟨q_1, h2, h⟩ := bd h
  obtain ⟨M3, e4, hR5, hs6⟩ := u165 hR h2
  replace hs6 := hs.tr hs6
  refine exb (c_I_of e4) ?_
  refine exb (rR_go hR5) ?_
  obtain ⟨q_7, h8, h⟩ := bd h
  obtain ⟨M9, e10, hR11, hs12⟩ := u165 hR5 h8
  replace hs12 := hs6.tr hs12
  refine exb (c_I_of e10) ?_
  by_cases q67 : q_7.1 = 1
  · rw [if_pos q67] at h ⊢
    by_cases q14 : v2 = (1 : Int32)
    · rw [if_pos q14] at h ⊢
      refine exb (rR_gi hR11 0) ?_
      by_cases q13 : (s_g q_7.2 0) ≤ q_1.1
      · rw [if_pos q13] at h ⊢
        exact simT hs12 (q173_93 hR11  h)
      · rw [if_neg q13] at h ⊢
        exact simT hs12 (q173_94 hR11 (1 : Int32) h)
    · rw [if_neg q14] at h ⊢
      exact simT hs12 (q173_93 hR11  h)
  · rw [if_neg q67] at h ⊢
    by_cases q66 : q_7.1 = 2
    · rw [if_pos q66] at h ⊢
      refine exb (rR_go hR11) ?_
      obtain ⟨q_15, h16, h⟩ := bd h
      obtain ⟨M17, e18, hR19, hs20⟩ := u172 hR11 h16
      replace hs20 := hs12.tr hs20
      refine exb (c_I_of e18) ?_
      by_cases q21 : q_15.1 = 0 ∨ q_15.1 = 1
      · rw [if_pos q21] at h ⊢
        obtain rfl := Option.some.inj h
        exact ⟨_, rfl, _, rfl, hR19, hs20⟩
      · rw [if_neg q21] at h
        cases h
    · rw [if_neg q66] at h ⊢
      by_cases q65 : q_7.1 = 3
      · rw [if_pos q65] at h ⊢
        by_cases q23 : v2 = (1 : Int32)
        · rw [if_pos q23] at h ⊢
          refine exb (rR_gi hR11 1) ?_
          by_cases q22 : (s_g q_7.2 1) ≤ q_1.1
          · rw [if_pos q22] at h ⊢
            exact simT hs12 (q173_119 hR11  h)
          · rw [if_neg q22] at h ⊢
            exact simT hs12 (q173_120 hR11 (1 : Int32) h)
        · rw [if_neg q23] at h ⊢
          exact simT hs12 (q173_119 hR11  h)
      · rw [if_neg q65] at h ⊢
        by_cases q64 : q_7.1 = 4
        · rw [if_pos q64] at h ⊢
          obtain rfl := Option.some.inj h
          exact ⟨_, rfl, _, rfl, hR11, hs12⟩
        · rw [if_neg q64] at h ⊢
          by_cases q63 : q_7.1 = 5
          · rw [if_pos q63] at h ⊢
            by_cases q25 : v2 = (1 : Int32)
            · rw [if_pos q25] at h ⊢
              refine exb (rR_gi hR11 1) ?_
              by_cases q24 : (s_g q_7.2 1) ≤ q_1.1
              · rw [if_pos q24] at h ⊢
                exact simT hs12 (q173_119 hR11  h)
              · rw [if_neg q24] at h ⊢
                exact simT hs12 (q173_120 hR11 (1 : Int32) h)
            · rw [if_neg q25] at h ⊢
              exact simT hs12 (q173_119 hR11  h)
          · rw [if_neg q63] at h ⊢
            by_cases q62 : q_7.1 = 6
            · rw [if_pos q62] at h ⊢
              by_cases q41 : v2 = (4 : Int32)
              · rw [if_pos q41] at h ⊢
                refine exb (rR_gi hR11 1) ?_
                by_cases q40 : (s_g q_7.2 1) ≤ q_1.1
                · rw [if_pos q40] at h ⊢
                  exact simT hs12 (q173_162 hR11  h)
                · rw [if_neg q40] at h ⊢
                  refine exb (rR_go hR11) ?_
                  obtain ⟨q_26, h27, h⟩ := bd h
                  obtain ⟨M28, e29, hR30, hs31⟩ := u166 hR11 h27
                  replace hs31 := hs12.tr hs31
                  refine exb (c_I_of e29) ?_
                  by_cases q39 : q_26.1 = 0
                  · rw [if_pos q39] at h ⊢
                    exact simT hs31 (q173_158 hR30  h)
                  · rw [if_neg q39] at h ⊢
                    refine exb (rR_go hR30) ?_
                    obtain ⟨q_32, h33, h⟩ := bd h
                    obtain ⟨M34, e35, hR36, hs37⟩ := u165 hR30 h33
                    replace hs37 := hs31.tr hs37
                    refine exb (c_I_of e35) ?_
                    by_cases q38 : q_32.1 = (q_1.1 + (1 : Int32))
                    · rw [if_pos q38] at h ⊢
                      exact simT hs37 (q173_158 hR36  h)
                    · rw [if_neg q38] at h ⊢
                      exact simT hs37 (q173_162 hR36  h)
              · rw [if_neg q41] at h ⊢
                exact simT hs12 (q173_162 hR11  h)
            · rw [if_neg q62] at h ⊢
              by_cases q61 : q_7.1 = 7
              · rw [if_pos q61] at h ⊢
                by_cases q43 : v2 = (1 : Int32)
                · rw [if_pos q43] at h ⊢
                  refine exb (rR_gi hR11 1) ?_
                  by_cases q42 : (s_g q_7.2 1) ≤ q_1.1
                  · rw [if_pos q42] at h ⊢
                    exact simT hs12 (q173_119 hR11  h)
                  · rw [if_neg q42] at h ⊢
                    exact simT hs12 (q173_120 hR11 (1 : Int32) h)
                · rw [if_neg q43] at h ⊢
                  exact simT hs12 (q173_119 hR11  h)
              · rw [if_neg q61] at h ⊢
                by_cases q60 : q_7.1 = 8
                · rw [if_pos q60] at h ⊢
                  obtain rfl := Option.some.inj h
                  exact ⟨_, rfl, _, rfl, hR11, hs12⟩
                · rw [if_neg q60] at h ⊢
                  by_cases q59 : q_7.1 = 9
                  · rw [if_pos q59] at h ⊢
                    by_cases q51 : v2 = (4 : Int32)
                    · rw [if_pos q51] at h ⊢
                      refine exb (rR_go hR11) ?_
                      obtain ⟨q_44, h45, h⟩ := bd h
                      obtain ⟨M46, e47, hR48, hs49⟩ := u165 hR11 h45
                      replace hs49 := hs12.tr hs49
                      refine exb (c_I_of e47) ?_
                      by_cases q50 : (2 : Int32) ≤ q_44.1
                      · rw [if_pos q50] at h ⊢
                        exact simT hs49 (q173_184 hR48  h)
                      · rw [if_neg q50] at h ⊢
                        exact simT hs49 (q173_185 hR48 (1 : Int32) h)
                    · rw [if_neg q51] at h ⊢
                      exact simT hs12 (q173_184 hR11  h)
                  · rw [if_neg q59] at h ⊢
                    by_cases q58 : q_7.1 = 10
                    · rw [if_pos q58] at h ⊢
                      by_cases q52 : v2 = (1 : Int32)
                      · rw [if_pos q52] at h ⊢
                        exact simT hs12 (q173_196 hR11 (1 : Int32) h)
                      · rw [if_neg q52] at h ⊢
                        exact simT hs12 (q173_196 hR11 (0 : Int32) h)
                    · rw [if_neg q58] at h ⊢
                      by_cases q57 : q_7.1 = 11
                      · rw [if_pos q57] at h ⊢
                        by_cases q53 : v2 = (8 : Int32)
                        · rw [if_pos q53] at h ⊢
                          exact simT hs12 (q173_208 hR11 (1 : Int32) h)
                        · rw [if_neg q53] at h ⊢
                          exact simT hs12 (q173_208 hR11 (0 : Int32) h)
                      · rw [if_neg q57] at h ⊢
                        by_cases q56 : q_7.1 = 12
                        · rw [if_pos q56] at h ⊢
                          by_cases q55 : v2 = (1 : Int32)
                          · rw [if_pos q55] at h ⊢
                            by_cases q54 : (2 : Int32) ≤ q_1.1
                            · rw [if_pos q54] at h ⊢
                              exact simT hs12 (q173_223 hR11  h)
                            · rw [if_neg q54] at h ⊢
                              exact simT hs12 (q173_224 hR11 (1 : Int32) h)
                          · rw [if_neg q55] at h ⊢
                            exact simT hs12 (q173_223 hR11  h)
                        · rw [if_neg q56] at h ⊢
                          obtain rfl := Option.some.inj h
                          exact ⟨_, rfl, _, rfl, hR11, hs12⟩
theorem u173 {m : Nat} {ad : Nat → Nat} {M : hM} {S : sT} (hR : rR m ad M S) {v1 : Int32} {v2 : Int32} {q : (Int32 × sT)} (h : e173 v1 v2 S = some q) : ∃ M1, f173 [.inr (.inr (some m)), .inl v1, .inl v2] M = some (some (.inl q.1), M1) ∧ rR m ad M1 q.2 ∧ sm m ad M M1 := by
  exact s_out_sim (o := o_I) (f := f_2) (J := fun _ as => as) (fun rs hx => q173_0 hR v1 v2 hx) h
/-! reference: isTrue(I)Z -/
def c174_65 (si0 : Int32) (S : sT) : Option (sRes (Int32 × sT)) :=
  if si0 = 0 ∨ si0 = 1 then
    (some (.inl (si0, S)))
  else
    none
def c174_64  (S : sT) : Option (sRes (Int32 × sT)) :=
  c174_65 (0 : Int32) S
def c174_0 (v1 : Int32) (S : sT) : Option (sRes (Int32 × sT)) :=
  Option.bind (s_a S 7 v1) fun v_1 =>
  Option.bind (s_a S 7 v1) fun v_3 =>
  Option.bind (e166 v1 (v_3 - (4 : Int32)) (4 : Int32) S) fun q_5 =>
  Option.bind (s_a q_5.2 7 v1) fun v_11 =>
  Option.bind (e169 v1 (v_11 - (4 : Int32)) q_5.2) fun q_13 =>
  if q_5.1 = q_13.1 then
    (Option.bind (e165 v1 (12 : Int32) q_13.2) fun q_19 =>
    if q_19.1 = (v_1 - (17 : Int32)) then
      (Option.bind (e173 v1 (v_1 - (17 : Int32)) q_19.2) fun q_25 =>
      if q_25.1 = 0 then
        (c174_64  q_25.2)
      else
        (c174_65 (1 : Int32) q_25.2))
    else
      (c174_64  q_19.2))
  else
    (c174_64  q_13.2)
def e174 (v1 : Int32) (S : sT) : Option (Int32 × sT) := s_out (c174_0 v1 S)
theorem q174_65 {m : Nat} {ad : Nat → Nat} {M : hM} {S : sT} (hR : rR m ad M S) (si0 : Int32) {rs : sRes (Int32 × sT)} (h : c174_65 si0 S = some rs) : ∃ res, b174_65 si0 M = some res ∧ simR o_I f_2 (fun _ as => as) m ad M rs res := by
  have hs : sm m ad M M := sm.rf
  unfold c174_65 at h
  unfold b174_65
  by_cases q34 : si0 = 0 ∨ si0 = 1
  · rw [if_pos q34] at h ⊢
    obtain rfl := Option.some.inj h
    exact ⟨_, rfl, _, rfl, hR, hs⟩
  · rw [if_neg q34] at h
    cases h
theorem q174_64 {m : Nat} {ad : Nat → Nat} {M : hM} {S : sT} (hR : rR m ad M S)  {rs : sRes (Int32 × sT)} (h : c174_64  S = some rs) : ∃ res, b174_64  M = some res ∧ simR o_I f_2 (fun _ as => as) m ad M rs res := by
  have hs : sm m ad M M := sm.rf
  unfold c174_64 at h
  unfold b174_64
  exact simT hs (q174_65 hR (0 : Int32) h)
theorem q174_0 {m : Nat} {ad : Nat → Nat} {M : hM} {S : sT} (hR : rR m ad M S) (v1 : Int32) {rs : sRes (Int32 × sT)} (h : c174_0 v1 S = some rs) : ∃ res, b174_0 m v1 M = some res ∧ simR o_I f_2 (fun _ as => as) m ad M rs res := by
  have hs : sm m ad M M := sm.rf
  unfold c174_0 at h
  unfold b174_0
  refine exb (rR_gr hR 7) ?_
  obtain ⟨v_1, h2, h⟩ := bd h
  refine exb (rR_al hR h2) ?_
  refine exb (rR_gr hR 7) ?_
  obtain ⟨v_3, h4, h⟩ := bd h
  refine exb (rR_al hR h4) ?_
  refine exb (rR_go hR) ?_
  obtain ⟨q_5, h6, h⟩ := bd h
  obtain ⟨M7, e8, hR9, hs10⟩ := u166 hR h6
  replace hs10 := hs.tr hs10
  refine exb (c_I_of e8) ?_
  refine exb (rR_gr hR9 7) ?_
  obtain ⟨v_11, h12, h⟩ := bd h
  refine exb (rR_al hR9 h12) ?_
  refine exb (rR_go hR9) ?_
  obtain ⟨q_13, h14, h⟩ := bd h
  obtain ⟨M15, e16, hR17, hs18⟩ := u169 hR9 h14
  replace hs18 := hs10.tr hs18
  refine exb (c_I_of e16) ?_
  by_cases q33 : q_5.1 = q_13.1
  · rw [if_pos q33] at h ⊢
    refine exb (rR_go hR17) ?_
    obtain ⟨q_19, h20, h⟩ := bd h
    obtain ⟨M21, e22, hR23, hs24⟩ := u165 hR17 h20
    replace hs24 := hs18.tr hs24
    refine exb (c_I_of e22) ?_
    by_cases q32 : q_19.1 = (v_1 - (17 : Int32))
    · rw [if_pos q32] at h ⊢
      refine exb (rR_go hR23) ?_
      obtain ⟨q_25, h26, h⟩ := bd h
      obtain ⟨M27, e28, hR29, hs30⟩ := u173 hR23 h26
      replace hs30 := hs24.tr hs30
      refine exb (c_I_of e28) ?_
      by_cases q31 : q_25.1 = 0
      · rw [if_pos q31] at h ⊢
        exact simT hs30 (q174_64 hR29  h)
      · rw [if_neg q31] at h ⊢
        exact simT hs30 (q174_65 hR29 (1 : Int32) h)
    · rw [if_neg q32] at h ⊢
      exact simT hs24 (q174_64 hR23  h)
  · rw [if_neg q33] at h ⊢
    exact simT hs18 (q174_64 hR17  h)
theorem u174 {m : Nat} {ad : Nat → Nat} {M : hM} {S : sT} (hR : rR m ad M S) {v1 : Int32} {q : (Int32 × sT)} (h : e174 v1 S = some q) : ∃ M1, f174 [.inr (.inr (some m)), .inl v1] M = some (some (.inl q.1), M1) ∧ rR m ad M1 q.2 ∧ sm m ad M M1 := by
  exact s_out_sim (o := o_I) (f := f_2) (J := fun _ as => as) (fun rs hx => q174_0 hR v1 hx) h
/-! reference: side(II)I -/
def c175_0 (v1 : Int32) (v2 : Int32) (S : sT) : Option (sRes (Int32 × sT)) :=
  some (.inl ((((8 : Int32) * v1) + v2), S))
def e175 (v1 : Int32) (v2 : Int32) (S : sT) : Option (Int32 × sT) := s_out (c175_0 v1 v2 S)
theorem q175_0 {m : Nat} {ad : Nat → Nat} {M : hM} {S : sT} (hR : rR m ad M S) (v1 : Int32) (v2 : Int32) {rs : sRes (Int32 × sT)} (h : c175_0 v1 v2 S = some rs) : ∃ res, b175_0 m v1 v2 M = some res ∧ simR o_I f_2 (fun _ as => as) m ad M rs res := by
  have hs : sm m ad M M := sm.rf
  unfold c175_0 at h
  unfold b175_0
  obtain rfl := Option.some.inj h
  exact ⟨_, rfl, _, rfl, hR, hs⟩
theorem u175 {m : Nat} {ad : Nat → Nat} {M : hM} {S : sT} (hR : rR m ad M S) {v1 : Int32} {v2 : Int32} {q : (Int32 × sT)} (h : e175 v1 v2 S = some q) : ∃ M1, f175 [.inr (.inr (some m)), .inl v1, .inl v2] M = some (some (.inl q.1), M1) ∧ rR m ad M1 q.2 ∧ sm m ad M M1 := by
  exact s_out_sim (o := o_I) (f := f_2) (J := fun _ as => as) (fun rs hx => q175_0 hR v1 v2 hx) h
/-! reference: nodeSide(I)I -/
def c176_0 (v1 : Int32) (S : sT) : Option (sRes (Int32 × sT)) :=
  some (.inl (((40 : Int32) + v1), S))
def e176 (v1 : Int32) (S : sT) : Option (Int32 × sT) := s_out (c176_0 v1 S)
theorem q176_0 {m : Nat} {ad : Nat → Nat} {M : hM} {S : sT} (hR : rR m ad M S) (v1 : Int32) {rs : sRes (Int32 × sT)} (h : c176_0 v1 S = some rs) : ∃ res, b176_0 m v1 M = some res ∧ simR o_I f_2 (fun _ as => as) m ad M rs res := by
  have hs : sm m ad M M := sm.rf
  unfold c176_0 at h
  unfold b176_0
  obtain rfl := Option.some.inj h
  exact ⟨_, rfl, _, rfl, hR, hs⟩
theorem u176 {m : Nat} {ad : Nat → Nat} {M : hM} {S : sT} (hR : rR m ad M S) {v1 : Int32} {q : (Int32 × sT)} (h : e176 v1 S = some q) : ∃ M1, f176 [.inr (.inr (some m)), .inl v1] M = some (some (.inl q.1), M1) ∧ rR m ad M1 q.2 ∧ sm m ad M M1 := by
  exact s_out_sim (o := o_I) (f := f_2) (J := fun _ as => as) (fun rs hx => q176_0 hR v1 hx) h
/-! reference: isUp(I)Z -/
def c177_29 (si0 : Int32) (S : sT) : Option (sRes (Int32 × sT)) :=
  if si0 = 0 ∨ si0 = 1 then
    (some (.inl (si0, S)))
  else
    none
def c177_28  (S : sT) : Option (sRes (Int32 × sT)) :=
  c177_29 (0 : Int32) S
def c177_0 (v1 : Int32) (S : sT) : Option (sRes (Int32 × sT)) :=
  Option.bind (s_a S 14 v1) fun v_1 =>
  if v_1 = (-1 : Int32) then
    (c177_28  S)
  else
    (Option.bind (s_a S 14 v1) fun v_3 =>
    Option.bind (s_a S 12 v_3) fun v_5 =>
    if v_5 = 0 then
      (c177_28  S)
    else
      (c177_29 (1 : Int32) S))
def e177 (v1 : Int32) (S : sT) : Option (Int32 × sT) := s_out (c177_0 v1 S)
theorem q177_29 {m : Nat} {ad : Nat → Nat} {M : hM} {S : sT} (hR : rR m ad M S) (si0 : Int32) {rs : sRes (Int32 × sT)} (h : c177_29 si0 S = some rs) : ∃ res, b177_29 si0 M = some res ∧ simR o_I f_2 (fun _ as => as) m ad M rs res := by
  have hs : sm m ad M M := sm.rf
  unfold c177_29 at h
  unfold b177_29
  by_cases q9 : si0 = 0 ∨ si0 = 1
  · rw [if_pos q9] at h ⊢
    obtain rfl := Option.some.inj h
    exact ⟨_, rfl, _, rfl, hR, hs⟩
  · rw [if_neg q9] at h
    cases h
theorem q177_28 {m : Nat} {ad : Nat → Nat} {M : hM} {S : sT} (hR : rR m ad M S)  {rs : sRes (Int32 × sT)} (h : c177_28  S = some rs) : ∃ res, b177_28  M = some res ∧ simR o_I f_2 (fun _ as => as) m ad M rs res := by
  have hs : sm m ad M M := sm.rf
  unfold c177_28 at h
  unfold b177_28
  exact simT hs (q177_29 hR (0 : Int32) h)
theorem q177_0 {m : Nat} {ad : Nat → Nat} {M : hM} {S : sT} (hR : rR m ad M S) (v1 : Int32) {rs : sRes (Int32 × sT)} (h : c177_0 v1 S = some rs) : ∃ res, b177_0 m v1 M = some res ∧ simR o_I f_2 (fun _ as => as) m ad M rs res := by
  have hs : sm m ad M M := sm.rf
  unfold c177_0 at h
  unfold b177_0
  refine exb (rR_gr hR 14) ?_
  obtain ⟨v_1, h2, h⟩ := bd h
  refine exb (rR_al hR h2) ?_
  by_cases q8 : v_1 = (-1 : Int32)
  · rw [if_pos q8] at h ⊢
    exact simT hs (q177_28 hR  h)
  · rw [if_neg q8] at h ⊢
    refine exb (rR_gr hR 12) ?_
    refine exb (rR_gr hR 14) ?_
    obtain ⟨v_3, h4, h⟩ := bd h
    refine exb (rR_al hR h4) ?_
    obtain ⟨v_5, h6, h⟩ := bd h
    refine exb (rR_al hR h6) ?_
    by_cases q7 : v_5 = 0
    · rw [if_pos q7] at h ⊢
      exact simT hs (q177_28 hR  h)
    · rw [if_neg q7] at h ⊢
      exact simT hs (q177_29 hR (1 : Int32) h)
theorem u177 {m : Nat} {ad : Nat → Nat} {M : hM} {S : sT} (hR : rR m ad M S) {v1 : Int32} {q : (Int32 × sT)} (h : e177 v1 S = some q) : ∃ M1, f177 [.inr (.inr (some m)), .inl v1] M = some (some (.inl q.1), M1) ∧ rR m ad M1 q.2 ∧ sm m ad M M1 := by
  exact s_out_sim (o := o_I) (f := f_2) (J := fun _ as => as) (fun rs hx => q177_0 hR v1 hx) h
/-! reference: other(I)I -/
def c178_40 (si0 : Int32) (S : sT) : Option (sRes (Int32 × sT)) :=
  some (.inl (si0, S))
def c178_0 (v1 : Int32) (S : sT) : Option (sRes (Int32 × sT)) :=
  Option.bind (s_a S 14 v1) fun v_1 =>
  Option.bind (s_a S 10 ((2 : Int32) * v_1)) fun v_3 =>
  if v_3 = v1 then
    (Option.bind (s_a S 10 (((2 : Int32) * v_1) + (1 : Int32))) fun v_7 =>
    c178_40 v_7 S)
  else
    (Option.bind (s_a S 10 ((2 : Int32) * v_1)) fun v_5 =>
    c178_40 v_5 S)
def e178 (v1 : Int32) (S : sT) : Option (Int32 × sT) := s_out (c178_0 v1 S)
theorem q178_40 {m : Nat} {ad : Nat → Nat} {M : hM} {S : sT} (hR : rR m ad M S) (si0 : Int32) {rs : sRes (Int32 × sT)} (h : c178_40 si0 S = some rs) : ∃ res, b178_40 si0 M = some res ∧ simR o_I f_2 (fun _ as => as) m ad M rs res := by
  have hs : sm m ad M M := sm.rf
  unfold c178_40 at h
  unfold b178_40
  obtain rfl := Option.some.inj h
  exact ⟨_, rfl, _, rfl, hR, hs⟩
theorem q178_0 {m : Nat} {ad : Nat → Nat} {M : hM} {S : sT} (hR : rR m ad M S) (v1 : Int32) {rs : sRes (Int32 × sT)} (h : c178_0 v1 S = some rs) : ∃ res, b178_0 m v1 M = some res ∧ simR o_I f_2 (fun _ as => as) m ad M rs res := by
  have hs : sm m ad M M := sm.rf
  unfold c178_0 at h
  unfold b178_0
  refine exb (rR_gr hR 14) ?_
  obtain ⟨v_1, h2, h⟩ := bd h
  refine exb (rR_al hR h2) ?_
  refine exb (rR_gr hR 10) ?_
  obtain ⟨v_3, h4, h⟩ := bd h
  refine exb (rR_al hR h4) ?_
  by_cases q9 : v_3 = v1
  · rw [if_pos q9] at h ⊢
    refine exb (rR_gr hR 10) ?_
    obtain ⟨v_7, h8, h⟩ := bd h
    refine exb (rR_al hR h8) ?_
    exact simT hs (q178_40 hR v_7 h)
  · rw [if_neg q9] at h ⊢
    refine exb (rR_gr hR 10) ?_
    obtain ⟨v_5, h6, h⟩ := bd h
    refine exb (rR_al hR h6) ?_
    exact simT hs (q178_40 hR v_5 h)
theorem u178 {m : Nat} {ad : Nat → Nat} {M : hM} {S : sT} (hR : rR m ad M S) {v1 : Int32} {q : (Int32 × sT)} (h : e178 v1 S = some q) : ∃ M1, f178 [.inr (.inr (some m)), .inl v1] M = some (some (.inl q.1), M1) ∧ rR m ad M1 q.2 ∧ sm m ad M M1 := by
  exact s_out_sim (o := o_I) (f := f_2) (J := fun _ as => as) (fun rs hx => q178_0 hR v1 hx) h
/-! reference: nodeAt(I)I -/
def c179_32 (si0 : Int32) (S : sT) : Option (sRes (Int32 × sT)) :=
  some (.inl (si0, S))
def c179_31  (S : sT) : Option (sRes (Int32 × sT)) :=
  c179_32 (-1 : Int32) S
def c179_0 (v1 : Int32) (S : sT) : Option (sRes (Int32 × sT)) :=
  Option.bind (s_a S 14 v1) fun v_1 =>
  if v_1 = (-1 : Int32) then
    (c179_31  S)
  else
    (Option.bind (e178 v1 S) fun q_3 =>
    if q_3.1 < (40 : Int32) then
      (c179_31  q_3.2)
    else
      (Option.bind (e178 v1 q_3.2) fun q_9 =>
      c179_32 (q_9.1 - (40 : Int32)) q_9.2))
def e179 (v1 : Int32) (S : sT) : Option (Int32 × sT) := s_out (c179_0 v1 S)
theorem q179_32 {m : Nat} {ad : Nat → Nat} {M : hM} {S : sT} (hR : rR m ad M S) (si0 : Int32) {rs : sRes (Int32 × sT)} (h : c179_32 si0 S = some rs) : ∃ res, b179_32 si0 M = some res ∧ simR o_I f_2 (fun _ as => as) m ad M rs res := by
  have hs : sm m ad M M := sm.rf
  unfold c179_32 at h
  unfold b179_32
  obtain rfl := Option.some.inj h
  exact ⟨_, rfl, _, rfl, hR, hs⟩
theorem q179_31 {m : Nat} {ad : Nat → Nat} {M : hM} {S : sT} (hR : rR m ad M S)  {rs : sRes (Int32 × sT)} (h : c179_31  S = some rs) : ∃ res, b179_31  M = some res ∧ simR o_I f_2 (fun _ as => as) m ad M rs res := by
  have hs : sm m ad M M := sm.rf
  unfold c179_31 at h
  unfold b179_31
  exact simT hs (q179_32 hR (-1 : Int32) h)
theorem q179_0 {m : Nat} {ad : Nat → Nat} {M : hM} {S : sT} (hR : rR m ad M S) (v1 : Int32) {rs : sRes (Int32 × sT)} (h : c179_0 v1 S = some rs) : ∃ res, b179_0 m v1 M = some res ∧ simR o_I f_2 (fun _ as => as) m ad M rs res := by
  have hs : sm m ad M M := sm.rf
  unfold c179_0 at h
  unfold b179_0
  refine exb (rR_gr hR 14) ?_
  obtain ⟨v_1, h2, h⟩ := bd h
  refine exb (rR_al hR h2) ?_
  by_cases q16 : v_1 = (-1 : Int32)
  · rw [if_pos q16] at h ⊢
    exact simT hs (q179_31 hR  h)
  · rw [if_neg q16] at h ⊢
    refine exb (rR_go hR) ?_
    obtain ⟨q_3, h4, h⟩ := bd h
    obtain ⟨M5, e6, hR7, hs8⟩ := u178 hR h4
    replace hs8 := hs.tr hs8
    refine exb (c_I_of e6) ?_
    by_cases q15 : q_3.1 < (40 : Int32)
    · rw [if_pos q15] at h ⊢
      exact simT hs8 (q179_31 hR7  h)
    · rw [if_neg q15] at h ⊢
      refine exb (rR_go hR7) ?_
      obtain ⟨q_9, h10, h⟩ := bd h
      obtain ⟨M11, e12, hR13, hs14⟩ := u178 hR7 h10
      replace hs14 := hs8.tr hs14
      refine exb (c_I_of e12) ?_
      exact simT hs14 (q179_32 hR13 (q_9.1 - (40 : Int32)) h)
theorem u179 {m : Nat} {ad : Nat → Nat} {M : hM} {S : sT} (hR : rR m ad M S) {v1 : Int32} {q : (Int32 × sT)} (h : e179 v1 S = some q) : ∃ M1, f179 [.inr (.inr (some m)), .inl v1] M = some (some (.inl q.1), M1) ∧ rR m ad M1 q.2 ∧ sm m ad M M1 := by
  exact s_out_sim (o := o_I) (f := f_2) (J := fun _ as => as) (fun rs hx => q179_0 hR v1 hx) h
/-! reference: credits(I)I -/
def c180_35 (v2 : Int32) (si0 : Int32) (si1 : Int32) (S : sT) : Option (sRes (Int32 × sT)) :=
  Option.bind (s_a S 17 v2) fun v_17 =>
  Option.bind (s_a S 20 v2) fun v_19 =>
  some (.inl ((((si1 - si0) - v_17) - v_19), S))
def c180_0 (v1 : Int32) (S : sT) : Option (sRes (Int32 × sT)) :=
  Option.bind (e177 v1 S) fun q_1 =>
  if q_1.1 = 0 then
    (some (.inl ((0 : Int32), q_1.2)))
  else
    (Option.bind (e178 v1 q_1.2) fun q_7 =>
    Option.bind (s_a q_7.2 15 v1) fun v_13 =>
    if v_13 = (-1 : Int32) then
      (c180_35 q_7.1 (0 : Int32) (s_g q_7.2 2) q_7.2)
    else
      (c180_35 q_7.1 (1 : Int32) (s_g q_7.2 2) q_7.2))
def e180 (v1 : Int32) (S : sT) : Option (Int32 × sT) := s_out (c180_0 v1 S)
theorem q180_35 {m : Nat} {ad : Nat → Nat} {M : hM} {S : sT} (hR : rR m ad M S) (v2 : Int32) (si0 : Int32) (si1 : Int32) {rs : sRes (Int32 × sT)} (h : c180_35 v2 si0 si1 S = some rs) : ∃ res, b180_35 m v2 si0 si1 M = some res ∧ simR o_I f_2 (fun _ as => as) m ad M rs res := by
  have hs : sm m ad M M := sm.rf
  unfold c180_35 at h
  unfold b180_35
  refine exb (rR_gr hR 17) ?_
  obtain ⟨v_17, h18, h⟩ := bd h
  refine exb (rR_al hR h18) ?_
  refine exb (rR_gr hR 20) ?_
  obtain ⟨v_19, h20, h⟩ := bd h
  refine exb (rR_al hR h20) ?_
  obtain rfl := Option.some.inj h
  exact ⟨_, rfl, _, rfl, hR, hs⟩
theorem q180_0 {m : Nat} {ad : Nat → Nat} {M : hM} {S : sT} (hR : rR m ad M S) (v1 : Int32) {rs : sRes (Int32 × sT)} (h : c180_0 v1 S = some rs) : ∃ res, b180_0 m v1 M = some res ∧ simR o_I f_2 (fun _ as => as) m ad M rs res := by
  have hs : sm m ad M M := sm.rf
  unfold c180_0 at h
  unfold b180_0
  refine exb (rR_go hR) ?_
  obtain ⟨q_1, h2, h⟩ := bd h
  obtain ⟨M3, e4, hR5, hs6⟩ := u177 hR h2
  replace hs6 := hs.tr hs6
  refine exb (c_I_of e4) ?_
  by_cases q16 : q_1.1 = 0
  · rw [if_pos q16] at h ⊢
    obtain rfl := Option.some.inj h
    exact ⟨_, rfl, _, rfl, hR5, hs6⟩
  · rw [if_neg q16] at h ⊢
    refine exb (rR_go hR5) ?_
    obtain ⟨q_7, h8, h⟩ := bd h
    obtain ⟨M9, e10, hR11, hs12⟩ := u178 hR5 h8
    replace hs12 := hs6.tr hs12
    refine exb (c_I_of e10) ?_
    refine exb (rR_gi hR11 2) ?_
    refine exb (rR_gr hR11 15) ?_
    obtain ⟨v_13, h14, h⟩ := bd h
    refine exb (rR_al hR11 h14) ?_
    by_cases q15 : v_13 = (-1 : Int32)
    · rw [if_pos q15] at h ⊢
      exact simT hs12 (q180_35 hR11 q_7.1 (0 : Int32) (s_g q_7.2 2) h)
    · rw [if_neg q15] at h ⊢
      exact simT hs12 (q180_35 hR11 q_7.1 (1 : Int32) (s_g q_7.2 2) h)
theorem u180 {m : Nat} {ad : Nat → Nat} {M : hM} {S : sT} (hR : rR m ad M S) {v1 : Int32} {q : (Int32 × sT)} (h : e180 v1 S = some q) : ∃ M1, f180 [.inr (.inr (some m)), .inl v1] M = some (some (.inl q.1), M1) ∧ rR m ad M1 q.2 ∧ sm m ad M M1 := by
  exact s_out_sim (o := o_I) (f := f_2) (J := fun _ as => as) (fun rs hx => q180_0 hR v1 hx) h
/-! reference: can(I)Z -/
def c181_30 (si0 : Int32) (S : sT) : Option (sRes (Int32 × sT)) :=
  if si0 = 0 ∨ si0 = 1 then
    (some (.inl (si0, S)))
  else
    none
def c181_29  (S : sT) : Option (sRes (Int32 × sT)) :=
  c181_30 (0 : Int32) S
def c181_0 (v1 : Int32) (S : sT) : Option (sRes (Int32 × sT)) :=
  Option.bind (e177 v1 S) fun q_1 =>
  if q_1.1 = 0 then
    (c181_29  q_1.2)
  else
    (Option.bind (s_a q_1.2 22 v1) fun v_7 =>
    if v_7 = 0 then
      (Option.bind (e180 v1 q_1.2) fun q_9 =>
      if q_9.1 ≤ 0 then
        (c181_29  q_9.2)
      else
        (c181_30 (1 : Int32) q_9.2))
    else
      (c181_29  q_1.2))
def e181 (v1 : Int32) (S : sT) : Option (Int32 × sT) := s_out (c181_0 v1 S)
theorem q181_30 {m : Nat} {ad : Nat → Nat} {M : hM} {S : sT} (hR : rR m ad M S) (si0 : Int32) {rs : sRes (Int32 × sT)} (h : c181_30 si0 S = some rs) : ∃ res, b181_30 si0 M = some res ∧ simR o_I f_2 (fun _ as => as) m ad M rs res := by
  have hs : sm m ad M M := sm.rf
  unfold c181_30 at h
  unfold b181_30
  by_cases q18 : si0 = 0 ∨ si0 = 1
  · rw [if_pos q18] at h ⊢
    obtain rfl := Option.some.inj h
    exact ⟨_, rfl, _, rfl, hR, hs⟩
  · rw [if_neg q18] at h
    cases h
theorem q181_29 {m : Nat} {ad : Nat → Nat} {M : hM} {S : sT} (hR : rR m ad M S)  {rs : sRes (Int32 × sT)} (h : c181_29  S = some rs) : ∃ res, b181_29  M = some res ∧ simR o_I f_2 (fun _ as => as) m ad M rs res := by
  have hs : sm m ad M M := sm.rf
  unfold c181_29 at h
  unfold b181_29
  exact simT hs (q181_30 hR (0 : Int32) h)
theorem q181_0 {m : Nat} {ad : Nat → Nat} {M : hM} {S : sT} (hR : rR m ad M S) (v1 : Int32) {rs : sRes (Int32 × sT)} (h : c181_0 v1 S = some rs) : ∃ res, b181_0 m v1 M = some res ∧ simR o_I f_2 (fun _ as => as) m ad M rs res := by
  have hs : sm m ad M M := sm.rf
  unfold c181_0 at h
  unfold b181_0
  refine exb (rR_go hR) ?_
  obtain ⟨q_1, h2, h⟩ := bd h
  obtain ⟨M3, e4, hR5, hs6⟩ := u177 hR h2
  replace hs6 := hs.tr hs6
  refine exb (c_I_of e4) ?_
  by_cases q17 : q_1.1 = 0
  · rw [if_pos q17] at h ⊢
    exact simT hs6 (q181_29 hR5  h)
  · rw [if_neg q17] at h ⊢
    refine exb (rR_gr hR5 22) ?_
    obtain ⟨v_7, h8, h⟩ := bd h
    refine exb (rR_al hR5 h8) ?_
    by_cases q16 : v_7 = 0
    · rw [if_pos q16] at h ⊢
      refine exb (rR_go hR5) ?_
      obtain ⟨q_9, h10, h⟩ := bd h
      obtain ⟨M11, e12, hR13, hs14⟩ := u180 hR5 h10
      replace hs14 := hs6.tr hs14
      refine exb (c_I_of e12) ?_
      by_cases q15 : q_9.1 ≤ 0
      · rw [if_pos q15] at h ⊢
        exact simT hs14 (q181_29 hR13  h)
      · rw [if_neg q15] at h ⊢
        exact simT hs14 (q181_30 hR13 (1 : Int32) h)
    · rw [if_neg q16] at h ⊢
      exact simT hs6 (q181_29 hR5  h)
theorem u181 {m : Nat} {ad : Nat → Nat} {M : hM} {S : sT} (hR : rR m ad M S) {v1 : Int32} {q : (Int32 × sT)} (h : e181 v1 S = some q) : ∃ M1, f181 [.inr (.inr (some m)), .inl v1] M = some (some (.inl q.1), M1) ∧ rR m ad M1 q.2 ∧ sm m ad M M1 := by
  exact s_out_sim (o := o_I) (f := f_2) (J := fun _ as => as) (fun rs hx => q181_0 hR v1 hx) h
/-! reference: sends(II)V -/
def c182_19 (v1 : Int32) (v2 : Int32) (S : sT) : Option (sRes sT) :=
  Option.bind (s_s S 15 v1 v2) fun S16 =>
  Option.bind (s_sz S16 22 v1 (1 : Int32)) fun S22 =>
  Option.bind (s_a S22 4 (6 : Int32)) fun v_28 =>
  Option.bind (s_s S22 4 (6 : Int32) (v_28 + (1 : Int32))) fun S30 =>
  some (.inl S30)
def c182_0 (v1 : Int32) (v2 : Int32) (S : sT) : Option (sRes sT) :=
  Option.bind (e180 v1 S) fun q_1 =>
  if (1 : Int32) ≤ q_1.1 then
    (c182_19 v1 v2 q_1.2)
  else
    (Option.bind (s_a q_1.2 5 (1 : Int32)) fun v_7 =>
    Option.bind (s_s q_1.2 5 (1 : Int32) (v_7 + (1 : Int32))) fun S9 =>
    c182_19 v1 v2 S9)
def e182 (v1 : Int32) (v2 : Int32) (S : sT) : Option sT := s_out (c182_0 v1 v2 S)
theorem q182_19 {m : Nat} {ad : Nat → Nat} {M : hM} {S : sT} (hR : rR m ad M S) (v1 : Int32) (v2 : Int32) {rs : sRes sT} (h : c182_19 v1 v2 S = some rs) : ∃ res, b182_19 m v1 v2 M = some res ∧ simR o_V f_1 (fun _ as => as) m ad M rs res := by
  have hs : sm m ad M M := sm.rf
  unfold c182_19 at h
  unfold b182_19
  refine exb (rR_gr hR 15) ?_
  obtain ⟨S16, h18, h⟩ := bd h
  obtain ⟨M17, e19, hR20, hs21⟩ := rR_si hR h18
  replace hs21 := hs.tr hs21
  refine exb e19 ?_
  refine exb (rR_gr hR20 22) ?_
  obtain ⟨S22, h24, h⟩ := bd h
  obtain ⟨M23, e25, hR26, hs27⟩ := rR_sz hR20 h24
  replace hs27 := hs21.tr hs27
  refine exb e25 ?_
  refine exb (rR_gr hR26 4) ?_
  obtain ⟨v_28, h29, h⟩ := bd h
  refine exb (rR_al hR26 h29) ?_
  obtain ⟨S30, h32, h⟩ := bd h
  obtain ⟨M31, e33, hR34, hs35⟩ := rR_si hR26 h32
  replace hs35 := hs27.tr hs35
  refine exb e33 ?_
  obtain rfl := Option.some.inj h
  exact ⟨_, rfl, _, rfl, hR34, hs35⟩
theorem q182_0 {m : Nat} {ad : Nat → Nat} {M : hM} {S : sT} (hR : rR m ad M S) (v1 : Int32) (v2 : Int32) {rs : sRes sT} (h : c182_0 v1 v2 S = some rs) : ∃ res, b182_0 m v1 v2 M = some res ∧ simR o_V f_1 (fun _ as => as) m ad M rs res := by
  have hs : sm m ad M M := sm.rf
  unfold c182_0 at h
  unfold b182_0
  refine exb (rR_go hR) ?_
  obtain ⟨q_1, h2, h⟩ := bd h
  obtain ⟨M3, e4, hR5, hs6⟩ := u180 hR h2
  replace hs6 := hs.tr hs6
  refine exb (c_I_of e4) ?_
  by_cases q15 : (1 : Int32) ≤ q_1.1
  · rw [if_pos q15] at h ⊢
    exact simT hs6 (q182_19 hR5 v1 v2 h)
  · rw [if_neg q15] at h ⊢
    refine exb (rR_gr hR5 5) ?_
    obtain ⟨v_7, h8, h⟩ := bd h
    refine exb (rR_al hR5 h8) ?_
    obtain ⟨S9, h11, h⟩ := bd h
    obtain ⟨M10, e12, hR13, hs14⟩ := rR_si hR5 h11
    replace hs14 := hs6.tr hs14
    refine exb e12 ?_
    exact simT hs14 (q182_19 hR13 v1 v2 h)
theorem u182 {m : Nat} {ad : Nat → Nat} {M : hM} {S : sT} (hR : rR m ad M S) {v1 : Int32} {v2 : Int32} {q : sT} (h : e182 v1 v2 S = some q) : ∃ M1, f182 [.inr (.inr (some m)), .inl v1, .inl v2] M = some (none, M1) ∧ rR m ad M1 q ∧ sm m ad M M1 := by
  exact s_out_sim (o := o_V) (f := f_1) (J := fun _ as => as) (fun rs hx => q182_0 hR v1 v2 hx) h
/-! reference: queues(II)V -/
def c183_77  (S : sT) : Option (sRes sT) :=
  some (.inl S)
def c183_0 (v1 : Int32) (v2 : Int32) (S : sT) : Option (sRes sT) :=
  Option.bind (e170 v2 S) fun q_1 =>
  Option.bind (e177 v1 q_1) fun q_7 =>
  if q_7.1 = 0 then
    (Option.bind (e171 v2 q_7.2) fun q_46 =>
    c183_77  q_46)
  else
    (Option.bind (s_a q_7.2 19 v1) fun v_13 =>
    if v_13 = (32 : Int32) then
      (Option.bind (s_a q_7.2 4 (5 : Int32)) fun v_31 =>
      Option.bind (s_s q_7.2 4 (5 : Int32) (v_31 + (1 : Int32))) fun S33 =>
      Option.bind (e171 v2 S33) fun q_39 =>
      c183_77  q_39)
    else
      (Option.bind (s_a q_7.2 19 v1) fun v_15 =>
      Option.bind (s_s q_7.2 18 ((v1 * (32 : Int32)) + v_15) v2) fun S17 =>
      Option.bind (s_a S17 19 v1) fun v_23 =>
      Option.bind (s_s S17 19 v1 (v_23 + (1 : Int32))) fun S25 =>
      c183_77  S25))
def e183 (v1 : Int32) (v2 : Int32) (S : sT) : Option sT := s_out (c183_0 v1 v2 S)
theorem q183_77 {m : Nat} {ad : Nat → Nat} {M : hM} {S : sT} (hR : rR m ad M S)  {rs : sRes sT} (h : c183_77  S = some rs) : ∃ res, b183_77  M = some res ∧ simR o_V f_1 (fun _ as => as) m ad M rs res := by
  have hs : sm m ad M M := sm.rf
  unfold c183_77 at h
  unfold b183_77
  obtain rfl := Option.some.inj h
  exact ⟨_, rfl, _, rfl, hR, hs⟩
theorem q183_0 {m : Nat} {ad : Nat → Nat} {M : hM} {S : sT} (hR : rR m ad M S) (v1 : Int32) (v2 : Int32) {rs : sRes sT} (h : c183_0 v1 v2 S = some rs) : ∃ res, b183_0 m v1 v2 M = some res ∧ simR o_V f_1 (fun _ as => as) m ad M rs res := by
  have hs : sm m ad M M := sm.rf
  unfold c183_0 at h
  unfold b183_0
  refine exb (rR_go hR) ?_
  obtain ⟨q_1, h2, h⟩ := bd h
  obtain ⟨M3, e4, hR5, hs6⟩ := u170 hR h2
  replace hs6 := hs.tr hs6
  refine exb (c_V_of e4) ?_
  refine exb (rR_go hR5) ?_
  obtain ⟨q_7, h8, h⟩ := bd h
  obtain ⟨M9, e10, hR11, hs12⟩ := u177 hR5 h8
  replace hs12 := hs6.tr hs12
  refine exb (c_I_of e10) ?_
  by_cases q52 : q_7.1 = 0
  · rw [if_pos q52] at h ⊢
    refine exb (rR_go hR11) ?_
    obtain ⟨q_46, h47, h⟩ := bd h
    obtain ⟨M48, e49, hR50, hs51⟩ := u171 hR11 h47
    replace hs51 := hs12.tr hs51
    refine exb (c_V_of e49) ?_
    exact simT hs51 (q183_77 hR50  h)
  · rw [if_neg q52] at h ⊢
    refine exb (rR_gr hR11 19) ?_
    obtain ⟨v_13, h14, h⟩ := bd h
    refine exb (rR_al hR11 h14) ?_
    by_cases q45 : v_13 = (32 : Int32)
    · rw [if_pos q45] at h ⊢
      refine exb (rR_gr hR11 4) ?_
      obtain ⟨v_31, h32, h⟩ := bd h
      refine exb (rR_al hR11 h32) ?_
      obtain ⟨S33, h35, h⟩ := bd h
      obtain ⟨M34, e36, hR37, hs38⟩ := rR_si hR11 h35
      replace hs38 := hs12.tr hs38
      refine exb e36 ?_
      refine exb (rR_go hR37) ?_
      obtain ⟨q_39, h40, h⟩ := bd h
      obtain ⟨M41, e42, hR43, hs44⟩ := u171 hR37 h40
      replace hs44 := hs38.tr hs44
      refine exb (c_V_of e42) ?_
      exact simT hs44 (q183_77 hR43  h)
    · rw [if_neg q45] at h ⊢
      refine exb (rR_gr hR11 18) ?_
      refine exb (rR_gr hR11 19) ?_
      obtain ⟨v_15, h16, h⟩ := bd h
      refine exb (rR_al hR11 h16) ?_
      obtain ⟨S17, h19, h⟩ := bd h
      obtain ⟨M18, e20, hR21, hs22⟩ := rR_si hR11 h19
      replace hs22 := hs12.tr hs22
      refine exb e20 ?_
      refine exb (rR_gr hR21 19) ?_
      obtain ⟨v_23, h24, h⟩ := bd h
      refine exb (rR_al hR21 h24) ?_
      obtain ⟨S25, h27, h⟩ := bd h
      obtain ⟨M26, e28, hR29, hs30⟩ := rR_si hR21 h27
      replace hs30 := hs22.tr hs30
      refine exb e28 ?_
      exact simT hs30 (q183_77 hR29  h)
theorem u183 {m : Nat} {ad : Nat → Nat} {M : hM} {S : sT} (hR : rR m ad M S) {v1 : Int32} {v2 : Int32} {q : sT} (h : e183 v1 v2 S = some q) : ∃ M1, f183 [.inr (.inr (some m)), .inl v1, .inl v2] M = some (none, M1) ∧ rR m ad M1 q ∧ sm m ad M M1 := by
  exact s_out_sim (o := o_V) (f := f_1) (J := fun _ as => as) (fun rs hx => q183_0 hR v1 v2 hx) h
/-! reference: sendsQueued(I)V -/
def c184_17  (S : sT) : Option (sRes sT) :=
  some (.inl S)
def c184_0 (v1 : Int32) (S : sT) : Option (sRes sT) :=
  Option.bind (s_a S 19 v1) fun v_1 =>
  if v_1 = 0 then
    (c184_17  S)
  else
    (Option.bind (e181 v1 S) fun q_3 =>
    if q_3.1 = 0 then
      (c184_17  q_3.2)
    else
      (Option.bind (s_a q_3.2 18 (v1 * (32 : Int32))) fun v_9 =>
      Option.bind (e182 v1 v_9 q_3.2) fun q_11 =>
      Option.bind (s_a q_11 19 v1) fun v_17 =>
      Option.bind (s_s q_11 19 v1 (v_17 - (1 : Int32))) fun S19 =>
      some (.inr (44, [.inl v1, .inl (0 : Int32)], S19))))
def c184_44 (v1 : Int32) (v2 : Int32) (S : sT) : Option (sRes sT) :=
  Option.bind (s_a S 19 v1) fun v_27 =>
  if v_27 ≤ v2 then
    (some (.inl S))
  else
    (Option.bind (s_a S 18 (((v1 * (32 : Int32)) + v2) + (1 : Int32))) fun v_29 =>
    Option.bind (s_s S 18 ((v1 * (32 : Int32)) + v2) v_29) fun S31 =>
    some (.inr (44, [.inl v1, .inl (v2 + (1 : Int32))], S31)))
def kS184 (h : Nat) (as : List aV) (S : sT) : Option (sRes sT) :=
  if h = 44 then (match as with | [.inl v1, .inl v2] => c184_44 v1 v2 S | _ => none) else
  none
def J184 (m : Nat) (h : Nat) (as : List aV) : List aV := .inr (.inr (some m)) :: as
def e184 (v1 : Int32) (S : sT) : Option sT := s_go kS184 (c184_0 v1 S)
theorem q184_17 {m : Nat} {ad : Nat → Nat} {M : hM} {S : sT} (hR : rR m ad M S)  {rs : sRes sT} (h : c184_17  S = some rs) : ∃ res, b184_17  M = some res ∧ simR o_V f_1 (J184 m) m ad M rs res := by
  have hs : sm m ad M M := sm.rf
  unfold c184_17 at h
  unfold b184_17
  obtain rfl := Option.some.inj h
  exact ⟨_, rfl, _, rfl, hR, hs⟩
theorem q184_0 {m : Nat} {ad : Nat → Nat} {M : hM} {S : sT} (hR : rR m ad M S) (v1 : Int32) {rs : sRes sT} (h : c184_0 v1 S = some rs) : ∃ res, b184_0 m v1 M = some res ∧ simR o_V f_1 (J184 m) m ad M rs res := by
  have hs : sm m ad M M := sm.rf
  unfold c184_0 at h
  unfold b184_0
  refine exb (rR_gr hR 19) ?_
  obtain ⟨v_1, h2, h⟩ := bd h
  refine exb (rR_al hR h2) ?_
  by_cases q26 : v_1 = 0
  · rw [if_pos q26] at h ⊢
    exact simT hs (q184_17 hR  h)
  · rw [if_neg q26] at h ⊢
    refine exb (rR_go hR) ?_
    obtain ⟨q_3, h4, h⟩ := bd h
    obtain ⟨M5, e6, hR7, hs8⟩ := u181 hR h4
    replace hs8 := hs.tr hs8
    refine exb (c_I_of e6) ?_
    by_cases q25 : q_3.1 = 0
    · rw [if_pos q25] at h ⊢
      exact simT hs8 (q184_17 hR7  h)
    · rw [if_neg q25] at h ⊢
      refine exb (rR_gr hR7 18) ?_
      obtain ⟨v_9, h10, h⟩ := bd h
      refine exb (rR_al hR7 h10) ?_
      refine exb (rR_go hR7) ?_
      obtain ⟨q_11, h12, h⟩ := bd h
      obtain ⟨M13, e14, hR15, hs16⟩ := u182 hR7 h12
      replace hs16 := hs8.tr hs16
      refine exb (c_V_of e14) ?_
      refine exb (rR_gr hR15 19) ?_
      obtain ⟨v_17, h18, h⟩ := bd h
      refine exb (rR_al hR15 h18) ?_
      obtain ⟨S19, h21, h⟩ := bd h
      obtain ⟨M20, e22, hR23, hs24⟩ := rR_si hR15 h21
      replace hs24 := hs16.tr hs24
      refine exb e22 ?_
      obtain rfl := Option.some.inj h
      exact ⟨_, rfl, _, rfl, hR23, hs24⟩
theorem q184_44 {m : Nat} {ad : Nat → Nat} {M : hM} {S : sT} (hR : rR m ad M S) (v1 : Int32) (v2 : Int32) {rs : sRes sT} (h : c184_44 v1 v2 S = some rs) : ∃ res, b184_44 m v1 v2 M = some res ∧ simR o_V f_1 (J184 m) m ad M rs res := by
  have hs : sm m ad M M := sm.rf
  unfold c184_44 at h
  unfold b184_44
  refine exb (rR_gr hR 19) ?_
  obtain ⟨v_27, h28, h⟩ := bd h
  refine exb (rR_al hR h28) ?_
  by_cases q37 : v_27 ≤ v2
  · rw [if_pos q37] at h ⊢
    obtain rfl := Option.some.inj h
    exact ⟨_, rfl, _, rfl, hR, hs⟩
  · rw [if_neg q37] at h ⊢
    refine exb (rR_gr hR 18) ?_
    refine exb (rR_gr hR 18) ?_
    obtain ⟨v_29, h30, h⟩ := bd h
    refine exb (rR_al hR h30) ?_
    obtain ⟨S31, h33, h⟩ := bd h
    obtain ⟨M32, e34, hR35, hs36⟩ := rR_si hR h33
    replace hs36 := hs.tr hs36
    refine exb e34 ?_
    obtain rfl := Option.some.inj h
    exact ⟨_, rfl, _, rfl, hR35, hs36⟩
theorem u184 {m : Nat} {ad : Nat → Nat} {M : hM} {S : sT} (hR : rR m ad M S) {v1 : Int32} {q : sT} (h : e184 v1 S = some q) : ∃ M1, f184 [.inr (.inr (some m)), .inl v1] M = some (none, M1) ∧ rR m ad M1 q ∧ sm m ad M M1 := by
  unfold e184 at h
  show ∃ M1, x_go k184 (b184_0 m v1 M) = some (o_V q, M1) ∧ rR m ad M1 (f_1 q) ∧ sm m ad M M1
  refine s_go_ok (o := o_V) (f := f_1) (J := J184 m) (bs := kS184) (bk := k184) (xs := c184_0 v1 S) (x := b184_0 m v1 M) (M := M) (q := q) ?_ (fun rs hx => q184_0 hR v1 hx) h
  intro h as S M rs hR hb
  unfold kS184 at hb
  unfold k184 J184
  by_cases e0 : h = 44
  · rw [if_pos e0] at hb ⊢
    split at hb
    · subst e0; exact q184_44 hR _ _ hb
    · cases hb
  · rw [if_neg e0] at hb
    cases hb
/-! reference: leaves(I)I -/
def c185_0 (v1 : Int32) (S : sT) : Option (sRes (Int32 × sT)) :=
  Option.bind (s_a S 16 (v1 * (4 : Int32))) fun v_1 =>
  Option.bind (s_a S 17 v1) fun v_3 =>
  Option.bind (s_s S 17 v1 (v_3 - (1 : Int32))) fun S5 =>
  some (.inr (21, [.inl v1, .inl v_1, .inl (0 : Int32)], S5))
def c185_21 (v1 : Int32) (v2 : Int32) (v3 : Int32) (S : sT) : Option (sRes (Int32 × sT)) :=
  Option.bind (s_a S 17 v1) fun v_11 =>
  if v_11 ≤ v3 then
    (Option.bind (s_a S 20 v1) fun v_13 =>
    Option.bind (s_s S 20 v1 (v_13 + (1 : Int32))) fun S15 =>
    Option.bind (s_s S15 21 v1 (0 : Int32)) fun S21 =>
    some (.inl (v2, S21)))
  else
    (Option.bind (s_a S 16 (((v1 * (4 : Int32)) + v3) + (1 : Int32))) fun v_27 =>
    Option.bind (s_s S 16 ((v1 * (4 : Int32)) + v3) v_27) fun S29 =>
    some (.inr (21, [.inl v1, .inl v2, .inl (v3 + (1 : Int32))], S29)))
def kS185 (h : Nat) (as : List aV) (S : sT) : Option (sRes (Int32 × sT)) :=
  if h = 21 then (match as with | [.inl v1, .inl v2, .inl v3] => c185_21 v1 v2 v3 S | _ => none) else
  none
def J185 (m : Nat) (h : Nat) (as : List aV) : List aV := .inr (.inr (some m)) :: as
def e185 (v1 : Int32) (S : sT) : Option (Int32 × sT) := s_go kS185 (c185_0 v1 S)
theorem q185_0 {m : Nat} {ad : Nat → Nat} {M : hM} {S : sT} (hR : rR m ad M S) (v1 : Int32) {rs : sRes (Int32 × sT)} (h : c185_0 v1 S = some rs) : ∃ res, b185_0 m v1 M = some res ∧ simR o_I f_2 (J185 m) m ad M rs res := by
  have hs : sm m ad M M := sm.rf
  unfold c185_0 at h
  unfold b185_0
  refine exb (rR_gr hR 16) ?_
  obtain ⟨v_1, h2, h⟩ := bd h
  refine exb (rR_al hR h2) ?_
  refine exb (rR_gr hR 17) ?_
  obtain ⟨v_3, h4, h⟩ := bd h
  refine exb (rR_al hR h4) ?_
  obtain ⟨S5, h7, h⟩ := bd h
  obtain ⟨M6, e8, hR9, hs10⟩ := rR_si hR h7
  replace hs10 := hs.tr hs10
  refine exb e8 ?_
  obtain rfl := Option.some.inj h
  exact ⟨_, rfl, _, rfl, hR9, hs10⟩
theorem q185_21 {m : Nat} {ad : Nat → Nat} {M : hM} {S : sT} (hR : rR m ad M S) (v1 : Int32) (v2 : Int32) (v3 : Int32) {rs : sRes (Int32 × sT)} (h : c185_21 v1 v2 v3 S = some rs) : ∃ res, b185_21 m v1 v2 v3 M = some res ∧ simR o_I f_2 (J185 m) m ad M rs res := by
  have hs : sm m ad M M := sm.rf
  unfold c185_21 at h
  unfold b185_21
  refine exb (rR_gr hR 17) ?_
  obtain ⟨v_11, h12, h⟩ := bd h
  refine exb (rR_al hR h12) ?_
  by_cases q35 : v_11 ≤ v3
  · rw [if_pos q35] at h ⊢
    refine exb (rR_gr hR 20) ?_
    obtain ⟨v_13, h14, h⟩ := bd h
    refine exb (rR_al hR h14) ?_
    obtain ⟨S15, h17, h⟩ := bd h
    obtain ⟨M16, e18, hR19, hs20⟩ := rR_si hR h17
    replace hs20 := hs.tr hs20
    refine exb e18 ?_
    refine exb (rR_gr hR19 21) ?_
    obtain ⟨S21, h23, h⟩ := bd h
    obtain ⟨M22, e24, hR25, hs26⟩ := rR_si hR19 h23
    replace hs26 := hs20.tr hs26
    refine exb e24 ?_
    obtain rfl := Option.some.inj h
    exact ⟨_, rfl, _, rfl, hR25, hs26⟩
  · rw [if_neg q35] at h ⊢
    refine exb (rR_gr hR 16) ?_
    refine exb (rR_gr hR 16) ?_
    obtain ⟨v_27, h28, h⟩ := bd h
    refine exb (rR_al hR h28) ?_
    obtain ⟨S29, h31, h⟩ := bd h
    obtain ⟨M30, e32, hR33, hs34⟩ := rR_si hR h31
    replace hs34 := hs.tr hs34
    refine exb e32 ?_
    obtain rfl := Option.some.inj h
    exact ⟨_, rfl, _, rfl, hR33, hs34⟩
theorem u185 {m : Nat} {ad : Nat → Nat} {M : hM} {S : sT} (hR : rR m ad M S) {v1 : Int32} {q : (Int32 × sT)} (h : e185 v1 S = some q) : ∃ M1, f185 [.inr (.inr (some m)), .inl v1] M = some (some (.inl q.1), M1) ∧ rR m ad M1 q.2 ∧ sm m ad M M1 := by
  unfold e185 at h
  show ∃ M1, x_go k185 (b185_0 m v1 M) = some (o_I q, M1) ∧ rR m ad M1 (f_2 q) ∧ sm m ad M M1
  refine s_go_ok (o := o_I) (f := f_2) (J := J185 m) (bs := kS185) (bk := k185) (xs := c185_0 v1 S) (x := b185_0 m v1 M) (M := M) (q := q) ?_ (fun rs hx => q185_0 hR v1 hx) h
  intro h as S M rs hR hb
  unfold kS185 at hb
  unfold k185 J185
  by_cases e0 : h = 21
  · rw [if_pos e0] at hb ⊢
    split at hb
    · subst e0; exact q185_21 hR _ _ _ hb
    · cases hb
  · rw [if_neg e0] at hb
    cases hb
/-! reference: forgets(I)V -/
def c186_0 (v1 : Int32) (S : sT) : Option (sRes sT) :=
  some (.inr (2, [.inl v1, .inl (0 : Int32)], S))
def c186_2 (v1 : Int32) (v2 : Int32) (S : sT) : Option (sRes sT) :=
  if (8 : Int32) ≤ v2 then
    (Option.bind (s_s S 41 v1 (0 : Int32)) fun S1 =>
    Option.bind (s_s S1 46 v1 (0 : Int32)) fun S7 =>
    some (.inl S7))
  else
    (Option.bind (s_s S 39 (((8 : Int32) * v1) + v2) (0 : Int32)) fun S13 =>
    some (.inr (2, [.inl v1, .inl (v2 + (1 : Int32))], S13)))
def kS186 (h : Nat) (as : List aV) (S : sT) : Option (sRes sT) :=
  if h = 2 then (match as with | [.inl v1, .inl v2] => c186_2 v1 v2 S | _ => none) else
  none
def J186 (m : Nat) (h : Nat) (as : List aV) : List aV := .inr (.inr (some m)) :: as
def e186 (v1 : Int32) (S : sT) : Option sT := s_go kS186 (c186_0 v1 S)
theorem q186_0 {m : Nat} {ad : Nat → Nat} {M : hM} {S : sT} (hR : rR m ad M S) (v1 : Int32) {rs : sRes sT} (h : c186_0 v1 S = some rs) : ∃ res, b186_0 m v1 M = some res ∧ simR o_V f_1 (J186 m) m ad M rs res := by
  have hs : sm m ad M M := sm.rf
  unfold c186_0 at h
  unfold b186_0
  obtain rfl := Option.some.inj h
  exact ⟨_, rfl, _, rfl, hR, hs⟩
theorem q186_2 {m : Nat} {ad : Nat → Nat} {M : hM} {S : sT} (hR : rR m ad M S) (v1 : Int32) (v2 : Int32) {rs : sRes sT} (h : c186_2 v1 v2 S = some rs) : ∃ res, b186_2 m v1 v2 M = some res ∧ simR o_V f_1 (J186 m) m ad M rs res := by
  have hs : sm m ad M M := sm.rf
  unfold c186_2 at h
  unfold b186_2
  by_cases q19 : (8 : Int32) ≤ v2
  · rw [if_pos q19] at h ⊢
    refine exb (rR_gr hR 41) ?_
    obtain ⟨S1, h3, h⟩ := bd h
    obtain ⟨M2, e4, hR5, hs6⟩ := rR_si hR h3
    replace hs6 := hs.tr hs6
    refine exb e4 ?_
    refine exb (rR_gr hR5 46) ?_
    obtain ⟨S7, h9, h⟩ := bd h
    obtain ⟨M8, e10, hR11, hs12⟩ := rR_si hR5 h9
    replace hs12 := hs6.tr hs12
    refine exb e10 ?_
    obtain rfl := Option.some.inj h
    exact ⟨_, rfl, _, rfl, hR11, hs12⟩
  · rw [if_neg q19] at h ⊢
    refine exb (rR_gr hR 39) ?_
    obtain ⟨S13, h15, h⟩ := bd h
    obtain ⟨M14, e16, hR17, hs18⟩ := rR_si hR h15
    replace hs18 := hs.tr hs18
    refine exb e16 ?_
    obtain rfl := Option.some.inj h
    exact ⟨_, rfl, _, rfl, hR17, hs18⟩
theorem u186 {m : Nat} {ad : Nat → Nat} {M : hM} {S : sT} (hR : rR m ad M S) {v1 : Int32} {q : sT} (h : e186 v1 S = some q) : ∃ M1, f186 [.inr (.inr (some m)), .inl v1] M = some (none, M1) ∧ rR m ad M1 q ∧ sm m ad M M1 := by
  unfold e186 at h
  show ∃ M1, x_go k186 (b186_0 m v1 M) = some (o_V q, M1) ∧ rR m ad M1 (f_1 q) ∧ sm m ad M M1
  refine s_go_ok (o := o_V) (f := f_1) (J := J186 m) (bs := kS186) (bk := k186) (xs := c186_0 v1 S) (x := b186_0 m v1 M) (M := M) (q := q) ?_ (fun rs hx => q186_0 hR v1 hx) h
  intro h as S M rs hR hb
  unfold kS186 at hb
  unfold k186 J186
  by_cases e0 : h = 2
  · rw [if_pos e0] at hb ⊢
    split at hb
    · subst e0; exact q186_2 hR _ _ hb
    · cases hb
  · rw [if_neg e0] at hb
    cases hb
/-! reference: empties(I)V -/
def c187_20 (v1 : Int32) (S : sT) : Option (sRes sT) :=
  Option.bind (s_s S 15 v1 (-1 : Int32)) fun S12 =>
  some (.inr (29, [.inl v1, .inl (0 : Int32)], S12))
def c187_0 (v1 : Int32) (S : sT) : Option (sRes sT) :=
  Option.bind (s_a S 15 v1) fun v_1 =>
  if v_1 = (-1 : Int32) then
    (c187_20 v1 S)
  else
    (Option.bind (s_a S 15 v1) fun v_3 =>
    Option.bind (e171 v_3 S) fun q_5 =>
    c187_20 v1 q_5)
def c187_29 (v1 : Int32) (v2 : Int32) (S : sT) : Option (sRes sT) :=
  Option.bind (s_a S 17 v1) fun v_18 =>
  if v_18 ≤ v2 then
    (some (.inr (61, [.inl v1, .inl (0 : Int32)], S)))
  else
    (Option.bind (s_a S 16 ((v1 * (4 : Int32)) + v2)) fun v_20 =>
    Option.bind (e171 v_20 S) fun q_22 =>
    some (.inr (29, [.inl v1, .inl (v2 + (1 : Int32))], q_22)))
def c187_61 (v1 : Int32) (v2 : Int32) (S : sT) : Option (sRes sT) :=
  Option.bind (s_a S 19 v1) fun v_29 =>
  if v_29 ≤ v2 then
    (Option.bind (s_s S 17 v1 (0 : Int32)) fun S31 =>
    Option.bind (s_s S31 19 v1 (0 : Int32)) fun S37 =>
    Option.bind (s_s S37 20 v1 (0 : Int32)) fun S43 =>
    Option.bind (s_s S43 21 v1 (0 : Int32)) fun S49 =>
    Option.bind (s_s S49 23 v1 (-1 : Int32)) fun S55 =>
    Option.bind (s_s S55 24 v1 (-1000 : Int32)) fun S61 =>
    Option.bind (s_s S61 25 v1 (0 : Int32)) fun S67 =>
    if (40 : Int32) ≤ v1 then
      (Option.bind (s_s S67 36 (v1 - (40 : Int32)) (-1000 : Int32)) fun S73 =>
      Option.bind (s_s S73 35 (v1 - (40 : Int32)) (0 : Int32)) fun S79 =>
      Option.bind (e186 (v1 - (40 : Int32)) S79) fun q_85 =>
      some (.inl q_85))
    else
      (some (.inl S67)))
  else
    (Option.bind (s_a S 18 ((v1 * (32 : Int32)) + v2)) fun v_92 =>
    Option.bind (e171 v_92 S) fun q_94 =>
    some (.inr (61, [.inl v1, .inl (v2 + (1 : Int32))], q_94)))
def kS187 (h : Nat) (as : List aV) (S : sT) : Option (sRes sT) :=
  if h = 29 then (match as with | [.inl v1, .inl v2] => c187_29 v1 v2 S | _ => none) else
  if h = 61 then (match as with | [.inl v1, .inl v2] => c187_61 v1 v2 S | _ => none) else
  none
def J187 (m : Nat) (h : Nat) (as : List aV) : List aV := .inr (.inr (some m)) :: as
def e187 (v1 : Int32) (S : sT) : Option sT := s_go kS187 (c187_0 v1 S)
theorem q187_20 {m : Nat} {ad : Nat → Nat} {M : hM} {S : sT} (hR : rR m ad M S) (v1 : Int32) {rs : sRes sT} (h : c187_20 v1 S = some rs) : ∃ res, b187_20 m v1 M = some res ∧ simR o_V f_1 (J187 m) m ad M rs res := by
  have hs : sm m ad M M := sm.rf
  unfold c187_20 at h
  unfold b187_20
  refine exb (rR_gr hR 15) ?_
  obtain ⟨S12, h14, h⟩ := bd h
  obtain ⟨M13, e15, hR16, hs17⟩ := rR_si hR h14
  replace hs17 := hs.tr hs17
  refine exb e15 ?_
  obtain rfl := Option.some.inj h
  exact ⟨_, rfl, _, rfl, hR16, hs17⟩
theorem q187_0 {m : Nat} {ad : Nat → Nat} {M : hM} {S : sT} (hR : rR m ad M S) (v1 : Int32) {rs : sRes sT} (h : c187_0 v1 S = some rs) : ∃ res, b187_0 m v1 M = some res ∧ simR o_V f_1 (J187 m) m ad M rs res := by
  have hs : sm m ad M M := sm.rf
  unfold c187_0 at h
  unfold b187_0
  refine exb (rR_gr hR 15) ?_
  obtain ⟨v_1, h2, h⟩ := bd h
  refine exb (rR_al hR h2) ?_
  by_cases q11 : v_1 = (-1 : Int32)
  · rw [if_pos q11] at h ⊢
    exact simT hs (q187_20 hR v1 h)
  · rw [if_neg q11] at h ⊢
    refine exb (rR_gr hR 15) ?_
    obtain ⟨v_3, h4, h⟩ := bd h
    refine exb (rR_al hR h4) ?_
    refine exb (rR_go hR) ?_
    obtain ⟨q_5, h6, h⟩ := bd h
    obtain ⟨M7, e8, hR9, hs10⟩ := u171 hR h6
    replace hs10 := hs.tr hs10
    refine exb (c_V_of e8) ?_
    exact simT hs10 (q187_20 hR9 v1 h)
theorem q187_29 {m : Nat} {ad : Nat → Nat} {M : hM} {S : sT} (hR : rR m ad M S) (v1 : Int32) (v2 : Int32) {rs : sRes sT} (h : c187_29 v1 v2 S = some rs) : ∃ res, b187_29 m v1 v2 M = some res ∧ simR o_V f_1 (J187 m) m ad M rs res := by
  have hs : sm m ad M M := sm.rf
  unfold c187_29 at h
  unfold b187_29
  refine exb (rR_gr hR 17) ?_
  obtain ⟨v_18, h19, h⟩ := bd h
  refine exb (rR_al hR h19) ?_
  by_cases q28 : v_18 ≤ v2
  · rw [if_pos q28] at h ⊢
    obtain rfl := Option.some.inj h
    exact ⟨_, rfl, _, rfl, hR, hs⟩
  · rw [if_neg q28] at h ⊢
    refine exb (rR_gr hR 16) ?_
    obtain ⟨v_20, h21, h⟩ := bd h
    refine exb (rR_al hR h21) ?_
    refine exb (rR_go hR) ?_
    obtain ⟨q_22, h23, h⟩ := bd h
    obtain ⟨M24, e25, hR26, hs27⟩ := u171 hR h23
    replace hs27 := hs.tr hs27
    refine exb (c_V_of e25) ?_
    obtain rfl := Option.some.inj h
    exact ⟨_, rfl, _, rfl, hR26, hs27⟩
theorem q187_61 {m : Nat} {ad : Nat → Nat} {M : hM} {S : sT} (hR : rR m ad M S) (v1 : Int32) (v2 : Int32) {rs : sRes sT} (h : c187_61 v1 v2 S = some rs) : ∃ res, b187_61 m v1 v2 M = some res ∧ simR o_V f_1 (J187 m) m ad M rs res := by
  have hs : sm m ad M M := sm.rf
  unfold c187_61 at h
  unfold b187_61
  refine exb (rR_gr hR 19) ?_
  obtain ⟨v_29, h30, h⟩ := bd h
  refine exb (rR_al hR h30) ?_
  by_cases q100 : v_29 ≤ v2
  · rw [if_pos q100] at h ⊢
    refine exb (rR_gr hR 17) ?_
    obtain ⟨S31, h33, h⟩ := bd h
    obtain ⟨M32, e34, hR35, hs36⟩ := rR_si hR h33
    replace hs36 := hs.tr hs36
    refine exb e34 ?_
    refine exb (rR_gr hR35 19) ?_
    obtain ⟨S37, h39, h⟩ := bd h
    obtain ⟨M38, e40, hR41, hs42⟩ := rR_si hR35 h39
    replace hs42 := hs36.tr hs42
    refine exb e40 ?_
    refine exb (rR_gr hR41 20) ?_
    obtain ⟨S43, h45, h⟩ := bd h
    obtain ⟨M44, e46, hR47, hs48⟩ := rR_si hR41 h45
    replace hs48 := hs42.tr hs48
    refine exb e46 ?_
    refine exb (rR_gr hR47 21) ?_
    obtain ⟨S49, h51, h⟩ := bd h
    obtain ⟨M50, e52, hR53, hs54⟩ := rR_si hR47 h51
    replace hs54 := hs48.tr hs54
    refine exb e52 ?_
    refine exb (rR_gr hR53 23) ?_
    obtain ⟨S55, h57, h⟩ := bd h
    obtain ⟨M56, e58, hR59, hs60⟩ := rR_si hR53 h57
    replace hs60 := hs54.tr hs60
    refine exb e58 ?_
    refine exb (rR_gr hR59 24) ?_
    obtain ⟨S61, h63, h⟩ := bd h
    obtain ⟨M62, e64, hR65, hs66⟩ := rR_si hR59 h63
    replace hs66 := hs60.tr hs66
    refine exb e64 ?_
    refine exb (rR_gr hR65 25) ?_
    obtain ⟨S67, h69, h⟩ := bd h
    obtain ⟨M68, e70, hR71, hs72⟩ := rR_si hR65 h69
    replace hs72 := hs66.tr hs72
    refine exb e70 ?_
    by_cases q91 : (40 : Int32) ≤ v1
    · rw [if_pos q91] at h ⊢
      refine exb (rR_gr hR71 36) ?_
      obtain ⟨S73, h75, h⟩ := bd h
      obtain ⟨M74, e76, hR77, hs78⟩ := rR_si hR71 h75
      replace hs78 := hs72.tr hs78
      refine exb e76 ?_
      refine exb (rR_gr hR77 35) ?_
      obtain ⟨S79, h81, h⟩ := bd h
      obtain ⟨M80, e82, hR83, hs84⟩ := rR_si hR77 h81
      replace hs84 := hs78.tr hs84
      refine exb e82 ?_
      refine exb (rR_go hR83) ?_
      obtain ⟨q_85, h86, h⟩ := bd h
      obtain ⟨M87, e88, hR89, hs90⟩ := u186 hR83 h86
      replace hs90 := hs84.tr hs90
      refine exb (c_V_of e88) ?_
      obtain rfl := Option.some.inj h
      exact ⟨_, rfl, _, rfl, hR89, hs90⟩
    · rw [if_neg q91] at h ⊢
      obtain rfl := Option.some.inj h
      exact ⟨_, rfl, _, rfl, hR71, hs72⟩
  · rw [if_neg q100] at h ⊢
    refine exb (rR_gr hR 18) ?_
    obtain ⟨v_92, h93, h⟩ := bd h
    refine exb (rR_al hR h93) ?_
    refine exb (rR_go hR) ?_
    obtain ⟨q_94, h95, h⟩ := bd h
    obtain ⟨M96, e97, hR98, hs99⟩ := u171 hR h95
    replace hs99 := hs.tr hs99
    refine exb (c_V_of e97) ?_
    obtain rfl := Option.some.inj h
    exact ⟨_, rfl, _, rfl, hR98, hs99⟩
theorem u187 {m : Nat} {ad : Nat → Nat} {M : hM} {S : sT} (hR : rR m ad M S) {v1 : Int32} {q : sT} (h : e187 v1 S = some q) : ∃ M1, f187 [.inr (.inr (some m)), .inl v1] M = some (none, M1) ∧ rR m ad M1 q ∧ sm m ad M M1 := by
  unfold e187 at h
  show ∃ M1, x_go k187 (b187_0 m v1 M) = some (o_V q, M1) ∧ rR m ad M1 (f_1 q) ∧ sm m ad M M1
  refine s_go_ok (o := o_V) (f := f_1) (J := J187 m) (bs := kS187) (bk := k187) (xs := c187_0 v1 S) (x := b187_0 m v1 M) (M := M) (q := q) ?_ (fun rs hx => q187_0 hR v1 hx) h
  intro h as S M rs hR hb
  unfold kS187 at hb
  unfold k187 J187
  by_cases e0 : h = 29
  · rw [if_pos e0] at hb ⊢
    split at hb
    · subst e0; exact q187_29 hR _ _ hb
    · cases hb
  · rw [if_neg e0] at hb
    by_cases e1 : h = 61
    · rw [if_pos e1] at hb ⊢
      split at hb
      · subst e1; exact q187_61 hR _ _ hb
      · cases hb
    · rw [if_neg e1] at hb
      cases hb
/-! reference: common(II)Z -/
def c188_24  (S : sT) : Option (sRes (Int32 × sT)) :=
  some (.inl ((0 : Int32), S))
def c188_0 (v1 : Int32) (v2 : Int32) (S : sT) : Option (sRes (Int32 × sT)) :=
  if v1 < 0 then
    (c188_24  S)
  else
    (if (s_g S 1) ≤ v1 then
      (c188_24  S)
    else
      (if v2 < 0 then
        (c188_24  S)
      else
        (if v2 < (s_g S 1) then
          (if (s_g S 38) = 0 then
            (some (.inl ((1 : Int32), S)))
          else
            (some (.inr (37, [.inl v1, .inl v2, .inl (0 : Int32)], S))))
        else
          (c188_24  S))))
def c188_37 (v1 : Int32) (v2 : Int32) (v3 : Int32) (S : sT) : Option (sRes (Int32 × sT)) :=
  if (8 : Int32) ≤ v3 then
    (some (.inl ((0 : Int32), S)))
  else
    (Option.bind (s_a S 37 v3) fun v_6 =>
    Option.bind (s_a S 37 v3) fun v_8 =>
    if (((v_6 >>> (v1 &&& 31)) &&& (v_8 >>> (v2 &&& 31))) &&& (1 : Int32)) = (1 : Int32) then
      (some (.inl ((1 : Int32), S)))
    else
      (some (.inr (37, [.inl v1, .inl v2, .inl (v3 + (1 : Int32))], S))))
def kS188 (h : Nat) (as : List aV) (S : sT) : Option (sRes (Int32 × sT)) :=
  if h = 37 then (match as with | [.inl v1, .inl v2, .inl v3] => c188_37 v1 v2 v3 S | _ => none) else
  none
def J188 (m : Nat) (h : Nat) (as : List aV) : List aV := .inr (.inr (some m)) :: as
def e188 (v1 : Int32) (v2 : Int32) (S : sT) : Option (Int32 × sT) := s_go kS188 (c188_0 v1 v2 S)
theorem q188_24 {m : Nat} {ad : Nat → Nat} {M : hM} {S : sT} (hR : rR m ad M S)  {rs : sRes (Int32 × sT)} (h : c188_24  S = some rs) : ∃ res, b188_24  M = some res ∧ simR o_I f_2 (J188 m) m ad M rs res := by
  have hs : sm m ad M M := sm.rf
  unfold c188_24 at h
  unfold b188_24
  obtain rfl := Option.some.inj h
  exact ⟨_, rfl, _, rfl, hR, hs⟩
theorem q188_0 {m : Nat} {ad : Nat → Nat} {M : hM} {S : sT} (hR : rR m ad M S) (v1 : Int32) (v2 : Int32) {rs : sRes (Int32 × sT)} (h : c188_0 v1 v2 S = some rs) : ∃ res, b188_0 m v1 v2 M = some res ∧ simR o_I f_2 (J188 m) m ad M rs res := by
  have hs : sm m ad M M := sm.rf
  unfold c188_0 at h
  unfold b188_0
  by_cases q5 : v1 < 0
  · rw [if_pos q5] at h ⊢
    exact simT hs (q188_24 hR  h)
  · rw [if_neg q5] at h ⊢
    refine exb (rR_gi hR 1) ?_
    by_cases q4 : (s_g S 1) ≤ v1
    · rw [if_pos q4] at h ⊢
      exact simT hs (q188_24 hR  h)
    · rw [if_neg q4] at h ⊢
      by_cases q3 : v2 < 0
      · rw [if_pos q3] at h ⊢
        exact simT hs (q188_24 hR  h)
      · rw [if_neg q3] at h ⊢
        refine exb (rR_gi hR 1) ?_
        by_cases q2 : v2 < (s_g S 1)
        · rw [if_pos q2] at h ⊢
          refine exb (rR_gi hR 38) ?_
          by_cases q1 : (s_g S 38) = 0
          · rw [if_pos q1] at h ⊢
            obtain rfl := Option.some.inj h
            exact ⟨_, rfl, _, rfl, hR, hs⟩
          · rw [if_neg q1] at h ⊢
            obtain rfl := Option.some.inj h
            exact ⟨_, rfl, _, rfl, hR, hs⟩
        · rw [if_neg q2] at h ⊢
          exact simT hs (q188_24 hR  h)
theorem q188_37 {m : Nat} {ad : Nat → Nat} {M : hM} {S : sT} (hR : rR m ad M S) (v1 : Int32) (v2 : Int32) (v3 : Int32) {rs : sRes (Int32 × sT)} (h : c188_37 v1 v2 v3 S = some rs) : ∃ res, b188_37 m v1 v2 v3 M = some res ∧ simR o_I f_2 (J188 m) m ad M rs res := by
  have hs : sm m ad M M := sm.rf
  unfold c188_37 at h
  unfold b188_37
  by_cases q11 : (8 : Int32) ≤ v3
  · rw [if_pos q11] at h ⊢
    obtain rfl := Option.some.inj h
    exact ⟨_, rfl, _, rfl, hR, hs⟩
  · rw [if_neg q11] at h ⊢
    refine exb (rR_gr hR 37) ?_
    obtain ⟨v_6, h7, h⟩ := bd h
    refine exb (rR_al hR h7) ?_
    refine exb (rR_gr hR 37) ?_
    obtain ⟨v_8, h9, h⟩ := bd h
    refine exb (rR_al hR h9) ?_
    by_cases q10 : (((v_6 >>> (v1 &&& 31)) &&& (v_8 >>> (v2 &&& 31))) &&& (1 : Int32)) = (1 : Int32)
    · rw [if_pos q10] at h ⊢
      obtain rfl := Option.some.inj h
      exact ⟨_, rfl, _, rfl, hR, hs⟩
    · rw [if_neg q10] at h ⊢
      obtain rfl := Option.some.inj h
      exact ⟨_, rfl, _, rfl, hR, hs⟩
theorem u188 {m : Nat} {ad : Nat → Nat} {M : hM} {S : sT} (hR : rR m ad M S) {v1 : Int32} {v2 : Int32} {q : (Int32 × sT)} (h : e188 v1 v2 S = some q) : ∃ M1, f188 [.inr (.inr (some m)), .inl v1, .inl v2] M = some (some (.inl q.1), M1) ∧ rR m ad M1 q.2 ∧ sm m ad M M1 := by
  unfold e188 at h
  show ∃ M1, x_go k188 (b188_0 m v1 v2 M) = some (o_I q, M1) ∧ rR m ad M1 (f_2 q) ∧ sm m ad M M1
  refine s_go_ok (o := o_I) (f := f_2) (J := J188 m) (bs := kS188) (bk := k188) (xs := c188_0 v1 v2 S) (x := b188_0 m v1 v2 M) (M := M) (q := q) ?_ (fun rs hx => q188_0 hR v1 v2 hx) h
  intro h as S M rs hR hb
  unfold kS188 at hb
  unfold k188 J188
  by_cases e0 : h = 37
  · rw [if_pos e0] at hb ⊢
    split at hb
    · subst e0; exact q188_37 hR _ _ _ hb
    · cases hb
  · rw [if_neg e0] at hb
    cases hb
/-! reference: nodeOf(I)I -/
def c189_0 (v1 : Int32) (S : sT) : Option (sRes (Int32 × sT)) :=
  some (.inl (((v1 &&& (255 : Int32)) - (1 : Int32)), S))
def e189 (v1 : Int32) (S : sT) : Option (Int32 × sT) := s_out (c189_0 v1 S)
theorem q189_0 {m : Nat} {ad : Nat → Nat} {M : hM} {S : sT} (hR : rR m ad M S) (v1 : Int32) {rs : sRes (Int32 × sT)} (h : c189_0 v1 S = some rs) : ∃ res, b189_0 m v1 M = some res ∧ simR o_I f_2 (fun _ as => as) m ad M rs res := by
  have hs : sm m ad M M := sm.rf
  unfold c189_0 at h
  unfold b189_0
  obtain rfl := Option.some.inj h
  exact ⟨_, rfl, _, rfl, hR, hs⟩
theorem u189 {m : Nat} {ad : Nat → Nat} {M : hM} {S : sT} (hR : rR m ad M S) {v1 : Int32} {q : (Int32 × sT)} (h : e189 v1 S = some q) : ∃ M1, f189 [.inr (.inr (some m)), .inl v1] M = some (some (.inl q.1), M1) ∧ rR m ad M1 q.2 ∧ sm m ad M M1 := by
  exact s_out_sim (o := o_I) (f := f_2) (J := fun _ as => as) (fun rs hx => q189_0 hR v1 hx) h
/-! reference: ofRecord(III)I -/
def c190_0 (v1 : Int32) (v2 : Int32) (v3 : Int32) (S : sT) : Option (sRes (Int32 × sT)) :=
  Option.bind (s_a S 29 (((64 : Int32) * (((5 : Int32) * v1) + v2)) + v3)) fun v_1 =>
  some (.inl (v_1, S))
def e190 (v1 : Int32) (v2 : Int32) (v3 : Int32) (S : sT) : Option (Int32 × sT) := s_out (c190_0 v1 v2 v3 S)
theorem q190_0 {m : Nat} {ad : Nat → Nat} {M : hM} {S : sT} (hR : rR m ad M S) (v1 : Int32) (v2 : Int32) (v3 : Int32) {rs : sRes (Int32 × sT)} (h : c190_0 v1 v2 v3 S = some rs) : ∃ res, b190_0 m v1 v2 v3 M = some res ∧ simR o_I f_2 (fun _ as => as) m ad M rs res := by
  have hs : sm m ad M M := sm.rf
  unfold c190_0 at h
  unfold b190_0
  refine exb (rR_gr hR 29) ?_
  obtain ⟨v_1, h2, h⟩ := bd h
  refine exb (rR_al hR h2) ?_
  obtain rfl := Option.some.inj h
  exact ⟨_, rfl, _, rfl, hR, hs⟩
theorem u190 {m : Nat} {ad : Nat → Nat} {M : hM} {S : sT} (hR : rR m ad M S) {v1 : Int32} {v2 : Int32} {v3 : Int32} {q : (Int32 × sT)} (h : e190 v1 v2 v3 S = some q) : ∃ M1, f190 [.inr (.inr (some m)), .inl v1, .inl v2, .inl v3] M = some (some (.inl q.1), M1) ∧ rR m ad M1 q.2 ∧ sm m ad M M1 := by
  exact s_out_sim (o := o_I) (f := f_2) (J := fun _ as => as) (fun rs hx => q190_0 hR v1 v2 v3 hx) h
/-! reference: issue(II)I -/
def c191_0 (v1 : Int32) (v2 : Int32) (S : sT) : Option (sRes (Int32 × sT)) :=
  Option.bind (e190 v1 v2 (1 : Int32) S) fun q_1 =>
  Option.bind (e190 v1 v2 (2 : Int32) q_1.2) fun q_7 =>
  Option.bind (e190 v1 v2 (3 : Int32) q_7.2) fun q_13 =>
  some (.inl ((((q_1.1 <<< ((16 : Int32) &&& 31)) ||| (q_7.1 <<< ((8 : Int32) &&& 31))) ||| q_13.1), q_13.2))
def e191 (v1 : Int32) (v2 : Int32) (S : sT) : Option (Int32 × sT) := s_out (c191_0 v1 v2 S)
theorem q191_0 {m : Nat} {ad : Nat → Nat} {M : hM} {S : sT} (hR : rR m ad M S) (v1 : Int32) (v2 : Int32) {rs : sRes (Int32 × sT)} (h : c191_0 v1 v2 S = some rs) : ∃ res, b191_0 m v1 v2 M = some res ∧ simR o_I f_2 (fun _ as => as) m ad M rs res := by
  have hs : sm m ad M M := sm.rf
  unfold c191_0 at h
  unfold b191_0
  refine exb (rR_go hR) ?_
  obtain ⟨q_1, h2, h⟩ := bd h
  obtain ⟨M3, e4, hR5, hs6⟩ := u190 hR h2
  replace hs6 := hs.tr hs6
  refine exb (c_I_of e4) ?_
  refine exb (rR_go hR5) ?_
  obtain ⟨q_7, h8, h⟩ := bd h
  obtain ⟨M9, e10, hR11, hs12⟩ := u190 hR5 h8
  replace hs12 := hs6.tr hs12
  refine exb (c_I_of e10) ?_
  refine exb (rR_go hR11) ?_
  obtain ⟨q_13, h14, h⟩ := bd h
  obtain ⟨M15, e16, hR17, hs18⟩ := u190 hR11 h14
  replace hs18 := hs12.tr hs18
  refine exb (c_I_of e16) ?_
  obtain rfl := Option.some.inj h
  exact ⟨_, rfl, _, rfl, hR17, hs18⟩
theorem u191 {m : Nat} {ad : Nat → Nat} {M : hM} {S : sT} (hR : rR m ad M S) {v1 : Int32} {v2 : Int32} {q : (Int32 × sT)} (h : e191 v1 v2 S = some q) : ∃ M1, f191 [.inr (.inr (some m)), .inl v1, .inl v2] M = some (some (.inl q.1), M1) ∧ rR m ad M1 q.2 ∧ sm m ad M M1 := by
  exact s_out_sim (o := o_I) (f := f_2) (J := fun _ as => as) (fun rs hx => q191_0 hR v1 v2 hx) h
/-! reference: nodesFrom(II)I -/
def c192_0 (v1 : Int32) (v2 : Int32) (S : sT) : Option (sRes (Int32 × sT)) :=
  Option.bind (e190 v1 v2 (5 : Int32) S) fun q_1 =>
  some (.inl (((7 : Int32) + ((3 : Int32) * q_1.1)), q_1.2))
def e192 (v1 : Int32) (v2 : Int32) (S : sT) : Option (Int32 × sT) := s_out (c192_0 v1 v2 S)
theorem q192_0 {m : Nat} {ad : Nat → Nat} {M : hM} {S : sT} (hR : rR m ad M S) (v1 : Int32) (v2 : Int32) {rs : sRes (Int32 × sT)} (h : c192_0 v1 v2 S = some rs) : ∃ res, b192_0 m v1 v2 M = some res ∧ simR o_I f_2 (fun _ as => as) m ad M rs res := by
  have hs : sm m ad M M := sm.rf
  unfold c192_0 at h
  unfold b192_0
  refine exb (rR_go hR) ?_
  obtain ⟨q_1, h2, h⟩ := bd h
  obtain ⟨M3, e4, hR5, hs6⟩ := u190 hR h2
  replace hs6 := hs.tr hs6
  refine exb (c_I_of e4) ?_
  obtain rfl := Option.some.inj h
  exact ⟨_, rfl, _, rfl, hR5, hs6⟩
theorem u192 {m : Nat} {ad : Nat → Nat} {M : hM} {S : sT} (hR : rR m ad M S) {v1 : Int32} {v2 : Int32} {q : (Int32 × sT)} (h : e192 v1 v2 S = some q) : ∃ M1, f192 [.inr (.inr (some m)), .inl v1, .inl v2] M = some (some (.inl q.1), M1) ∧ rR m ad M1 q.2 ∧ sm m ad M M1 := by
  exact s_out_sim (o := o_I) (f := f_2) (J := fun _ as => as) (fun rs hx => q192_0 hR v1 v2 hx) h
/-! reference: tells(III)I -/
def c193_0 (v1 : Int32) (v2 : Int32) (v3 : Int32) (S : sT) : Option (sRes (Int32 × sT)) :=
  Option.bind (s_a S 27 (((5 : Int32) * v1) + v2)) fun v_1 =>
  if v_1 = 0 then
    (some (.inl ((1000000 : Int32), S)))
  else
    (some (.inr (23, [.inl v1, .inl v2, .inl v3, .inl (1000000 : Int32), .inl (0 : Int32)], S)))
def c193_85 (v1 : Int32) (v2 : Int32) (v3 : Int32) (v4 : Int32) (v5 : Int32) (S : sT) : Option (sRes (Int32 × sT)) :=
  some (.inr (23, [.inl v1, .inl v2, .inl v3, .inl v4, .inl (v5 + (1 : Int32))], S))
def c193_23 (v1 : Int32) (v2 : Int32) (v3 : Int32) (v4 : Int32) (v5 : Int32) (S : sT) : Option (sRes (Int32 × sT)) :=
  Option.bind (e190 v1 v2 (5 : Int32) S) fun q_4 =>
  if q_4.1 ≤ v5 then
    (some (.inl (v4, q_4.2)))
  else
    (Option.bind (e190 v1 v2 ((7 : Int32) + ((3 : Int32) * v5)) q_4.2) fun q_10 =>
    if q_10.1 = v3 then
      (Option.bind (e190 v1 v2 ((8 : Int32) + ((3 : Int32) * v5)) q_10.2) fun q_16 =>
      if v4 ≤ q_16.1 then
        (c193_85 v1 v2 v3 v4 v5 q_16.2)
      else
        (Option.bind (e190 v1 v2 ((8 : Int32) + ((3 : Int32) * v5)) q_16.2) fun q_22 =>
        c193_85 v1 v2 v3 q_22.1 v5 q_22.2))
    else
      (c193_85 v1 v2 v3 v4 v5 q_10.2))
def kS193 (h : Nat) (as : List aV) (S : sT) : Option (sRes (Int32 × sT)) :=
  if h = 23 then (match as with | [.inl v1, .inl v2, .inl v3, .inl v4, .inl v5] => c193_23 v1 v2 v3 v4 v5 S | _ => none) else
  none
def J193 (m : Nat) (h : Nat) (as : List aV) : List aV := .inr (.inr (some m)) :: as
def e193 (v1 : Int32) (v2 : Int32) (v3 : Int32) (S : sT) : Option (Int32 × sT) := s_go kS193 (c193_0 v1 v2 v3 S)
theorem q193_0 {m : Nat} {ad : Nat → Nat} {M : hM} {S : sT} (hR : rR m ad M S) (v1 : Int32) (v2 : Int32) (v3 : Int32) {rs : sRes (Int32 × sT)} (h : c193_0 v1 v2 v3 S = some rs) : ∃ res, b193_0 m v1 v2 v3 M = some res ∧ simR o_I f_2 (J193 m) m ad M rs res := by
  have hs : sm m ad M M := sm.rf
  unfold c193_0 at h
  unfold b193_0
  refine exb (rR_gr hR 27) ?_
  obtain ⟨v_1, h2, h⟩ := bd h
  refine exb (rR_al hR h2) ?_
  by_cases q3 : v_1 = 0
  · rw [if_pos q3] at h ⊢
    obtain rfl := Option.some.inj h
    exact ⟨_, rfl, _, rfl, hR, hs⟩
  · rw [if_neg q3] at h ⊢
    obtain rfl := Option.some.inj h
    exact ⟨_, rfl, _, rfl, hR, hs⟩
theorem q193_85 {m : Nat} {ad : Nat → Nat} {M : hM} {S : sT} (hR : rR m ad M S) (v1 : Int32) (v2 : Int32) (v3 : Int32) (v4 : Int32) (v5 : Int32) {rs : sRes (Int32 × sT)} (h : c193_85 v1 v2 v3 v4 v5 S = some rs) : ∃ res, b193_85 m v1 v2 v3 v4 v5 M = some res ∧ simR o_I f_2 (J193 m) m ad M rs res := by
  have hs : sm m ad M M := sm.rf
  unfold c193_85 at h
  unfold b193_85
  obtain rfl := Option.some.inj h
  exact ⟨_, rfl, _, rfl, hR, hs⟩
theorem q193_23 {m : Nat} {ad : Nat → Nat} {M : hM} {S : sT} (hR : rR m ad M S) (v1 : Int32) (v2 : Int32) (v3 : Int32) (v4 : Int32) (v5 : Int32) {rs : sRes (Int32 × sT)} (h : c193_23 v1 v2 v3 v4 v5 S = some rs) : ∃ res, b193_23 m v1 v2 v3 v4 v5 M = some res ∧ simR o_I f_2 (J193 m) m ad M rs res := by
  have hs : sm m ad M M := sm.rf
  unfold c193_23 at h
  unfold b193_23
  refine exb (rR_go hR) ?_
  obtain ⟨q_4, h5, h⟩ := bd h
  obtain ⟨M6, e7, hR8, hs9⟩ := u190 hR h5
  replace hs9 := hs.tr hs9
  refine exb (c_I_of e7) ?_
  by_cases q30 : q_4.1 ≤ v5
  · rw [if_pos q30] at h ⊢
    obtain rfl := Option.some.inj h
    exact ⟨_, rfl, _, rfl, hR8, hs9⟩
  · rw [if_neg q30] at h ⊢
    refine exb (rR_go hR8) ?_
    obtain ⟨q_10, h11, h⟩ := bd h
    obtain ⟨M12, e13, hR14, hs15⟩ := u190 hR8 h11
    replace hs15 := hs9.tr hs15
    refine exb (c_I_of e13) ?_
    by_cases q29 : q_10.1 = v3
    · rw [if_pos q29] at h ⊢
      refine exb (rR_go hR14) ?_
      obtain ⟨q_16, h17, h⟩ := bd h
      obtain ⟨M18, e19, hR20, hs21⟩ := u190 hR14 h17
      replace hs21 := hs15.tr hs21
      refine exb (c_I_of e19) ?_
      by_cases q28 : v4 ≤ q_16.1
      · rw [if_pos q28] at h ⊢
        exact simT hs21 (q193_85 hR20 v1 v2 v3 v4 v5 h)
      · rw [if_neg q28] at h ⊢
        refine exb (rR_go hR20) ?_
        obtain ⟨q_22, h23, h⟩ := bd h
        obtain ⟨M24, e25, hR26, hs27⟩ := u190 hR20 h23
        replace hs27 := hs21.tr hs27
        refine exb (c_I_of e25) ?_
        exact simT hs27 (q193_85 hR26 v1 v2 v3 q_22.1 v5 h)
    · rw [if_neg q29] at h ⊢
      exact simT hs15 (q193_85 hR14 v1 v2 v3 v4 v5 h)
theorem u193 {m : Nat} {ad : Nat → Nat} {M : hM} {S : sT} (hR : rR m ad M S) {v1 : Int32} {v2 : Int32} {v3 : Int32} {q : (Int32 × sT)} (h : e193 v1 v2 v3 S = some q) : ∃ M1, f193 [.inr (.inr (some m)), .inl v1, .inl v2, .inl v3] M = some (some (.inl q.1), M1) ∧ rR m ad M1 q.2 ∧ sm m ad M M1 := by
  unfold e193 at h
  show ∃ M1, x_go k193 (b193_0 m v1 v2 v3 M) = some (o_I q, M1) ∧ rR m ad M1 (f_2 q) ∧ sm m ad M M1
  refine s_go_ok (o := o_I) (f := f_2) (J := J193 m) (bs := kS193) (bk := k193) (xs := c193_0 v1 v2 v3 S) (x := b193_0 m v1 v2 v3 M) (M := M) (q := q) ?_ (fun rs hx => q193_0 hR v1 v2 v3 hx) h
  intro h as S M rs hR hb
  unfold kS193 at hb
  unfold k193 J193
  by_cases e0 : h = 23
  · rw [if_pos e0] at hb ⊢
    split at hb
    · subst e0; exact q193_23 hR _ _ _ _ _ hb
    · cases hb
  · rw [if_neg e0] at hb
    cases hb
/-! reference: joined(III)Z -/
def c194_29 (si0 : Int32) (S : sT) : Option (sRes (Int32 × sT)) :=
  if si0 = 0 ∨ si0 = 1 then
    (some (.inl (si0, S)))
  else
    none
def c194_28  (S : sT) : Option (sRes (Int32 × sT)) :=
  c194_29 (0 : Int32) S
def c194_0 (v1 : Int32) (v2 : Int32) (v3 : Int32) (S : sT) : Option (sRes (Int32 × sT)) :=
  Option.bind (e193 v1 v2 v3 S) fun q_1 =>
  if (1000000 : Int32) ≤ q_1.1 then
    (c194_28  q_1.2)
  else
    (Option.bind (e193 v1 v3 v2 q_1.2) fun q_7 =>
    if (1000000 : Int32) ≤ q_7.1 then
      (c194_28  q_7.2)
    else
      (c194_29 (1 : Int32) q_7.2))
def e194 (v1 : Int32) (v2 : Int32) (v3 : Int32) (S : sT) : Option (Int32 × sT) := s_out (c194_0 v1 v2 v3 S)
theorem q194_29 {m : Nat} {ad : Nat → Nat} {M : hM} {S : sT} (hR : rR m ad M S) (si0 : Int32) {rs : sRes (Int32 × sT)} (h : c194_29 si0 S = some rs) : ∃ res, b194_29 si0 M = some res ∧ simR o_I f_2 (fun _ as => as) m ad M rs res := by
  have hs : sm m ad M M := sm.rf
  unfold c194_29 at h
  unfold b194_29
  by_cases q15 : si0 = 0 ∨ si0 = 1
  · rw [if_pos q15] at h ⊢
    obtain rfl := Option.some.inj h
    exact ⟨_, rfl, _, rfl, hR, hs⟩
  · rw [if_neg q15] at h
    cases h
theorem q194_28 {m : Nat} {ad : Nat → Nat} {M : hM} {S : sT} (hR : rR m ad M S)  {rs : sRes (Int32 × sT)} (h : c194_28  S = some rs) : ∃ res, b194_28  M = some res ∧ simR o_I f_2 (fun _ as => as) m ad M rs res := by
  have hs : sm m ad M M := sm.rf
  unfold c194_28 at h
  unfold b194_28
  exact simT hs (q194_29 hR (0 : Int32) h)
theorem q194_0 {m : Nat} {ad : Nat → Nat} {M : hM} {S : sT} (hR : rR m ad M S) (v1 : Int32) (v2 : Int32) (v3 : Int32) {rs : sRes (Int32 × sT)} (h : c194_0 v1 v2 v3 S = some rs) : ∃ res, b194_0 m v1 v2 v3 M = some res ∧ simR o_I f_2 (fun _ as => as) m ad M rs res := by
  have hs : sm m ad M M := sm.rf
  unfold c194_0 at h
  unfold b194_0
  refine exb (rR_go hR) ?_
  obtain ⟨q_1, h2, h⟩ := bd h
  obtain ⟨M3, e4, hR5, hs6⟩ := u193 hR h2
  replace hs6 := hs.tr hs6
  refine exb (c_I_of e4) ?_
  by_cases q14 : (1000000 : Int32) ≤ q_1.1
  · rw [if_pos q14] at h ⊢
    exact simT hs6 (q194_28 hR5  h)
  · rw [if_neg q14] at h ⊢
    refine exb (rR_go hR5) ?_
    obtain ⟨q_7, h8, h⟩ := bd h
    obtain ⟨M9, e10, hR11, hs12⟩ := u193 hR5 h8
    replace hs12 := hs6.tr hs12
    refine exb (c_I_of e10) ?_
    by_cases q13 : (1000000 : Int32) ≤ q_7.1
    · rw [if_pos q13] at h ⊢
      exact simT hs12 (q194_28 hR11  h)
    · rw [if_neg q13] at h ⊢
      exact simT hs12 (q194_29 hR11 (1 : Int32) h)
theorem u194 {m : Nat} {ad : Nat → Nat} {M : hM} {S : sT} (hR : rR m ad M S) {v1 : Int32} {v2 : Int32} {v3 : Int32} {q : (Int32 × sT)} (h : e194 v1 v2 v3 S = some q) : ∃ M1, f194 [.inr (.inr (some m)), .inl v1, .inl v2, .inl v3] M = some (some (.inl q.1), M1) ∧ rR m ad M1 q.2 ∧ sm m ad M M1 := by
  exact s_out_sim (o := o_I) (f := f_2) (J := fun _ as => as) (fun rs hx => q194_0 hR v1 v2 v3 hx) h
/-! reference: sums(I)V -/
def c195_0 (v1 : Int32) (S : sT) : Option (sRes sT) :=
  some (.inr (2, [.inl v1, .inl (0 : Int32)], S))
def c195_2 (v1 : Int32) (v2 : Int32) (S : sT) : Option (sRes sT) :=
  if (5 : Int32) ≤ v2 then
    (some (.inr (69, [.inl (0 : Int32)], S)))
  else
    (some (.inr (9, [.inl v1, .inl v2, .inl (0 : Int32)], S)))
def c195_54 (v1 : Int32) (v2 : Int32) (v3 : Int32) (si0 : Int32) (si1 : Int32) (S : sT) : Option (sRes sT) :=
  Option.bind (s_s S 32 si1 si0) fun S17 =>
  some (.inr (9, [.inl v1, .inl v2, .inl (v3 + (1 : Int32))], S17))
def c195_9 (v1 : Int32) (v2 : Int32) (v3 : Int32) (S : sT) : Option (sRes sT) :=
  if (5 : Int32) ≤ v3 then
    (some (.inr (2, [.inl v1, .inl (v2 + (1 : Int32))], S)))
  else
    (if v2 = v3 then
      (c195_54 v1 v2 v3 (0 : Int32) (((5 : Int32) * v2) + v3) S)
    else
      (Option.bind (e194 v1 v2 v3 S) fun q_2 =>
      if q_2.1 = 0 then
        (c195_54 v1 v2 v3 (1000000 : Int32) (((5 : Int32) * v2) + v3) q_2.2)
      else
        (Option.bind (e193 v1 v2 v3 q_2.2) fun q_8 =>
        c195_54 v1 v2 v3 q_8.1 (((5 : Int32) * v2) + v3) q_8.2)))
def c195_69 (v2 : Int32) (S : sT) : Option (sRes sT) :=
  if (5 : Int32) ≤ v2 then
    (some (.inl S))
  else
    (some (.inr (76, [.inl v2, .inl (0 : Int32)], S)))
def c195_76 (v2 : Int32) (v3 : Int32) (S : sT) : Option (sRes sT) :=
  if (5 : Int32) ≤ v3 then
    (some (.inr (69, [.inl (v2 + (1 : Int32))], S)))
  else
    (some (.inr (84, [.inl v2, .inl v3, .inl (0 : Int32)], S)))
def c195_84 (v2 : Int32) (v3 : Int32) (v4 : Int32) (S : sT) : Option (sRes sT) :=
  if (5 : Int32) ≤ v4 then
    (some (.inr (76, [.inl v2, .inl (v3 + (1 : Int32))], S)))
  else
    (Option.bind (s_a S 32 (((5 : Int32) * v3) + v4)) fun v_25 =>
    Option.bind (s_a S 32 (((5 : Int32) * v3) + v2)) fun v_27 =>
    Option.bind (s_a S 32 (((5 : Int32) * v2) + v4)) fun v_29 =>
    Option.bind (s_s S 32 (((5 : Int32) * v3) + v4) (if (v_27 + v_29) < v_25 then (v_27 + v_29) else v_25)) fun S31 =>
    some (.inr (84, [.inl v2, .inl v3, .inl (v4 + (1 : Int32))], S31)))
def kS195 (h : Nat) (as : List aV) (S : sT) : Option (sRes sT) :=
  if h = 2 then (match as with | [.inl v1, .inl v2] => c195_2 v1 v2 S | _ => none) else
  if h = 9 then (match as with | [.inl v1, .inl v2, .inl v3] => c195_9 v1 v2 v3 S | _ => none) else
  if h = 69 then (match as with | [.inl v2] => c195_69 v2 S | _ => none) else
  if h = 76 then (match as with | [.inl v2, .inl v3] => c195_76 v2 v3 S | _ => none) else
  if h = 84 then (match as with | [.inl v2, .inl v3, .inl v4] => c195_84 v2 v3 v4 S | _ => none) else
  none
def J195 (m : Nat) (h : Nat) (as : List aV) : List aV := .inr (.inr (some m)) :: as
def e195 (v1 : Int32) (S : sT) : Option sT := s_go kS195 (c195_0 v1 S)
theorem q195_0 {m : Nat} {ad : Nat → Nat} {M : hM} {S : sT} (hR : rR m ad M S) (v1 : Int32) {rs : sRes sT} (h : c195_0 v1 S = some rs) : ∃ res, b195_0 m v1 M = some res ∧ simR o_V f_1 (J195 m) m ad M rs res := by
  have hs : sm m ad M M := sm.rf
  unfold c195_0 at h
  unfold b195_0
  obtain rfl := Option.some.inj h
  exact ⟨_, rfl, _, rfl, hR, hs⟩
theorem q195_2 {m : Nat} {ad : Nat → Nat} {M : hM} {S : sT} (hR : rR m ad M S) (v1 : Int32) (v2 : Int32) {rs : sRes sT} (h : c195_2 v1 v2 S = some rs) : ∃ res, b195_2 m v1 v2 M = some res ∧ simR o_V f_1 (J195 m) m ad M rs res := by
  have hs : sm m ad M M := sm.rf
  unfold c195_2 at h
  unfold b195_2
  by_cases q1 : (5 : Int32) ≤ v2
  · rw [if_pos q1] at h ⊢
    obtain rfl := Option.some.inj h
    exact ⟨_, rfl, _, rfl, hR, hs⟩
  · rw [if_neg q1] at h ⊢
    obtain rfl := Option.some.inj h
    exact ⟨_, rfl, _, rfl, hR, hs⟩
theorem q195_54 {m : Nat} {ad : Nat → Nat} {M : hM} {S : sT} (hR : rR m ad M S) (v1 : Int32) (v2 : Int32) (v3 : Int32) (si0 : Int32) (si1 : Int32) {rs : sRes sT} (h : c195_54 v1 v2 v3 si0 si1 S = some rs) : ∃ res, b195_54 m v1 v2 v3 si0 si1 (some (ad 32)) M = some res ∧ simR o_V f_1 (J195 m) m ad M rs res := by
  have hs : sm m ad M M := sm.rf
  unfold c195_54 at h
  unfold b195_54
  obtain ⟨S17, h19, h⟩ := bd h
  obtain ⟨M18, e20, hR21, hs22⟩ := rR_si hR h19
  replace hs22 := hs.tr hs22
  refine exb e20 ?_
  obtain rfl := Option.some.inj h
  exact ⟨_, rfl, _, rfl, hR21, hs22⟩
theorem q195_9 {m : Nat} {ad : Nat → Nat} {M : hM} {S : sT} (hR : rR m ad M S) (v1 : Int32) (v2 : Int32) (v3 : Int32) {rs : sRes sT} (h : c195_9 v1 v2 v3 S = some rs) : ∃ res, b195_9 m v1 v2 v3 M = some res ∧ simR o_V f_1 (J195 m) m ad M rs res := by
  have hs : sm m ad M M := sm.rf
  unfold c195_9 at h
  unfold b195_9
  by_cases q16 : (5 : Int32) ≤ v3
  · rw [if_pos q16] at h ⊢
    obtain rfl := Option.some.inj h
    exact ⟨_, rfl, _, rfl, hR, hs⟩
  · rw [if_neg q16] at h ⊢
    refine exb (rR_gr hR 32) ?_
    by_cases q15 : v2 = v3
    · rw [if_pos q15] at h ⊢
      exact simT hs (q195_54 hR v1 v2 v3 (0 : Int32) (((5 : Int32) * v2) + v3) h)
    · rw [if_neg q15] at h ⊢
      refine exb (rR_go hR) ?_
      obtain ⟨q_2, h3, h⟩ := bd h
      obtain ⟨M4, e5, hR6, hs7⟩ := u194 hR h3
      replace hs7 := hs.tr hs7
      refine exb (c_I_of e5) ?_
      by_cases q14 : q_2.1 = 0
      · rw [if_pos q14] at h ⊢
        exact simT hs7 (q195_54 hR6 v1 v2 v3 (1000000 : Int32) (((5 : Int32) * v2) + v3) h)
      · rw [if_neg q14] at h ⊢
        refine exb (rR_go hR6) ?_
        obtain ⟨q_8, h9, h⟩ := bd h
        obtain ⟨M10, e11, hR12, hs13⟩ := u193 hR6 h9
        replace hs13 := hs7.tr hs13
        refine exb (c_I_of e11) ?_
        exact simT hs13 (q195_54 hR12 v1 v2 v3 q_8.1 (((5 : Int32) * v2) + v3) h)
theorem q195_69 {m : Nat} {ad : Nat → Nat} {M : hM} {S : sT} (hR : rR m ad M S) (v2 : Int32) {rs : sRes sT} (h : c195_69 v2 S = some rs) : ∃ res, b195_69 m v2 M = some res ∧ simR o_V f_1 (J195 m) m ad M rs res := by
  have hs : sm m ad M M := sm.rf
  unfold c195_69 at h
  unfold b195_69
  by_cases q23 : (5 : Int32) ≤ v2
  · rw [if_pos q23] at h ⊢
    obtain rfl := Option.some.inj h
    exact ⟨_, rfl, _, rfl, hR, hs⟩
  · rw [if_neg q23] at h ⊢
    obtain rfl := Option.some.inj h
    exact ⟨_, rfl, _, rfl, hR, hs⟩
theorem q195_76 {m : Nat} {ad : Nat → Nat} {M : hM} {S : sT} (hR : rR m ad M S) (v2 : Int32) (v3 : Int32) {rs : sRes sT} (h : c195_76 v2 v3 S = some rs) : ∃ res, b195_76 m v2 v3 M = some res ∧ simR o_V f_1 (J195 m) m ad M rs res := by
  have hs : sm m ad M M := sm.rf
  unfold c195_76 at h
  unfold b195_76
  by_cases q24 : (5 : Int32) ≤ v3
  · rw [if_pos q24] at h ⊢
    obtain rfl := Option.some.inj h
    exact ⟨_, rfl, _, rfl, hR, hs⟩
  · rw [if_neg q24] at h ⊢
    obtain rfl := Option.some.inj h
    exact ⟨_, rfl, _, rfl, hR, hs⟩
theorem q195_84 {m : Nat} {ad : Nat → Nat} {M : hM} {S : sT} (hR : rR m ad M S) (v2 : Int32) (v3 : Int32) (v4 : Int32) {rs : sRes sT} (h : c195_84 v2 v3 v4 S = some rs) : ∃ res, b195_84 m v2 v3 v4 M = some res ∧ simR o_V f_1 (J195 m) m ad M rs res := by
  have hs : sm m ad M M := sm.rf
  unfold c195_84 at h
  unfold b195_84
  by_cases q37 : (5 : Int32) ≤ v4
  · rw [if_pos q37] at h ⊢
    obtain rfl := Option.some.inj h
    exact ⟨_, rfl, _, rfl, hR, hs⟩
  · rw [if_neg q37] at h ⊢
    refine exb (rR_gr hR 32) ?_
    refine exb (rR_gr hR 32) ?_
    obtain ⟨v_25, h26, h⟩ := bd h
    refine exb (rR_al hR h26) ?_
    refine exb (rR_gr hR 32) ?_
    obtain ⟨v_27, h28, h⟩ := bd h
    refine exb (rR_al hR h28) ?_
    refine exb (rR_gr hR 32) ?_
    obtain ⟨v_29, h30, h⟩ := bd h
    refine exb (rR_al hR h30) ?_
    obtain ⟨S31, h33, h⟩ := bd h
    obtain ⟨M32, e34, hR35, hs36⟩ := rR_si hR h33
    replace hs36 := hs.tr hs36
    refine exb e34 ?_
    obtain rfl := Option.some.inj h
    exact ⟨_, rfl, _, rfl, hR35, hs36⟩
theorem u195 {m : Nat} {ad : Nat → Nat} {M : hM} {S : sT} (hR : rR m ad M S) {v1 : Int32} {q : sT} (h : e195 v1 S = some q) : ∃ M1, f195 [.inr (.inr (some m)), .inl v1] M = some (none, M1) ∧ rR m ad M1 q ∧ sm m ad M M1 := by
  unfold e195 at h
  show ∃ M1, x_go k195 (b195_0 m v1 M) = some (o_V q, M1) ∧ rR m ad M1 (f_1 q) ∧ sm m ad M M1
  refine s_go_ok (o := o_V) (f := f_1) (J := J195 m) (bs := kS195) (bk := k195) (xs := c195_0 v1 S) (x := b195_0 m v1 M) (M := M) (q := q) ?_ (fun rs hx => q195_0 hR v1 hx) h
  intro h as S M rs hR hb
  unfold kS195 at hb
  unfold k195 J195
  by_cases e0 : h = 2
  · rw [if_pos e0] at hb ⊢
    split at hb
    · subst e0; exact q195_2 hR _ _ hb
    · cases hb
  · rw [if_neg e0] at hb
    by_cases e1 : h = 9
    · rw [if_pos e1] at hb ⊢
      split at hb
      · subst e1; exact q195_9 hR _ _ _ hb
      · cases hb
    · rw [if_neg e1] at hb
      by_cases e2 : h = 69
      · rw [if_pos e2] at hb ⊢
        split at hb
        · subst e2; exact q195_69 hR _ hb
        · cases hb
      · rw [if_neg e2] at hb
        by_cases e3 : h = 76
        · rw [if_pos e3] at hb ⊢
          split at hb
          · subst e3; exact q195_76 hR _ _ hb
          · cases hb
        · rw [if_neg e3] at hb
          by_cases e4 : h = 84
          · rw [if_pos e4] at hb ⊢
            split at hb
            · subst e4; exact q195_84 hR _ _ _ hb
            · cases hb
          · rw [if_neg e4] at hb
            cases hb
