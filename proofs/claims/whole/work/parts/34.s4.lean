/-! reference: addressOf(II)I -/
def c227_0 (v1 : Int32) (v2 : Int32) (S : sT) : Option (sRes (Int32 × sT)) :=
  Option.bind (e195 v1 S) fun q_1 =>
  some (.inr (7, [.inl v1, .inl v2, .inl (0 : Int32)], q_1))
def c227_132 (v1 : Int32) (v2 : Int32) (v3 : Int32) (S : sT) : Option (sRes (Int32 × sT)) :=
  some (.inr (7, [.inl v1, .inl v2, .inl (v3 + (1 : Int32))], S))
def c227_7 (v1 : Int32) (v2 : Int32) (v3 : Int32) (S : sT) : Option (sRes (Int32 × sT)) :=
  if (s_g S 0) ≤ v3 then
    (some (.inl ((0 : Int32), S)))
  else
    (Option.bind (s_a S 27 (((5 : Int32) * v1) + v3)) fun v_7 =>
    if v_7 = 0 then
      (c227_132 v1 v2 v3 S)
    else
      (Option.bind (e197 v1 v3 S) fun q_9 =>
      if q_9.1 = 0 then
        (c227_132 v1 v2 v3 q_9.2)
      else
        (Option.bind (e199 v1 v3 q_9.2) fun q_15 =>
        if q_15.1 = 0 then
          (Option.bind (e192 v1 v3 q_15.2) fun q_21 =>
          some (.inr (60, [.inl v1, .inl v2, .inl v3, .inl q_21.1, .inl (0 : Int32)], q_21.2)))
        else
          (c227_132 v1 v2 v3 q_15.2))))
def c227_60 (v1 : Int32) (v2 : Int32) (v3 : Int32) (v4 : Int32) (v5 : Int32) (S : sT) : Option (sRes (Int32 × sT)) :=
  Option.bind (e190 v1 v3 (v4 - (1 : Int32)) S) fun q_31 =>
  if q_31.1 ≤ v5 then
    (c227_132 v1 v2 v3 q_31.2)
  else
    (Option.bind (e190 v1 v3 (v4 + ((2 : Int32) * v5)) q_31.2) fun q_37 =>
    if q_37.1 = v2 then
      (Option.bind (e190 v1 v3 (4 : Int32) q_37.2) fun q_43 =>
      Option.bind (e190 v1 v3 ((v4 + ((2 : Int32) * v5)) + (1 : Int32)) q_43.2) fun q_49 =>
      some (.inl ((((q_43.1 <<< ((16 : Int32) &&& 31)) ||| (q_49.1 <<< ((8 : Int32) &&& 31))) ||| (v2 + (1 : Int32))), q_49.2)))
    else
      (some (.inr (60, [.inl v1, .inl v2, .inl v3, .inl v4, .inl (v5 + (1 : Int32))], q_37.2))))
def kS227 (h : Nat) (as : List aV) (S : sT) : Option (sRes (Int32 × sT)) :=
  if h = 7 then (match as with | [.inl v1, .inl v2, .inl v3] => c227_7 v1 v2 v3 S | _ => none) else
  if h = 60 then (match as with | [.inl v1, .inl v2, .inl v3, .inl v4, .inl v5] => c227_60 v1 v2 v3 v4 v5 S | _ => none) else
  none
def J227 (m : Nat) (h : Nat) (as : List aV) : List aV := .inr (.inr (some m)) :: as
def e227 (v1 : Int32) (v2 : Int32) (S : sT) : Option (Int32 × sT) := s_go kS227 (c227_0 v1 v2 S)
theorem q227_0 {m : Nat} {ad : Nat → Nat} {M : hM} {S : sT} (hR : rR m ad M S) (v1 : Int32) (v2 : Int32) {rs : sRes (Int32 × sT)} (h : c227_0 v1 v2 S = some rs) : ∃ res, b227_0 m v1 v2 M = some res ∧ simR o_I f_2 (J227 m) m ad M rs res := by
  have hs : sm m ad M M := sm.rf
  unfold c227_0 at h
  unfold b227_0
  refine exb (rR_go hR) ?_
  obtain ⟨q_1, h2, h⟩ := bd h
  obtain ⟨M3, e4, hR5, hs6⟩ := u195 hR h2
  replace hs6 := hs.tr hs6
  refine exb (c_V_of e4) ?_
  obtain rfl := Option.some.inj h
  exact ⟨_, rfl, _, rfl, hR5, hs6⟩
theorem q227_132 {m : Nat} {ad : Nat → Nat} {M : hM} {S : sT} (hR : rR m ad M S) (v1 : Int32) (v2 : Int32) (v3 : Int32) {rs : sRes (Int32 × sT)} (h : c227_132 v1 v2 v3 S = some rs) : ∃ res, b227_132 m v1 v2 v3 M = some res ∧ simR o_I f_2 (J227 m) m ad M rs res := by
  have hs : sm m ad M M := sm.rf
  unfold c227_132 at h
  unfold b227_132
  obtain rfl := Option.some.inj h
  exact ⟨_, rfl, _, rfl, hR, hs⟩
theorem q227_7 {m : Nat} {ad : Nat → Nat} {M : hM} {S : sT} (hR : rR m ad M S) (v1 : Int32) (v2 : Int32) (v3 : Int32) {rs : sRes (Int32 × sT)} (h : c227_7 v1 v2 v3 S = some rs) : ∃ res, b227_7 m v1 v2 v3 M = some res ∧ simR o_I f_2 (J227 m) m ad M rs res := by
  have hs : sm m ad M M := sm.rf
  unfold c227_7 at h
  unfold b227_7
  refine exb (rR_gi hR 0) ?_
  by_cases q30 : (s_g S 0) ≤ v3
  · rw [if_pos q30] at h ⊢
    obtain rfl := Option.some.inj h
    exact ⟨_, rfl, _, rfl, hR, hs⟩
  · rw [if_neg q30] at h ⊢
    refine exb (rR_gr hR 27) ?_
    obtain ⟨v_7, h8, h⟩ := bd h
    refine exb (rR_al hR h8) ?_
    by_cases q29 : v_7 = 0
    · rw [if_pos q29] at h ⊢
      exact simT hs (q227_132 hR v1 v2 v3 h)
    · rw [if_neg q29] at h ⊢
      refine exb (rR_go hR) ?_
      obtain ⟨q_9, h10, h⟩ := bd h
      obtain ⟨M11, e12, hR13, hs14⟩ := u197 hR h10
      replace hs14 := hs.tr hs14
      refine exb (c_I_of e12) ?_
      by_cases q28 : q_9.1 = 0
      · rw [if_pos q28] at h ⊢
        exact simT hs14 (q227_132 hR13 v1 v2 v3 h)
      · rw [if_neg q28] at h ⊢
        refine exb (rR_go hR13) ?_
        obtain ⟨q_15, h16, h⟩ := bd h
        obtain ⟨M17, e18, hR19, hs20⟩ := u199 hR13 h16
        replace hs20 := hs14.tr hs20
        refine exb (c_I_of e18) ?_
        by_cases q27 : q_15.1 = 0
        · rw [if_pos q27] at h ⊢
          refine exb (rR_go hR19) ?_
          obtain ⟨q_21, h22, h⟩ := bd h
          obtain ⟨M23, e24, hR25, hs26⟩ := u192 hR19 h22
          replace hs26 := hs20.tr hs26
          refine exb (c_I_of e24) ?_
          obtain rfl := Option.some.inj h
          exact ⟨_, rfl, _, rfl, hR25, hs26⟩
        · rw [if_neg q27] at h ⊢
          exact simT hs20 (q227_132 hR19 v1 v2 v3 h)
theorem q227_60 {m : Nat} {ad : Nat → Nat} {M : hM} {S : sT} (hR : rR m ad M S) (v1 : Int32) (v2 : Int32) (v3 : Int32) (v4 : Int32) (v5 : Int32) {rs : sRes (Int32 × sT)} (h : c227_60 v1 v2 v3 v4 v5 S = some rs) : ∃ res, b227_60 m v1 v2 v3 v4 v5 M = some res ∧ simR o_I f_2 (J227 m) m ad M rs res := by
  have hs : sm m ad M M := sm.rf
  unfold c227_60 at h
  unfold b227_60
  refine exb (rR_go hR) ?_
  obtain ⟨q_31, h32, h⟩ := bd h
  obtain ⟨M33, e34, hR35, hs36⟩ := u190 hR h32
  replace hs36 := hs.tr hs36
  refine exb (c_I_of e34) ?_
  by_cases q56 : q_31.1 ≤ v5
  · rw [if_pos q56] at h ⊢
    exact simT hs36 (q227_132 hR35 v1 v2 v3 h)
  · rw [if_neg q56] at h ⊢
    refine exb (rR_go hR35) ?_
    obtain ⟨q_37, h38, h⟩ := bd h
    obtain ⟨M39, e40, hR41, hs42⟩ := u190 hR35 h38
    replace hs42 := hs36.tr hs42
    refine exb (c_I_of e40) ?_
    by_cases q55 : q_37.1 = v2
    · rw [if_pos q55] at h ⊢
      refine exb (rR_go hR41) ?_
      obtain ⟨q_43, h44, h⟩ := bd h
      obtain ⟨M45, e46, hR47, hs48⟩ := u190 hR41 h44
      replace hs48 := hs42.tr hs48
      refine exb (c_I_of e46) ?_
      refine exb (rR_go hR47) ?_
      obtain ⟨q_49, h50, h⟩ := bd h
      obtain ⟨M51, e52, hR53, hs54⟩ := u190 hR47 h50
      replace hs54 := hs48.tr hs54
      refine exb (c_I_of e52) ?_
      obtain rfl := Option.some.inj h
      exact ⟨_, rfl, _, rfl, hR53, hs54⟩
    · rw [if_neg q55] at h ⊢
      obtain rfl := Option.some.inj h
      exact ⟨_, rfl, _, rfl, hR41, hs42⟩
theorem u227 {m : Nat} {ad : Nat → Nat} {M : hM} {S : sT} (hR : rR m ad M S) {v1 : Int32} {v2 : Int32} {q : (Int32 × sT)} (h : e227 v1 v2 S = some q) : ∃ M1, f227 [.inr (.inr (some m)), .inl v1, .inl v2] M = some (some (.inl q.1), M1) ∧ rR m ad M1 q.2 ∧ sm m ad M M1 := by
  unfold e227 at h
  show ∃ M1, x_go k227 (b227_0 m v1 v2 M) = some (o_I q, M1) ∧ rR m ad M1 (f_2 q) ∧ sm m ad M M1
  refine s_go_ok (o := o_I) (f := f_2) (J := J227 m) (bs := kS227) (bk := k227) (xs := c227_0 v1 v2 S) (x := b227_0 m v1 v2 M) (M := M) (q := q) ?_ (fun rs hx => q227_0 hR v1 v2 hx) h
  intro h as S M rs hR hb
  unfold kS227 at hb
  unfold k227 J227
  by_cases e0 : h = 7
  · rw [if_pos e0] at hb ⊢
    split at hb
    · subst e0; exact q227_7 hR _ _ _ hb
    · cases hb
  · rw [if_neg e0] at hb
    by_cases e1 : h = 60
    · rw [if_pos e1] at hb ⊢
      split at hb
      · subst e1; exact q227_60 hR _ _ _ _ _ hb
      · cases hb
    · rw [if_neg e1] at hb
      cases hb
/-! reference: taken(IIII)V -/
def c228_167  (S : sT) : Option (sRes sT) :=
  some (.inl S)
def c228_164 (v1 : Int32) (v2 : Int32) (v3 : Int32) (v7 : Int32) (si0 : Int32) (si1 : Int32) (S : sT) : Option (sRes sT) :=
  if si0 < si1 then
    (Option.bind (s_sz S 27 (((5 : Int32) * v1) + v7) (1 : Int32)) fun S64 =>
    Option.bind (s_s S64 28 (((5 : Int32) * v1) + v7) (s_g S64 3)) fun S70 =>
    Option.bind (s_a S70 7 v3) fun v_76 =>
    Option.bind (s_s S70 30 (((5 : Int32) * v1) + v7) (v_76 - (17 : Int32))) fun S78 =>
    some (.inr (218, [.inl v1, .inl v2, .inl v3, .inl v7, .inl (0 : Int32)], S78)))
  else
    (c228_167  S)
def c228_405  (S : sT) : Option (sRes sT) :=
  Option.bind (s_a S 4 (2 : Int32)) fun v_180 =>
  Option.bind (s_s S 4 (2 : Int32) (v_180 + (1 : Int32))) fun S182 =>
  some (.inl S182)
def c228_483  (S : sT) : Option (sRes sT) :=
  some (.inl S)
def c228_472 (v2 : Int32) (v8 : Int32) (sl0 : Int64) (si1 : Int32) (S : sT) : Option (sRes sT) :=
  Option.bind (e167 si1 sl0 (3 : Int32) S) fun q_188 =>
  Option.bind (e183 v2 v8 q_188) fun q_194 =>
  c228_483  q_194
def c228_360 (v1 : Int32) (v2 : Int32) (v3 : Int32) (v4 : Int32) (v5 : Int32) (v6 : Int32) (v7 : Int32) (S : sT) : Option (sRes sT) :=
  if v5 = (5 : Int32) then
    (if v4 = (16777212 : Int32) then
      (if v6 = (-1 : Int32) then
        (c228_483  S)
      else
        (Option.bind (s_a S 25 v2) fun v_138 =>
        if v_138 = 0 then
          (c228_405  S)
        else
          (Option.bind (e166 v3 (4 : Int32) (3 : Int32) S) fun q_140 =>
          Option.bind (s_a q_140.2 25 v2) fun v_146 =>
          if q_140.1 = v_146 then
            (Option.bind (s_a q_140.2 25 v2) fun v_148 =>
            Option.bind (e168 (6 : Int32) v_148 (16777212 : Int32) (0 : Int32) (0 : Int32) (0 : Int32) q_140.2) fun q_150 =>
            Option.bind (e167 q_150.1 (Int32.toInt64 v7) (1 : Int32) q_150.2) fun q_156 =>
            Option.bind (e188 v6 v7 q_156) fun q_162 =>
            if q_162.1 = 0 then
              (c228_472 v2 q_150.1 (0 : Int64) q_150.1 q_162.2)
            else
              (Option.bind (e227 v1 v7 q_162.2) fun q_168 =>
              c228_472 v2 q_150.1 (Int32.toInt64 q_168.1) q_150.1 q_168.2))
          else
            (c228_405  q_140.2))))
    else
      (c228_483  S))
  else
    (c228_483  S)
def c228_276 (v1 : Int32) (v2 : Int32) (v3 : Int32) (v4 : Int32) (v5 : Int32) (v6 : Int32) (v7 : Int32) (S : sT) : Option (sRes sT) :=
  if v5 = (3 : Int32) then
    (if v4 = (16777214 : Int32) then
      (if v6 = (-1 : Int32) then
        (c228_360 v1 v2 v3 v4 v5 v6 v7 S)
      else
        (Option.bind (e200 v1 S) fun q_106 =>
        if q_106.1 = 0 then
          (Option.bind (s_a q_106.2 26 v1) fun v_112 =>
          Option.bind (s_s q_106.2 25 v2 (((v_112 <<< ((16 : Int32) &&& 31)) ||| ((v2 - ((8 : Int32) * v1)) <<< ((8 : Int32) &&& 31))) ||| (v6 + (1 : Int32)))) fun S114 =>
          Option.bind (s_a S114 25 v2) fun v_120 =>
          Option.bind (e168 (4 : Int32) v_120 (16777214 : Int32) (0 : Int32) (0 : Int32) (0 : Int32) S114) fun q_122 =>
          Option.bind (e183 v2 q_122.1 q_122.2) fun q_128 =>
          c228_483  q_128)
        else
          (some (.inl q_106.2))))
    else
      (c228_360 v1 v2 v3 v4 v5 v6 v7 S))
  else
    (c228_360 v1 v2 v3 v4 v5 v6 v7 S)
def c228_105 (v1 : Int32) (v2 : Int32) (v3 : Int32) (v4 : Int32) (v5 : Int32) (v6 : Int32) (v7 : Int32) (S : sT) : Option (sRes sT) :=
  if v5 = (2 : Int32) then
    (if v4 = (16777213 : Int32) then
      (if v6 = (-1 : Int32) then
        (if v7 = v1 then
          (c228_167  S)
        else
          (Option.bind (e166 v3 (14 : Int32) (3 : Int32) S) fun q_45 =>
          Option.bind (s_a q_45.2 27 (((5 : Int32) * v1) + v7)) fun v_51 =>
          if v_51 = 0 then
            (c228_164 v1 v2 v3 v7 (0 : Int32) q_45.1 q_45.2)
          else
            (Option.bind (e191 v1 v7 q_45.2) fun q_53 =>
            c228_164 v1 v2 v3 v7 q_53.1 q_45.1 q_53.2)))
      else
        (c228_276 v1 v2 v3 v4 v5 v6 v7 S))
    else
      (c228_276 v1 v2 v3 v4 v5 v6 v7 S))
  else
    (c228_276 v1 v2 v3 v4 v5 v6 v7 S)
def c228_0 (v1 : Int32) (v2 : Int32) (v3 : Int32) (v4 : Int32) (S : sT) : Option (sRes sT) :=
  Option.bind (e165 v3 (0 : Int32) S) fun q_1 =>
  Option.bind (e179 v2 q_1.2) fun q_7 =>
  Option.bind (e165 v3 (13 : Int32) q_7.2) fun q_13 =>
  if q_1.1 = (1 : Int32) then
    (if v4 = (16777213 : Int32) then
      (if q_7.1 = (-1 : Int32) then
        (Option.bind (s_s q_13.2 23 v2 q_13.1) fun S19 =>
        some (.inr (55, [.inl v1, .inl v2, .inl (0 : Int32)], S19)))
      else
        (c228_105 v1 v2 v3 v4 q_1.1 q_7.1 q_13.1 q_13.2))
    else
      (c228_105 v1 v2 v3 v4 q_1.1 q_7.1 q_13.1 q_13.2))
  else
    (c228_105 v1 v2 v3 v4 q_1.1 q_7.1 q_13.1 q_13.2)
def c228_96 (v1 : Int32) (v2 : Int32) (v8 : Int32) (S : sT) : Option (sRes sT) :=
  some (.inr (55, [.inl v1, .inl v2, .inl (v8 + (1 : Int32))], S))
def c228_55 (v1 : Int32) (v2 : Int32) (v8 : Int32) (S : sT) : Option (sRes sT) :=
  if (s_g S 0) ≤ v8 then
    (c228_483  S)
  else
    (if v8 = v1 then
      (c228_96 v1 v2 v8 S)
    else
      (Option.bind (s_a S 27 (((5 : Int32) * v1) + v8)) fun v_28 =>
      if v_28 = 0 then
        (c228_96 v1 v2 v8 S)
      else
        (Option.bind (e202 v1 v8 S) fun q_30 =>
        Option.bind (e183 v2 q_30.1 q_30.2) fun q_36 =>
        c228_96 v1 v2 v8 q_36)))
def c228_218 (v1 : Int32) (v2 : Int32) (v3 : Int32) (v7 : Int32) (v8 : Int32) (S : sT) : Option (sRes sT) :=
  Option.bind (s_a S 7 v3) fun v_85 =>
  if (v_85 - (17 : Int32)) ≤ v8 then
    (Option.bind (e222 v1 v7 v2 S) fun q_87 =>
    c228_483  q_87)
  else
    (Option.bind (e165 v3 ((13 : Int32) + v8) S) fun q_93 =>
    Option.bind (s_s q_93.2 29 (((64 : Int32) * (((5 : Int32) * v1) + v7)) + v8) q_93.1) fun S99 =>
    some (.inr (218, [.inl v1, .inl v2, .inl v3, .inl v7, .inl (v8 + (1 : Int32))], S99)))
def kS228 (h : Nat) (as : List aV) (S : sT) : Option (sRes sT) :=
  if h = 55 then (match as with | [.inl v1, .inl v2, .inl v8] => c228_55 v1 v2 v8 S | _ => none) else
  if h = 218 then (match as with | [.inl v1, .inl v2, .inl v3, .inl v7, .inl v8] => c228_218 v1 v2 v3 v7 v8 S | _ => none) else
  none
def J228 (m : Nat) (h : Nat) (as : List aV) : List aV := .inr (.inr (some m)) :: as
def e228 (v1 : Int32) (v2 : Int32) (v3 : Int32) (v4 : Int32) (S : sT) : Option sT := s_go kS228 (c228_0 v1 v2 v3 v4 S)
theorem q228_167 {m : Nat} {ad : Nat → Nat} {M : hM} {S : sT} (hR : rR m ad M S)  {rs : sRes sT} (h : c228_167  S = some rs) : ∃ res, b228_167  M = some res ∧ simR o_V f_1 (J228 m) m ad M rs res := by
  have hs : sm m ad M M := sm.rf
  unfold c228_167 at h
  unfold b228_167
  obtain rfl := Option.some.inj h
  exact ⟨_, rfl, _, rfl, hR, hs⟩
theorem q228_164 {m : Nat} {ad : Nat → Nat} {M : hM} {S : sT} (hR : rR m ad M S) (v1 : Int32) (v2 : Int32) (v3 : Int32) (v7 : Int32) (si0 : Int32) (si1 : Int32) {rs : sRes sT} (h : c228_164 v1 v2 v3 v7 si0 si1 S = some rs) : ∃ res, b228_164 m v1 v2 v3 v7 si0 si1 M = some res ∧ simR o_V f_1 (J228 m) m ad M rs res := by
  have hs : sm m ad M M := sm.rf
  unfold c228_164 at h
  unfold b228_164
  by_cases q84 : si0 < si1
  · rw [if_pos q84] at h ⊢
    refine exb (rR_gr hR 27) ?_
    obtain ⟨S64, h66, h⟩ := bd h
    obtain ⟨M65, e67, hR68, hs69⟩ := rR_sz hR h66
    replace hs69 := hs.tr hs69
    refine exb e67 ?_
    refine exb (rR_gr hR68 28) ?_
    refine exb (rR_gi hR68 3) ?_
    obtain ⟨S70, h72, h⟩ := bd h
    obtain ⟨M71, e73, hR74, hs75⟩ := rR_si hR68 h72
    replace hs75 := hs69.tr hs75
    refine exb e73 ?_
    refine exb (rR_gr hR74 30) ?_
    refine exb (rR_gr hR74 7) ?_
    obtain ⟨v_76, h77, h⟩ := bd h
    refine exb (rR_al hR74 h77) ?_
    obtain ⟨S78, h80, h⟩ := bd h
    obtain ⟨M79, e81, hR82, hs83⟩ := rR_si hR74 h80
    replace hs83 := hs75.tr hs83
    refine exb e81 ?_
    obtain rfl := Option.some.inj h
    exact ⟨_, rfl, _, rfl, hR82, hs83⟩
  · rw [if_neg q84] at h ⊢
    exact simT hs (q228_167 hR  h)
theorem q228_405 {m : Nat} {ad : Nat → Nat} {M : hM} {S : sT} (hR : rR m ad M S)  {rs : sRes sT} (h : c228_405  S = some rs) : ∃ res, b228_405 m M = some res ∧ simR o_V f_1 (J228 m) m ad M rs res := by
  have hs : sm m ad M M := sm.rf
  unfold c228_405 at h
  unfold b228_405
  refine exb (rR_gr hR 4) ?_
  obtain ⟨v_180, h181, h⟩ := bd h
  refine exb (rR_al hR h181) ?_
  obtain ⟨S182, h184, h⟩ := bd h
  obtain ⟨M183, e185, hR186, hs187⟩ := rR_si hR h184
  replace hs187 := hs.tr hs187
  refine exb e185 ?_
  obtain rfl := Option.some.inj h
  exact ⟨_, rfl, _, rfl, hR186, hs187⟩
theorem q228_483 {m : Nat} {ad : Nat → Nat} {M : hM} {S : sT} (hR : rR m ad M S)  {rs : sRes sT} (h : c228_483  S = some rs) : ∃ res, b228_483  M = some res ∧ simR o_V f_1 (J228 m) m ad M rs res := by
  have hs : sm m ad M M := sm.rf
  unfold c228_483 at h
  unfold b228_483
  obtain rfl := Option.some.inj h
  exact ⟨_, rfl, _, rfl, hR, hs⟩
theorem q228_472 {m : Nat} {ad : Nat → Nat} {M : hM} {S : sT} (hR : rR m ad M S) (v2 : Int32) (v8 : Int32) (sl0 : Int64) (si1 : Int32) {rs : sRes sT} (h : c228_472 v2 v8 sl0 si1 S = some rs) : ∃ res, b228_472 m v2 v8 sl0 si1 (some m) M = some res ∧ simR o_V f_1 (J228 m) m ad M rs res := by
  have hs : sm m ad M M := sm.rf
  unfold c228_472 at h
  unfold b228_472
  refine exb (rR_go hR) ?_
  obtain ⟨q_188, h189, h⟩ := bd h
  obtain ⟨M190, e191, hR192, hs193⟩ := u167 hR h189
  replace hs193 := hs.tr hs193
  refine exb (c_V_of e191) ?_
  refine exb (rR_go hR192) ?_
  obtain ⟨q_194, h195, h⟩ := bd h
  obtain ⟨M196, e197, hR198, hs199⟩ := u183 hR192 h195
  replace hs199 := hs193.tr hs199
  refine exb (c_V_of e197) ?_
  exact simT hs199 (q228_483 hR198  h)
theorem q228_360 {m : Nat} {ad : Nat → Nat} {M : hM} {S : sT} (hR : rR m ad M S) (v1 : Int32) (v2 : Int32) (v3 : Int32) (v4 : Int32) (v5 : Int32) (v6 : Int32) (v7 : Int32) {rs : sRes sT} (h : c228_360 v1 v2 v3 v4 v5 v6 v7 S = some rs) : ∃ res, b228_360 m v1 v2 v3 v4 v5 v6 v7 M = some res ∧ simR o_V f_1 (J228 m) m ad M rs res := by
  have hs : sm m ad M M := sm.rf
  unfold c228_360 at h
  unfold b228_360
  by_cases q179 : v5 = (5 : Int32)
  · rw [if_pos q179] at h ⊢
    by_cases q178 : v4 = (16777212 : Int32)
    · rw [if_pos q178] at h ⊢
      by_cases q177 : v6 = (-1 : Int32)
      · rw [if_pos q177] at h ⊢
        exact simT hs (q228_483 hR  h)
      · rw [if_neg q177] at h ⊢
        refine exb (rR_gr hR 25) ?_
        obtain ⟨v_138, h139, h⟩ := bd h
        refine exb (rR_al hR h139) ?_
        by_cases q176 : v_138 = 0
        · rw [if_pos q176] at h ⊢
          exact simT hs (q228_405 hR  h)
        · rw [if_neg q176] at h ⊢
          refine exb (rR_go hR) ?_
          obtain ⟨q_140, h141, h⟩ := bd h
          obtain ⟨M142, e143, hR144, hs145⟩ := u166 hR h141
          replace hs145 := hs.tr hs145
          refine exb (c_I_of e143) ?_
          refine exb (rR_gr hR144 25) ?_
          obtain ⟨v_146, h147, h⟩ := bd h
          refine exb (rR_al hR144 h147) ?_
          by_cases q175 : q_140.1 = v_146
          · rw [if_pos q175] at h ⊢
            refine exb (rR_gr hR144 25) ?_
            obtain ⟨v_148, h149, h⟩ := bd h
            refine exb (rR_al hR144 h149) ?_
            refine exb (rR_go hR144) ?_
            obtain ⟨q_150, h151, h⟩ := bd h
            obtain ⟨M152, e153, hR154, hs155⟩ := u168 hR144 h151
            replace hs155 := hs145.tr hs155
            refine exb (c_I_of e153) ?_
            refine exb (rR_go hR154) ?_
            obtain ⟨q_156, h157, h⟩ := bd h
            obtain ⟨M158, e159, hR160, hs161⟩ := u167 hR154 h157
            replace hs161 := hs155.tr hs161
            refine exb (c_V_of e159) ?_
            refine exb (rR_go hR160) ?_
            obtain ⟨q_162, h163, h⟩ := bd h
            obtain ⟨M164, e165, hR166, hs167⟩ := u188 hR160 h163
            replace hs167 := hs161.tr hs167
            refine exb (c_I_of e165) ?_
            by_cases q174 : q_162.1 = 0
            · rw [if_pos q174] at h ⊢
              exact simT hs167 (q228_472 hR166 v2 q_150.1 (0 : Int64) q_150.1 h)
            · rw [if_neg q174] at h ⊢
              refine exb (rR_go hR166) ?_
              obtain ⟨q_168, h169, h⟩ := bd h
              obtain ⟨M170, e171, hR172, hs173⟩ := u227 hR166 h169
              replace hs173 := hs167.tr hs173
              refine exb (c_I_of e171) ?_
              exact simT hs173 (q228_472 hR172 v2 q_150.1 (Int32.toInt64 q_168.1) q_150.1 h)
          · rw [if_neg q175] at h ⊢
            exact simT hs145 (q228_405 hR144  h)
    · rw [if_neg q178] at h ⊢
      exact simT hs (q228_483 hR  h)
  · rw [if_neg q179] at h ⊢
    exact simT hs (q228_483 hR  h)
theorem q228_276 {m : Nat} {ad : Nat → Nat} {M : hM} {S : sT} (hR : rR m ad M S) (v1 : Int32) (v2 : Int32) (v3 : Int32) (v4 : Int32) (v5 : Int32) (v6 : Int32) (v7 : Int32) {rs : sRes sT} (h : c228_276 v1 v2 v3 v4 v5 v6 v7 S = some rs) : ∃ res, b228_276 m v1 v2 v3 v4 v5 v6 v7 M = some res ∧ simR o_V f_1 (J228 m) m ad M rs res := by
  have hs : sm m ad M M := sm.rf
  unfold c228_276 at h
  unfold b228_276
  by_cases q137 : v5 = (3 : Int32)
  · rw [if_pos q137] at h ⊢
    by_cases q136 : v4 = (16777214 : Int32)
    · rw [if_pos q136] at h ⊢
      by_cases q135 : v6 = (-1 : Int32)
      · rw [if_pos q135] at h ⊢
        exact simT hs (q228_360 hR v1 v2 v3 v4 v5 v6 v7 h)
      · rw [if_neg q135] at h ⊢
        refine exb (rR_go hR) ?_
        obtain ⟨q_106, h107, h⟩ := bd h
        obtain ⟨M108, e109, hR110, hs111⟩ := u200 hR h107
        replace hs111 := hs.tr hs111
        refine exb (c_I_of e109) ?_
        by_cases q134 : q_106.1 = 0
        · rw [if_pos q134] at h ⊢
          refine exb (rR_gr hR110 25) ?_
          refine exb (rR_gr hR110 26) ?_
          obtain ⟨v_112, h113, h⟩ := bd h
          refine exb (rR_al hR110 h113) ?_
          obtain ⟨S114, h116, h⟩ := bd h
          obtain ⟨M115, e117, hR118, hs119⟩ := rR_si hR110 h116
          replace hs119 := hs111.tr hs119
          refine exb e117 ?_
          refine exb (rR_gr hR118 25) ?_
          obtain ⟨v_120, h121, h⟩ := bd h
          refine exb (rR_al hR118 h121) ?_
          refine exb (rR_go hR118) ?_
          obtain ⟨q_122, h123, h⟩ := bd h
          obtain ⟨M124, e125, hR126, hs127⟩ := u168 hR118 h123
          replace hs127 := hs119.tr hs127
          refine exb (c_I_of e125) ?_
          refine exb (rR_go hR126) ?_
          obtain ⟨q_128, h129, h⟩ := bd h
          obtain ⟨M130, e131, hR132, hs133⟩ := u183 hR126 h129
          replace hs133 := hs127.tr hs133
          refine exb (c_V_of e131) ?_
          exact simT hs133 (q228_483 hR132  h)
        · rw [if_neg q134] at h ⊢
          obtain rfl := Option.some.inj h
          exact ⟨_, rfl, _, rfl, hR110, hs111⟩
    · rw [if_neg q136] at h ⊢
      exact simT hs (q228_360 hR v1 v2 v3 v4 v5 v6 v7 h)
  · rw [if_neg q137] at h ⊢
    exact simT hs (q228_360 hR v1 v2 v3 v4 v5 v6 v7 h)
theorem q228_105 {m : Nat} {ad : Nat → Nat} {M : hM} {S : sT} (hR : rR m ad M S) (v1 : Int32) (v2 : Int32) (v3 : Int32) (v4 : Int32) (v5 : Int32) (v6 : Int32) (v7 : Int32) {rs : sRes sT} (h : c228_105 v1 v2 v3 v4 v5 v6 v7 S = some rs) : ∃ res, b228_105 m v1 v2 v3 v4 v5 v6 v7 M = some res ∧ simR o_V f_1 (J228 m) m ad M rs res := by
  have hs : sm m ad M M := sm.rf
  unfold c228_105 at h
  unfold b228_105
  by_cases q63 : v5 = (2 : Int32)
  · rw [if_pos q63] at h ⊢
    by_cases q62 : v4 = (16777213 : Int32)
    · rw [if_pos q62] at h ⊢
      by_cases q61 : v6 = (-1 : Int32)
      · rw [if_pos q61] at h ⊢
        by_cases q60 : v7 = v1
        · rw [if_pos q60] at h ⊢
          exact simT hs (q228_167 hR  h)
        · rw [if_neg q60] at h ⊢
          refine exb (rR_go hR) ?_
          obtain ⟨q_45, h46, h⟩ := bd h
          obtain ⟨M47, e48, hR49, hs50⟩ := u166 hR h46
          replace hs50 := hs.tr hs50
          refine exb (c_I_of e48) ?_
          refine exb (rR_gr hR49 27) ?_
          obtain ⟨v_51, h52, h⟩ := bd h
          refine exb (rR_al hR49 h52) ?_
          by_cases q59 : v_51 = 0
          · rw [if_pos q59] at h ⊢
            exact simT hs50 (q228_164 hR49 v1 v2 v3 v7 (0 : Int32) q_45.1 h)
          · rw [if_neg q59] at h ⊢
            refine exb (rR_go hR49) ?_
            obtain ⟨q_53, h54, h⟩ := bd h
            obtain ⟨M55, e56, hR57, hs58⟩ := u191 hR49 h54
            replace hs58 := hs50.tr hs58
            refine exb (c_I_of e56) ?_
            exact simT hs58 (q228_164 hR57 v1 v2 v3 v7 q_53.1 q_45.1 h)
      · rw [if_neg q61] at h ⊢
        exact simT hs (q228_276 hR v1 v2 v3 v4 v5 v6 v7 h)
    · rw [if_neg q62] at h ⊢
      exact simT hs (q228_276 hR v1 v2 v3 v4 v5 v6 v7 h)
  · rw [if_neg q63] at h ⊢
    exact simT hs (q228_276 hR v1 v2 v3 v4 v5 v6 v7 h)
theorem q228_0 {m : Nat} {ad : Nat → Nat} {M : hM} {S : sT} (hR : rR m ad M S) (v1 : Int32) (v2 : Int32) (v3 : Int32) (v4 : Int32) {rs : sRes sT} (h : c228_0 v1 v2 v3 v4 S = some rs) : ∃ res, b228_0 m v1 v2 v3 v4 M = some res ∧ simR o_V f_1 (J228 m) m ad M rs res := by
  have hs : sm m ad M M := sm.rf
  unfold c228_0 at h
  unfold b228_0
  refine exb (rR_go hR) ?_
  obtain ⟨q_1, h2, h⟩ := bd h
  obtain ⟨M3, e4, hR5, hs6⟩ := u165 hR h2
  replace hs6 := hs.tr hs6
  refine exb (c_I_of e4) ?_
  refine exb (rR_go hR5) ?_
  obtain ⟨q_7, h8, h⟩ := bd h
  obtain ⟨M9, e10, hR11, hs12⟩ := u179 hR5 h8
  replace hs12 := hs6.tr hs12
  refine exb (c_I_of e10) ?_
  refine exb (rR_go hR11) ?_
  obtain ⟨q_13, h14, h⟩ := bd h
  obtain ⟨M15, e16, hR17, hs18⟩ := u165 hR11 h14
  replace hs18 := hs12.tr hs18
  refine exb (c_I_of e16) ?_
  by_cases q27 : q_1.1 = (1 : Int32)
  · rw [if_pos q27] at h ⊢
    by_cases q26 : v4 = (16777213 : Int32)
    · rw [if_pos q26] at h ⊢
      by_cases q25 : q_7.1 = (-1 : Int32)
      · rw [if_pos q25] at h ⊢
        refine exb (rR_gr hR17 23) ?_
        obtain ⟨S19, h21, h⟩ := bd h
        obtain ⟨M20, e22, hR23, hs24⟩ := rR_si hR17 h21
        replace hs24 := hs18.tr hs24
        refine exb e22 ?_
        obtain rfl := Option.some.inj h
        exact ⟨_, rfl, _, rfl, hR23, hs24⟩
      · rw [if_neg q25] at h ⊢
        exact simT hs18 (q228_105 hR17 v1 v2 v3 v4 q_1.1 q_7.1 q_13.1 h)
    · rw [if_neg q26] at h ⊢
      exact simT hs18 (q228_105 hR17 v1 v2 v3 v4 q_1.1 q_7.1 q_13.1 h)
  · rw [if_neg q27] at h ⊢
    exact simT hs18 (q228_105 hR17 v1 v2 v3 v4 q_1.1 q_7.1 q_13.1 h)
theorem q228_96 {m : Nat} {ad : Nat → Nat} {M : hM} {S : sT} (hR : rR m ad M S) (v1 : Int32) (v2 : Int32) (v8 : Int32) {rs : sRes sT} (h : c228_96 v1 v2 v8 S = some rs) : ∃ res, b228_96 m v1 v2 v8 M = some res ∧ simR o_V f_1 (J228 m) m ad M rs res := by
  have hs : sm m ad M M := sm.rf
  unfold c228_96 at h
  unfold b228_96
  obtain rfl := Option.some.inj h
  exact ⟨_, rfl, _, rfl, hR, hs⟩
theorem q228_55 {m : Nat} {ad : Nat → Nat} {M : hM} {S : sT} (hR : rR m ad M S) (v1 : Int32) (v2 : Int32) (v8 : Int32) {rs : sRes sT} (h : c228_55 v1 v2 v8 S = some rs) : ∃ res, b228_55 m v1 v2 v8 M = some res ∧ simR o_V f_1 (J228 m) m ad M rs res := by
  have hs : sm m ad M M := sm.rf
  unfold c228_55 at h
  unfold b228_55
  refine exb (rR_gi hR 0) ?_
  by_cases q44 : (s_g S 0) ≤ v8
  · rw [if_pos q44] at h ⊢
    exact simT hs (q228_483 hR  h)
  · rw [if_neg q44] at h ⊢
    by_cases q43 : v8 = v1
    · rw [if_pos q43] at h ⊢
      exact simT hs (q228_96 hR v1 v2 v8 h)
    · rw [if_neg q43] at h ⊢
      refine exb (rR_gr hR 27) ?_
      obtain ⟨v_28, h29, h⟩ := bd h
      refine exb (rR_al hR h29) ?_
      by_cases q42 : v_28 = 0
      · rw [if_pos q42] at h ⊢
        exact simT hs (q228_96 hR v1 v2 v8 h)
      · rw [if_neg q42] at h ⊢
        refine exb (rR_go hR) ?_
        obtain ⟨q_30, h31, h⟩ := bd h
        obtain ⟨M32, e33, hR34, hs35⟩ := u202 hR h31
        replace hs35 := hs.tr hs35
        refine exb (c_I_of e33) ?_
        refine exb (rR_go hR34) ?_
        obtain ⟨q_36, h37, h⟩ := bd h
        obtain ⟨M38, e39, hR40, hs41⟩ := u183 hR34 h37
        replace hs41 := hs35.tr hs41
        refine exb (c_V_of e39) ?_
        exact simT hs41 (q228_96 hR40 v1 v2 v8 h)
theorem q228_218 {m : Nat} {ad : Nat → Nat} {M : hM} {S : sT} (hR : rR m ad M S) (v1 : Int32) (v2 : Int32) (v3 : Int32) (v7 : Int32) (v8 : Int32) {rs : sRes sT} (h : c228_218 v1 v2 v3 v7 v8 S = some rs) : ∃ res, b228_218 m v1 v2 v3 v7 v8 M = some res ∧ simR o_V f_1 (J228 m) m ad M rs res := by
  have hs : sm m ad M M := sm.rf
  unfold c228_218 at h
  unfold b228_218
  refine exb (rR_gr hR 7) ?_
  obtain ⟨v_85, h86, h⟩ := bd h
  refine exb (rR_al hR h86) ?_
  by_cases q105 : (v_85 - (17 : Int32)) ≤ v8
  · rw [if_pos q105] at h ⊢
    refine exb (rR_go hR) ?_
    obtain ⟨q_87, h88, h⟩ := bd h
    obtain ⟨M89, e90, hR91, hs92⟩ := u222 hR h88
    replace hs92 := hs.tr hs92
    refine exb (c_V_of e90) ?_
    exact simT hs92 (q228_483 hR91  h)
  · rw [if_neg q105] at h ⊢
    refine exb (rR_gr hR 29) ?_
    refine exb (rR_go hR) ?_
    obtain ⟨q_93, h94, h⟩ := bd h
    obtain ⟨M95, e96, hR97, hs98⟩ := u165 hR h94
    replace hs98 := hs.tr hs98
    refine exb (c_I_of e96) ?_
    obtain ⟨S99, h101, h⟩ := bd h
    obtain ⟨M100, e102, hR103, hs104⟩ := rR_si hR97 h101
    replace hs104 := hs98.tr hs104
    refine exb e102 ?_
    obtain rfl := Option.some.inj h
    exact ⟨_, rfl, _, rfl, hR103, hs104⟩
theorem u228 {m : Nat} {ad : Nat → Nat} {M : hM} {S : sT} (hR : rR m ad M S) {v1 : Int32} {v2 : Int32} {v3 : Int32} {v4 : Int32} {q : sT} (h : e228 v1 v2 v3 v4 S = some q) : ∃ M1, f228 [.inr (.inr (some m)), .inl v1, .inl v2, .inl v3, .inl v4] M = some (none, M1) ∧ rR m ad M1 q ∧ sm m ad M M1 := by
  unfold e228 at h
  show ∃ M1, x_go k228 (b228_0 m v1 v2 v3 v4 M) = some (o_V q, M1) ∧ rR m ad M1 (f_1 q) ∧ sm m ad M M1
  refine s_go_ok (o := o_V) (f := f_1) (J := J228 m) (bs := kS228) (bk := k228) (xs := c228_0 v1 v2 v3 v4 S) (x := b228_0 m v1 v2 v3 v4 M) (M := M) (q := q) ?_ (fun rs hx => q228_0 hR v1 v2 v3 v4 hx) h
  intro h as S M rs hR hb
  unfold kS228 at hb
  unfold k228 J228
  by_cases e0 : h = 55
  · rw [if_pos e0] at hb ⊢
    split at hb
    · subst e0; exact q228_55 hR _ _ _ hb
    · cases hb
  · rw [if_neg e0] at hb
    by_cases e1 : h = 218
    · rw [if_pos e1] at hb ⊢
      split at hb
      · subst e1; exact q228_218 hR _ _ _ _ _ hb
      · cases hb
    · rw [if_neg e1] at hb
      cases hb
/-! reference: looks(II)V -/
def c229_106  (S : sT) : Option (sRes sT) :=
  some (.inl S)
def c229_97 (v1 : Int32) (v2 : Int32) (v3 : Int32) (v4 : Int32) (S : sT) : Option (sRes sT) :=
  Option.bind (e226 v1 v2 v3 v4 S) fun q_59 =>
  c229_106  q_59
def c229_0 (v1 : Int32) (v2 : Int32) (S : sT) : Option (sRes sT) :=
  Option.bind (s_a S 17 v2) fun v_1 =>
  if v_1 = 0 then
    (some (.inl S))
  else
    (Option.bind (s_a S 16 (v2 * (4 : Int32))) fun v_3 =>
    Option.bind (e166 v_3 (1 : Int32) (3 : Int32) S) fun q_5 =>
    Option.bind (e174 v_3 q_5.2) fun q_11 =>
    if q_11.1 = 0 then
      (Option.bind (s_a q_11.2 4 (1 : Int32)) fun v_37 =>
      Option.bind (s_s q_11.2 4 (1 : Int32) (v_37 + (1 : Int32))) fun S39 =>
      Option.bind (e185 v2 S39) fun q_45 =>
      Option.bind (e171 q_45.1 q_45.2) fun q_51 =>
      c229_106  q_51)
    else
      (if q_5.1 < (16777212 : Int32) then
        (c229_97 v1 v2 v_3 q_5.1 q_11.2)
      else
        (if (16777214 : Int32) < q_5.1 then
          (c229_97 v1 v2 v_3 q_5.1 q_11.2)
        else
          (Option.bind (e185 v2 q_11.2) fun q_17 =>
          Option.bind (e228 v1 v2 v_3 q_5.1 q_17.2) fun q_23 =>
          Option.bind (e171 v_3 q_23) fun q_29 =>
          c229_106  q_29))))
def e229 (v1 : Int32) (v2 : Int32) (S : sT) : Option sT := s_out (c229_0 v1 v2 S)
theorem q229_106 {m : Nat} {ad : Nat → Nat} {M : hM} {S : sT} (hR : rR m ad M S)  {rs : sRes sT} (h : c229_106  S = some rs) : ∃ res, b229_106  M = some res ∧ simR o_V f_1 (fun _ as => as) m ad M rs res := by
  have hs : sm m ad M M := sm.rf
  unfold c229_106 at h
  unfold b229_106
  obtain rfl := Option.some.inj h
  exact ⟨_, rfl, _, rfl, hR, hs⟩
theorem q229_97 {m : Nat} {ad : Nat → Nat} {M : hM} {S : sT} (hR : rR m ad M S) (v1 : Int32) (v2 : Int32) (v3 : Int32) (v4 : Int32) {rs : sRes sT} (h : c229_97 v1 v2 v3 v4 S = some rs) : ∃ res, b229_97 m v1 v2 v3 v4 M = some res ∧ simR o_V f_1 (fun _ as => as) m ad M rs res := by
  have hs : sm m ad M M := sm.rf
  unfold c229_97 at h
  unfold b229_97
  refine exb (rR_go hR) ?_
  obtain ⟨q_59, h60, h⟩ := bd h
  obtain ⟨M61, e62, hR63, hs64⟩ := u226 hR h60
  replace hs64 := hs.tr hs64
  refine exb (c_V_of e62) ?_
  exact simT hs64 (q229_106 hR63  h)
theorem q229_0 {m : Nat} {ad : Nat → Nat} {M : hM} {S : sT} (hR : rR m ad M S) (v1 : Int32) (v2 : Int32) {rs : sRes sT} (h : c229_0 v1 v2 S = some rs) : ∃ res, b229_0 m v1 v2 M = some res ∧ simR o_V f_1 (fun _ as => as) m ad M rs res := by
  have hs : sm m ad M M := sm.rf
  unfold c229_0 at h
  unfold b229_0
  refine exb (rR_gr hR 17) ?_
  obtain ⟨v_1, h2, h⟩ := bd h
  refine exb (rR_al hR h2) ?_
  by_cases q58 : v_1 = 0
  · rw [if_pos q58] at h ⊢
    obtain rfl := Option.some.inj h
    exact ⟨_, rfl, _, rfl, hR, hs⟩
  · rw [if_neg q58] at h ⊢
    refine exb (rR_gr hR 16) ?_
    obtain ⟨v_3, h4, h⟩ := bd h
    refine exb (rR_al hR h4) ?_
    refine exb (rR_go hR) ?_
    obtain ⟨q_5, h6, h⟩ := bd h
    obtain ⟨M7, e8, hR9, hs10⟩ := u166 hR h6
    replace hs10 := hs.tr hs10
    refine exb (c_I_of e8) ?_
    refine exb (rR_go hR9) ?_
    obtain ⟨q_11, h12, h⟩ := bd h
    obtain ⟨M13, e14, hR15, hs16⟩ := u174 hR9 h12
    replace hs16 := hs10.tr hs16
    refine exb (c_I_of e14) ?_
    by_cases q57 : q_11.1 = 0
    · rw [if_pos q57] at h ⊢
      refine exb (rR_gr hR15 4) ?_
      obtain ⟨v_37, h38, h⟩ := bd h
      refine exb (rR_al hR15 h38) ?_
      obtain ⟨S39, h41, h⟩ := bd h
      obtain ⟨M40, e42, hR43, hs44⟩ := rR_si hR15 h41
      replace hs44 := hs16.tr hs44
      refine exb e42 ?_
      refine exb (rR_go hR43) ?_
      obtain ⟨q_45, h46, h⟩ := bd h
      obtain ⟨M47, e48, hR49, hs50⟩ := u185 hR43 h46
      replace hs50 := hs44.tr hs50
      refine exb (c_I_of e48) ?_
      refine exb (rR_go hR49) ?_
      obtain ⟨q_51, h52, h⟩ := bd h
      obtain ⟨M53, e54, hR55, hs56⟩ := u171 hR49 h52
      replace hs56 := hs50.tr hs56
      refine exb (c_V_of e54) ?_
      exact simT hs56 (q229_106 hR55  h)
    · rw [if_neg q57] at h ⊢
      by_cases q36 : q_5.1 < (16777212 : Int32)
      · rw [if_pos q36] at h ⊢
        exact simT hs16 (q229_97 hR15 v1 v2 v_3 q_5.1 h)
      · rw [if_neg q36] at h ⊢
        by_cases q35 : (16777214 : Int32) < q_5.1
        · rw [if_pos q35] at h ⊢
          exact simT hs16 (q229_97 hR15 v1 v2 v_3 q_5.1 h)
        · rw [if_neg q35] at h ⊢
          refine exb (rR_go hR15) ?_
          obtain ⟨q_17, h18, h⟩ := bd h
          obtain ⟨M19, e20, hR21, hs22⟩ := u185 hR15 h18
          replace hs22 := hs16.tr hs22
          refine exb (c_I_of e20) ?_
          refine exb (rR_go hR21) ?_
          obtain ⟨q_23, h24, h⟩ := bd h
          obtain ⟨M25, e26, hR27, hs28⟩ := u228 hR21 h24
          replace hs28 := hs22.tr hs28
          refine exb (c_V_of e26) ?_
          refine exb (rR_go hR27) ?_
          obtain ⟨q_29, h30, h⟩ := bd h
          obtain ⟨M31, e32, hR33, hs34⟩ := u171 hR27 h30
          replace hs34 := hs28.tr hs34
          refine exb (c_V_of e32) ?_
          exact simT hs34 (q229_106 hR33  h)
theorem u229 {m : Nat} {ad : Nat → Nat} {M : hM} {S : sT} (hR : rR m ad M S) {v1 : Int32} {v2 : Int32} {q : sT} (h : e229 v1 v2 S = some q) : ∃ M1, f229 [.inr (.inr (some m)), .inl v1, .inl v2] M = some (none, M1) ∧ rR m ad M1 q ∧ sm m ad M M1 := by
  exact s_out_sim (o := o_V) (f := f_1) (J := fun _ as => as) (fun rs hx => q229_0 hR v1 v2 hx) h
/-! reference: switchTicks(I)V -/
def c230_0 (v1 : Int32) (S : sT) : Option (sRes sT) :=
  Option.bind (e224 v1 S) fun q_1 =>
  some (.inr (7, [.inl v1, .inl (0 : Int32)], q_1))
def c230_7 (v1 : Int32) (v2 : Int32) (S : sT) : Option (sRes sT) :=
  if (8 : Int32) ≤ v2 then
    (some (.inr (39, [.inl v1, .inl (0 : Int32)], S)))
  else
    (Option.bind (d_m ((s_g S 3) + v2) (8 : Int32)) fun v_7 =>
    Option.bind (e175 v1 v_7 S) fun q_9 =>
    Option.bind (e184 q_9.1 q_9.2) fun q_15 =>
    some (.inr (7, [.inl v1, .inl (v2 + (1 : Int32))], q_15)))
def c230_39 (v1 : Int32) (v2 : Int32) (S : sT) : Option (sRes sT) :=
  if (8 : Int32) ≤ v2 then
    (some (.inl S))
  else
    (Option.bind (d_m ((s_g S 3) + v2) (8 : Int32)) fun v_22 =>
    Option.bind (e175 v1 v_22 S) fun q_24 =>
    Option.bind (e229 v1 q_24.1 q_24.2) fun q_30 =>
    some (.inr (39, [.inl v1, .inl (v2 + (1 : Int32))], q_30)))
def kS230 (h : Nat) (as : List aV) (S : sT) : Option (sRes sT) :=
  if h = 7 then (match as with | [.inl v1, .inl v2] => c230_7 v1 v2 S | _ => none) else
  if h = 39 then (match as with | [.inl v1, .inl v2] => c230_39 v1 v2 S | _ => none) else
  none
def J230 (m : Nat) (h : Nat) (as : List aV) : List aV := .inr (.inr (some m)) :: as
def e230 (v1 : Int32) (S : sT) : Option sT := s_go kS230 (c230_0 v1 S)
theorem q230_0 {m : Nat} {ad : Nat → Nat} {M : hM} {S : sT} (hR : rR m ad M S) (v1 : Int32) {rs : sRes sT} (h : c230_0 v1 S = some rs) : ∃ res, b230_0 m v1 M = some res ∧ simR o_V f_1 (J230 m) m ad M rs res := by
  have hs : sm m ad M M := sm.rf
  unfold c230_0 at h
  unfold b230_0
  refine exb (rR_go hR) ?_
  obtain ⟨q_1, h2, h⟩ := bd h
  obtain ⟨M3, e4, hR5, hs6⟩ := u224 hR h2
  replace hs6 := hs.tr hs6
  refine exb (c_V_of e4) ?_
  obtain rfl := Option.some.inj h
  exact ⟨_, rfl, _, rfl, hR5, hs6⟩
theorem q230_7 {m : Nat} {ad : Nat → Nat} {M : hM} {S : sT} (hR : rR m ad M S) (v1 : Int32) (v2 : Int32) {rs : sRes sT} (h : c230_7 v1 v2 S = some rs) : ∃ res, b230_7 m v1 v2 M = some res ∧ simR o_V f_1 (J230 m) m ad M rs res := by
  have hs : sm m ad M M := sm.rf
  unfold c230_7 at h
  unfold b230_7
  by_cases q21 : (8 : Int32) ≤ v2
  · rw [if_pos q21] at h ⊢
    obtain rfl := Option.some.inj h
    exact ⟨_, rfl, _, rfl, hR, hs⟩
  · rw [if_neg q21] at h ⊢
    refine exb (rR_gi hR 3) ?_
    obtain ⟨v_7, h8, h⟩ := bd h
    refine exb h8 ?_
    refine exb (rR_go hR) ?_
    obtain ⟨q_9, h10, h⟩ := bd h
    obtain ⟨M11, e12, hR13, hs14⟩ := u175 hR h10
    replace hs14 := hs.tr hs14
    refine exb (c_I_of e12) ?_
    refine exb (rR_go hR13) ?_
    obtain ⟨q_15, h16, h⟩ := bd h
    obtain ⟨M17, e18, hR19, hs20⟩ := u184 hR13 h16
    replace hs20 := hs14.tr hs20
    refine exb (c_V_of e18) ?_
    obtain rfl := Option.some.inj h
    exact ⟨_, rfl, _, rfl, hR19, hs20⟩
theorem q230_39 {m : Nat} {ad : Nat → Nat} {M : hM} {S : sT} (hR : rR m ad M S) (v1 : Int32) (v2 : Int32) {rs : sRes sT} (h : c230_39 v1 v2 S = some rs) : ∃ res, b230_39 m v1 v2 M = some res ∧ simR o_V f_1 (J230 m) m ad M rs res := by
  have hs : sm m ad M M := sm.rf
  unfold c230_39 at h
  unfold b230_39
  by_cases q36 : (8 : Int32) ≤ v2
  · rw [if_pos q36] at h ⊢
    obtain rfl := Option.some.inj h
    exact ⟨_, rfl, _, rfl, hR, hs⟩
  · rw [if_neg q36] at h ⊢
    refine exb (rR_gi hR 3) ?_
    obtain ⟨v_22, h23, h⟩ := bd h
    refine exb h23 ?_
    refine exb (rR_go hR) ?_
    obtain ⟨q_24, h25, h⟩ := bd h
    obtain ⟨M26, e27, hR28, hs29⟩ := u175 hR h25
    replace hs29 := hs.tr hs29
    refine exb (c_I_of e27) ?_
    refine exb (rR_go hR28) ?_
    obtain ⟨q_30, h31, h⟩ := bd h
    obtain ⟨M32, e33, hR34, hs35⟩ := u229 hR28 h31
    replace hs35 := hs29.tr hs35
    refine exb (c_V_of e33) ?_
    obtain rfl := Option.some.inj h
    exact ⟨_, rfl, _, rfl, hR34, hs35⟩
theorem u230 {m : Nat} {ad : Nat → Nat} {M : hM} {S : sT} (hR : rR m ad M S) {v1 : Int32} {q : sT} (h : e230 v1 S = some q) : ∃ M1, f230 [.inr (.inr (some m)), .inl v1] M = some (none, M1) ∧ rR m ad M1 q ∧ sm m ad M M1 := by
  unfold e230 at h
  show ∃ M1, x_go k230 (b230_0 m v1 M) = some (o_V q, M1) ∧ rR m ad M1 (f_1 q) ∧ sm m ad M M1
  refine s_go_ok (o := o_V) (f := f_1) (J := J230 m) (bs := kS230) (bk := k230) (xs := c230_0 v1 S) (x := b230_0 m v1 M) (M := M) (q := q) ?_ (fun rs hx => q230_0 hR v1 hx) h
  intro h as S M rs hR hb
  unfold kS230 at hb
  unfold k230 J230
  by_cases e0 : h = 7
  · rw [if_pos e0] at hb ⊢
    split at hb
    · subst e0; exact q230_7 hR _ _ hb
    · cases hb
  · rw [if_neg e0] at hb
    by_cases e1 : h = 39
    · rw [if_pos e1] at hb ⊢
      split at hb
      · subst e1; exact q230_39 hR _ _ hb
      · cases hb
    · rw [if_neg e1] at hb
      cases hb
/-! reference: ticks()I -/
def c231_0  (S : sT) : Option (sRes (Int32 × sT)) :=
  Option.bind (s_p S 3 ((s_g S 3) + (1 : Int32))) fun S1 =>
  some (.inr (14, [.inl (0 : Int32), .inl (0 : Int32)], S1))
def c231_14 (v1 : Int32) (v2 : Int32) (S : sT) : Option (sRes (Int32 × sT)) :=
  if (48 : Int32) ≤ v2 then
    (some (.inr (35, [.inl v1, .inl (0 : Int32)], S)))
  else
    (Option.bind (s_s S 20 v2 (0 : Int32)) fun S7 =>
    some (.inr (14, [.inl v1, .inl (v2 + (1 : Int32))], S7)))
def c231_144 (v1 : Int32) (v2 : Int32) (S : sT) : Option (sRes (Int32 × sT)) :=
  some (.inr (35, [.inl v1, .inl (v2 + (1 : Int32))], S))
def c231_134 (v1 : Int32) (v2 : Int32) (S : sT) : Option (sRes (Int32 × sT)) :=
  Option.bind (s_s S 15 v2 (-1 : Int32)) fun S67 =>
  c231_144 (v1 + (1 : Int32)) v2 S67
def c231_35 (v1 : Int32) (v2 : Int32) (S : sT) : Option (sRes (Int32 × sT)) :=
  if (48 : Int32) ≤ v2 then
    (some (.inr (152, [.inl v1, .inl (0 : Int32)], S)))
  else
    (Option.bind (s_sz S 22 v2 (0 : Int32)) fun S14 =>
    Option.bind (s_a S14 15 v2) fun v_20 =>
    if v_20 = (-1 : Int32) then
      (c231_144 v1 v2 S14)
    else
      (Option.bind (e178 v2 S14) fun q_22 =>
      Option.bind (s_a q_22.2 17 q_22.1) fun v_28 =>
      if v_28 = (s_g q_22.2 2) then
        (Option.bind (s_a q_22.2 5 (1 : Int32)) fun v_48 =>
        Option.bind (s_s q_22.2 5 (1 : Int32) (v_48 + (1 : Int32))) fun S50 =>
        Option.bind (s_a S50 15 v2) fun v_56 =>
        Option.bind (e171 v_56 S50) fun q_58 =>
        c231_134 v1 v2 q_58)
      else
        (Option.bind (s_a q_22.2 17 q_22.1) fun v_30 =>
        Option.bind (s_a q_22.2 15 v2) fun v_32 =>
        Option.bind (s_s q_22.2 16 ((q_22.1 * (4 : Int32)) + v_30) v_32) fun S34 =>
        Option.bind (s_a S34 17 q_22.1) fun v_40 =>
        Option.bind (s_s S34 17 q_22.1 (v_40 + (1 : Int32))) fun S42 =>
        c231_134 v1 v2 S42)))
def c231_152 (v1 : Int32) (v2 : Int32) (S : sT) : Option (sRes (Int32 × sT)) :=
  if (s_g S 0) ≤ v2 then
    (some (.inr (173, [.inl v1, .inl (0 : Int32)], S)))
  else
    (Option.bind (e230 v2 S) fun q_73 =>
    some (.inr (152, [.inl v1, .inl (v2 + (1 : Int32))], q_73)))
def c231_173 (v1 : Int32) (v2 : Int32) (S : sT) : Option (sRes (Int32 × sT)) :=
  if (s_g S 1) ≤ v2 then
    (some (.inl (v1, S)))
  else
    (Option.bind (e221 v2 S) fun q_80 =>
    some (.inr (173, [.inl v1, .inl (v2 + (1 : Int32))], q_80)))
def kS231 (h : Nat) (as : List aV) (S : sT) : Option (sRes (Int32 × sT)) :=
  if h = 14 then (match as with | [.inl v1, .inl v2] => c231_14 v1 v2 S | _ => none) else
  if h = 35 then (match as with | [.inl v1, .inl v2] => c231_35 v1 v2 S | _ => none) else
  if h = 152 then (match as with | [.inl v1, .inl v2] => c231_152 v1 v2 S | _ => none) else
  if h = 173 then (match as with | [.inl v1, .inl v2] => c231_173 v1 v2 S | _ => none) else
  none
def J231 (m : Nat) (h : Nat) (as : List aV) : List aV := .inr (.inr (some m)) :: as
def e231  (S : sT) : Option (Int32 × sT) := s_go kS231 (c231_0  S)
theorem q231_0 {m : Nat} {ad : Nat → Nat} {M : hM} {S : sT} (hR : rR m ad M S)  {rs : sRes (Int32 × sT)} (h : c231_0  S = some rs) : ∃ res, b231_0 m M = some res ∧ simR o_I f_2 (J231 m) m ad M rs res := by
  have hs : sm m ad M M := sm.rf
  unfold c231_0 at h
  unfold b231_0
  refine exb (rR_gi hR 3) ?_
  obtain ⟨S1, h3, h⟩ := bd h
  obtain ⟨M2, e4, hR5, hs6⟩ := rR_pi hR h3
  replace hs6 := hs.tr hs6
  refine exb e4 ?_
  obtain rfl := Option.some.inj h
  exact ⟨_, rfl, _, rfl, hR5, hs6⟩
theorem q231_14 {m : Nat} {ad : Nat → Nat} {M : hM} {S : sT} (hR : rR m ad M S) (v1 : Int32) (v2 : Int32) {rs : sRes (Int32 × sT)} (h : c231_14 v1 v2 S = some rs) : ∃ res, b231_14 m v1 v2 M = some res ∧ simR o_I f_2 (J231 m) m ad M rs res := by
  have hs : sm m ad M M := sm.rf
  unfold c231_14 at h
  unfold b231_14
  by_cases q13 : (48 : Int32) ≤ v2
  · rw [if_pos q13] at h ⊢
    obtain rfl := Option.some.inj h
    exact ⟨_, rfl, _, rfl, hR, hs⟩
  · rw [if_neg q13] at h ⊢
    refine exb (rR_gr hR 20) ?_
    obtain ⟨S7, h9, h⟩ := bd h
    obtain ⟨M8, e10, hR11, hs12⟩ := rR_si hR h9
    replace hs12 := hs.tr hs12
    refine exb e10 ?_
    obtain rfl := Option.some.inj h
    exact ⟨_, rfl, _, rfl, hR11, hs12⟩
theorem q231_144 {m : Nat} {ad : Nat → Nat} {M : hM} {S : sT} (hR : rR m ad M S) (v1 : Int32) (v2 : Int32) {rs : sRes (Int32 × sT)} (h : c231_144 v1 v2 S = some rs) : ∃ res, b231_144 m v1 v2 M = some res ∧ simR o_I f_2 (J231 m) m ad M rs res := by
  have hs : sm m ad M M := sm.rf
  unfold c231_144 at h
  unfold b231_144
  obtain rfl := Option.some.inj h
  exact ⟨_, rfl, _, rfl, hR, hs⟩
theorem q231_134 {m : Nat} {ad : Nat → Nat} {M : hM} {S : sT} (hR : rR m ad M S) (v1 : Int32) (v2 : Int32) {rs : sRes (Int32 × sT)} (h : c231_134 v1 v2 S = some rs) : ∃ res, b231_134 m v1 v2 M = some res ∧ simR o_I f_2 (J231 m) m ad M rs res := by
  have hs : sm m ad M M := sm.rf
  unfold c231_134 at h
  unfold b231_134
  refine exb (rR_gr hR 15) ?_
  obtain ⟨S67, h69, h⟩ := bd h
  obtain ⟨M68, e70, hR71, hs72⟩ := rR_si hR h69
  replace hs72 := hs.tr hs72
  refine exb e70 ?_
  exact simT hs72 (q231_144 hR71 (v1 + (1 : Int32)) v2 h)
theorem q231_35 {m : Nat} {ad : Nat → Nat} {M : hM} {S : sT} (hR : rR m ad M S) (v1 : Int32) (v2 : Int32) {rs : sRes (Int32 × sT)} (h : c231_35 v1 v2 S = some rs) : ∃ res, b231_35 m v1 v2 M = some res ∧ simR o_I f_2 (J231 m) m ad M rs res := by
  have hs : sm m ad M M := sm.rf
  unfold c231_35 at h
  unfold b231_35
  by_cases q66 : (48 : Int32) ≤ v2
  · rw [if_pos q66] at h ⊢
    obtain rfl := Option.some.inj h
    exact ⟨_, rfl, _, rfl, hR, hs⟩
  · rw [if_neg q66] at h ⊢
    refine exb (rR_gr hR 22) ?_
    obtain ⟨S14, h16, h⟩ := bd h
    obtain ⟨M15, e17, hR18, hs19⟩ := rR_sz hR h16
    replace hs19 := hs.tr hs19
    refine exb e17 ?_
    refine exb (rR_gr hR18 15) ?_
    obtain ⟨v_20, h21, h⟩ := bd h
    refine exb (rR_al hR18 h21) ?_
    by_cases q65 : v_20 = (-1 : Int32)
    · rw [if_pos q65] at h ⊢
      exact simT hs19 (q231_144 hR18 v1 v2 h)
    · rw [if_neg q65] at h ⊢
      refine exb (rR_go hR18) ?_
      obtain ⟨q_22, h23, h⟩ := bd h
      obtain ⟨M24, e25, hR26, hs27⟩ := u178 hR18 h23
      replace hs27 := hs19.tr hs27
      refine exb (c_I_of e25) ?_
      refine exb (rR_gr hR26 17) ?_
      obtain ⟨v_28, h29, h⟩ := bd h
      refine exb (rR_al hR26 h29) ?_
      refine exb (rR_gi hR26 2) ?_
      by_cases q64 : v_28 = (s_g q_22.2 2)
      · rw [if_pos q64] at h ⊢
        refine exb (rR_gr hR26 5) ?_
        obtain ⟨v_48, h49, h⟩ := bd h
        refine exb (rR_al hR26 h49) ?_
        obtain ⟨S50, h52, h⟩ := bd h
        obtain ⟨M51, e53, hR54, hs55⟩ := rR_si hR26 h52
        replace hs55 := hs27.tr hs55
        refine exb e53 ?_
        refine exb (rR_gr hR54 15) ?_
        obtain ⟨v_56, h57, h⟩ := bd h
        refine exb (rR_al hR54 h57) ?_
        refine exb (rR_go hR54) ?_
        obtain ⟨q_58, h59, h⟩ := bd h
        obtain ⟨M60, e61, hR62, hs63⟩ := u171 hR54 h59
        replace hs63 := hs55.tr hs63
        refine exb (c_V_of e61) ?_
        exact simT hs63 (q231_134 hR62 v1 v2 h)
      · rw [if_neg q64] at h ⊢
        refine exb (rR_gr hR26 16) ?_
        refine exb (rR_gr hR26 17) ?_
        obtain ⟨v_30, h31, h⟩ := bd h
        refine exb (rR_al hR26 h31) ?_
        refine exb (rR_gr hR26 15) ?_
        obtain ⟨v_32, h33, h⟩ := bd h
        refine exb (rR_al hR26 h33) ?_
        obtain ⟨S34, h36, h⟩ := bd h
        obtain ⟨M35, e37, hR38, hs39⟩ := rR_si hR26 h36
        replace hs39 := hs27.tr hs39
        refine exb e37 ?_
        refine exb (rR_gr hR38 17) ?_
        obtain ⟨v_40, h41, h⟩ := bd h
        refine exb (rR_al hR38 h41) ?_
        obtain ⟨S42, h44, h⟩ := bd h
        obtain ⟨M43, e45, hR46, hs47⟩ := rR_si hR38 h44
        replace hs47 := hs39.tr hs47
        refine exb e45 ?_
        exact simT hs47 (q231_134 hR46 v1 v2 h)
theorem q231_152 {m : Nat} {ad : Nat → Nat} {M : hM} {S : sT} (hR : rR m ad M S) (v1 : Int32) (v2 : Int32) {rs : sRes (Int32 × sT)} (h : c231_152 v1 v2 S = some rs) : ∃ res, b231_152 m v1 v2 M = some res ∧ simR o_I f_2 (J231 m) m ad M rs res := by
  have hs : sm m ad M M := sm.rf
  unfold c231_152 at h
  unfold b231_152
  refine exb (rR_gi hR 0) ?_
  by_cases q79 : (s_g S 0) ≤ v2
  · rw [if_pos q79] at h ⊢
    obtain rfl := Option.some.inj h
    exact ⟨_, rfl, _, rfl, hR, hs⟩
  · rw [if_neg q79] at h ⊢
    refine exb (rR_go hR) ?_
    obtain ⟨q_73, h74, h⟩ := bd h
    obtain ⟨M75, e76, hR77, hs78⟩ := u230 hR h74
    replace hs78 := hs.tr hs78
    refine exb (c_V_of e76) ?_
    obtain rfl := Option.some.inj h
    exact ⟨_, rfl, _, rfl, hR77, hs78⟩
theorem q231_173 {m : Nat} {ad : Nat → Nat} {M : hM} {S : sT} (hR : rR m ad M S) (v1 : Int32) (v2 : Int32) {rs : sRes (Int32 × sT)} (h : c231_173 v1 v2 S = some rs) : ∃ res, b231_173 m v1 v2 M = some res ∧ simR o_I f_2 (J231 m) m ad M rs res := by
  have hs : sm m ad M M := sm.rf
  unfold c231_173 at h
  unfold b231_173
  refine exb (rR_gi hR 1) ?_
  by_cases q86 : (s_g S 1) ≤ v2
  · rw [if_pos q86] at h ⊢
    obtain rfl := Option.some.inj h
    exact ⟨_, rfl, _, rfl, hR, hs⟩
  · rw [if_neg q86] at h ⊢
    refine exb (rR_go hR) ?_
    obtain ⟨q_80, h81, h⟩ := bd h
    obtain ⟨M82, e83, hR84, hs85⟩ := u221 hR h81
    replace hs85 := hs.tr hs85
    refine exb (c_V_of e83) ?_
    obtain rfl := Option.some.inj h
    exact ⟨_, rfl, _, rfl, hR84, hs85⟩
theorem u231 {m : Nat} {ad : Nat → Nat} {M : hM} {S : sT} (hR : rR m ad M S)  {q : (Int32 × sT)} (h : e231  S = some q) : ∃ M1, f231 [.inr (.inr (some m))] M = some (some (.inl q.1), M1) ∧ rR m ad M1 q.2 ∧ sm m ad M M1 := by
  unfold e231 at h
  show ∃ M1, x_go k231 (b231_0 m  M) = some (o_I q, M1) ∧ rR m ad M1 (f_2 q) ∧ sm m ad M M1
  refine s_go_ok (o := o_I) (f := f_2) (J := J231 m) (bs := kS231) (bk := k231) (xs := c231_0  S) (x := b231_0 m  M) (M := M) (q := q) ?_ (fun rs hx => q231_0 hR  hx) h
  intro h as S M rs hR hb
  unfold kS231 at hb
  unfold k231 J231
  by_cases e0 : h = 14
  · rw [if_pos e0] at hb ⊢
    split at hb
    · subst e0; exact q231_14 hR _ _ hb
    · cases hb
  · rw [if_neg e0] at hb
    by_cases e1 : h = 35
    · rw [if_pos e1] at hb ⊢
      split at hb
      · subst e1; exact q231_35 hR _ _ hb
      · cases hb
    · rw [if_neg e1] at hb
      by_cases e2 : h = 152
      · rw [if_pos e2] at hb ⊢
        split at hb
        · subst e2; exact q231_152 hR _ _ hb
        · cases hb
      · rw [if_neg e2] at hb
        by_cases e3 : h = 173
        · rw [if_pos e3] at hb ⊢
          split at hb
          · subst e3; exact q231_173 hR _ _ hb
          · cases hb
        · rw [if_neg e3] at hb
          cases hb
/-! reference: disc(I)Z -/
def c232_44  (S : sT) : Option (sRes (Int32 × sT)) :=
  some (.inl ((0 : Int32), S))
def c232_0 (v1 : Int32) (S : sT) : Option (sRes (Int32 × sT)) :=
  if v1 < 0 then
    (c232_44  S)
  else
    (if (s_g S 1) ≤ v1 then
      (c232_44  S)
    else
      (Option.bind (s_a S 33 v1) fun v_1 =>
      if v_1 = 0 then
        (Option.bind (e176 v1 S) fun q_3 =>
        Option.bind (s_a q_3.2 14 q_3.1) fun v_9 =>
        if v_9 = (-1 : Int32) then
          (Option.bind (s_a q_3.2 34 v1) fun v_11 =>
          if v_11 = 0 then
            (Option.bind (s_sz q_3.2 33 v1 (1 : Int32)) fun S13 =>
            some (.inl ((1 : Int32), S13)))
          else
            (c232_44  q_3.2))
        else
          (c232_44  q_3.2))
      else
        (c232_44  S)))
def e232 (v1 : Int32) (S : sT) : Option (Int32 × sT) := s_out (c232_0 v1 S)
theorem q232_44 {m : Nat} {ad : Nat → Nat} {M : hM} {S : sT} (hR : rR m ad M S)  {rs : sRes (Int32 × sT)} (h : c232_44  S = some rs) : ∃ res, b232_44  M = some res ∧ simR o_I f_2 (fun _ as => as) m ad M rs res := by
  have hs : sm m ad M M := sm.rf
  unfold c232_44 at h
  unfold b232_44
  obtain rfl := Option.some.inj h
  exact ⟨_, rfl, _, rfl, hR, hs⟩
theorem q232_0 {m : Nat} {ad : Nat → Nat} {M : hM} {S : sT} (hR : rR m ad M S) (v1 : Int32) {rs : sRes (Int32 × sT)} (h : c232_0 v1 S = some rs) : ∃ res, b232_0 m v1 M = some res ∧ simR o_I f_2 (fun _ as => as) m ad M rs res := by
  have hs : sm m ad M M := sm.rf
  unfold c232_0 at h
  unfold b232_0
  by_cases q23 : v1 < 0
  · rw [if_pos q23] at h ⊢
    exact simT hs (q232_44 hR  h)
  · rw [if_neg q23] at h ⊢
    refine exb (rR_gi hR 1) ?_
    by_cases q22 : (s_g S 1) ≤ v1
    · rw [if_pos q22] at h ⊢
      exact simT hs (q232_44 hR  h)
    · rw [if_neg q22] at h ⊢
      refine exb (rR_gr hR 33) ?_
      obtain ⟨v_1, h2, h⟩ := bd h
      refine exb (rR_al hR h2) ?_
      by_cases q21 : v_1 = 0
      · rw [if_pos q21] at h ⊢
        refine exb (rR_gr hR 14) ?_
        refine exb (rR_go hR) ?_
        obtain ⟨q_3, h4, h⟩ := bd h
        obtain ⟨M5, e6, hR7, hs8⟩ := u176 hR h4
        replace hs8 := hs.tr hs8
        refine exb (c_I_of e6) ?_
        obtain ⟨v_9, h10, h⟩ := bd h
        refine exb (rR_al hR7 h10) ?_
        by_cases q20 : v_9 = (-1 : Int32)
        · rw [if_pos q20] at h ⊢
          refine exb (rR_gr hR7 34) ?_
          obtain ⟨v_11, h12, h⟩ := bd h
          refine exb (rR_al hR7 h12) ?_
          by_cases q19 : v_11 = 0
          · rw [if_pos q19] at h ⊢
            refine exb (rR_gr hR7 33) ?_
            obtain ⟨S13, h15, h⟩ := bd h
            obtain ⟨M14, e16, hR17, hs18⟩ := rR_sz hR7 h15
            replace hs18 := hs8.tr hs18
            refine exb e16 ?_
            obtain rfl := Option.some.inj h
            exact ⟨_, rfl, _, rfl, hR17, hs18⟩
          · rw [if_neg q19] at h ⊢
            exact simT hs8 (q232_44 hR7  h)
        · rw [if_neg q20] at h ⊢
          exact simT hs8 (q232_44 hR7  h)
      · rw [if_neg q21] at h ⊢
        exact simT hs (q232_44 hR  h)
theorem u232 {m : Nat} {ad : Nat → Nat} {M : hM} {S : sT} (hR : rR m ad M S) {v1 : Int32} {q : (Int32 × sT)} (h : e232 v1 S = some q) : ∃ M1, f232 [.inr (.inr (some m)), .inl v1] M = some (some (.inl q.1), M1) ∧ rR m ad M1 q.2 ∧ sm m ad M M1 := by
  exact s_out_sim (o := o_I) (f := f_2) (J := fun _ as => as) (fun rs hx => q232_0 hR v1 hx) h
/-! reference: wire(IIIII)I -/
def c233_44  (S : sT) : Option (sRes (Int32 × sT)) :=
  some (.inl ((-1 : Int32), S))
def c233_112  (S : sT) : Option (sRes (Int32 × sT)) :=
  some (.inl ((-1 : Int32), S))
def c233_169  (S : sT) : Option (sRes (Int32 × sT)) :=
  some (.inl ((-1 : Int32), S))
def c233_145 (v5 : Int32) (v7 : Int32) (si0 : Int32) (S : sT) : Option (sRes (Int32 × sT)) :=
  Option.bind (s_a S 14 v7) fun v_36 =>
  if v_36 = (-1 : Int32) then
    (Option.bind (s_a S 14 si0) fun v_38 =>
    if v_38 = (-1 : Int32) then
      (Option.bind (s_s S 10 ((2 : Int32) * (s_g S 13)) v7) fun S40 =>
      Option.bind (s_s S40 10 (((2 : Int32) * (s_g S40 13)) + (1 : Int32)) si0) fun S46 =>
      Option.bind (s_s S46 11 (s_g S46 13) v5) fun S52 =>
      Option.bind (s_sz S52 12 (s_g S52 13) (1 : Int32)) fun S58 =>
      Option.bind (s_s S58 14 v7 (s_g S58 13)) fun S64 =>
      Option.bind (s_s S64 14 si0 (s_g S64 13)) fun S70 =>
      Option.bind (e187 v7 S70) fun q_76 =>
      Option.bind (e187 si0 q_76) fun q_82 =>
      Option.bind (s_p q_82 13 ((s_g q_82 13) + (1 : Int32))) fun S88 =>
      some (.inl (((s_g S88 13) - (1 : Int32)), S88)))
    else
      (c233_169  S))
  else
    (c233_169  S)
def c233_114 (v1 : Int32) (v2 : Int32) (v3 : Int32) (v4 : Int32) (v5 : Int32) (v6 : Int32) (S : sT) : Option (sRes (Int32 × sT)) :=
  Option.bind (e175 v1 v2 S) fun q_17 =>
  if v6 = 0 then
    (Option.bind (e175 v3 v4 q_17.2) fun q_23 =>
    c233_145 v5 q_17.1 q_23.1 q_23.2)
  else
    (Option.bind (e176 (v3 - (16 : Int32)) q_17.2) fun q_29 =>
    c233_145 v5 q_17.1 q_29.1 q_29.2)
def c233_57 (v1 : Int32) (v2 : Int32) (v3 : Int32) (v4 : Int32) (v5 : Int32) (si0 : Int32) (S : sT) : Option (sRes (Int32 × sT)) :=
  if si0 = 0 then
    (if v3 < 0 then
      (c233_112  S)
    else
      (if (s_g S 0) ≤ v3 then
        (c233_112  S)
      else
        (if v3 = v1 then
          (c233_112  S)
        else
          (if v4 < 0 then
            (c233_112  S)
          else
            (if v4 ≤ (7 : Int32) then
              (c233_114 v1 v2 v3 v4 v5 si0 S)
            else
              (c233_112  S))))))
  else
    (if (s_g S 1) ≤ (v3 - (16 : Int32)) then
      (c233_112  S)
    else
      (if v4 = 0 then
        (c233_114 v1 v2 v3 v4 v5 si0 S)
      else
        (c233_112  S)))
def c233_0 (v1 : Int32) (v2 : Int32) (v3 : Int32) (v4 : Int32) (v5 : Int32) (S : sT) : Option (sRes (Int32 × sT)) :=
  if v1 < 0 then
    (c233_44  S)
  else
    (if (s_g S 0) ≤ v1 then
      (c233_44  S)
    else
      (if v2 < 0 then
        (c233_44  S)
      else
        (if (7 : Int32) < v2 then
          (c233_44  S)
        else
          (if v5 < (1 : Int32) then
            (c233_44  S)
          else
            (if (9 : Int32) < v5 then
              (c233_44  S)
            else
              (if (s_g S 13) = (16 : Int32) then
                (c233_44  S)
              else
                (if v3 < (16 : Int32) then
                  (c233_57 v1 v2 v3 v4 v5 (0 : Int32) S)
                else
                  (c233_57 v1 v2 v3 v4 v5 (1 : Int32) S))))))))
def e233 (v1 : Int32) (v2 : Int32) (v3 : Int32) (v4 : Int32) (v5 : Int32) (S : sT) : Option (Int32 × sT) := s_out (c233_0 v1 v2 v3 v4 v5 S)
theorem q233_44 {m : Nat} {ad : Nat → Nat} {M : hM} {S : sT} (hR : rR m ad M S)  {rs : sRes (Int32 × sT)} (h : c233_44  S = some rs) : ∃ res, b233_44  M = some res ∧ simR o_I f_2 (fun _ as => as) m ad M rs res := by
  have hs : sm m ad M M := sm.rf
  unfold c233_44 at h
  unfold b233_44
  obtain rfl := Option.some.inj h
  exact ⟨_, rfl, _, rfl, hR, hs⟩
theorem q233_112 {m : Nat} {ad : Nat → Nat} {M : hM} {S : sT} (hR : rR m ad M S)  {rs : sRes (Int32 × sT)} (h : c233_112  S = some rs) : ∃ res, b233_112  M = some res ∧ simR o_I f_2 (fun _ as => as) m ad M rs res := by
  have hs : sm m ad M M := sm.rf
  unfold c233_112 at h
  unfold b233_112
  obtain rfl := Option.some.inj h
  exact ⟨_, rfl, _, rfl, hR, hs⟩
theorem q233_169 {m : Nat} {ad : Nat → Nat} {M : hM} {S : sT} (hR : rR m ad M S)  {rs : sRes (Int32 × sT)} (h : c233_169  S = some rs) : ∃ res, b233_169  M = some res ∧ simR o_I f_2 (fun _ as => as) m ad M rs res := by
  have hs : sm m ad M M := sm.rf
  unfold c233_169 at h
  unfold b233_169
  obtain rfl := Option.some.inj h
  exact ⟨_, rfl, _, rfl, hR, hs⟩
theorem q233_145 {m : Nat} {ad : Nat → Nat} {M : hM} {S : sT} (hR : rR m ad M S) (v5 : Int32) (v7 : Int32) (si0 : Int32) {rs : sRes (Int32 × sT)} (h : c233_145 v5 v7 si0 S = some rs) : ∃ res, b233_145 m v5 v7 si0 M = some res ∧ simR o_I f_2 (fun _ as => as) m ad M rs res := by
  have hs : sm m ad M M := sm.rf
  unfold c233_145 at h
  unfold b233_145
  refine exb (rR_gr hR 14) ?_
  obtain ⟨v_36, h37, h⟩ := bd h
  refine exb (rR_al hR h37) ?_
  by_cases q95 : v_36 = (-1 : Int32)
  · rw [if_pos q95] at h ⊢
    refine exb (rR_gr hR 14) ?_
    obtain ⟨v_38, h39, h⟩ := bd h
    refine exb (rR_al hR h39) ?_
    by_cases q94 : v_38 = (-1 : Int32)
    · rw [if_pos q94] at h ⊢
      refine exb (rR_gr hR 10) ?_
      refine exb (rR_gi hR 13) ?_
      obtain ⟨S40, h42, h⟩ := bd h
      obtain ⟨M41, e43, hR44, hs45⟩ := rR_si hR h42
      replace hs45 := hs.tr hs45
      refine exb e43 ?_
      refine exb (rR_gr hR44 10) ?_
      refine exb (rR_gi hR44 13) ?_
      obtain ⟨S46, h48, h⟩ := bd h
      obtain ⟨M47, e49, hR50, hs51⟩ := rR_si hR44 h48
      replace hs51 := hs45.tr hs51
      refine exb e49 ?_
      refine exb (rR_gr hR50 11) ?_
      refine exb (rR_gi hR50 13) ?_
      obtain ⟨S52, h54, h⟩ := bd h
      obtain ⟨M53, e55, hR56, hs57⟩ := rR_si hR50 h54
      replace hs57 := hs51.tr hs57
      refine exb e55 ?_
      refine exb (rR_gr hR56 12) ?_
      refine exb (rR_gi hR56 13) ?_
      obtain ⟨S58, h60, h⟩ := bd h
      obtain ⟨M59, e61, hR62, hs63⟩ := rR_sz hR56 h60
      replace hs63 := hs57.tr hs63
      refine exb e61 ?_
      refine exb (rR_gr hR62 14) ?_
      refine exb (rR_gi hR62 13) ?_
      obtain ⟨S64, h66, h⟩ := bd h
      obtain ⟨M65, e67, hR68, hs69⟩ := rR_si hR62 h66
      replace hs69 := hs63.tr hs69
      refine exb e67 ?_
      refine exb (rR_gr hR68 14) ?_
      refine exb (rR_gi hR68 13) ?_
      obtain ⟨S70, h72, h⟩ := bd h
      obtain ⟨M71, e73, hR74, hs75⟩ := rR_si hR68 h72
      replace hs75 := hs69.tr hs75
      refine exb e73 ?_
      refine exb (rR_go hR74) ?_
      obtain ⟨q_76, h77, h⟩ := bd h
      obtain ⟨M78, e79, hR80, hs81⟩ := u187 hR74 h77
      replace hs81 := hs75.tr hs81
      refine exb (c_V_of e79) ?_
      refine exb (rR_go hR80) ?_
      obtain ⟨q_82, h83, h⟩ := bd h
      obtain ⟨M84, e85, hR86, hs87⟩ := u187 hR80 h83
      replace hs87 := hs81.tr hs87
      refine exb (c_V_of e85) ?_
      refine exb (rR_gi hR86 13) ?_
      obtain ⟨S88, h90, h⟩ := bd h
      obtain ⟨M89, e91, hR92, hs93⟩ := rR_pi hR86 h90
      replace hs93 := hs87.tr hs93
      refine exb e91 ?_
      refine exb (rR_gi hR92 13) ?_
      obtain rfl := Option.some.inj h
      exact ⟨_, rfl, _, rfl, hR92, hs93⟩
    · rw [if_neg q94] at h ⊢
      exact simT hs (q233_169 hR  h)
  · rw [if_neg q95] at h ⊢
    exact simT hs (q233_169 hR  h)
theorem q233_114 {m : Nat} {ad : Nat → Nat} {M : hM} {S : sT} (hR : rR m ad M S) (v1 : Int32) (v2 : Int32) (v3 : Int32) (v4 : Int32) (v5 : Int32) (v6 : Int32) {rs : sRes (Int32 × sT)} (h : c233_114 v1 v2 v3 v4 v5 v6 S = some rs) : ∃ res, b233_114 m v1 v2 v3 v4 v5 v6 M = some res ∧ simR o_I f_2 (fun _ as => as) m ad M rs res := by
  have hs : sm m ad M M := sm.rf
  unfold c233_114 at h
  unfold b233_114
  refine exb (rR_go hR) ?_
  obtain ⟨q_17, h18, h⟩ := bd h
  obtain ⟨M19, e20, hR21, hs22⟩ := u175 hR h18
  replace hs22 := hs.tr hs22
  refine exb (c_I_of e20) ?_
  by_cases q35 : v6 = 0
  · rw [if_pos q35] at h ⊢
    refine exb (rR_go hR21) ?_
    obtain ⟨q_23, h24, h⟩ := bd h
    obtain ⟨M25, e26, hR27, hs28⟩ := u175 hR21 h24
    replace hs28 := hs22.tr hs28
    refine exb (c_I_of e26) ?_
    exact simT hs28 (q233_145 hR27 v5 q_17.1 q_23.1 h)
  · rw [if_neg q35] at h ⊢
    refine exb (rR_go hR21) ?_
    obtain ⟨q_29, h30, h⟩ := bd h
    obtain ⟨M31, e32, hR33, hs34⟩ := u176 hR21 h30
    replace hs34 := hs22.tr hs34
    refine exb (c_I_of e32) ?_
    exact simT hs34 (q233_145 hR33 v5 q_17.1 q_29.1 h)
theorem q233_57 {m : Nat} {ad : Nat → Nat} {M : hM} {S : sT} (hR : rR m ad M S) (v1 : Int32) (v2 : Int32) (v3 : Int32) (v4 : Int32) (v5 : Int32) (si0 : Int32) {rs : sRes (Int32 × sT)} (h : c233_57 v1 v2 v3 v4 v5 si0 S = some rs) : ∃ res, b233_57 m v1 v2 v3 v4 v5 si0 M = some res ∧ simR o_I f_2 (fun _ as => as) m ad M rs res := by
  have hs : sm m ad M M := sm.rf
  unfold c233_57 at h
  unfold b233_57
  by_cases q16 : si0 = 0
  · rw [if_pos q16] at h ⊢
    by_cases q13 : v3 < 0
    · rw [if_pos q13] at h ⊢
      exact simT hs (q233_112 hR  h)
    · rw [if_neg q13] at h ⊢
      refine exb (rR_gi hR 0) ?_
      by_cases q12 : (s_g S 0) ≤ v3
      · rw [if_pos q12] at h ⊢
        exact simT hs (q233_112 hR  h)
      · rw [if_neg q12] at h ⊢
        by_cases q11 : v3 = v1
        · rw [if_pos q11] at h ⊢
          exact simT hs (q233_112 hR  h)
        · rw [if_neg q11] at h ⊢
          by_cases q10 : v4 < 0
          · rw [if_pos q10] at h ⊢
            exact simT hs (q233_112 hR  h)
          · rw [if_neg q10] at h ⊢
            by_cases q9 : v4 ≤ (7 : Int32)
            · rw [if_pos q9] at h ⊢
              exact simT hs (q233_114 hR v1 v2 v3 v4 v5 si0 h)
            · rw [if_neg q9] at h ⊢
              exact simT hs (q233_112 hR  h)
  · rw [if_neg q16] at h ⊢
    refine exb (rR_gi hR 1) ?_
    by_cases q15 : (s_g S 1) ≤ (v3 - (16 : Int32))
    · rw [if_pos q15] at h ⊢
      exact simT hs (q233_112 hR  h)
    · rw [if_neg q15] at h ⊢
      by_cases q14 : v4 = 0
      · rw [if_pos q14] at h ⊢
        exact simT hs (q233_114 hR v1 v2 v3 v4 v5 si0 h)
      · rw [if_neg q14] at h ⊢
        exact simT hs (q233_112 hR  h)
theorem q233_0 {m : Nat} {ad : Nat → Nat} {M : hM} {S : sT} (hR : rR m ad M S) (v1 : Int32) (v2 : Int32) (v3 : Int32) (v4 : Int32) (v5 : Int32) {rs : sRes (Int32 × sT)} (h : c233_0 v1 v2 v3 v4 v5 S = some rs) : ∃ res, b233_0 m v1 v2 v3 v4 v5 M = some res ∧ simR o_I f_2 (fun _ as => as) m ad M rs res := by
  have hs : sm m ad M M := sm.rf
  unfold c233_0 at h
  unfold b233_0
  by_cases q8 : v1 < 0
  · rw [if_pos q8] at h ⊢
    exact simT hs (q233_44 hR  h)
  · rw [if_neg q8] at h ⊢
    refine exb (rR_gi hR 0) ?_
    by_cases q7 : (s_g S 0) ≤ v1
    · rw [if_pos q7] at h ⊢
      exact simT hs (q233_44 hR  h)
    · rw [if_neg q7] at h ⊢
      by_cases q6 : v2 < 0
      · rw [if_pos q6] at h ⊢
        exact simT hs (q233_44 hR  h)
      · rw [if_neg q6] at h ⊢
        by_cases q5 : (7 : Int32) < v2
        · rw [if_pos q5] at h ⊢
          exact simT hs (q233_44 hR  h)
        · rw [if_neg q5] at h ⊢
          by_cases q4 : v5 < (1 : Int32)
          · rw [if_pos q4] at h ⊢
            exact simT hs (q233_44 hR  h)
          · rw [if_neg q4] at h ⊢
            by_cases q3 : (9 : Int32) < v5
            · rw [if_pos q3] at h ⊢
              exact simT hs (q233_44 hR  h)
            · rw [if_neg q3] at h ⊢
              refine exb (rR_gi hR 13) ?_
              by_cases q2 : (s_g S 13) = (16 : Int32)
              · rw [if_pos q2] at h ⊢
                exact simT hs (q233_44 hR  h)
              · rw [if_neg q2] at h ⊢
                by_cases q1 : v3 < (16 : Int32)
                · rw [if_pos q1] at h ⊢
                  exact simT hs (q233_57 hR v1 v2 v3 v4 v5 (0 : Int32) h)
                · rw [if_neg q1] at h ⊢
                  exact simT hs (q233_57 hR v1 v2 v3 v4 v5 (1 : Int32) h)
theorem u233 {m : Nat} {ad : Nat → Nat} {M : hM} {S : sT} (hR : rR m ad M S) {v1 : Int32} {v2 : Int32} {v3 : Int32} {v4 : Int32} {v5 : Int32} {q : (Int32 × sT)} (h : e233 v1 v2 v3 v4 v5 S = some q) : ∃ M1, f233 [.inr (.inr (some m)), .inl v1, .inl v2, .inl v3, .inl v4, .inl v5] M = some (some (.inl q.1), M1) ∧ rR m ad M1 q.2 ∧ sm m ad M M1 := by
  exact s_out_sim (o := o_I) (f := f_2) (J := fun _ as => as) (fun rs hx => q233_0 hR v1 v2 v3 v4 v5 hx) h
/-! reference: isWire(I)Z -/
def c234_17 (si0 : Int32) (S : sT) : Option (sRes (Int32 × sT)) :=
  if si0 = 0 ∨ si0 = 1 then
    (some (.inl (si0, S)))
  else
    none
def c234_16  (S : sT) : Option (sRes (Int32 × sT)) :=
  c234_17 (0 : Int32) S
def c234_0 (v1 : Int32) (S : sT) : Option (sRes (Int32 × sT)) :=
  if v1 < 0 then
    (c234_16  S)
  else
    (if (s_g S 13) ≤ v1 then
      (c234_16  S)
    else
      (c234_17 (1 : Int32) S))
def e234 (v1 : Int32) (S : sT) : Option (Int32 × sT) := s_out (c234_0 v1 S)
theorem q234_17 {m : Nat} {ad : Nat → Nat} {M : hM} {S : sT} (hR : rR m ad M S) (si0 : Int32) {rs : sRes (Int32 × sT)} (h : c234_17 si0 S = some rs) : ∃ res, b234_17 si0 M = some res ∧ simR o_I f_2 (fun _ as => as) m ad M rs res := by
  have hs : sm m ad M M := sm.rf
  unfold c234_17 at h
  unfold b234_17
  by_cases q3 : si0 = 0 ∨ si0 = 1
  · rw [if_pos q3] at h ⊢
    obtain rfl := Option.some.inj h
    exact ⟨_, rfl, _, rfl, hR, hs⟩
  · rw [if_neg q3] at h
    cases h
theorem q234_16 {m : Nat} {ad : Nat → Nat} {M : hM} {S : sT} (hR : rR m ad M S)  {rs : sRes (Int32 × sT)} (h : c234_16  S = some rs) : ∃ res, b234_16  M = some res ∧ simR o_I f_2 (fun _ as => as) m ad M rs res := by
  have hs : sm m ad M M := sm.rf
  unfold c234_16 at h
  unfold b234_16
  exact simT hs (q234_17 hR (0 : Int32) h)
theorem q234_0 {m : Nat} {ad : Nat → Nat} {M : hM} {S : sT} (hR : rR m ad M S) (v1 : Int32) {rs : sRes (Int32 × sT)} (h : c234_0 v1 S = some rs) : ∃ res, b234_0 m v1 M = some res ∧ simR o_I f_2 (fun _ as => as) m ad M rs res := by
  have hs : sm m ad M M := sm.rf
  unfold c234_0 at h
  unfold b234_0
  by_cases q2 : v1 < 0
  · rw [if_pos q2] at h ⊢
    exact simT hs (q234_16 hR  h)
  · rw [if_neg q2] at h ⊢
    refine exb (rR_gi hR 13) ?_
    by_cases q1 : (s_g S 13) ≤ v1
    · rw [if_pos q1] at h ⊢
      exact simT hs (q234_16 hR  h)
    · rw [if_neg q1] at h ⊢
      exact simT hs (q234_17 hR (1 : Int32) h)
theorem u234 {m : Nat} {ad : Nat → Nat} {M : hM} {S : sT} (hR : rR m ad M S) {v1 : Int32} {q : (Int32 × sT)} (h : e234 v1 S = some q) : ∃ M1, f234 [.inr (.inr (some m)), .inl v1] M = some (some (.inl q.1), M1) ∧ rR m ad M1 q.2 ∧ sm m ad M M1 := by
  exact s_out_sim (o := o_I) (f := f_2) (J := fun _ as => as) (fun rs hx => q234_0 hR v1 hx) h
/-! reference: cut(I)Z -/
def c235_17  (S : sT) : Option (sRes (Int32 × sT)) :=
  some (.inl ((0 : Int32), S))
def c235_0 (v1 : Int32) (S : sT) : Option (sRes (Int32 × sT)) :=
  Option.bind (e234 v1 S) fun q_1 =>
  if q_1.1 = 0 then
    (c235_17  q_1.2)
  else
    (Option.bind (s_a q_1.2 12 v1) fun v_7 =>
    if v_7 = 0 then
      (c235_17  q_1.2)
    else
      (Option.bind (s_sz q_1.2 12 v1 (0 : Int32)) fun S9 =>
      Option.bind (s_a S9 10 ((2 : Int32) * v1)) fun v_15 =>
      Option.bind (e187 v_15 S9) fun q_17 =>
      Option.bind (s_a q_17 10 (((2 : Int32) * v1) + (1 : Int32))) fun v_23 =>
      Option.bind (e187 v_23 q_17) fun q_25 =>
      some (.inl ((1 : Int32), q_25))))
def e235 (v1 : Int32) (S : sT) : Option (Int32 × sT) := s_out (c235_0 v1 S)
theorem q235_17 {m : Nat} {ad : Nat → Nat} {M : hM} {S : sT} (hR : rR m ad M S)  {rs : sRes (Int32 × sT)} (h : c235_17  S = some rs) : ∃ res, b235_17  M = some res ∧ simR o_I f_2 (fun _ as => as) m ad M rs res := by
  have hs : sm m ad M M := sm.rf
  unfold c235_17 at h
  unfold b235_17
  obtain rfl := Option.some.inj h
  exact ⟨_, rfl, _, rfl, hR, hs⟩
theorem q235_0 {m : Nat} {ad : Nat → Nat} {M : hM} {S : sT} (hR : rR m ad M S) (v1 : Int32) {rs : sRes (Int32 × sT)} (h : c235_0 v1 S = some rs) : ∃ res, b235_0 m v1 M = some res ∧ simR o_I f_2 (fun _ as => as) m ad M rs res := by
  have hs : sm m ad M M := sm.rf
  unfold c235_0 at h
  unfold b235_0
  refine exb (rR_go hR) ?_
  obtain ⟨q_1, h2, h⟩ := bd h
  obtain ⟨M3, e4, hR5, hs6⟩ := u234 hR h2
  replace hs6 := hs.tr hs6
  refine exb (c_I_of e4) ?_
  by_cases q32 : q_1.1 = 0
  · rw [if_pos q32] at h ⊢
    exact simT hs6 (q235_17 hR5  h)
  · rw [if_neg q32] at h ⊢
    refine exb (rR_gr hR5 12) ?_
    obtain ⟨v_7, h8, h⟩ := bd h
    refine exb (rR_al hR5 h8) ?_
    by_cases q31 : v_7 = 0
    · rw [if_pos q31] at h ⊢
      exact simT hs6 (q235_17 hR5  h)
    · rw [if_neg q31] at h ⊢
      refine exb (rR_gr hR5 12) ?_
      obtain ⟨S9, h11, h⟩ := bd h
      obtain ⟨M10, e12, hR13, hs14⟩ := rR_sz hR5 h11
      replace hs14 := hs6.tr hs14
      refine exb e12 ?_
      refine exb (rR_gr hR13 10) ?_
      obtain ⟨v_15, h16, h⟩ := bd h
      refine exb (rR_al hR13 h16) ?_
      refine exb (rR_go hR13) ?_
      obtain ⟨q_17, h18, h⟩ := bd h
      obtain ⟨M19, e20, hR21, hs22⟩ := u187 hR13 h18
      replace hs22 := hs14.tr hs22
      refine exb (c_V_of e20) ?_
      refine exb (rR_gr hR21 10) ?_
      obtain ⟨v_23, h24, h⟩ := bd h
      refine exb (rR_al hR21 h24) ?_
      refine exb (rR_go hR21) ?_
      obtain ⟨q_25, h26, h⟩ := bd h
      obtain ⟨M27, e28, hR29, hs30⟩ := u187 hR21 h26
      replace hs30 := hs22.tr hs30
      refine exb (c_V_of e28) ?_
      obtain rfl := Option.some.inj h
      exact ⟨_, rfl, _, rfl, hR29, hs30⟩
theorem u235 {m : Nat} {ad : Nat → Nat} {M : hM} {S : sT} (hR : rR m ad M S) {v1 : Int32} {q : (Int32 × sT)} (h : e235 v1 S = some q) : ∃ M1, f235 [.inr (.inr (some m)), .inl v1] M = some (some (.inl q.1), M1) ∧ rR m ad M1 q.2 ∧ sm m ad M M1 := by
  exact s_out_sim (o := o_I) (f := f_2) (J := fun _ as => as) (fun rs hx => q235_0 hR v1 hx) h
/-! reference: join(I)Z -/
def c236_17  (S : sT) : Option (sRes (Int32 × sT)) :=
  some (.inl ((0 : Int32), S))
def c236_0 (v1 : Int32) (S : sT) : Option (sRes (Int32 × sT)) :=
  Option.bind (e234 v1 S) fun q_1 =>
  if q_1.1 = 0 then
    (c236_17  q_1.2)
  else
    (Option.bind (s_a q_1.2 12 v1) fun v_7 =>
    if v_7 = 0 then
      (Option.bind (s_sz q_1.2 12 v1 (1 : Int32)) fun S9 =>
      some (.inl ((1 : Int32), S9)))
    else
      (c236_17  q_1.2))
def e236 (v1 : Int32) (S : sT) : Option (Int32 × sT) := s_out (c236_0 v1 S)
theorem q236_17 {m : Nat} {ad : Nat → Nat} {M : hM} {S : sT} (hR : rR m ad M S)  {rs : sRes (Int32 × sT)} (h : c236_17  S = some rs) : ∃ res, b236_17  M = some res ∧ simR o_I f_2 (fun _ as => as) m ad M rs res := by
  have hs : sm m ad M M := sm.rf
  unfold c236_17 at h
  unfold b236_17
  obtain rfl := Option.some.inj h
  exact ⟨_, rfl, _, rfl, hR, hs⟩
theorem q236_0 {m : Nat} {ad : Nat → Nat} {M : hM} {S : sT} (hR : rR m ad M S) (v1 : Int32) {rs : sRes (Int32 × sT)} (h : c236_0 v1 S = some rs) : ∃ res, b236_0 m v1 M = some res ∧ simR o_I f_2 (fun _ as => as) m ad M rs res := by
  have hs : sm m ad M M := sm.rf
  unfold c236_0 at h
  unfold b236_0
  refine exb (rR_go hR) ?_
  obtain ⟨q_1, h2, h⟩ := bd h
  obtain ⟨M3, e4, hR5, hs6⟩ := u234 hR h2
  replace hs6 := hs.tr hs6
  refine exb (c_I_of e4) ?_
  by_cases q16 : q_1.1 = 0
  · rw [if_pos q16] at h ⊢
    exact simT hs6 (q236_17 hR5  h)
  · rw [if_neg q16] at h ⊢
    refine exb (rR_gr hR5 12) ?_
    obtain ⟨v_7, h8, h⟩ := bd h
    refine exb (rR_al hR5 h8) ?_
    by_cases q15 : v_7 = 0
    · rw [if_pos q15] at h ⊢
      refine exb (rR_gr hR5 12) ?_
      obtain ⟨S9, h11, h⟩ := bd h
      obtain ⟨M10, e12, hR13, hs14⟩ := rR_sz hR5 h11
      replace hs14 := hs6.tr hs14
      refine exb e12 ?_
      obtain rfl := Option.some.inj h
      exact ⟨_, rfl, _, rfl, hR13, hs14⟩
    · rw [if_neg q15] at h ⊢
      exact simT hs6 (q236_17 hR5  h)
theorem u236 {m : Nat} {ad : Nat → Nat} {M : hM} {S : sT} (hR : rR m ad M S) {v1 : Int32} {q : (Int32 × sT)} (h : e236 v1 S = some q) : ∃ M1, f236 [.inr (.inr (some m)), .inl v1] M = some (some (.inl q.1), M1) ∧ rR m ad M1 q.2 ∧ sm m ad M M1 := by
  exact s_out_sim (o := o_I) (f := f_2) (J := fun _ as => as) (fun rs hx => q236_0 hR v1 hx) h
/-! reference: zone(IIZ)Z -/
def c237_22  (S : sT) : Option (sRes (Int32 × sT)) :=
  some (.inl ((0 : Int32), S))
def c237_58 (si0 : Int32) (si1 : Int32) (S : sT) : Option (sRes (Int32 × sT)) :=
  Option.bind (s_s S 37 si1 si0) fun S10 =>
  some (.inl ((1 : Int32), S10))
def c237_0 (v1 : Int32) (v2 : Int32) (v3 : Int32) (S : sT) : Option (sRes (Int32 × sT)) :=
  if v1 < 0 then
    (c237_22  S)
  else
    (if (7 : Int32) < v1 then
      (c237_22  S)
    else
      (if v2 < 0 then
        (c237_22  S)
      else
        (if v2 < (s_g S 1) then
          (if v3 = 0 then
            (Option.bind (s_a S 37 v1) fun v_1 =>
            c237_58 (v_1 &&& (((1 : Int32) <<< (v2 &&& 31)) ^^^ (-1 : Int32))) v1 S)
          else
            (Option.bind (s_a S 37 v1) fun v_3 =>
            c237_58 (v_3 ||| ((1 : Int32) <<< (v2 &&& 31))) v1 S))
        else
          (c237_22  S))))
def e237 (v1 : Int32) (v2 : Int32) (v3 : Int32) (S : sT) : Option (Int32 × sT) := s_out (c237_0 v1 v2 v3 S)
theorem q237_22 {m : Nat} {ad : Nat → Nat} {M : hM} {S : sT} (hR : rR m ad M S)  {rs : sRes (Int32 × sT)} (h : c237_22  S = some rs) : ∃ res, b237_22  M = some res ∧ simR o_I f_2 (fun _ as => as) m ad M rs res := by
  have hs : sm m ad M M := sm.rf
  unfold c237_22 at h
  unfold b237_22
  obtain rfl := Option.some.inj h
  exact ⟨_, rfl, _, rfl, hR, hs⟩
theorem q237_58 {m : Nat} {ad : Nat → Nat} {M : hM} {S : sT} (hR : rR m ad M S) (si0 : Int32) (si1 : Int32) {rs : sRes (Int32 × sT)} (h : c237_58 si0 si1 S = some rs) : ∃ res, b237_58 si0 si1 (some (ad 37)) M = some res ∧ simR o_I f_2 (fun _ as => as) m ad M rs res := by
  have hs : sm m ad M M := sm.rf
  unfold c237_58 at h
  unfold b237_58
  obtain ⟨S10, h12, h⟩ := bd h
  obtain ⟨M11, e13, hR14, hs15⟩ := rR_si hR h12
  replace hs15 := hs.tr hs15
  refine exb e13 ?_
  obtain rfl := Option.some.inj h
  exact ⟨_, rfl, _, rfl, hR14, hs15⟩
theorem q237_0 {m : Nat} {ad : Nat → Nat} {M : hM} {S : sT} (hR : rR m ad M S) (v1 : Int32) (v2 : Int32) (v3 : Int32) {rs : sRes (Int32 × sT)} (h : c237_0 v1 v2 v3 S = some rs) : ∃ res, b237_0 m v1 v2 v3 M = some res ∧ simR o_I f_2 (fun _ as => as) m ad M rs res := by
  have hs : sm m ad M M := sm.rf
  unfold c237_0 at h
  unfold b237_0
  by_cases q9 : v1 < 0
  · rw [if_pos q9] at h ⊢
    exact simT hs (q237_22 hR  h)
  · rw [if_neg q9] at h ⊢
    by_cases q8 : (7 : Int32) < v1
    · rw [if_pos q8] at h ⊢
      exact simT hs (q237_22 hR  h)
    · rw [if_neg q8] at h ⊢
      by_cases q7 : v2 < 0
      · rw [if_pos q7] at h ⊢
        exact simT hs (q237_22 hR  h)
      · rw [if_neg q7] at h ⊢
        refine exb (rR_gi hR 1) ?_
        by_cases q6 : v2 < (s_g S 1)
        · rw [if_pos q6] at h ⊢
          refine exb (rR_gr hR 37) ?_
          by_cases q5 : v3 = 0
          · rw [if_pos q5] at h ⊢
            refine exb (rR_gr hR 37) ?_
            obtain ⟨v_1, h2, h⟩ := bd h
            refine exb (rR_al hR h2) ?_
            exact simT hs (q237_58 hR (v_1 &&& (((1 : Int32) <<< (v2 &&& 31)) ^^^ (-1 : Int32))) v1 h)
          · rw [if_neg q5] at h ⊢
            refine exb (rR_gr hR 37) ?_
            obtain ⟨v_3, h4, h⟩ := bd h
            refine exb (rR_al hR h4) ?_
            exact simT hs (q237_58 hR (v_3 ||| ((1 : Int32) <<< (v2 &&& 31))) v1 h)
        · rw [if_neg q6] at h ⊢
          exact simT hs (q237_22 hR  h)
theorem u237 {m : Nat} {ad : Nat → Nat} {M : hM} {S : sT} (hR : rR m ad M S) {v1 : Int32} {v2 : Int32} {v3 : Int32} {q : (Int32 × sT)} (h : e237 v1 v2 v3 S = some q) : ∃ M1, f237 [.inr (.inr (some m)), .inl v1, .inl v2, .inl v3] M = some (some (.inl q.1), M1) ∧ rR m ad M1 q.2 ∧ sm m ad M M1 := by
  exact s_out_sim (o := o_I) (f := f_2) (J := fun _ as => as) (fun rs hx => q237_0 hR v1 v2 v3 hx) h
/-! reference: zoning(Z)V -/
def c238_0 (v1 : Int32) (S : sT) : Option (sRes sT) :=
  Option.bind (s_pz S 38 v1) fun S1 =>
  some (.inl S1)
def e238 (v1 : Int32) (S : sT) : Option sT := s_out (c238_0 v1 S)
theorem q238_0 {m : Nat} {ad : Nat → Nat} {M : hM} {S : sT} (hR : rR m ad M S) (v1 : Int32) {rs : sRes sT} (h : c238_0 v1 S = some rs) : ∃ res, b238_0 m v1 M = some res ∧ simR o_V f_1 (fun _ as => as) m ad M rs res := by
  have hs : sm m ad M M := sm.rf
  unfold c238_0 at h
  unfold b238_0
  obtain ⟨S1, h3, h⟩ := bd h
  obtain ⟨M2, e4, hR5, hs6⟩ := rR_pz hR h3
  replace hs6 := hs.tr hs6
  refine exb e4 ?_
  obtain rfl := Option.some.inj h
  exact ⟨_, rfl, _, rfl, hR5, hs6⟩
theorem u238 {m : Nat} {ad : Nat → Nat} {M : hM} {S : sT} (hR : rR m ad M S) {v1 : Int32} {q : sT} (h : e238 v1 S = some q) : ∃ M1, f238 [.inr (.inr (some m)), .inl v1] M = some (none, M1) ∧ rR m ad M1 q ∧ sm m ad M M1 := by
  exact s_out_sim (o := o_V) (f := f_1) (J := fun _ as => as) (fun rs hx => q238_0 hR v1 hx) h
/-! reference: domain(II)Z -/
def c239_33  (S : sT) : Option (sRes (Int32 × sT)) :=
  some (.inl ((0 : Int32), S))
def c239_0 (v1 : Int32) (v2 : Int32) (S : sT) : Option (sRes (Int32 × sT)) :=
  if v1 < 0 then
    (c239_33  S)
  else
    (if (s_g S 0) ≤ v1 then
      (c239_33  S)
    else
      (if v2 < (1 : Int32) then
        (c239_33  S)
      else
        (if (15 : Int32) < v2 then
          (c239_33  S)
        else
          (Option.bind (s_a S 26 v1) fun v_1 =>
          if v_1 = v2 then
            (c239_33  S)
          else
            (Option.bind (s_s S 26 v1 v2) fun S3 =>
            some (.inl ((1 : Int32), S3)))))))
def e239 (v1 : Int32) (v2 : Int32) (S : sT) : Option (Int32 × sT) := s_out (c239_0 v1 v2 S)
theorem q239_33 {m : Nat} {ad : Nat → Nat} {M : hM} {S : sT} (hR : rR m ad M S)  {rs : sRes (Int32 × sT)} (h : c239_33  S = some rs) : ∃ res, b239_33  M = some res ∧ simR o_I f_2 (fun _ as => as) m ad M rs res := by
  have hs : sm m ad M M := sm.rf
  unfold c239_33 at h
  unfold b239_33
  obtain rfl := Option.some.inj h
  exact ⟨_, rfl, _, rfl, hR, hs⟩
theorem q239_0 {m : Nat} {ad : Nat → Nat} {M : hM} {S : sT} (hR : rR m ad M S) (v1 : Int32) (v2 : Int32) {rs : sRes (Int32 × sT)} (h : c239_0 v1 v2 S = some rs) : ∃ res, b239_0 m v1 v2 M = some res ∧ simR o_I f_2 (fun _ as => as) m ad M rs res := by
  have hs : sm m ad M M := sm.rf
  unfold c239_0 at h
  unfold b239_0
  by_cases q13 : v1 < 0
  · rw [if_pos q13] at h ⊢
    exact simT hs (q239_33 hR  h)
  · rw [if_neg q13] at h ⊢
    refine exb (rR_gi hR 0) ?_
    by_cases q12 : (s_g S 0) ≤ v1
    · rw [if_pos q12] at h ⊢
      exact simT hs (q239_33 hR  h)
    · rw [if_neg q12] at h ⊢
      by_cases q11 : v2 < (1 : Int32)
      · rw [if_pos q11] at h ⊢
        exact simT hs (q239_33 hR  h)
      · rw [if_neg q11] at h ⊢
        by_cases q10 : (15 : Int32) < v2
        · rw [if_pos q10] at h ⊢
          exact simT hs (q239_33 hR  h)
        · rw [if_neg q10] at h ⊢
          refine exb (rR_gr hR 26) ?_
          obtain ⟨v_1, h2, h⟩ := bd h
          refine exb (rR_al hR h2) ?_
          by_cases q9 : v_1 = v2
          · rw [if_pos q9] at h ⊢
            exact simT hs (q239_33 hR  h)
          · rw [if_neg q9] at h ⊢
            refine exb (rR_gr hR 26) ?_
            obtain ⟨S3, h5, h⟩ := bd h
            obtain ⟨M4, e6, hR7, hs8⟩ := rR_si hR h5
            replace hs8 := hs.tr hs8
            refine exb e6 ?_
            obtain rfl := Option.some.inj h
            exact ⟨_, rfl, _, rfl, hR7, hs8⟩
theorem u239 {m : Nat} {ad : Nat → Nat} {M : hM} {S : sT} (hR : rR m ad M S) {v1 : Int32} {v2 : Int32} {q : (Int32 × sT)} (h : e239 v1 v2 S = some q) : ∃ M1, f239 [.inr (.inr (some m)), .inl v1, .inl v2] M = some (some (.inl q.1), M1) ∧ rR m ad M1 q.2 ∧ sm m ad M M1 := by
  exact s_out_sim (o := o_I) (f := f_2) (J := fun _ as => as) (fun rs hx => q239_0 hR v1 v2 hx) h
/-! reference: frameAt(II)I -/
def c240_36 (si0 : Int32) (S : sT) : Option (sRes (Int32 × sT)) :=
  some (.inl (si0, S))
def c240_17 (v1 : Int32) (v2 : Int32) (S : sT) : Option (sRes (Int32 × sT)) :=
  Option.bind (s_a S 10 (((2 : Int32) * v1) + v2)) fun v_10 =>
  Option.bind (s_a S 15 v_10) fun v_12 =>
  c240_36 v_12 S
def c240_35  (S : sT) : Option (sRes (Int32 × sT)) :=
  c240_36 (-1 : Int32) S
def c240_0 (v1 : Int32) (v2 : Int32) (S : sT) : Option (sRes (Int32 × sT)) :=
  Option.bind (e234 v1 S) fun q_1 =>
  if q_1.1 = 0 then
    (c240_35  q_1.2)
  else
    (if v2 = 0 then
      (c240_17 v1 v2 q_1.2)
    else
      (if v2 = (1 : Int32) then
        (c240_17 v1 v2 q_1.2)
      else
        (c240_35  q_1.2)))
def e240 (v1 : Int32) (v2 : Int32) (S : sT) : Option (Int32 × sT) := s_out (c240_0 v1 v2 S)
theorem q240_36 {m : Nat} {ad : Nat → Nat} {M : hM} {S : sT} (hR : rR m ad M S) (si0 : Int32) {rs : sRes (Int32 × sT)} (h : c240_36 si0 S = some rs) : ∃ res, b240_36 si0 M = some res ∧ simR o_I f_2 (fun _ as => as) m ad M rs res := by
  have hs : sm m ad M M := sm.rf
  unfold c240_36 at h
  unfold b240_36
  obtain rfl := Option.some.inj h
  exact ⟨_, rfl, _, rfl, hR, hs⟩
theorem q240_17 {m : Nat} {ad : Nat → Nat} {M : hM} {S : sT} (hR : rR m ad M S) (v1 : Int32) (v2 : Int32) {rs : sRes (Int32 × sT)} (h : c240_17 v1 v2 S = some rs) : ∃ res, b240_17 m v1 v2 M = some res ∧ simR o_I f_2 (fun _ as => as) m ad M rs res := by
  have hs : sm m ad M M := sm.rf
  unfold c240_17 at h
  unfold b240_17
  refine exb (rR_gr hR 15) ?_
  refine exb (rR_gr hR 10) ?_
  obtain ⟨v_10, h11, h⟩ := bd h
  refine exb (rR_al hR h11) ?_
  obtain ⟨v_12, h13, h⟩ := bd h
  refine exb (rR_al hR h13) ?_
  exact simT hs (q240_36 hR v_12 h)
theorem q240_35 {m : Nat} {ad : Nat → Nat} {M : hM} {S : sT} (hR : rR m ad M S)  {rs : sRes (Int32 × sT)} (h : c240_35  S = some rs) : ∃ res, b240_35  M = some res ∧ simR o_I f_2 (fun _ as => as) m ad M rs res := by
  have hs : sm m ad M M := sm.rf
  unfold c240_35 at h
  unfold b240_35
  exact simT hs (q240_36 hR (-1 : Int32) h)
theorem q240_0 {m : Nat} {ad : Nat → Nat} {M : hM} {S : sT} (hR : rR m ad M S) (v1 : Int32) (v2 : Int32) {rs : sRes (Int32 × sT)} (h : c240_0 v1 v2 S = some rs) : ∃ res, b240_0 m v1 v2 M = some res ∧ simR o_I f_2 (fun _ as => as) m ad M rs res := by
  have hs : sm m ad M M := sm.rf
  unfold c240_0 at h
  unfold b240_0
  refine exb (rR_go hR) ?_
  obtain ⟨q_1, h2, h⟩ := bd h
  obtain ⟨M3, e4, hR5, hs6⟩ := u234 hR h2
  replace hs6 := hs.tr hs6
  refine exb (c_I_of e4) ?_
  by_cases q9 : q_1.1 = 0
  · rw [if_pos q9] at h ⊢
    exact simT hs6 (q240_35 hR5  h)
  · rw [if_neg q9] at h ⊢
    by_cases q8 : v2 = 0
    · rw [if_pos q8] at h ⊢
      exact simT hs6 (q240_17 hR5 v1 v2 h)
    · rw [if_neg q8] at h ⊢
      by_cases q7 : v2 = (1 : Int32)
      · rw [if_pos q7] at h ⊢
        exact simT hs6 (q240_17 hR5 v1 v2 h)
      · rw [if_neg q7] at h ⊢
        exact simT hs6 (q240_35 hR5  h)
theorem u240 {m : Nat} {ad : Nat → Nat} {M : hM} {S : sT} (hR : rR m ad M S) {v1 : Int32} {v2 : Int32} {q : (Int32 × sT)} (h : e240 v1 v2 S = some q) : ∃ M1, f240 [.inr (.inr (some m)), .inl v1, .inl v2] M = some (some (.inl q.1), M1) ∧ rR m ad M1 q.2 ∧ sm m ad M M1 := by
  exact s_out_sim (o := o_I) (f := f_2) (J := fun _ as => as) (fun rs hx => q240_0 hR v1 v2 hx) h
/-! reference: flip(III)Z -/
def c241_32  (S : sT) : Option (sRes (Int32 × sT)) :=
  some (.inl ((0 : Int32), S))
def c241_0 (v1 : Int32) (v2 : Int32) (v3 : Int32) (S : sT) : Option (sRes (Int32 × sT)) :=
  Option.bind (e240 v1 v2 S) fun q_1 =>
  if q_1.1 = (-1 : Int32) then
    (c241_32  q_1.2)
  else
    (if v3 < 0 then
      (c241_32  q_1.2)
    else
      (Option.bind (s_a q_1.2 7 q_1.1) fun v_7 =>
      if v3 < ((8 : Int32) * v_7) then
        (Option.bind (d_v v3 (8 : Int32)) fun v_9 =>
        Option.bind (s_a q_1.2 6 ((q_1.1 * (80 : Int32)) + v_9)) fun v_11 =>
        Option.bind (d_m v3 (8 : Int32)) fun v_13 =>
        Option.bind (s_sb q_1.2 6 ((q_1.1 * (80 : Int32)) + v_9) (Int32.toInt8 (v_11 ^^^ (Int32.toInt8 ((1 : Int32) <<< (v_13 &&& 31))).toInt32)).toInt32) fun S15 =>
        some (.inl ((1 : Int32), S15)))
      else
        (c241_32  q_1.2)))
def e241 (v1 : Int32) (v2 : Int32) (v3 : Int32) (S : sT) : Option (Int32 × sT) := s_out (c241_0 v1 v2 v3 S)
theorem q241_32 {m : Nat} {ad : Nat → Nat} {M : hM} {S : sT} (hR : rR m ad M S)  {rs : sRes (Int32 × sT)} (h : c241_32  S = some rs) : ∃ res, b241_32  M = some res ∧ simR o_I f_2 (fun _ as => as) m ad M rs res := by
  have hs : sm m ad M M := sm.rf
  unfold c241_32 at h
  unfold b241_32
  obtain rfl := Option.some.inj h
  exact ⟨_, rfl, _, rfl, hR, hs⟩
theorem q241_0 {m : Nat} {ad : Nat → Nat} {M : hM} {S : sT} (hR : rR m ad M S) (v1 : Int32) (v2 : Int32) (v3 : Int32) {rs : sRes (Int32 × sT)} (h : c241_0 v1 v2 v3 S = some rs) : ∃ res, b241_0 m v1 v2 v3 M = some res ∧ simR o_I f_2 (fun _ as => as) m ad M rs res := by
  have hs : sm m ad M M := sm.rf
  unfold c241_0 at h
  unfold b241_0
  refine exb (rR_go hR) ?_
  obtain ⟨q_1, h2, h⟩ := bd h
  obtain ⟨M3, e4, hR5, hs6⟩ := u240 hR h2
  replace hs6 := hs.tr hs6
  refine exb (c_I_of e4) ?_
  by_cases q23 : q_1.1 = (-1 : Int32)
  · rw [if_pos q23] at h ⊢
    exact simT hs6 (q241_32 hR5  h)
  · rw [if_neg q23] at h ⊢
    by_cases q22 : v3 < 0
    · rw [if_pos q22] at h ⊢
      exact simT hs6 (q241_32 hR5  h)
    · rw [if_neg q22] at h ⊢
      refine exb (rR_gr hR5 7) ?_
      obtain ⟨v_7, h8, h⟩ := bd h
      refine exb (rR_al hR5 h8) ?_
      by_cases q21 : v3 < ((8 : Int32) * v_7)
      · rw [if_pos q21] at h ⊢
        refine exb (rR_gr hR5 6) ?_
        obtain ⟨v_9, h10, h⟩ := bd h
        refine exb h10 ?_
        obtain ⟨v_11, h12, h⟩ := bd h
        refine exb (rR_al hR5 h12) ?_
        obtain ⟨v_13, h14, h⟩ := bd h
        refine exb h14 ?_
        obtain ⟨S15, h17, h⟩ := bd h
        obtain ⟨M16, e18, hR19, hs20⟩ := rR_sb hR5 h17
        replace hs20 := hs6.tr hs20
        refine exb e18 ?_
        obtain rfl := Option.some.inj h
        exact ⟨_, rfl, _, rfl, hR19, hs20⟩
      · rw [if_neg q21] at h ⊢
        exact simT hs6 (q241_32 hR5  h)
theorem u241 {m : Nat} {ad : Nat → Nat} {M : hM} {S : sT} (hR : rR m ad M S) {v1 : Int32} {v2 : Int32} {v3 : Int32} {q : (Int32 × sT)} (h : e241 v1 v2 v3 S = some q) : ∃ M1, f241 [.inr (.inr (some m)), .inl v1, .inl v2, .inl v3] M = some (some (.inl q.1), M1) ∧ rR m ad M1 q.2 ∧ sm m ad M M1 := by
  exact s_out_sim (o := o_I) (f := f_2) (J := fun _ as => as) (fun rs hx => q241_0 hR v1 v2 v3 hx) h
/-! reference: tick(I)I -/
def c242_11  (S : sT) : Option (sRes (Int32 × sT)) :=
  some (.inl ((-1 : Int32), S))
def c242_0 (v1 : Int32) (S : sT) : Option (sRes (Int32 × sT)) :=
  if v1 < 0 then
    (c242_11  S)
  else
    (if v1 ≤ (300 : Int32) then
      (some (.inr (17, [.inl v1, .inl (0 : Int32), .inl (0 : Int32)], S)))
    else
      (c242_11  S))
def c242_17 (v1 : Int32) (v2 : Int32) (v3 : Int32) (S : sT) : Option (sRes (Int32 × sT)) :=
  if v1 ≤ v3 then
    (some (.inl (v2, S)))
  else
    (Option.bind (e231  S) fun q_3 =>
    some (.inr (17, [.inl v1, .inl (v2 + q_3.1), .inl (v3 + (1 : Int32))], q_3.2)))
def kS242 (h : Nat) (as : List aV) (S : sT) : Option (sRes (Int32 × sT)) :=
  if h = 17 then (match as with | [.inl v1, .inl v2, .inl v3] => c242_17 v1 v2 v3 S | _ => none) else
  none
def J242 (m : Nat) (h : Nat) (as : List aV) : List aV := .inr (.inr (some m)) :: as
def e242 (v1 : Int32) (S : sT) : Option (Int32 × sT) := s_go kS242 (c242_0 v1 S)
theorem q242_11 {m : Nat} {ad : Nat → Nat} {M : hM} {S : sT} (hR : rR m ad M S)  {rs : sRes (Int32 × sT)} (h : c242_11  S = some rs) : ∃ res, b242_11  M = some res ∧ simR o_I f_2 (J242 m) m ad M rs res := by
  have hs : sm m ad M M := sm.rf
  unfold c242_11 at h
  unfold b242_11
  obtain rfl := Option.some.inj h
  exact ⟨_, rfl, _, rfl, hR, hs⟩
theorem q242_0 {m : Nat} {ad : Nat → Nat} {M : hM} {S : sT} (hR : rR m ad M S) (v1 : Int32) {rs : sRes (Int32 × sT)} (h : c242_0 v1 S = some rs) : ∃ res, b242_0 m v1 M = some res ∧ simR o_I f_2 (J242 m) m ad M rs res := by
  have hs : sm m ad M M := sm.rf
  unfold c242_0 at h
  unfold b242_0
  by_cases q2 : v1 < 0
  · rw [if_pos q2] at h ⊢
    exact simT hs (q242_11 hR  h)
  · rw [if_neg q2] at h ⊢
    by_cases q1 : v1 ≤ (300 : Int32)
    · rw [if_pos q1] at h ⊢
      obtain rfl := Option.some.inj h
      exact ⟨_, rfl, _, rfl, hR, hs⟩
    · rw [if_neg q1] at h ⊢
      exact simT hs (q242_11 hR  h)
theorem q242_17 {m : Nat} {ad : Nat → Nat} {M : hM} {S : sT} (hR : rR m ad M S) (v1 : Int32) (v2 : Int32) (v3 : Int32) {rs : sRes (Int32 × sT)} (h : c242_17 v1 v2 v3 S = some rs) : ∃ res, b242_17 m v1 v2 v3 M = some res ∧ simR o_I f_2 (J242 m) m ad M rs res := by
  have hs : sm m ad M M := sm.rf
  unfold c242_17 at h
  unfold b242_17
  by_cases q9 : v1 ≤ v3
  · rw [if_pos q9] at h ⊢
    obtain rfl := Option.some.inj h
    exact ⟨_, rfl, _, rfl, hR, hs⟩
  · rw [if_neg q9] at h ⊢
    refine exb (rR_go hR) ?_
    obtain ⟨q_3, h4, h⟩ := bd h
    obtain ⟨M5, e6, hR7, hs8⟩ := u231 hR h4
    replace hs8 := hs.tr hs8
    refine exb (c_I_of e6) ?_
    obtain rfl := Option.some.inj h
    exact ⟨_, rfl, _, rfl, hR7, hs8⟩
theorem u242 {m : Nat} {ad : Nat → Nat} {M : hM} {S : sT} (hR : rR m ad M S) {v1 : Int32} {q : (Int32 × sT)} (h : e242 v1 S = some q) : ∃ M1, f242 [.inr (.inr (some m)), .inl v1] M = some (some (.inl q.1), M1) ∧ rR m ad M1 q.2 ∧ sm m ad M M1 := by
  unfold e242 at h
  show ∃ M1, x_go k242 (b242_0 m v1 M) = some (o_I q, M1) ∧ rR m ad M1 (f_2 q) ∧ sm m ad M M1
  refine s_go_ok (o := o_I) (f := f_2) (J := J242 m) (bs := kS242) (bk := k242) (xs := c242_0 v1 S) (x := b242_0 m v1 M) (M := M) (q := q) ?_ (fun rs hx => q242_0 hR v1 hx) h
  intro h as S M rs hR hb
  unfold kS242 at hb
  unfold k242 J242
  by_cases e0 : h = 17
  · rw [if_pos e0] at hb ⊢
    split at hb
    · subst e0; exact q242_17 hR _ _ _ hb
    · cases hb
  · rw [if_neg e0] at hb
    cases hb
/-! reference: begin(IIIIIZ)I -/
def c243_95  (S : sT) : Option (sRes (Int32 × sT)) :=
  some (.inl ((-1 : Int32), S))
def c243_0 (v1 : Int32) (v2 : Int32) (v3 : Int32) (v4 : Int32) (v5 : Int32) (v6 : Int32) (S : sT) : Option (sRes (Int32 × sT)) :=
  if v1 < 0 then
    (c243_95  S)
  else
    (if (s_g S 1) ≤ v1 then
      (c243_95  S)
    else
      (if v2 < 0 then
        (c243_95  S)
      else
        (if (s_g S 1) ≤ v2 then
          (c243_95  S)
        else
          (Option.bind (s_a S 33 v1) fun v_1 =>
          if v_1 = 0 then
            (Option.bind (s_a S 33 v2) fun v_3 =>
            if v_3 = 0 then
              (c243_95  S)
            else
              (if v3 < 0 then
                (c243_95  S)
              else
                (if (1 : Int32) < v3 then
                  (c243_95  S)
                else
                  (if v4 < 0 then
                    (c243_95  S)
                  else
                    (if (15 : Int32) < v4 then
                      (c243_95  S)
                    else
                      (if v5 < (1 : Int32) then
                        (c243_95  S)
                      else
                        (if (4 : Int32) < v5 then
                          (c243_95  S)
                        else
                          (if (16 : Int32) < (v4 + v5) then
                            (c243_95  S)
                          else
                            (if (s_g S 47) = (300 : Int32) then
                              (c243_95  S)
                            else
                              (some (.inr (103, [.inl v1, .inl v2, .inl v3, .inl v4, .inl v5, .inl v6, .inl (0 : Int32), .inl (0 : Int32)], S))))))))))))
          else
            (c243_95  S)))))
def c243_137 (v1 : Int32) (v2 : Int32) (v3 : Int32) (v4 : Int32) (v5 : Int32) (v6 : Int32) (v7 : Int32) (v8 : Int32) (S : sT) : Option (sRes (Int32 × sT)) :=
  some (.inr (103, [.inl v1, .inl v2, .inl v3, .inl v4, .inl v5, .inl v6, .inl v7, .inl (v8 + (1 : Int32))], S))
def c243_103 (v1 : Int32) (v2 : Int32) (v3 : Int32) (v4 : Int32) (v5 : Int32) (v6 : Int32) (v7 : Int32) (v8 : Int32) (S : sT) : Option (sRes (Int32 × sT)) :=
  if (s_g S 47) ≤ v8 then
    (if v7 = (4 : Int32) then
      (some (.inl ((-1 : Int32), S)))
    else
      (Option.bind (s_p S 47 ((s_g S 47) + (1 : Int32))) fun S19 =>
      Option.bind (s_sz S19 34 v1 (1 : Int32)) fun S25 =>
      Option.bind (s_s S25 48 (s_g S 47) v1) fun S31 =>
      Option.bind (s_s S31 49 (s_g S 47) v2) fun S37 =>
      Option.bind (s_sz S37 50 (s_g S 47) v6) fun S43 =>
      Option.bind (s_s S43 51 (s_g S 47) v3) fun S49 =>
      Option.bind (s_s S49 52 (s_g S 47) v4) fun S55 =>
      Option.bind (s_s S55 53 (s_g S 47) v5) fun S61 =>
      Option.bind (s_s S61 55 (s_g S 47) (0 : Int32)) fun S67 =>
      Option.bind (s_s S67 58 (s_g S 47) (s_g S67 3)) fun S73 =>
      Option.bind (s_s S73 59 (s_g S 47) (-1 : Int32)) fun S79 =>
      Option.bind (s_s S79 60 (s_g S 47) (-1 : Int32)) fun S85 =>
      some (.inl ((s_g S 47), S85))))
  else
    (Option.bind (s_a S 48 v8) fun v_92 =>
    if v_92 = v1 then
      (Option.bind (s_a S 59 v8) fun v_94 =>
      if v_94 = (-1 : Int32) then
        (c243_137 v1 v2 v3 v4 v5 v6 (v7 + (1 : Int32)) v8 S)
      else
        (c243_137 v1 v2 v3 v4 v5 v6 v7 v8 S))
    else
      (c243_137 v1 v2 v3 v4 v5 v6 v7 v8 S))
def kS243 (h : Nat) (as : List aV) (S : sT) : Option (sRes (Int32 × sT)) :=
  if h = 103 then (match as with | [.inl v1, .inl v2, .inl v3, .inl v4, .inl v5, .inl v6, .inl v7, .inl v8] => c243_103 v1 v2 v3 v4 v5 v6 v7 v8 S | _ => none) else
  none
def J243 (m : Nat) (h : Nat) (as : List aV) : List aV := .inr (.inr (some m)) :: as
def e243 (v1 : Int32) (v2 : Int32) (v3 : Int32) (v4 : Int32) (v5 : Int32) (v6 : Int32) (S : sT) : Option (Int32 × sT) := s_go kS243 (c243_0 v1 v2 v3 v4 v5 v6 S)
theorem q243_95 {m : Nat} {ad : Nat → Nat} {M : hM} {S : sT} (hR : rR m ad M S)  {rs : sRes (Int32 × sT)} (h : c243_95  S = some rs) : ∃ res, b243_95  M = some res ∧ simR o_I f_2 (J243 m) m ad M rs res := by
  have hs : sm m ad M M := sm.rf
  unfold c243_95 at h
  unfold b243_95
  obtain rfl := Option.some.inj h
  exact ⟨_, rfl, _, rfl, hR, hs⟩
theorem q243_0 {m : Nat} {ad : Nat → Nat} {M : hM} {S : sT} (hR : rR m ad M S) (v1 : Int32) (v2 : Int32) (v3 : Int32) (v4 : Int32) (v5 : Int32) (v6 : Int32) {rs : sRes (Int32 × sT)} (h : c243_0 v1 v2 v3 v4 v5 v6 S = some rs) : ∃ res, b243_0 m v1 v2 v3 v4 v5 v6 M = some res ∧ simR o_I f_2 (J243 m) m ad M rs res := by
  have hs : sm m ad M M := sm.rf
  unfold c243_0 at h
  unfold b243_0
  by_cases q18 : v1 < 0
  · rw [if_pos q18] at h ⊢
    exact simT hs (q243_95 hR  h)
  · rw [if_neg q18] at h ⊢
    refine exb (rR_gi hR 1) ?_
    by_cases q17 : (s_g S 1) ≤ v1
    · rw [if_pos q17] at h ⊢
      exact simT hs (q243_95 hR  h)
    · rw [if_neg q17] at h ⊢
      by_cases q16 : v2 < 0
      · rw [if_pos q16] at h ⊢
        exact simT hs (q243_95 hR  h)
      · rw [if_neg q16] at h ⊢
        refine exb (rR_gi hR 1) ?_
        by_cases q15 : (s_g S 1) ≤ v2
        · rw [if_pos q15] at h ⊢
          exact simT hs (q243_95 hR  h)
        · rw [if_neg q15] at h ⊢
          refine exb (rR_gr hR 33) ?_
          obtain ⟨v_1, h2, h⟩ := bd h
          refine exb (rR_al hR h2) ?_
          by_cases q14 : v_1 = 0
          · rw [if_pos q14] at h ⊢
            refine exb (rR_gr hR 33) ?_
            obtain ⟨v_3, h4, h⟩ := bd h
            refine exb (rR_al hR h4) ?_
            by_cases q13 : v_3 = 0
            · rw [if_pos q13] at h ⊢
              exact simT hs (q243_95 hR  h)
            · rw [if_neg q13] at h ⊢
              by_cases q12 : v3 < 0
              · rw [if_pos q12] at h ⊢
                exact simT hs (q243_95 hR  h)
              · rw [if_neg q12] at h ⊢
                by_cases q11 : (1 : Int32) < v3
                · rw [if_pos q11] at h ⊢
                  exact simT hs (q243_95 hR  h)
                · rw [if_neg q11] at h ⊢
                  by_cases q10 : v4 < 0
                  · rw [if_pos q10] at h ⊢
                    exact simT hs (q243_95 hR  h)
                  · rw [if_neg q10] at h ⊢
                    by_cases q9 : (15 : Int32) < v4
                    · rw [if_pos q9] at h ⊢
                      exact simT hs (q243_95 hR  h)
                    · rw [if_neg q9] at h ⊢
                      by_cases q8 : v5 < (1 : Int32)
                      · rw [if_pos q8] at h ⊢
                        exact simT hs (q243_95 hR  h)
                      · rw [if_neg q8] at h ⊢
                        by_cases q7 : (4 : Int32) < v5
                        · rw [if_pos q7] at h ⊢
                          exact simT hs (q243_95 hR  h)
                        · rw [if_neg q7] at h ⊢
                          by_cases q6 : (16 : Int32) < (v4 + v5)
                          · rw [if_pos q6] at h ⊢
                            exact simT hs (q243_95 hR  h)
                          · rw [if_neg q6] at h ⊢
                            refine exb (rR_gi hR 47) ?_
                            by_cases q5 : (s_g S 47) = (300 : Int32)
                            · rw [if_pos q5] at h ⊢
                              exact simT hs (q243_95 hR  h)
                            · rw [if_neg q5] at h ⊢
                              obtain rfl := Option.some.inj h
                              exact ⟨_, rfl, _, rfl, hR, hs⟩
          · rw [if_neg q14] at h ⊢
            exact simT hs (q243_95 hR  h)
theorem q243_137 {m : Nat} {ad : Nat → Nat} {M : hM} {S : sT} (hR : rR m ad M S) (v1 : Int32) (v2 : Int32) (v3 : Int32) (v4 : Int32) (v5 : Int32) (v6 : Int32) (v7 : Int32) (v8 : Int32) {rs : sRes (Int32 × sT)} (h : c243_137 v1 v2 v3 v4 v5 v6 v7 v8 S = some rs) : ∃ res, b243_137 m v1 v2 v3 v4 v5 v6 v7 v8 M = some res ∧ simR o_I f_2 (J243 m) m ad M rs res := by
  have hs : sm m ad M M := sm.rf
  unfold c243_137 at h
  unfold b243_137
  obtain rfl := Option.some.inj h
  exact ⟨_, rfl, _, rfl, hR, hs⟩
theorem q243_103 {m : Nat} {ad : Nat → Nat} {M : hM} {S : sT} (hR : rR m ad M S) (v1 : Int32) (v2 : Int32) (v3 : Int32) (v4 : Int32) (v5 : Int32) (v6 : Int32) (v7 : Int32) (v8 : Int32) {rs : sRes (Int32 × sT)} (h : c243_103 v1 v2 v3 v4 v5 v6 v7 v8 S = some rs) : ∃ res, b243_103 m v1 v2 v3 v4 v5 v6 v7 v8 M = some res ∧ simR o_I f_2 (J243 m) m ad M rs res := by
  have hs : sm m ad M M := sm.rf
  unfold c243_103 at h
  unfold b243_103
  refine exb (rR_gi hR 47) ?_
  by_cases q98 : (s_g S 47) ≤ v8
  · rw [if_pos q98] at h ⊢
    by_cases q91 : v7 = (4 : Int32)
    · rw [if_pos q91] at h ⊢
      obtain rfl := Option.some.inj h
      exact ⟨_, rfl, _, rfl, hR, hs⟩
    · rw [if_neg q91] at h ⊢
      refine exb (rR_gi hR 47) ?_
      refine exb (rR_gi hR 47) ?_
      obtain ⟨S19, h21, h⟩ := bd h
      obtain ⟨M20, e22, hR23, hs24⟩ := rR_pi hR h21
      replace hs24 := hs.tr hs24
      refine exb e22 ?_
      refine exb (rR_gr hR23 34) ?_
      obtain ⟨S25, h27, h⟩ := bd h
      obtain ⟨M26, e28, hR29, hs30⟩ := rR_sz hR23 h27
      replace hs30 := hs24.tr hs30
      refine exb e28 ?_
      refine exb (rR_gr hR29 48) ?_
      obtain ⟨S31, h33, h⟩ := bd h
      obtain ⟨M32, e34, hR35, hs36⟩ := rR_si hR29 h33
      replace hs36 := hs30.tr hs36
      refine exb e34 ?_
      refine exb (rR_gr hR35 49) ?_
      obtain ⟨S37, h39, h⟩ := bd h
      obtain ⟨M38, e40, hR41, hs42⟩ := rR_si hR35 h39
      replace hs42 := hs36.tr hs42
      refine exb e40 ?_
      refine exb (rR_gr hR41 50) ?_
      obtain ⟨S43, h45, h⟩ := bd h
      obtain ⟨M44, e46, hR47, hs48⟩ := rR_sz hR41 h45
      replace hs48 := hs42.tr hs48
      refine exb e46 ?_
      refine exb (rR_gr hR47 51) ?_
      obtain ⟨S49, h51, h⟩ := bd h
      obtain ⟨M50, e52, hR53, hs54⟩ := rR_si hR47 h51
      replace hs54 := hs48.tr hs54
      refine exb e52 ?_
      refine exb (rR_gr hR53 52) ?_
      obtain ⟨S55, h57, h⟩ := bd h
      obtain ⟨M56, e58, hR59, hs60⟩ := rR_si hR53 h57
      replace hs60 := hs54.tr hs60
      refine exb e58 ?_
      refine exb (rR_gr hR59 53) ?_
      obtain ⟨S61, h63, h⟩ := bd h
      obtain ⟨M62, e64, hR65, hs66⟩ := rR_si hR59 h63
      replace hs66 := hs60.tr hs66
      refine exb e64 ?_
      refine exb (rR_gr hR65 55) ?_
      obtain ⟨S67, h69, h⟩ := bd h
      obtain ⟨M68, e70, hR71, hs72⟩ := rR_si hR65 h69
      replace hs72 := hs66.tr hs72
      refine exb e70 ?_
      refine exb (rR_gr hR71 58) ?_
      refine exb (rR_gi hR71 3) ?_
      obtain ⟨S73, h75, h⟩ := bd h
      obtain ⟨M74, e76, hR77, hs78⟩ := rR_si hR71 h75
      replace hs78 := hs72.tr hs78
      refine exb e76 ?_
      refine exb (rR_gr hR77 59) ?_
      obtain ⟨S79, h81, h⟩ := bd h
      obtain ⟨M80, e82, hR83, hs84⟩ := rR_si hR77 h81
      replace hs84 := hs78.tr hs84
      refine exb e82 ?_
      refine exb (rR_gr hR83 60) ?_
      obtain ⟨S85, h87, h⟩ := bd h
      obtain ⟨M86, e88, hR89, hs90⟩ := rR_si hR83 h87
      replace hs90 := hs84.tr hs90
      refine exb e88 ?_
      obtain rfl := Option.some.inj h
      exact ⟨_, rfl, _, rfl, hR89, hs90⟩
  · rw [if_neg q98] at h ⊢
    refine exb (rR_gr hR 48) ?_
    obtain ⟨v_92, h93, h⟩ := bd h
    refine exb (rR_al hR h93) ?_
    by_cases q97 : v_92 = v1
    · rw [if_pos q97] at h ⊢
      refine exb (rR_gr hR 59) ?_
      obtain ⟨v_94, h95, h⟩ := bd h
      refine exb (rR_al hR h95) ?_
      by_cases q96 : v_94 = (-1 : Int32)
      · rw [if_pos q96] at h ⊢
        exact simT hs (q243_137 hR v1 v2 v3 v4 v5 v6 (v7 + (1 : Int32)) v8 h)
      · rw [if_neg q96] at h ⊢
        exact simT hs (q243_137 hR v1 v2 v3 v4 v5 v6 v7 v8 h)
    · rw [if_neg q97] at h ⊢
      exact simT hs (q243_137 hR v1 v2 v3 v4 v5 v6 v7 v8 h)
theorem u243 {m : Nat} {ad : Nat → Nat} {M : hM} {S : sT} (hR : rR m ad M S) {v1 : Int32} {v2 : Int32} {v3 : Int32} {v4 : Int32} {v5 : Int32} {v6 : Int32} {q : (Int32 × sT)} (h : e243 v1 v2 v3 v4 v5 v6 S = some q) : ∃ M1, f243 [.inr (.inr (some m)), .inl v1, .inl v2, .inl v3, .inl v4, .inl v5, .inl v6] M = some (some (.inl q.1), M1) ∧ rR m ad M1 q.2 ∧ sm m ad M M1 := by
  unfold e243 at h
  show ∃ M1, x_go k243 (b243_0 m v1 v2 v3 v4 v5 v6 M) = some (o_I q, M1) ∧ rR m ad M1 (f_2 q) ∧ sm m ad M M1
  refine s_go_ok (o := o_I) (f := f_2) (J := J243 m) (bs := kS243) (bk := k243) (xs := c243_0 v1 v2 v3 v4 v5 v6 S) (x := b243_0 m v1 v2 v3 v4 v5 v6 M) (M := M) (q := q) ?_ (fun rs hx => q243_0 hR v1 v2 v3 v4 v5 v6 hx) h
  intro h as S M rs hR hb
  unfold kS243 at hb
  unfold k243 J243
  by_cases e0 : h = 103
  · rw [if_pos e0] at hb ⊢
    split at hb
    · subst e0; exact q243_103 hR _ _ _ _ _ _ _ _ hb
    · cases hb
  · rw [if_neg e0] at hb
    cases hb
/-! reference: read(IIIII)I -/
def c244_27 (v6 : Int32) (S : sT) : Option (sRes (Int32 × sT)) :=
  some (.inl (v6, S))
def c244_0 (v1 : Int32) (v2 : Int32) (v3 : Int32) (v4 : Int32) (v5 : Int32) (S : sT) : Option (sRes (Int32 × sT)) :=
  Option.bind (e243 v1 v2 v3 v4 v5 (0 : Int32) S) fun q_1 =>
  if q_1.1 = (-1 : Int32) then
    (c244_27 q_1.1 q_1.2)
  else
    (Option.bind (e206 q_1.1 (0 : Int32) q_1.2) fun q_7 =>
    c244_27 q_1.1 q_7)
def e244 (v1 : Int32) (v2 : Int32) (v3 : Int32) (v4 : Int32) (v5 : Int32) (S : sT) : Option (Int32 × sT) := s_out (c244_0 v1 v2 v3 v4 v5 S)
theorem q244_27 {m : Nat} {ad : Nat → Nat} {M : hM} {S : sT} (hR : rR m ad M S) (v6 : Int32) {rs : sRes (Int32 × sT)} (h : c244_27 v6 S = some rs) : ∃ res, b244_27 v6 M = some res ∧ simR o_I f_2 (fun _ as => as) m ad M rs res := by
  have hs : sm m ad M M := sm.rf
  unfold c244_27 at h
  unfold b244_27
  obtain rfl := Option.some.inj h
  exact ⟨_, rfl, _, rfl, hR, hs⟩
theorem q244_0 {m : Nat} {ad : Nat → Nat} {M : hM} {S : sT} (hR : rR m ad M S) (v1 : Int32) (v2 : Int32) (v3 : Int32) (v4 : Int32) (v5 : Int32) {rs : sRes (Int32 × sT)} (h : c244_0 v1 v2 v3 v4 v5 S = some rs) : ∃ res, b244_0 m v1 v2 v3 v4 v5 M = some res ∧ simR o_I f_2 (fun _ as => as) m ad M rs res := by
  have hs : sm m ad M M := sm.rf
  unfold c244_0 at h
  unfold b244_0
  refine exb (rR_go hR) ?_
  obtain ⟨q_1, h2, h⟩ := bd h
  obtain ⟨M3, e4, hR5, hs6⟩ := u243 hR h2
  replace hs6 := hs.tr hs6
  refine exb (c_I_of e4) ?_
  by_cases q13 : q_1.1 = (-1 : Int32)
  · rw [if_pos q13] at h ⊢
    exact simT hs6 (q244_27 hR5 q_1.1 h)
  · rw [if_neg q13] at h ⊢
    refine exb (rR_go hR5) ?_
    obtain ⟨q_7, h8, h⟩ := bd h
    obtain ⟨M9, e10, hR11, hs12⟩ := u206 hR5 h8
    replace hs12 := hs6.tr hs12
    refine exb (c_V_of e10) ?_
    exact simT hs12 (q244_27 hR11 q_1.1 h)
theorem u244 {m : Nat} {ad : Nat → Nat} {M : hM} {S : sT} (hR : rR m ad M S) {v1 : Int32} {v2 : Int32} {v3 : Int32} {v4 : Int32} {v5 : Int32} {q : (Int32 × sT)} (h : e244 v1 v2 v3 v4 v5 S = some q) : ∃ M1, f244 [.inr (.inr (some m)), .inl v1, .inl v2, .inl v3, .inl v4, .inl v5] M = some (some (.inl q.1), M1) ∧ rR m ad M1 q.2 ∧ sm m ad M M1 := by
  exact s_out_sim (o := o_I) (f := f_2) (J := fun _ as => as) (fun rs hx => q244_0 hR v1 v2 v3 v4 v5 hx) h
/-! reference: write(IIIIIJ)I -/
def c245_0 (v1 : Int32) (v2 : Int32) (v3 : Int32) (v4 : Int32) (v5 : Int32) (w6 : Int64) (S : sT) : Option (sRes (Int32 × sT)) :=
  Option.bind (e243 v1 v2 v3 v4 v5 (1 : Int32) S) fun q_1 =>
  if q_1.1 = (-1 : Int32) then
    (some (.inl (q_1.1, q_1.2)))
  else
    (some (.inr (26, [.inl v5, .inr (.inl w6), .inl q_1.1, .inl (0 : Int32)], q_1.2)))
def c245_26 (v5 : Int32) (w6 : Int64) (v8 : Int32) (v9 : Int32) (S : sT) : Option (sRes (Int32 × sT)) :=
  if v5 ≤ v9 then
    (Option.bind (e206 v8 (0 : Int32) S) fun q_8 =>
    some (.inl (v8, q_8)))
  else
    (Option.bind (s_sl S 54 (((4 : Int32) * v8) + v9) (w6 + (Int32.toInt64 v9))) fun S14 =>
    some (.inr (26, [.inl v5, .inr (.inl w6), .inl v8, .inl (v9 + (1 : Int32))], S14)))
def kS245 (h : Nat) (as : List aV) (S : sT) : Option (sRes (Int32 × sT)) :=
  if h = 26 then (match as with | [.inl v5, .inr (.inl w6), .inl v8, .inl v9] => c245_26 v5 w6 v8 v9 S | _ => none) else
  none
def J245 (m : Nat) (h : Nat) (as : List aV) : List aV := .inr (.inr (some m)) :: as
def e245 (v1 : Int32) (v2 : Int32) (v3 : Int32) (v4 : Int32) (v5 : Int32) (w6 : Int64) (S : sT) : Option (Int32 × sT) := s_go kS245 (c245_0 v1 v2 v3 v4 v5 w6 S)
theorem q245_0 {m : Nat} {ad : Nat → Nat} {M : hM} {S : sT} (hR : rR m ad M S) (v1 : Int32) (v2 : Int32) (v3 : Int32) (v4 : Int32) (v5 : Int32) (w6 : Int64) {rs : sRes (Int32 × sT)} (h : c245_0 v1 v2 v3 v4 v5 w6 S = some rs) : ∃ res, b245_0 m v1 v2 v3 v4 v5 w6 M = some res ∧ simR o_I f_2 (J245 m) m ad M rs res := by
  have hs : sm m ad M M := sm.rf
  unfold c245_0 at h
  unfold b245_0
  refine exb (rR_go hR) ?_
  obtain ⟨q_1, h2, h⟩ := bd h
  obtain ⟨M3, e4, hR5, hs6⟩ := u243 hR h2
  replace hs6 := hs.tr hs6
  refine exb (c_I_of e4) ?_
  by_cases q7 : q_1.1 = (-1 : Int32)
  · rw [if_pos q7] at h ⊢
    obtain rfl := Option.some.inj h
    exact ⟨_, rfl, _, rfl, hR5, hs6⟩
  · rw [if_neg q7] at h ⊢
    obtain rfl := Option.some.inj h
    exact ⟨_, rfl, _, rfl, hR5, hs6⟩
theorem q245_26 {m : Nat} {ad : Nat → Nat} {M : hM} {S : sT} (hR : rR m ad M S) (v5 : Int32) (w6 : Int64) (v8 : Int32) (v9 : Int32) {rs : sRes (Int32 × sT)} (h : c245_26 v5 w6 v8 v9 S = some rs) : ∃ res, b245_26 m v5 w6 v8 v9 M = some res ∧ simR o_I f_2 (J245 m) m ad M rs res := by
  have hs : sm m ad M M := sm.rf
  unfold c245_26 at h
  unfold b245_26
  by_cases q20 : v5 ≤ v9
  · rw [if_pos q20] at h ⊢
    refine exb (rR_go hR) ?_
    obtain ⟨q_8, h9, h⟩ := bd h
    obtain ⟨M10, e11, hR12, hs13⟩ := u206 hR h9
    replace hs13 := hs.tr hs13
    refine exb (c_V_of e11) ?_
    obtain rfl := Option.some.inj h
    exact ⟨_, rfl, _, rfl, hR12, hs13⟩
  · rw [if_neg q20] at h ⊢
    refine exb (rR_gr hR 54) ?_
    obtain ⟨S14, h16, h⟩ := bd h
    obtain ⟨M15, e17, hR18, hs19⟩ := rR_sl hR h16
    replace hs19 := hs.tr hs19
    refine exb e17 ?_
    obtain rfl := Option.some.inj h
    exact ⟨_, rfl, _, rfl, hR18, hs19⟩
theorem u245 {m : Nat} {ad : Nat → Nat} {M : hM} {S : sT} (hR : rR m ad M S) {v1 : Int32} {v2 : Int32} {v3 : Int32} {v4 : Int32} {v5 : Int32} {w6 : Int64} {q : (Int32 × sT)} (h : e245 v1 v2 v3 v4 v5 w6 S = some q) : ∃ M1, f245 [.inr (.inr (some m)), .inl v1, .inl v2, .inl v3, .inl v4, .inl v5, .inr (.inl w6)] M = some (some (.inl q.1), M1) ∧ rR m ad M1 q.2 ∧ sm m ad M M1 := by
  unfold e245 at h
  show ∃ M1, x_go k245 (b245_0 m v1 v2 v3 v4 v5 w6 M) = some (o_I q, M1) ∧ rR m ad M1 (f_2 q) ∧ sm m ad M M1
  refine s_go_ok (o := o_I) (f := f_2) (J := J245 m) (bs := kS245) (bk := k245) (xs := c245_0 v1 v2 v3 v4 v5 w6 S) (x := b245_0 m v1 v2 v3 v4 v5 w6 M) (M := M) (q := q) ?_ (fun rs hx => q245_0 hR v1 v2 v3 v4 v5 w6 hx) h
  intro h as S M rs hR hb
  unfold kS245 at hb
  unfold k245 J245
  by_cases e0 : h = 26
  · rw [if_pos e0] at hb ⊢
    split at hb
    · subst e0; exact q245_26 hR _ _ _ _ hb
    · cases hb
  · rw [if_neg e0] at hb
    cases hb
/-! reference: isCommand(I)Z -/
def c246_17 (si0 : Int32) (S : sT) : Option (sRes (Int32 × sT)) :=
  if si0 = 0 ∨ si0 = 1 then
    (some (.inl (si0, S)))
  else
    none
def c246_16  (S : sT) : Option (sRes (Int32 × sT)) :=
  c246_17 (0 : Int32) S
def c246_0 (v1 : Int32) (S : sT) : Option (sRes (Int32 × sT)) :=
  if v1 < 0 then
    (c246_16  S)
  else
    (if (s_g S 47) ≤ v1 then
      (c246_16  S)
    else
      (c246_17 (1 : Int32) S))
def e246 (v1 : Int32) (S : sT) : Option (Int32 × sT) := s_out (c246_0 v1 S)
theorem q246_17 {m : Nat} {ad : Nat → Nat} {M : hM} {S : sT} (hR : rR m ad M S) (si0 : Int32) {rs : sRes (Int32 × sT)} (h : c246_17 si0 S = some rs) : ∃ res, b246_17 si0 M = some res ∧ simR o_I f_2 (fun _ as => as) m ad M rs res := by
  have hs : sm m ad M M := sm.rf
  unfold c246_17 at h
  unfold b246_17
  by_cases q3 : si0 = 0 ∨ si0 = 1
  · rw [if_pos q3] at h ⊢
    obtain rfl := Option.some.inj h
    exact ⟨_, rfl, _, rfl, hR, hs⟩
  · rw [if_neg q3] at h
    cases h
theorem q246_16 {m : Nat} {ad : Nat → Nat} {M : hM} {S : sT} (hR : rR m ad M S)  {rs : sRes (Int32 × sT)} (h : c246_16  S = some rs) : ∃ res, b246_16  M = some res ∧ simR o_I f_2 (fun _ as => as) m ad M rs res := by
  have hs : sm m ad M M := sm.rf
  unfold c246_16 at h
  unfold b246_16
  exact simT hs (q246_17 hR (0 : Int32) h)
theorem q246_0 {m : Nat} {ad : Nat → Nat} {M : hM} {S : sT} (hR : rR m ad M S) (v1 : Int32) {rs : sRes (Int32 × sT)} (h : c246_0 v1 S = some rs) : ∃ res, b246_0 m v1 M = some res ∧ simR o_I f_2 (fun _ as => as) m ad M rs res := by
  have hs : sm m ad M M := sm.rf
  unfold c246_0 at h
  unfold b246_0
  by_cases q2 : v1 < 0
  · rw [if_pos q2] at h ⊢
    exact simT hs (q246_16 hR  h)
  · rw [if_neg q2] at h ⊢
    refine exb (rR_gi hR 47) ?_
    by_cases q1 : (s_g S 47) ≤ v1
    · rw [if_pos q1] at h ⊢
      exact simT hs (q246_16 hR  h)
    · rw [if_neg q1] at h ⊢
      exact simT hs (q246_17 hR (1 : Int32) h)
theorem u246 {m : Nat} {ad : Nat → Nat} {M : hM} {S : sT} (hR : rR m ad M S) {v1 : Int32} {q : (Int32 × sT)} (h : e246 v1 S = some q) : ∃ M1, f246 [.inr (.inr (some m)), .inl v1] M = some (some (.inl q.1), M1) ∧ rR m ad M1 q.2 ∧ sm m ad M M1 := by
  exact s_out_sim (o := o_I) (f := f_2) (J := fun _ as => as) (fun rs hx => q246_0 hR v1 hx) h
