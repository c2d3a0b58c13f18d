/-! reference: isLogged(II)Z -/
def c215_0 (v1 : Int32) (v2 : Int32) (S : sT) : Option (sRes (Int32 × sT)) :=
  some (.inr (5, [.inl v1, .inl v2, .inl (0 : Int32), .inl (0 : Int32)], S))
def c215_41 (v1 : Int32) (v2 : Int32) (v4 : Int32) (si0 : Int32) (S : sT) : Option (sRes (Int32 × sT)) :=
  some (.inr (5, [.inl v1, .inl v2, .inl si0, .inl (v4 + (1 : Int32))], S))
def c215_36 (v1 : Int32) (v2 : Int32) (v4 : Int32) (S : sT) : Option (sRes (Int32 × sT)) :=
  c215_41 v1 v2 v4 (1 : Int32) S
def c215_5 (v1 : Int32) (v2 : Int32) (v3 : Int32) (v4 : Int32) (S : sT) : Option (sRes (Int32 × sT)) :=
  Option.bind (s_a S 41 v1) fun v_1 =>
  if v_1 ≤ v4 then
    (if v3 = 0 ∨ v3 = 1 then
      (some (.inl (v3, S)))
    else
      none)
  else
    (if v3 = 0 then
      (Option.bind (s_a S 40 (((8 : Int32) * v1) + v4)) fun v_4 =>
      if v_4 = v2 then
        (c215_36 v1 v2 v4 S)
      else
        (c215_41 v1 v2 v4 (0 : Int32) S))
    else
      (c215_36 v1 v2 v4 S))
def kS215 (h : Nat) (as : List aV) (S : sT) : Option (sRes (Int32 × sT)) :=
  if h = 5 then (match as with | [.inl v1, .inl v2, .inl v3, .inl v4] => c215_5 v1 v2 v3 v4 S | _ => none) else
  none
def J215 (m : Nat) (h : Nat) (as : List aV) : List aV := .inr (.inr (some m)) :: as
def e215 (v1 : Int32) (v2 : Int32) (S : sT) : Option (Int32 × sT) := s_go kS215 (c215_0 v1 v2 S)
theorem q215_0 {m : Nat} {ad : Nat → Nat} {M : hM} {S : sT} (hR : rR m ad M S) (v1 : Int32) (v2 : Int32) {rs : sRes (Int32 × sT)} (h : c215_0 v1 v2 S = some rs) : ∃ res, b215_0 m v1 v2 M = some res ∧ simR o_I f_2 (J215 m) m ad M rs res := by
  have hs : sm m ad M M := sm.rf
  unfold c215_0 at h
  unfold b215_0
  obtain rfl := Option.some.inj h
  exact ⟨_, rfl, _, rfl, hR, hs⟩
theorem q215_41 {m : Nat} {ad : Nat → Nat} {M : hM} {S : sT} (hR : rR m ad M S) (v1 : Int32) (v2 : Int32) (v4 : Int32) (si0 : Int32) {rs : sRes (Int32 × sT)} (h : c215_41 v1 v2 v4 si0 S = some rs) : ∃ res, b215_41 m v1 v2 v4 si0 M = some res ∧ simR o_I f_2 (J215 m) m ad M rs res := by
  have hs : sm m ad M M := sm.rf
  unfold c215_41 at h
  unfold b215_41
  obtain rfl := Option.some.inj h
  exact ⟨_, rfl, _, rfl, hR, hs⟩
theorem q215_36 {m : Nat} {ad : Nat → Nat} {M : hM} {S : sT} (hR : rR m ad M S) (v1 : Int32) (v2 : Int32) (v4 : Int32) {rs : sRes (Int32 × sT)} (h : c215_36 v1 v2 v4 S = some rs) : ∃ res, b215_36 m v1 v2 v4 M = some res ∧ simR o_I f_2 (J215 m) m ad M rs res := by
  have hs : sm m ad M M := sm.rf
  unfold c215_36 at h
  unfold b215_36
  exact simT hs (q215_41 hR v1 v2 v4 (1 : Int32) h)
theorem q215_5 {m : Nat} {ad : Nat → Nat} {M : hM} {S : sT} (hR : rR m ad M S) (v1 : Int32) (v2 : Int32) (v3 : Int32) (v4 : Int32) {rs : sRes (Int32 × sT)} (h : c215_5 v1 v2 v3 v4 S = some rs) : ∃ res, b215_5 m v1 v2 v3 v4 M = some res ∧ simR o_I f_2 (J215 m) m ad M rs res := by
  have hs : sm m ad M M := sm.rf
  unfold c215_5 at h
  unfold b215_5
  refine exb (rR_gr hR 41) ?_
  obtain ⟨v_1, h2, h⟩ := bd h
  refine exb (rR_al hR h2) ?_
  by_cases q8 : v_1 ≤ v4
  · rw [if_pos q8] at h ⊢
    by_cases q3 : v3 = 0 ∨ v3 = 1
    · rw [if_pos q3] at h ⊢
      obtain rfl := Option.some.inj h
      exact ⟨_, rfl, _, rfl, hR, hs⟩
    · rw [if_neg q3] at h
      cases h
  · rw [if_neg q8] at h ⊢
    by_cases q7 : v3 = 0
    · rw [if_pos q7] at h ⊢
      refine exb (rR_gr hR 40) ?_
      obtain ⟨v_4, h5, h⟩ := bd h
      refine exb (rR_al hR h5) ?_
      by_cases q6 : v_4 = v2
      · rw [if_pos q6] at h ⊢
        exact simT hs (q215_36 hR v1 v2 v4 h)
      · rw [if_neg q6] at h ⊢
        exact simT hs (q215_41 hR v1 v2 v4 (0 : Int32) h)
    · rw [if_neg q7] at h ⊢
      exact simT hs (q215_36 hR v1 v2 v4 h)
theorem u215 {m : Nat} {ad : Nat → Nat} {M : hM} {S : sT} (hR : rR m ad M S) {v1 : Int32} {v2 : Int32} {q : (Int32 × sT)} (h : e215 v1 v2 S = some q) : ∃ M1, f215 [.inr (.inr (some m)), .inl v1, .inl v2] M = some (some (.inl q.1), M1) ∧ rR m ad M1 q.2 ∧ sm m ad M M1 := by
  unfold e215 at h
  show ∃ M1, x_go k215 (b215_0 m v1 v2 M) = some (o_I q, M1) ∧ rR m ad M1 (f_2 q) ∧ sm m ad M M1
  refine s_go_ok (o := o_I) (f := f_2) (J := J215 m) (bs := kS215) (bk := k215) (xs := c215_0 v1 v2 S) (x := b215_0 m v1 v2 M) (M := M) (q := q) ?_ (fun rs hx => q215_0 hR v1 v2 hx) h
  intro h as S M rs hR hb
  unfold kS215 at hb
  unfold k215 J215
  by_cases e0 : h = 5
  · rw [if_pos e0] at hb ⊢
    split at hb
    · subst e0; exact q215_5 hR _ _ _ _ hb
    · cases hb
  · rw [if_neg e0] at hb
    cases hb
/-! reference: command(III)V -/
def c216_374  (S : sT) : Option (sRes sT) :=
  some (.inl S)
def c216_98 (v1 : Int32) (v2 : Int32) (S : sT) : Option (sRes sT) :=
  Option.bind (e213 v1 v2 (0 : Int32) (1 : Int32) S) fun q_41 =>
  c216_374  q_41
def c216_109 (v1 : Int32) (v2 : Int32) (v3 : Int32) (v4 : Int32) (v5 : Int32) (v6 : Int32) (v7 : Int32) (S : sT) : Option (sRes sT) :=
  if v5 = 0 then
    (some (.inr (117, [.inl v1, .inl v2, .inl v4, .inl v6, .inl v7, .inl (0 : Int32)], S)))
  else
    (Option.bind (s_a S 43 v1) fun v_47 =>
    Option.bind (s_s S 43 v1 ((v_47 + (1 : Int32)) &&& (65535 : Int32))) fun S49 =>
    Option.bind (s_a S49 46 v1) fun v_55 =>
    Option.bind (s_s S49 44 (((48 : Int32) * v1) + ((8 : Int32) * v_55)) v3) fun S57 =>
    Option.bind (e166 v2 (7 : Int32) (2 : Int32) S57) fun q_63 =>
    Option.bind (s_s q_63.2 44 ((((48 : Int32) * v1) + ((8 : Int32) * v_55)) + (1 : Int32)) q_63.1) fun S69 =>
    Option.bind (s_a S69 43 v1) fun v_75 =>
    Option.bind (s_s S69 44 ((((48 : Int32) * v1) + ((8 : Int32) * v_55)) + (2 : Int32)) v_75) fun S77 =>
    Option.bind (s_s S77 44 ((((48 : Int32) * v1) + ((8 : Int32) * v_55)) + (3 : Int32)) v4) fun S83 =>
    Option.bind (s_s S83 44 ((((48 : Int32) * v1) + ((8 : Int32) * v_55)) + (4 : Int32)) v6) fun S89 =>
    Option.bind (s_s S89 44 ((((48 : Int32) * v1) + ((8 : Int32) * v_55)) + (5 : Int32)) v7) fun S95 =>
    Option.bind (s_s S95 44 ((((48 : Int32) * v1) + ((8 : Int32) * v_55)) + (6 : Int32)) (0 : Int32)) fun S101 =>
    Option.bind (s_s S101 44 ((((48 : Int32) * v1) + ((8 : Int32) * v_55)) + (7 : Int32)) (s_g S101 3)) fun S107 =>
    Option.bind (s_a S107 46 v1) fun v_113 =>
    Option.bind (s_s S107 46 v1 (v_113 + (1 : Int32))) fun S115 =>
    Option.bind (s_a S115 43 v1) fun v_121 =>
    Option.bind (e212 v1 v2 (10 : Int32) v_121 (0 : Int32) S115) fun q_123 =>
    Option.bind (e167 q_123.1 (Int32.toInt64 v7) (1 : Int32) q_123.2) fun q_129 =>
    Option.bind (e176 v1 q_129) fun q_135 =>
    Option.bind (e183 q_135.1 q_123.1 q_135.2) fun q_141 =>
    c216_374  q_141)
def c216_25 (v1 : Int32) (v2 : Int32) (v3 : Int32) (v4 : Int32) (si0 : Int32) (S : sT) : Option (sRes sT) :=
  Option.bind (e165 v2 (15 : Int32) S) fun q_14 =>
  Option.bind (e165 v2 (16 : Int32) q_14.2) fun q_20 =>
  Option.bind (e215 v1 v3 q_20.2) fun q_26 =>
  if q_26.1 = 0 then
    (c216_98 v1 v2 q_26.2)
  else
    (if (1 : Int32) < v4 then
      (c216_98 v1 v2 q_26.2)
    else
      (if q_20.1 < (1 : Int32) then
        (c216_98 v1 v2 q_26.2)
      else
        (if (4 : Int32) < q_20.1 then
          (c216_98 v1 v2 q_26.2)
        else
          (if (16 : Int32) < (q_14.1 + q_20.1) then
            (c216_98 v1 v2 q_26.2)
          else
            (if si0 = 0 then
              (c216_109 v1 v2 v3 v4 si0 q_14.1 q_20.1 q_26.2)
            else
              (Option.bind (s_a q_26.2 46 v1) fun v_32 =>
              if v_32 = (6 : Int32) then
                (c216_98 v1 v2 q_26.2)
              else
                (c216_109 v1 v2 v3 v4 si0 q_14.1 q_20.1 q_26.2)))))))
def c216_0 (v1 : Int32) (v2 : Int32) (v3 : Int32) (S : sT) : Option (sRes sT) :=
  Option.bind (e165 v2 (13 : Int32) S) fun q_1 =>
  Option.bind (e165 v2 (14 : Int32) q_1.2) fun q_7 =>
  if q_7.1 = (1 : Int32) then
    (c216_25 v1 v2 v3 q_1.1 (1 : Int32) q_7.2)
  else
    (c216_25 v1 v2 v3 q_1.1 (0 : Int32) q_7.2)
def c216_117 (v1 : Int32) (v2 : Int32) (v4 : Int32) (v6 : Int32) (v7 : Int32) (v8 : Int32) (S : sT) : Option (sRes sT) :=
  if v7 ≤ v8 then
    (Option.bind (e213 v1 v2 (0 : Int32) (0 : Int32) S) fun q_148 =>
    c216_374  q_148)
  else
    (Option.bind (e212 v1 v2 (11 : Int32) (0 : Int32) v8 S) fun q_154 =>
    Option.bind (s_al q_154.2 42 (((((32 : Int32) * v1) + ((16 : Int32) * v4)) + v6) + v8)) fun w_160 =>
    Option.bind (e167 q_154.1 w_160 (8 : Int32) q_154.2) fun q_162 =>
    Option.bind (e176 v1 q_162) fun q_168 =>
    Option.bind (e183 q_168.1 q_154.1 q_168.2) fun q_174 =>
    some (.inr (117, [.inl v1, .inl v2, .inl v4, .inl v6, .inl v7, .inl (v8 + (1 : Int32))], q_174)))
def kS216 (h : Nat) (as : List aV) (S : sT) : Option (sRes sT) :=
  if h = 117 then (match as with | [.inl v1, .inl v2, .inl v4, .inl v6, .inl v7, .inl v8] => c216_117 v1 v2 v4 v6 v7 v8 S | _ => none) else
  none
def J216 (m : Nat) (h : Nat) (as : List aV) : List aV := .inr (.inr (some m)) :: as
def e216 (v1 : Int32) (v2 : Int32) (v3 : Int32) (S : sT) : Option sT := s_go kS216 (c216_0 v1 v2 v3 S)
theorem q216_374 {m : Nat} {ad : Nat → Nat} {M : hM} {S : sT} (hR : rR m ad M S)  {rs : sRes sT} (h : c216_374  S = some rs) : ∃ res, b216_374  M = some res ∧ simR o_V f_1 (J216 m) m ad M rs res := by
  have hs : sm m ad M M := sm.rf
  unfold c216_374 at h
  unfold b216_374
  obtain rfl := Option.some.inj h
  exact ⟨_, rfl, _, rfl, hR, hs⟩
theorem q216_98 {m : Nat} {ad : Nat → Nat} {M : hM} {S : sT} (hR : rR m ad M S) (v1 : Int32) (v2 : Int32) {rs : sRes sT} (h : c216_98 v1 v2 S = some rs) : ∃ res, b216_98 m v1 v2 M = some res ∧ simR o_V f_1 (J216 m) m ad M rs res := by
  have hs : sm m ad M M := sm.rf
  unfold c216_98 at h
  unfold b216_98
  refine exb (rR_go hR) ?_
  obtain ⟨q_41, h42, h⟩ := bd h
  obtain ⟨M43, e44, hR45, hs46⟩ := u213 hR h42
  replace hs46 := hs.tr hs46
  refine exb (c_V_of e44) ?_
  exact simT hs46 (q216_374 hR45  h)
theorem q216_109 {m : Nat} {ad : Nat → Nat} {M : hM} {S : sT} (hR : rR m ad M S) (v1 : Int32) (v2 : Int32) (v3 : Int32) (v4 : Int32) (v5 : Int32) (v6 : Int32) (v7 : Int32) {rs : sRes sT} (h : c216_109 v1 v2 v3 v4 v5 v6 v7 S = some rs) : ∃ res, b216_109 m v1 v2 v3 v4 v5 v6 v7 M = some res ∧ simR o_V f_1 (J216 m) m ad M rs res := by
  have hs : sm m ad M M := sm.rf
  unfold c216_109 at h
  unfold b216_109
  by_cases q147 : v5 = 0
  · rw [if_pos q147] at h ⊢
    obtain rfl := Option.some.inj h
    exact ⟨_, rfl, _, rfl, hR, hs⟩
  · rw [if_neg q147] at h ⊢
    refine exb (rR_gr hR 43) ?_
    refine exb (rR_gr hR 43) ?_
    obtain ⟨v_47, h48, h⟩ := bd h
    refine exb (rR_al hR h48) ?_
    obtain ⟨S49, h51, h⟩ := bd h
    obtain ⟨M50, e52, hR53, hs54⟩ := rR_si hR h51
    replace hs54 := hs.tr hs54
    refine exb e52 ?_
    refine exb (rR_gr hR53 46) ?_
    obtain ⟨v_55, h56, h⟩ := bd h
    refine exb (rR_al hR53 h56) ?_
    refine exb (rR_gr hR53 44) ?_
    obtain ⟨S57, h59, h⟩ := bd h
    obtain ⟨M58, e60, hR61, hs62⟩ := rR_si hR53 h59
    replace hs62 := hs54.tr hs62
    refine exb e60 ?_
    refine exb (rR_gr hR61 44) ?_
    refine exb (rR_go hR61) ?_
    obtain ⟨q_63, h64, h⟩ := bd h
    obtain ⟨M65, e66, hR67, hs68⟩ := u166 hR61 h64
    replace hs68 := hs62.tr hs68
    refine exb (c_I_of e66) ?_
    obtain ⟨S69, h71, h⟩ := bd h
    obtain ⟨M70, e72, hR73, hs74⟩ := rR_si hR67 h71
    replace hs74 := hs68.tr hs74
    refine exb e72 ?_
    refine exb (rR_gr hR73 44) ?_
    refine exb (rR_gr hR73 43) ?_
    obtain ⟨v_75, h76, h⟩ := bd h
    refine exb (rR_al hR73 h76) ?_
    obtain ⟨S77, h79, h⟩ := bd h
    obtain ⟨M78, e80, hR81, hs82⟩ := rR_si hR73 h79
    replace hs82 := hs74.tr hs82
    refine exb e80 ?_
    refine exb (rR_gr hR81 44) ?_
    obtain ⟨S83, h85, h⟩ := bd h
    obtain ⟨M84, e86, hR87, hs88⟩ := rR_si hR81 h85
    replace hs88 := hs82.tr hs88
    refine exb e86 ?_
    refine exb (rR_gr hR87 44) ?_
    obtain ⟨S89, h91, h⟩ := bd h
    obtain ⟨M90, e92, hR93, hs94⟩ := rR_si hR87 h91
    replace hs94 := hs88.tr hs94
    refine exb e92 ?_
    refine exb (rR_gr hR93 44) ?_
    obtain ⟨S95, h97, h⟩ := bd h
    obtain ⟨M96, e98, hR99, hs100⟩ := rR_si hR93 h97
    replace hs100 := hs94.tr hs100
    refine exb e98 ?_
    refine exb (rR_gr hR99 44) ?_
    obtain ⟨S101, h103, h⟩ := bd h
    obtain ⟨M102, e104, hR105, hs106⟩ := rR_si hR99 h103
    replace hs106 := hs100.tr hs106
    refine exb e104 ?_
    refine exb (rR_gr hR105 44) ?_
    refine exb (rR_gi hR105 3) ?_
    obtain ⟨S107, h109, h⟩ := bd h
    obtain ⟨M108, e110, hR111, hs112⟩ := rR_si hR105 h109
    replace hs112 := hs106.tr hs112
    refine exb e110 ?_
    refine exb (rR_gr hR111 46) ?_
    obtain ⟨v_113, h114, h⟩ := bd h
    refine exb (rR_al hR111 h114) ?_
    obtain ⟨S115, h117, h⟩ := bd h
    obtain ⟨M116, e118, hR119, hs120⟩ := rR_si hR111 h117
    replace hs120 := hs112.tr hs120
    refine exb e118 ?_
    refine exb (rR_gr hR119 43) ?_
    obtain ⟨v_121, h122, h⟩ := bd h
    refine exb (rR_al hR119 h122) ?_
    refine exb (rR_go hR119) ?_
    obtain ⟨q_123, h124, h⟩ := bd h
    obtain ⟨M125, e126, hR127, hs128⟩ := u212 hR119 h124
    replace hs128 := hs120.tr hs128
    refine exb (c_I_of e126) ?_
    refine exb (rR_go hR127) ?_
    obtain ⟨q_129, h130, h⟩ := bd h
    obtain ⟨M131, e132, hR133, hs134⟩ := u167 hR127 h130
    replace hs134 := hs128.tr hs134
    refine exb (c_V_of e132) ?_
    refine exb (rR_go hR133) ?_
    obtain ⟨q_135, h136, h⟩ := bd h
    obtain ⟨M137, e138, hR139, hs140⟩ := u176 hR133 h136
    replace hs140 := hs134.tr hs140
    refine exb (c_I_of e138) ?_
    refine exb (rR_go hR139) ?_
    obtain ⟨q_141, h142, h⟩ := bd h
    obtain ⟨M143, e144, hR145, hs146⟩ := u183 hR139 h142
    replace hs146 := hs140.tr hs146
    refine exb (c_V_of e144) ?_
    exact simT hs146 (q216_374 hR145  h)
theorem q216_25 {m : Nat} {ad : Nat → Nat} {M : hM} {S : sT} (hR : rR m ad M S) (v1 : Int32) (v2 : Int32) (v3 : Int32) (v4 : Int32) (si0 : Int32) {rs : sRes sT} (h : c216_25 v1 v2 v3 v4 si0 S = some rs) : ∃ res, b216_25 m v1 v2 v3 v4 si0 M = some res ∧ simR o_V f_1 (J216 m) m ad M rs res := by
  have hs : sm m ad M M := sm.rf
  unfold c216_25 at h
  unfold b216_25
  refine exb (rR_go hR) ?_
  obtain ⟨q_14, h15, h⟩ := bd h
  obtain ⟨M16, e17, hR18, hs19⟩ := u165 hR h15
  replace hs19 := hs.tr hs19
  refine exb (c_I_of e17) ?_
  refine exb (rR_go hR18) ?_
  obtain ⟨q_20, h21, h⟩ := bd h
  obtain ⟨M22, e23, hR24, hs25⟩ := u165 hR18 h21
  replace hs25 := hs19.tr hs25
  refine exb (c_I_of e23) ?_
  refine exb (rR_go hR24) ?_
  obtain ⟨q_26, h27, h⟩ := bd h
  obtain ⟨M28, e29, hR30, hs31⟩ := u215 hR24 h27
  replace hs31 := hs25.tr hs31
  refine exb (c_I_of e29) ?_
  by_cases q40 : q_26.1 = 0
  · rw [if_pos q40] at h ⊢
    exact simT hs31 (q216_98 hR30 v1 v2 h)
  · rw [if_neg q40] at h ⊢
    by_cases q39 : (1 : Int32) < v4
    · rw [if_pos q39] at h ⊢
      exact simT hs31 (q216_98 hR30 v1 v2 h)
    · rw [if_neg q39] at h ⊢
      by_cases q38 : q_20.1 < (1 : Int32)
      · rw [if_pos q38] at h ⊢
        exact simT hs31 (q216_98 hR30 v1 v2 h)
      · rw [if_neg q38] at h ⊢
        by_cases q37 : (4 : Int32) < q_20.1
        · rw [if_pos q37] at h ⊢
          exact simT hs31 (q216_98 hR30 v1 v2 h)
        · rw [if_neg q37] at h ⊢
          by_cases q36 : (16 : Int32) < (q_14.1 + q_20.1)
          · rw [if_pos q36] at h ⊢
            exact simT hs31 (q216_98 hR30 v1 v2 h)
          · rw [if_neg q36] at h ⊢
            by_cases q35 : si0 = 0
            · rw [if_pos q35] at h ⊢
              exact simT hs31 (q216_109 hR30 v1 v2 v3 v4 si0 q_14.1 q_20.1 h)
            · rw [if_neg q35] at h ⊢
              refine exb (rR_gr hR30 46) ?_
              obtain ⟨v_32, h33, h⟩ := bd h
              refine exb (rR_al hR30 h33) ?_
              by_cases q34 : v_32 = (6 : Int32)
              · rw [if_pos q34] at h ⊢
                exact simT hs31 (q216_98 hR30 v1 v2 h)
              · rw [if_neg q34] at h ⊢
                exact simT hs31 (q216_109 hR30 v1 v2 v3 v4 si0 q_14.1 q_20.1 h)
theorem q216_0 {m : Nat} {ad : Nat → Nat} {M : hM} {S : sT} (hR : rR m ad M S) (v1 : Int32) (v2 : Int32) (v3 : Int32) {rs : sRes sT} (h : c216_0 v1 v2 v3 S = some rs) : ∃ res, b216_0 m v1 v2 v3 M = some res ∧ simR o_V f_1 (J216 m) m ad M rs res := by
  have hs : sm m ad M M := sm.rf
  unfold c216_0 at h
  unfold b216_0
  refine exb (rR_go hR) ?_
  obtain ⟨q_1, h2, h⟩ := bd h
  obtain ⟨M3, e4, hR5, hs6⟩ := u165 hR h2
  replace hs6 := hs.tr hs6
  refine exb (c_I_of e4) ?_
  refine exb (rR_go hR5) ?_
  obtain ⟨q_7, h8, h⟩ := bd h
  obtain ⟨M9, e10, hR11, hs12⟩ := u165 hR5 h8
  replace hs12 := hs6.tr hs12
  refine exb (c_I_of e10) ?_
  by_cases q13 : q_7.1 = (1 : Int32)
  · rw [if_pos q13] at h ⊢
    exact simT hs12 (q216_25 hR11 v1 v2 v3 q_1.1 (1 : Int32) h)
  · rw [if_neg q13] at h ⊢
    exact simT hs12 (q216_25 hR11 v1 v2 v3 q_1.1 (0 : Int32) h)
theorem q216_117 {m : Nat} {ad : Nat → Nat} {M : hM} {S : sT} (hR : rR m ad M S) (v1 : Int32) (v2 : Int32) (v4 : Int32) (v6 : Int32) (v7 : Int32) (v8 : Int32) {rs : sRes sT} (h : c216_117 v1 v2 v4 v6 v7 v8 S = some rs) : ∃ res, b216_117 m v1 v2 v4 v6 v7 v8 M = some res ∧ simR o_V f_1 (J216 m) m ad M rs res := by
  have hs : sm m ad M M := sm.rf
  unfold c216_117 at h
  unfold b216_117
  by_cases q180 : v7 ≤ v8
  · rw [if_pos q180] at h ⊢
    refine exb (rR_go hR) ?_
    obtain ⟨q_148, h149, h⟩ := bd h
    obtain ⟨M150, e151, hR152, hs153⟩ := u213 hR h149
    replace hs153 := hs.tr hs153
    refine exb (c_V_of e151) ?_
    exact simT hs153 (q216_374 hR152  h)
  · rw [if_neg q180] at h ⊢
    refine exb (rR_go hR) ?_
    obtain ⟨q_154, h155, h⟩ := bd h
    obtain ⟨M156, e157, hR158, hs159⟩ := u212 hR h155
    replace hs159 := hs.tr hs159
    refine exb (c_I_of e157) ?_
    refine exb (rR_gr hR158 42) ?_
    obtain ⟨w_160, h161, h⟩ := bd h
    refine exb (rR_all hR158 h161) ?_
    refine exb (rR_go hR158) ?_
    obtain ⟨q_162, h163, h⟩ := bd h
    obtain ⟨M164, e165, hR166, hs167⟩ := u167 hR158 h163
    replace hs167 := hs159.tr hs167
    refine exb (c_V_of e165) ?_
    refine exb (rR_go hR166) ?_
    obtain ⟨q_168, h169, h⟩ := bd h
    obtain ⟨M170, e171, hR172, hs173⟩ := u176 hR166 h169
    replace hs173 := hs167.tr hs173
    refine exb (c_I_of e171) ?_
    refine exb (rR_go hR172) ?_
    obtain ⟨q_174, h175, h⟩ := bd h
    obtain ⟨M176, e177, hR178, hs179⟩ := u183 hR172 h175
    replace hs179 := hs173.tr hs179
    refine exb (c_V_of e177) ?_
    obtain rfl := Option.some.inj h
    exact ⟨_, rfl, _, rfl, hR178, hs179⟩
theorem u216 {m : Nat} {ad : Nat → Nat} {M : hM} {S : sT} (hR : rR m ad M S) {v1 : Int32} {v2 : Int32} {v3 : Int32} {q : sT} (h : e216 v1 v2 v3 S = some q) : ∃ M1, f216 [.inr (.inr (some m)), .inl v1, .inl v2, .inl v3] M = some (none, M1) ∧ rR m ad M1 q ∧ sm m ad M M1 := by
  unfold e216 at h
  show ∃ M1, x_go k216 (b216_0 m v1 v2 v3 M) = some (o_V q, M1) ∧ rR m ad M1 (f_1 q) ∧ sm m ad M M1
  refine s_go_ok (o := o_V) (f := f_1) (J := J216 m) (bs := kS216) (bk := k216) (xs := c216_0 v1 v2 v3 S) (x := b216_0 m v1 v2 v3 M) (M := M) (q := q) ?_ (fun rs hx => q216_0 hR v1 v2 v3 hx) h
  intro h as S M rs hR hb
  unfold kS216 at hb
  unfold k216 J216
  by_cases e0 : h = 117
  · rw [if_pos e0] at hb ⊢
    split at hb
    · subst e0; exact q216_117 hR _ _ _ _ _ _ hb
    · cases hb
  · rw [if_neg e0] at hb
    cases hb
/-! reference: logs(II)V -/
def c217_67 (v1 : Int32) (v2 : Int32) (S : sT) : Option (sRes sT) :=
  Option.bind (s_a S 41 v1) fun v_26 =>
  Option.bind (s_s S 40 (((8 : Int32) * v1) + v_26) v2) fun S28 =>
  Option.bind (s_a S28 41 v1) fun v_34 =>
  Option.bind (s_s S28 41 v1 (v_34 + (1 : Int32))) fun S36 =>
  some (.inl S36)
def c217_0 (v1 : Int32) (v2 : Int32) (S : sT) : Option (sRes sT) :=
  Option.bind (e215 v1 v2 S) fun q_1 =>
  if q_1.1 = 0 then
    (Option.bind (s_a q_1.2 41 v1) fun v_7 =>
    if v_7 = (8 : Int32) then
      (some (.inr (23, [.inl v1, .inl v2, .inl (0 : Int32)], q_1.2)))
    else
      (c217_67 v1 v2 q_1.2))
  else
    (some (.inl q_1.2))
def c217_23 (v1 : Int32) (v2 : Int32) (v3 : Int32) (S : sT) : Option (sRes sT) :=
  if (7 : Int32) ≤ v3 then
    (Option.bind (s_s S 41 v1 (7 : Int32)) fun S11 =>
    c217_67 v1 v2 S11)
  else
    (Option.bind (s_a S 40 ((((8 : Int32) * v1) + v3) + (1 : Int32))) fun v_17 =>
    Option.bind (s_s S 40 (((8 : Int32) * v1) + v3) v_17) fun S19 =>
    some (.inr (23, [.inl v1, .inl v2, .inl (v3 + (1 : Int32))], S19)))
def kS217 (h : Nat) (as : List aV) (S : sT) : Option (sRes sT) :=
  if h = 23 then (match as with | [.inl v1, .inl v2, .inl v3] => c217_23 v1 v2 v3 S | _ => none) else
  none
def J217 (m : Nat) (h : Nat) (as : List aV) : List aV := .inr (.inr (some m)) :: as
def e217 (v1 : Int32) (v2 : Int32) (S : sT) : Option sT := s_go kS217 (c217_0 v1 v2 S)
theorem q217_67 {m : Nat} {ad : Nat → Nat} {M : hM} {S : sT} (hR : rR m ad M S) (v1 : Int32) (v2 : Int32) {rs : sRes sT} (h : c217_67 v1 v2 S = some rs) : ∃ res, b217_67 m v1 v2 M = some res ∧ simR o_V f_1 (J217 m) m ad M rs res := by
  have hs : sm m ad M M := sm.rf
  unfold c217_67 at h
  unfold b217_67
  refine exb (rR_gr hR 40) ?_
  refine exb (rR_gr hR 41) ?_
  obtain ⟨v_26, h27, h⟩ := bd h
  refine exb (rR_al hR h27) ?_
  obtain ⟨S28, h30, h⟩ := bd h
  obtain ⟨M29, e31, hR32, hs33⟩ := rR_si hR h30
  replace hs33 := hs.tr hs33
  refine exb e31 ?_
  refine exb (rR_gr hR32 41) ?_
  obtain ⟨v_34, h35, h⟩ := bd h
  refine exb (rR_al hR32 h35) ?_
  obtain ⟨S36, h38, h⟩ := bd h
  obtain ⟨M37, e39, hR40, hs41⟩ := rR_si hR32 h38
  replace hs41 := hs33.tr hs41
  refine exb e39 ?_
  obtain rfl := Option.some.inj h
  exact ⟨_, rfl, _, rfl, hR40, hs41⟩
theorem q217_0 {m : Nat} {ad : Nat → Nat} {M : hM} {S : sT} (hR : rR m ad M S) (v1 : Int32) (v2 : Int32) {rs : sRes sT} (h : c217_0 v1 v2 S = some rs) : ∃ res, b217_0 m v1 v2 M = some res ∧ simR o_V f_1 (J217 m) m ad M rs res := by
  have hs : sm m ad M M := sm.rf
  unfold c217_0 at h
  unfold b217_0
  refine exb (rR_go hR) ?_
  obtain ⟨q_1, h2, h⟩ := bd h
  obtain ⟨M3, e4, hR5, hs6⟩ := u215 hR h2
  replace hs6 := hs.tr hs6
  refine exb (c_I_of e4) ?_
  by_cases q10 : q_1.1 = 0
  · rw [if_pos q10] at h ⊢
    refine exb (rR_gr hR5 41) ?_
    obtain ⟨v_7, h8, h⟩ := bd h
    refine exb (rR_al hR5 h8) ?_
    by_cases q9 : v_7 = (8 : Int32)
    · rw [if_pos q9] at h ⊢
      obtain rfl := Option.some.inj h
      exact ⟨_, rfl, _, rfl, hR5, hs6⟩
    · rw [if_neg q9] at h ⊢
      exact simT hs6 (q217_67 hR5 v1 v2 h)
  · rw [if_neg q10] at h ⊢
    obtain rfl := Option.some.inj h
    exact ⟨_, rfl, _, rfl, hR5, hs6⟩
theorem q217_23 {m : Nat} {ad : Nat → Nat} {M : hM} {S : sT} (hR : rR m ad M S) (v1 : Int32) (v2 : Int32) (v3 : Int32) {rs : sRes sT} (h : c217_23 v1 v2 v3 S = some rs) : ∃ res, b217_23 m v1 v2 v3 M = some res ∧ simR o_V f_1 (J217 m) m ad M rs res := by
  have hs : sm m ad M M := sm.rf
  unfold c217_23 at h
  unfold b217_23
  by_cases q25 : (7 : Int32) ≤ v3
  · rw [if_pos q25] at h ⊢
    refine exb (rR_gr hR 41) ?_
    obtain ⟨S11, h13, h⟩ := bd h
    obtain ⟨M12, e14, hR15, hs16⟩ := rR_si hR h13
    replace hs16 := hs.tr hs16
    refine exb e14 ?_
    exact simT hs16 (q217_67 hR15 v1 v2 h)
  · rw [if_neg q25] at h ⊢
    refine exb (rR_gr hR 40) ?_
    refine exb (rR_gr hR 40) ?_
    obtain ⟨v_17, h18, h⟩ := bd h
    refine exb (rR_al hR h18) ?_
    obtain ⟨S19, h21, h⟩ := bd h
    obtain ⟨M20, e22, hR23, hs24⟩ := rR_si hR h21
    replace hs24 := hs.tr hs24
    refine exb e22 ?_
    obtain rfl := Option.some.inj h
    exact ⟨_, rfl, _, rfl, hR23, hs24⟩
theorem u217 {m : Nat} {ad : Nat → Nat} {M : hM} {S : sT} (hR : rR m ad M S) {v1 : Int32} {v2 : Int32} {q : sT} (h : e217 v1 v2 S = some q) : ∃ M1, f217 [.inr (.inr (some m)), .inl v1, .inl v2] M = some (none, M1) ∧ rR m ad M1 q ∧ sm m ad M M1 := by
  unfold e217 at h
  show ∃ M1, x_go k217 (b217_0 m v1 v2 M) = some (o_V q, M1) ∧ rR m ad M1 (f_1 q) ∧ sm m ad M M1
  refine s_go_ok (o := o_V) (f := f_1) (J := J217 m) (bs := kS217) (bk := k217) (xs := c217_0 v1 v2 S) (x := b217_0 m v1 v2 M) (M := M) (q := q) ?_ (fun rs hx => q217_0 hR v1 v2 hx) h
  intro h as S M rs hR hb
  unfold kS217 at hb
  unfold k217 J217
  by_cases e0 : h = 23
  · rw [if_pos e0] at hb ⊢
    split at hb
    · subst e0; exact q217_23 hR _ _ _ hb
    · cases hb
  · rw [if_neg e0] at hb
    cases hb
/-! reference: discGets(II)V -/
def c218_203  (S : sT) : Option (sRes sT) :=
  some (.inl S)
def c218_0 (v1 : Int32) (v2 : Int32) (S : sT) : Option (sRes sT) :=
  Option.bind (e166 v2 (4 : Int32) (3 : Int32) S) fun q_1 =>
  Option.bind (e165 v2 (0 : Int32) q_1.2) fun q_7 =>
  if q_7.1 = 7 then
    (Option.bind (e217 v1 q_1.1 q_7.2) fun q_13 =>
    Option.bind (e176 v1 q_13) fun q_19 =>
    Option.bind (e212 v1 v2 (8 : Int32) (0 : Int32) (0 : Int32) q_19.2) fun q_25 =>
    Option.bind (e183 q_19.1 q_25.1 q_25.2) fun q_31 =>
    c218_203  q_31)
  else
    (if q_7.1 = 8 then
      (c218_203  q_7.2)
    else
      (if q_7.1 = 9 then
        (Option.bind (e216 v1 v2 q_1.1 q_7.2) fun q_37 =>
        c218_203  q_37)
      else
        (if q_7.1 = 10 then
          (c218_203  q_7.2)
        else
          (if q_7.1 = 11 then
            (Option.bind (e214 v1 v2 q_1.1 q_7.2) fun q_43 =>
            c218_203  q_43)
          else
            (if q_7.1 = 12 then
              (c218_203  q_7.2)
            else
              (if q_7.1 = 13 then
                (some (.inr (107, [.inl v1, .inl v2, .inl q_1.1, .inl (0 : Int32)], q_7.2)))
              else
                (c218_203  q_7.2)))))))
def c218_175 (v1 : Int32) (v2 : Int32) (v3 : Int32) (v4 : Int32) (S : sT) : Option (sRes sT) :=
  some (.inr (107, [.inl v1, .inl v2, .inl v3, .inl (v4 + (1 : Int32))], S))
def c218_107 (v1 : Int32) (v2 : Int32) (v3 : Int32) (v4 : Int32) (S : sT) : Option (sRes sT) :=
  Option.bind (s_a S 46 v1) fun v_56 =>
  if v_56 ≤ v4 then
    (Option.bind (e176 v1 S) fun q_58 =>
    Option.bind (e212 v1 v2 (14 : Int32) (0 : Int32) (0 : Int32) q_58.2) fun q_64 =>
    Option.bind (e183 q_58.1 q_64.1 q_64.2) fun q_70 =>
    c218_203  q_70)
  else
    (Option.bind (s_a S 44 (((48 : Int32) * v1) + ((8 : Int32) * v4))) fun v_76 =>
    if v_76 = v3 then
      (Option.bind (s_a S 44 ((((48 : Int32) * v1) + ((8 : Int32) * v4)) + (1 : Int32))) fun v_78 =>
      Option.bind (e166 v2 (7 : Int32) (2 : Int32) S) fun q_80 =>
      if v_78 = q_80.1 then
        (Option.bind (e203 v1 v4 q_80.2) fun q_86 =>
        some (.inr (107, [.inl v1, .inl v2, .inl v3, .inl v4], q_86)))
      else
        (c218_175 v1 v2 v3 v4 q_80.2))
    else
      (c218_175 v1 v2 v3 v4 S))
def kS218 (h : Nat) (as : List aV) (S : sT) : Option (sRes sT) :=
  if h = 107 then (match as with | [.inl v1, .inl v2, .inl v3, .inl v4] => c218_107 v1 v2 v3 v4 S | _ => none) else
  none
def J218 (m : Nat) (h : Nat) (as : List aV) : List aV := .inr (.inr (some m)) :: as
def e218 (v1 : Int32) (v2 : Int32) (S : sT) : Option sT := s_go kS218 (c218_0 v1 v2 S)
theorem q218_203 {m : Nat} {ad : Nat → Nat} {M : hM} {S : sT} (hR : rR m ad M S)  {rs : sRes sT} (h : c218_203  S = some rs) : ∃ res, b218_203  M = some res ∧ simR o_V f_1 (J218 m) m ad M rs res := by
  have hs : sm m ad M M := sm.rf
  unfold c218_203 at h
  unfold b218_203
  obtain rfl := Option.some.inj h
  exact ⟨_, rfl, _, rfl, hR, hs⟩
theorem q218_0 {m : Nat} {ad : Nat → Nat} {M : hM} {S : sT} (hR : rR m ad M S) (v1 : Int32) (v2 : Int32) {rs : sRes sT} (h : c218_0 v1 v2 S = some rs) : ∃ res, b218_0 m v1 v2 M = some res ∧ simR o_V f_1 (J218 m) m ad M rs res := by
  have hs : sm m ad M M := sm.rf
  unfold c218_0 at h
  unfold b218_0
  refine exb (rR_go hR) ?_
  obtain ⟨q_1, h2, h⟩ := bd h
  obtain ⟨M3, e4, hR5, hs6⟩ := u166 hR h2
  replace hs6 := hs.tr hs6
  refine exb (c_I_of e4) ?_
  refine exb (rR_go hR5) ?_
  obtain ⟨q_7, h8, h⟩ := bd h
  obtain ⟨M9, e10, hR11, hs12⟩ := u165 hR5 h8
  replace hs12 := hs6.tr hs12
  refine exb (c_I_of e10) ?_
  by_cases q55 : q_7.1 = 7
  · rw [if_pos q55] at h ⊢
    refine exb (rR_go hR11) ?_
    obtain ⟨q_13, h14, h⟩ := bd h
    obtain ⟨M15, e16, hR17, hs18⟩ := u217 hR11 h14
    replace hs18 := hs12.tr hs18
    refine exb (c_V_of e16) ?_
    refine exb (rR_go hR17) ?_
    obtain ⟨q_19, h20, h⟩ := bd h
    obtain ⟨M21, e22, hR23, hs24⟩ := u176 hR17 h20
    replace hs24 := hs18.tr hs24
    refine exb (c_I_of e22) ?_
    refine exb (rR_go hR23) ?_
    obtain ⟨q_25, h26, h⟩ := bd h
    obtain ⟨M27, e28, hR29, hs30⟩ := u212 hR23 h26
    replace hs30 := hs24.tr hs30
    refine exb (c_I_of e28) ?_
    refine exb (rR_go hR29) ?_
    obtain ⟨q_31, h32, h⟩ := bd h
    obtain ⟨M33, e34, hR35, hs36⟩ := u183 hR29 h32
    replace hs36 := hs30.tr hs36
    refine exb (c_V_of e34) ?_
    exact simT hs36 (q218_203 hR35  h)
  · rw [if_neg q55] at h ⊢
    by_cases q54 : q_7.1 = 8
    · rw [if_pos q54] at h ⊢
      exact simT hs12 (q218_203 hR11  h)
    · rw [if_neg q54] at h ⊢
      by_cases q53 : q_7.1 = 9
      · rw [if_pos q53] at h ⊢
        refine exb (rR_go hR11) ?_
        obtain ⟨q_37, h38, h⟩ := bd h
        obtain ⟨M39, e40, hR41, hs42⟩ := u216 hR11 h38
        replace hs42 := hs12.tr hs42
        refine exb (c_V_of e40) ?_
        exact simT hs42 (q218_203 hR41  h)
      · rw [if_neg q53] at h ⊢
        by_cases q52 : q_7.1 = 10
        · rw [if_pos q52] at h ⊢
          exact simT hs12 (q218_203 hR11  h)
        · rw [if_neg q52] at h ⊢
          by_cases q51 : q_7.1 = 11
          · rw [if_pos q51] at h ⊢
            refine exb (rR_go hR11) ?_
            obtain ⟨q_43, h44, h⟩ := bd h
            obtain ⟨M45, e46, hR47, hs48⟩ := u214 hR11 h44
            replace hs48 := hs12.tr hs48
            refine exb (c_V_of e46) ?_
            exact simT hs48 (q218_203 hR47  h)
          · rw [if_neg q51] at h ⊢
            by_cases q50 : q_7.1 = 12
            · rw [if_pos q50] at h ⊢
              exact simT hs12 (q218_203 hR11  h)
            · rw [if_neg q50] at h ⊢
              by_cases q49 : q_7.1 = 13
              · rw [if_pos q49] at h ⊢
                obtain rfl := Option.some.inj h
                exact ⟨_, rfl, _, rfl, hR11, hs12⟩
              · rw [if_neg q49] at h ⊢
                exact simT hs12 (q218_203 hR11  h)
theorem q218_175 {m : Nat} {ad : Nat → Nat} {M : hM} {S : sT} (hR : rR m ad M S) (v1 : Int32) (v2 : Int32) (v3 : Int32) (v4 : Int32) {rs : sRes sT} (h : c218_175 v1 v2 v3 v4 S = some rs) : ∃ res, b218_175 m v1 v2 v3 v4 M = some res ∧ simR o_V f_1 (J218 m) m ad M rs res := by
  have hs : sm m ad M M := sm.rf
  unfold c218_175 at h
  unfold b218_175
  obtain rfl := Option.some.inj h
  exact ⟨_, rfl, _, rfl, hR, hs⟩
theorem q218_107 {m : Nat} {ad : Nat → Nat} {M : hM} {S : sT} (hR : rR m ad M S) (v1 : Int32) (v2 : Int32) (v3 : Int32) (v4 : Int32) {rs : sRes sT} (h : c218_107 v1 v2 v3 v4 S = some rs) : ∃ res, b218_107 m v1 v2 v3 v4 M = some res ∧ simR o_V f_1 (J218 m) m ad M rs res := by
  have hs : sm m ad M M := sm.rf
  unfold c218_107 at h
  unfold b218_107
  refine exb (rR_gr hR 46) ?_
  obtain ⟨v_56, h57, h⟩ := bd h
  refine exb (rR_al hR h57) ?_
  by_cases q94 : v_56 ≤ v4
  · rw [if_pos q94] at h ⊢
    refine exb (rR_go hR) ?_
    obtain ⟨q_58, h59, h⟩ := bd h
    obtain ⟨M60, e61, hR62, hs63⟩ := u176 hR h59
    replace hs63 := hs.tr hs63
    refine exb (c_I_of e61) ?_
    refine exb (rR_go hR62) ?_
    obtain ⟨q_64, h65, h⟩ := bd h
    obtain ⟨M66, e67, hR68, hs69⟩ := u212 hR62 h65
    replace hs69 := hs63.tr hs69
    refine exb (c_I_of e67) ?_
    refine exb (rR_go hR68) ?_
    obtain ⟨q_70, h71, h⟩ := bd h
    obtain ⟨M72, e73, hR74, hs75⟩ := u183 hR68 h71
    replace hs75 := hs69.tr hs75
    refine exb (c_V_of e73) ?_
    exact simT hs75 (q218_203 hR74  h)
  · rw [if_neg q94] at h ⊢
    refine exb (rR_gr hR 44) ?_
    obtain ⟨v_76, h77, h⟩ := bd h
    refine exb (rR_al hR h77) ?_
    by_cases q93 : v_76 = v3
    · rw [if_pos q93] at h ⊢
      refine exb (rR_gr hR 44) ?_
      obtain ⟨v_78, h79, h⟩ := bd h
      refine exb (rR_al hR h79) ?_
      refine exb (rR_go hR) ?_
      obtain ⟨q_80, h81, h⟩ := bd h
      obtain ⟨M82, e83, hR84, hs85⟩ := u166 hR h81
      replace hs85 := hs.tr hs85
      refine exb (c_I_of e83) ?_
      by_cases q92 : v_78 = q_80.1
      · rw [if_pos q92] at h ⊢
        refine exb (rR_go hR84) ?_
        obtain ⟨q_86, h87, h⟩ := bd h
        obtain ⟨M88, e89, hR90, hs91⟩ := u203 hR84 h87
        replace hs91 := hs85.tr hs91
        refine exb (c_V_of e89) ?_
        obtain rfl := Option.some.inj h
        exact ⟨_, rfl, _, rfl, hR90, hs91⟩
      · rw [if_neg q92] at h ⊢
        exact simT hs85 (q218_175 hR84 v1 v2 v3 v4 h)
    · rw [if_neg q93] at h ⊢
      exact simT hs (q218_175 hR v1 v2 v3 v4 h)
theorem u218 {m : Nat} {ad : Nat → Nat} {M : hM} {S : sT} (hR : rR m ad M S) {v1 : Int32} {v2 : Int32} {q : sT} (h : e218 v1 v2 S = some q) : ∃ M1, f218 [.inr (.inr (some m)), .inl v1, .inl v2] M = some (none, M1) ∧ rR m ad M1 q ∧ sm m ad M M1 := by
  unfold e218 at h
  show ∃ M1, x_go k218 (b218_0 m v1 v2 M) = some (o_V q, M1) ∧ rR m ad M1 (f_1 q) ∧ sm m ad M M1
  refine s_go_ok (o := o_V) (f := f_1) (J := J218 m) (bs := kS218) (bk := k218) (xs := c218_0 v1 v2 S) (x := b218_0 m v1 v2 M) (M := M) (q := q) ?_ (fun rs hx => q218_0 hR v1 v2 hx) h
  intro h as S M rs hR hb
  unfold kS218 at hb
  unfold k218 J218
  by_cases e0 : h = 107
  · rw [if_pos e0] at hb ⊢
    split at hb
    · subst e0; exact q218_107 hR _ _ _ _ hb
    · cases hb
  · rw [if_neg e0] at hb
    cases hb
/-! reference: gets(II)V -/
def c219_24  (S : sT) : Option (sRes sT) :=
  some (.inl S)
def c219_0 (v1 : Int32) (v2 : Int32) (S : sT) : Option (sRes sT) :=
  Option.bind (s_a S 33 v1) fun v_1 =>
  if v_1 = 0 then
    (Option.bind (e211 v1 v2 S) fun q_3 =>
    c219_24  q_3)
  else
    (Option.bind (e218 v1 v2 S) fun q_9 =>
    c219_24  q_9)
def e219 (v1 : Int32) (v2 : Int32) (S : sT) : Option sT := s_out (c219_0 v1 v2 S)
theorem q219_24 {m : Nat} {ad : Nat → Nat} {M : hM} {S : sT} (hR : rR m ad M S)  {rs : sRes sT} (h : c219_24  S = some rs) : ∃ res, b219_24  M = some res ∧ simR o_V f_1 (fun _ as => as) m ad M rs res := by
  have hs : sm m ad M M := sm.rf
  unfold c219_24 at h
  unfold b219_24
  obtain rfl := Option.some.inj h
  exact ⟨_, rfl, _, rfl, hR, hs⟩
theorem q219_0 {m : Nat} {ad : Nat → Nat} {M : hM} {S : sT} (hR : rR m ad M S) (v1 : Int32) (v2 : Int32) {rs : sRes sT} (h : c219_0 v1 v2 S = some rs) : ∃ res, b219_0 m v1 v2 M = some res ∧ simR o_V f_1 (fun _ as => as) m ad M rs res := by
  have hs : sm m ad M M := sm.rf
  unfold c219_0 at h
  unfold b219_0
  refine exb (rR_gr hR 33) ?_
  obtain ⟨v_1, h2, h⟩ := bd h
  refine exb (rR_al hR h2) ?_
  by_cases q15 : v_1 = 0
  · rw [if_pos q15] at h ⊢
    refine exb (rR_go hR) ?_
    obtain ⟨q_3, h4, h⟩ := bd h
    obtain ⟨M5, e6, hR7, hs8⟩ := u211 hR h4
    replace hs8 := hs.tr hs8
    refine exb (c_V_of e6) ?_
    exact simT hs8 (q219_24 hR7  h)
  · rw [if_neg q15] at h ⊢
    refine exb (rR_go hR) ?_
    obtain ⟨q_9, h10, h⟩ := bd h
    obtain ⟨M11, e12, hR13, hs14⟩ := u218 hR h10
    replace hs14 := hs.tr hs14
    refine exb (c_V_of e12) ?_
    exact simT hs14 (q219_24 hR13  h)
theorem u219 {m : Nat} {ad : Nat → Nat} {M : hM} {S : sT} (hR : rR m ad M S) {v1 : Int32} {v2 : Int32} {q : sT} (h : e219 v1 v2 S = some q) : ∃ M1, f219 [.inr (.inr (some m)), .inl v1, .inl v2] M = some (none, M1) ∧ rR m ad M1 q ∧ sm m ad M M1 := by
  exact s_out_sim (o := o_V) (f := f_1) (J := fun _ as => as) (fun rs hx => q219_0 hR v1 v2 hx) h
/-! reference: welcomes(II)V -/
def c220_24 (v1 : Int32) (v2 : Int32) (S : sT) : Option (sRes sT) :=
  Option.bind (s_s S 35 v1 v2) fun S13 =>
  some (.inl S13)
def c220_0 (v1 : Int32) (v2 : Int32) (S : sT) : Option (sRes sT) :=
  Option.bind (s_a S 35 v1) fun v_1 =>
  if v_1 = 0 then
    (c220_24 v1 v2 S)
  else
    (Option.bind (s_a S 35 v1) fun v_3 =>
    if v_3 = v2 then
      (c220_24 v1 v2 S)
    else
      (Option.bind (e186 v1 S) fun q_5 =>
      c220_24 v1 v2 q_5))
def e220 (v1 : Int32) (v2 : Int32) (S : sT) : Option sT := s_out (c220_0 v1 v2 S)
theorem q220_24 {m : Nat} {ad : Nat → Nat} {M : hM} {S : sT} (hR : rR m ad M S) (v1 : Int32) (v2 : Int32) {rs : sRes sT} (h : c220_24 v1 v2 S = some rs) : ∃ res, b220_24 m v1 v2 M = some res ∧ simR o_V f_1 (fun _ as => as) m ad M rs res := by
  have hs : sm m ad M M := sm.rf
  unfold c220_24 at h
  unfold b220_24
  refine exb (rR_gr hR 35) ?_
  obtain ⟨S13, h15, h⟩ := bd h
  obtain ⟨M14, e16, hR17, hs18⟩ := rR_si hR h15
  replace hs18 := hs.tr hs18
  refine exb e16 ?_
  obtain rfl := Option.some.inj h
  exact ⟨_, rfl, _, rfl, hR17, hs18⟩
theorem q220_0 {m : Nat} {ad : Nat → Nat} {M : hM} {S : sT} (hR : rR m ad M S) (v1 : Int32) (v2 : Int32) {rs : sRes sT} (h : c220_0 v1 v2 S = some rs) : ∃ res, b220_0 m v1 v2 M = some res ∧ simR o_V f_1 (fun _ as => as) m ad M rs res := by
  have hs : sm m ad M M := sm.rf
  unfold c220_0 at h
  unfold b220_0
  refine exb (rR_gr hR 35) ?_
  obtain ⟨v_1, h2, h⟩ := bd h
  refine exb (rR_al hR h2) ?_
  by_cases q12 : v_1 = 0
  · rw [if_pos q12] at h ⊢
    exact simT hs (q220_24 hR v1 v2 h)
  · rw [if_neg q12] at h ⊢
    refine exb (rR_gr hR 35) ?_
    obtain ⟨v_3, h4, h⟩ := bd h
    refine exb (rR_al hR h4) ?_
    by_cases q11 : v_3 = v2
    · rw [if_pos q11] at h ⊢
      exact simT hs (q220_24 hR v1 v2 h)
    · rw [if_neg q11] at h ⊢
      refine exb (rR_go hR) ?_
      obtain ⟨q_5, h6, h⟩ := bd h
      obtain ⟨M7, e8, hR9, hs10⟩ := u186 hR h6
      replace hs10 := hs.tr hs10
      refine exb (c_V_of e8) ?_
      exact simT hs10 (q220_24 hR9 v1 v2 h)
theorem u220 {m : Nat} {ad : Nat → Nat} {M : hM} {S : sT} (hR : rR m ad M S) {v1 : Int32} {v2 : Int32} {q : sT} (h : e220 v1 v2 S = some q) : ∃ M1, f220 [.inr (.inr (some m)), .inl v1, .inl v2] M = some (none, M1) ∧ rR m ad M1 q ∧ sm m ad M M1 := by
  exact s_out_sim (o := o_V) (f := f_1) (J := fun _ as => as) (fun rs hx => q220_0 hR v1 v2 hx) h
/-! reference: nodeTicks(I)V -/
def c221_0 (v1 : Int32) (S : sT) : Option (sRes sT) :=
  Option.bind (e176 v1 S) fun q_1 =>
  some (.inr (6, [.inl v1, .inl q_1.1], q_1.2))
def c221_110 (v1 : Int32) (v2 : Int32) (v3 : Int32) (S : sT) : Option (sRes sT) :=
  Option.bind (e171 v3 S) fun q_81 =>
  some (.inr (6, [.inl v1, .inl v2], q_81))
def c221_84 (v1 : Int32) (v2 : Int32) (v3 : Int32) (v4 : Int32) (S : sT) : Option (sRes sT) :=
  Option.bind (s_a S 35 v1) fun v_69 =>
  if v_69 = 0 then
    (c221_110 v1 v2 v3 S)
  else
    (Option.bind (s_a S 35 v1) fun v_71 =>
    if v4 = v_71 then
      (Option.bind (e219 v1 v3 S) fun q_73 =>
      c221_110 v1 v2 v3 q_73)
    else
      (c221_110 v1 v2 v3 S))
def c221_6 (v1 : Int32) (v2 : Int32) (S : sT) : Option (sRes sT) :=
  Option.bind (s_a S 17 v2) fun v_7 =>
  if v_7 ≤ 0 then
    (Option.bind (e208 v1 S) fun q_9 =>
    Option.bind (e184 v2 q_9) fun q_15 =>
    some (.inl q_15))
  else
    (Option.bind (e185 v2 S) fun q_21 =>
    Option.bind (e166 q_21.1 (1 : Int32) (3 : Int32) q_21.2) fun q_27 =>
    Option.bind (e174 q_21.1 q_27.2) fun q_33 =>
    if q_33.1 = 0 then
      (Option.bind (s_a q_33.2 4 (1 : Int32)) fun v_59 =>
      Option.bind (s_s q_33.2 4 (1 : Int32) (v_59 + (1 : Int32))) fun S61 =>
      c221_110 v1 v2 q_21.1 S61)
    else
      (Option.bind (e165 q_21.1 (0 : Int32) q_33.2) fun q_39 =>
      if q_39.1 = (4 : Int32) then
        (Option.bind (e166 q_21.1 (4 : Int32) (3 : Int32) q_39.2) fun q_45 =>
        if q_45.1 = (16777214 : Int32) then
          (Option.bind (e220 v1 q_27.1 q_45.2) fun q_51 =>
          c221_110 v1 v2 q_21.1 q_51)
        else
          (c221_84 v1 v2 q_21.1 q_27.1 q_45.2))
      else
        (c221_84 v1 v2 q_21.1 q_27.1 q_39.2)))
def kS221 (h : Nat) (as : List aV) (S : sT) : Option (sRes sT) :=
  if h = 6 then (match as with | [.inl v1, .inl v2] => c221_6 v1 v2 S | _ => none) else
  none
def J221 (m : Nat) (h : Nat) (as : List aV) : List aV := .inr (.inr (some m)) :: as
def e221 (v1 : Int32) (S : sT) : Option sT := s_go kS221 (c221_0 v1 S)
theorem q221_0 {m : Nat} {ad : Nat → Nat} {M : hM} {S : sT} (hR : rR m ad M S) (v1 : Int32) {rs : sRes sT} (h : c221_0 v1 S = some rs) : ∃ res, b221_0 m v1 M = some res ∧ simR o_V f_1 (J221 m) m ad M rs res := by
  have hs : sm m ad M M := sm.rf
  unfold c221_0 at h
  unfold b221_0
  refine exb (rR_go hR) ?_
  obtain ⟨q_1, h2, h⟩ := bd h
  obtain ⟨M3, e4, hR5, hs6⟩ := u176 hR h2
  replace hs6 := hs.tr hs6
  refine exb (c_I_of e4) ?_
  obtain rfl := Option.some.inj h
  exact ⟨_, rfl, _, rfl, hR5, hs6⟩
theorem q221_110 {m : Nat} {ad : Nat → Nat} {M : hM} {S : sT} (hR : rR m ad M S) (v1 : Int32) (v2 : Int32) (v3 : Int32) {rs : sRes sT} (h : c221_110 v1 v2 v3 S = some rs) : ∃ res, b221_110 m v1 v2 v3 M = some res ∧ simR o_V f_1 (J221 m) m ad M rs res := by
  have hs : sm m ad M M := sm.rf
  unfold c221_110 at h
  unfold b221_110
  refine exb (rR_go hR) ?_
  obtain ⟨q_81, h82, h⟩ := bd h
  obtain ⟨M83, e84, hR85, hs86⟩ := u171 hR h82
  replace hs86 := hs.tr hs86
  refine exb (c_V_of e84) ?_
  obtain rfl := Option.some.inj h
  exact ⟨_, rfl, _, rfl, hR85, hs86⟩
theorem q221_84 {m : Nat} {ad : Nat → Nat} {M : hM} {S : sT} (hR : rR m ad M S) (v1 : Int32) (v2 : Int32) (v3 : Int32) (v4 : Int32) {rs : sRes sT} (h : c221_84 v1 v2 v3 v4 S = some rs) : ∃ res, b221_84 m v1 v2 v3 v4 M = some res ∧ simR o_V f_1 (J221 m) m ad M rs res := by
  have hs : sm m ad M M := sm.rf
  unfold c221_84 at h
  unfold b221_84
  refine exb (rR_gr hR 35) ?_
  obtain ⟨v_69, h70, h⟩ := bd h
  refine exb (rR_al hR h70) ?_
  by_cases q80 : v_69 = 0
  · rw [if_pos q80] at h ⊢
    exact simT hs (q221_110 hR v1 v2 v3 h)
  · rw [if_neg q80] at h ⊢
    refine exb (rR_gr hR 35) ?_
    obtain ⟨v_71, h72, h⟩ := bd h
    refine exb (rR_al hR h72) ?_
    by_cases q79 : v4 = v_71
    · rw [if_pos q79] at h ⊢
      refine exb (rR_go hR) ?_
      obtain ⟨q_73, h74, h⟩ := bd h
      obtain ⟨M75, e76, hR77, hs78⟩ := u219 hR h74
      replace hs78 := hs.tr hs78
      refine exb (c_V_of e76) ?_
      exact simT hs78 (q221_110 hR77 v1 v2 v3 h)
    · rw [if_neg q79] at h ⊢
      exact simT hs (q221_110 hR v1 v2 v3 h)
theorem q221_6 {m : Nat} {ad : Nat → Nat} {M : hM} {S : sT} (hR : rR m ad M S) (v1 : Int32) (v2 : Int32) {rs : sRes sT} (h : c221_6 v1 v2 S = some rs) : ∃ res, b221_6 m v1 v2 M = some res ∧ simR o_V f_1 (J221 m) m ad M rs res := by
  have hs : sm m ad M M := sm.rf
  unfold c221_6 at h
  unfold b221_6
  refine exb (rR_gr hR 17) ?_
  obtain ⟨v_7, h8, h⟩ := bd h
  refine exb (rR_al hR h8) ?_
  by_cases q68 : v_7 ≤ 0
  · rw [if_pos q68] at h ⊢
    refine exb (rR_go hR) ?_
    obtain ⟨q_9, h10, h⟩ := bd h
    obtain ⟨M11, e12, hR13, hs14⟩ := u208 hR h10
    replace hs14 := hs.tr hs14
    refine exb (c_V_of e12) ?_
    refine exb (rR_go hR13) ?_
    obtain ⟨q_15, h16, h⟩ := bd h
    obtain ⟨M17, e18, hR19, hs20⟩ := u184 hR13 h16
    replace hs20 := hs14.tr hs20
    refine exb (c_V_of e18) ?_
    obtain rfl := Option.some.inj h
    exact ⟨_, rfl, _, rfl, hR19, hs20⟩
  · rw [if_neg q68] at h ⊢
    refine exb (rR_go hR) ?_
    obtain ⟨q_21, h22, h⟩ := bd h
    obtain ⟨M23, e24, hR25, hs26⟩ := u185 hR h22
    replace hs26 := hs.tr hs26
    refine exb (c_I_of e24) ?_
    refine exb (rR_go hR25) ?_
    obtain ⟨q_27, h28, h⟩ := bd h
    obtain ⟨M29, e30, hR31, hs32⟩ := u166 hR25 h28
    replace hs32 := hs26.tr hs32
    refine exb (c_I_of e30) ?_
    refine exb (rR_go hR31) ?_
    obtain ⟨q_33, h34, h⟩ := bd h
    obtain ⟨M35, e36, hR37, hs38⟩ := u174 hR31 h34
    replace hs38 := hs32.tr hs38
    refine exb (c_I_of e36) ?_
    by_cases q67 : q_33.1 = 0
    · rw [if_pos q67] at h ⊢
      refine exb (rR_gr hR37 4) ?_
      obtain ⟨v_59, h60, h⟩ := bd h
      refine exb (rR_al hR37 h60) ?_
      obtain ⟨S61, h63, h⟩ := bd h
      obtain ⟨M62, e64, hR65, hs66⟩ := rR_si hR37 h63
      replace hs66 := hs38.tr hs66
      refine exb e64 ?_
      exact simT hs66 (q221_110 hR65 v1 v2 q_21.1 h)
    · rw [if_neg q67] at h ⊢
      refine exb (rR_go hR37) ?_
      obtain ⟨q_39, h40, h⟩ := bd h
      obtain ⟨M41, e42, hR43, hs44⟩ := u165 hR37 h40
      replace hs44 := hs38.tr hs44
      refine exb (c_I_of e42) ?_
      by_cases q58 : q_39.1 = (4 : Int32)
      · rw [if_pos q58] at h ⊢
        refine exb (rR_go hR43) ?_
        obtain ⟨q_45, h46, h⟩ := bd h
        obtain ⟨M47, e48, hR49, hs50⟩ := u166 hR43 h46
        replace hs50 := hs44.tr hs50
        refine exb (c_I_of e48) ?_
        by_cases q57 : q_45.1 = (16777214 : Int32)
        · rw [if_pos q57] at h ⊢
          refine exb (rR_go hR49) ?_
          obtain ⟨q_51, h52, h⟩ := bd h
          obtain ⟨M53, e54, hR55, hs56⟩ := u220 hR49 h52
          replace hs56 := hs50.tr hs56
          refine exb (c_V_of e54) ?_
          exact simT hs56 (q221_110 hR55 v1 v2 q_21.1 h)
        · rw [if_neg q57] at h ⊢
          exact simT hs50 (q221_84 hR49 v1 v2 q_21.1 q_27.1 h)
      · rw [if_neg q58] at h ⊢
        exact simT hs44 (q221_84 hR43 v1 v2 q_21.1 q_27.1 h)
theorem u221 {m : Nat} {ad : Nat → Nat} {M : hM} {S : sT} (hR : rR m ad M S) {v1 : Int32} {q : sT} (h : e221 v1 S = some q) : ∃ M1, f221 [.inr (.inr (some m)), .inl v1] M = some (none, M1) ∧ rR m ad M1 q ∧ sm m ad M M1 := by
  unfold e221 at h
  show ∃ M1, x_go k221 (b221_0 m v1 M) = some (o_V q, M1) ∧ rR m ad M1 (f_1 q) ∧ sm m ad M M1
  refine s_go_ok (o := o_V) (f := f_1) (J := J221 m) (bs := kS221) (bk := k221) (xs := c221_0 v1 S) (x := b221_0 m v1 M) (M := M) (q := q) ?_ (fun rs hx => q221_0 hR v1 hx) h
  intro h as S M rs hR hb
  unfold kS221 at hb
  unfold k221 J221
  by_cases e0 : h = 6
  · rw [if_pos e0] at hb ⊢
    split at hb
    · subst e0; exact q221_6 hR _ _ hb
    · cases hb
  · rw [if_neg e0] at hb
    cases hb
/-! reference: floods(III)V -/
def c222_0 (v1 : Int32) (v2 : Int32) (v3 : Int32) (S : sT) : Option (sRes sT) :=
  some (.inr (3, [.inl v1, .inl v2, .inl v3, .inl (0 : Int32)], S))
def c222_48 (v1 : Int32) (v2 : Int32) (v3 : Int32) (v4 : Int32) (S : sT) : Option (sRes sT) :=
  some (.inr (3, [.inl v1, .inl v2, .inl v3, .inl (v4 + (1 : Int32))], S))
def c222_3 (v1 : Int32) (v2 : Int32) (v3 : Int32) (v4 : Int32) (S : sT) : Option (sRes sT) :=
  if (8 : Int32) ≤ v4 then
    (some (.inl S))
  else
    (Option.bind (e175 v1 v4 S) fun q_1 =>
    Option.bind (s_a q_1.2 23 q_1.1) fun v_7 =>
    if v_7 = (-1 : Int32) then
      (c222_48 v1 v2 v3 v4 q_1.2)
    else
      (if q_1.1 = v3 then
        (c222_48 v1 v2 v3 v4 q_1.2)
      else
        (Option.bind (e202 v1 v2 q_1.2) fun q_9 =>
        Option.bind (e183 q_1.1 q_9.1 q_9.2) fun q_15 =>
        c222_48 v1 v2 v3 v4 q_15)))
def kS222 (h : Nat) (as : List aV) (S : sT) : Option (sRes sT) :=
  if h = 3 then (match as with | [.inl v1, .inl v2, .inl v3, .inl v4] => c222_3 v1 v2 v3 v4 S | _ => none) else
  none
def J222 (m : Nat) (h : Nat) (as : List aV) : List aV := .inr (.inr (some m)) :: as
def e222 (v1 : Int32) (v2 : Int32) (v3 : Int32) (S : sT) : Option sT := s_go kS222 (c222_0 v1 v2 v3 S)
theorem q222_0 {m : Nat} {ad : Nat → Nat} {M : hM} {S : sT} (hR : rR m ad M S) (v1 : Int32) (v2 : Int32) (v3 : Int32) {rs : sRes sT} (h : c222_0 v1 v2 v3 S = some rs) : ∃ res, b222_0 m v1 v2 v3 M = some res ∧ simR o_V f_1 (J222 m) m ad M rs res := by
  have hs : sm m ad M M := sm.rf
  unfold c222_0 at h
  unfold b222_0
  obtain rfl := Option.some.inj h
  exact ⟨_, rfl, _, rfl, hR, hs⟩
theorem q222_48 {m : Nat} {ad : Nat → Nat} {M : hM} {S : sT} (hR : rR m ad M S) (v1 : Int32) (v2 : Int32) (v3 : Int32) (v4 : Int32) {rs : sRes sT} (h : c222_48 v1 v2 v3 v4 S = some rs) : ∃ res, b222_48 m v1 v2 v3 v4 M = some res ∧ simR o_V f_1 (J222 m) m ad M rs res := by
  have hs : sm m ad M M := sm.rf
  unfold c222_48 at h
  unfold b222_48
  obtain rfl := Option.some.inj h
  exact ⟨_, rfl, _, rfl, hR, hs⟩
theorem q222_3 {m : Nat} {ad : Nat → Nat} {M : hM} {S : sT} (hR : rR m ad M S) (v1 : Int32) (v2 : Int32) (v3 : Int32) (v4 : Int32) {rs : sRes sT} (h : c222_3 v1 v2 v3 v4 S = some rs) : ∃ res, b222_3 m v1 v2 v3 v4 M = some res ∧ simR o_V f_1 (J222 m) m ad M rs res := by
  have hs : sm m ad M M := sm.rf
  unfold c222_3 at h
  unfold b222_3
  by_cases q23 : (8 : Int32) ≤ v4
  · rw [if_pos q23] at h ⊢
    obtain rfl := Option.some.inj h
    exact ⟨_, rfl, _, rfl, hR, hs⟩
  · rw [if_neg q23] at h ⊢
    refine exb (rR_go hR) ?_
    obtain ⟨q_1, h2, h⟩ := bd h
    obtain ⟨M3, e4, hR5, hs6⟩ := u175 hR h2
    replace hs6 := hs.tr hs6
    refine exb (c_I_of e4) ?_
    refine exb (rR_gr hR5 23) ?_
    obtain ⟨v_7, h8, h⟩ := bd h
    refine exb (rR_al hR5 h8) ?_
    by_cases q22 : v_7 = (-1 : Int32)
    · rw [if_pos q22] at h ⊢
      exact simT hs6 (q222_48 hR5 v1 v2 v3 v4 h)
    · rw [if_neg q22] at h ⊢
      by_cases q21 : q_1.1 = v3
      · rw [if_pos q21] at h ⊢
        exact simT hs6 (q222_48 hR5 v1 v2 v3 v4 h)
      · rw [if_neg q21] at h ⊢
        refine exb (rR_go hR5) ?_
        obtain ⟨q_9, h10, h⟩ := bd h
        obtain ⟨M11, e12, hR13, hs14⟩ := u202 hR5 h10
        replace hs14 := hs6.tr hs14
        refine exb (c_I_of e12) ?_
        refine exb (rR_go hR13) ?_
        obtain ⟨q_15, h16, h⟩ := bd h
        obtain ⟨M17, e18, hR19, hs20⟩ := u183 hR13 h16
        replace hs20 := hs14.tr hs20
        refine exb (c_V_of e18) ?_
        exact simT hs20 (q222_48 hR19 v1 v2 v3 v4 h)
theorem u222 {m : Nat} {ad : Nat → Nat} {M : hM} {S : sT} (hR : rR m ad M S) {v1 : Int32} {v2 : Int32} {v3 : Int32} {q : sT} (h : e222 v1 v2 v3 S = some q) : ∃ M1, f222 [.inr (.inr (some m)), .inl v1, .inl v2, .inl v3] M = some (none, M1) ∧ rR m ad M1 q ∧ sm m ad M M1 := by
  unfold e222 at h
  show ∃ M1, x_go k222 (b222_0 m v1 v2 v3 M) = some (o_V q, M1) ∧ rR m ad M1 (f_1 q) ∧ sm m ad M M1
  refine s_go_ok (o := o_V) (f := f_1) (J := J222 m) (bs := kS222) (bk := k222) (xs := c222_0 v1 v2 v3 S) (x := b222_0 m v1 v2 v3 M) (M := M) (q := q) ?_ (fun rs hx => q222_0 hR v1 v2 v3 hx) h
  intro h as S M rs hR hb
  unfold kS222 at hb
  unfold k222 J222
  by_cases e0 : h = 3
  · rw [if_pos e0] at hb ⊢
    split at hb
    · subst e0; exact q222_3 hR _ _ _ _ hb
    · cases hb
  · rw [if_neg e0] at hb
    cases hb
/-! reference: issues(I)V -/
def c223_0 (v1 : Int32) (S : sT) : Option (sRes sT) :=
  Option.bind (s_s S 31 (0 : Int32) v1) fun S1 =>
  Option.bind (s_a S1 26 v1) fun v_7 =>
  Option.bind (s_s S1 31 (4 : Int32) v_7) fun S9 =>
  some (.inr (29, [.inl v1, .inl (6 : Int32), .inl (0 : Int32), .inl (0 : Int32)], S9))
def c223_108 (v1 : Int32) (v2 : Int32) (v3 : Int32) (v4 : Int32) (S : sT) : Option (sRes sT) :=
  some (.inr (29, [.inl v1, .inl v2, .inl v3, .inl (v4 + (1 : Int32))], S))
def c223_29 (v1 : Int32) (v2 : Int32) (v3 : Int32) (v4 : Int32) (S : sT) : Option (sRes sT) :=
  if (8 : Int32) ≤ v4 then
    (Option.bind (s_s S 31 (5 : Int32) v3) fun S15 =>
    some (.inr (132, [.inl v1, .inl (v2 + (1 : Int32)), .inl (0 : Int32), .inl v2, .inl (0 : Int32)], S15)))
  else
    (Option.bind (e175 v1 v4 S) fun q_21 =>
    Option.bind (s_a q_21.2 23 q_21.1) fun v_27 =>
    if v_27 = (-1 : Int32) then
      (c223_108 v1 v2 v3 v4 q_21.2)
    else
      (Option.bind (s_s q_21.2 31 v2 v4) fun S29 =>
      Option.bind (s_a S29 23 q_21.1) fun v_35 =>
      Option.bind (s_s S29 31 (v2 + (1 : Int32)) v_35) fun S37 =>
      Option.bind (s_a S37 14 q_21.1) fun v_43 =>
      Option.bind (s_a S37 11 v_43) fun v_45 =>
      Option.bind (s_s S37 31 (v2 + (2 : Int32)) v_45) fun S47 =>
      c223_108 v1 (v2 + (3 : Int32)) (v3 + (1 : Int32)) v4 S47))
def c223_195 (v1 : Int32) (v2 : Int32) (v3 : Int32) (v4 : Int32) (v5 : Int32) (S : sT) : Option (sRes sT) :=
  some (.inr (132, [.inl v1, .inl v2, .inl v3, .inl v4, .inl (v5 + (1 : Int32))], S))
def c223_259 (v1 : Int32) (v2 : Int32) (v5 : Int32) (si0 : Int32) (S : sT) : Option (sRes sT) :=
  some (.inr (264, [.inl v1, .inl v2, .inl v5, .inl si0, .inl (4 : Int32)], S))
def c223_258 (v1 : Int32) (v2 : Int32) (v5 : Int32) (S : sT) : Option (sRes sT) :=
  c223_259 v1 v2 v5 (0 : Int32) S
def c223_132 (v1 : Int32) (v2 : Int32) (v3 : Int32) (v4 : Int32) (v5 : Int32) (S : sT) : Option (sRes sT) :=
  if (8 : Int32) ≤ v5 then
    (Option.bind (s_s S 31 v4 v3) fun S55 =>
    Option.bind (s_a S55 27 (((5 : Int32) * v1) + v1)) fun v_61 =>
    if v_61 = 0 then
      (c223_258 v1 v2 (((5 : Int32) * v1) + v1) S55)
    else
      (Option.bind (s_a S55 30 (((5 : Int32) * v1) + v1)) fun v_63 =>
      if v_63 = v2 then
        (Option.bind (s_a S55 28 (((5 : Int32) * v1) + v1)) fun v_65 =>
        if (40 : Int32) ≤ ((s_g S55 3) - v_65) then
          (c223_258 v1 v2 (((5 : Int32) * v1) + v1) S55)
        else
          (c223_259 v1 v2 (((5 : Int32) * v1) + v1) (1 : Int32) S55))
      else
        (c223_258 v1 v2 (((5 : Int32) * v1) + v1) S55)))
  else
    (Option.bind (e175 v1 v5 S) fun q_70 =>
    Option.bind (s_a q_70.2 25 q_70.1) fun v_76 =>
    if v_76 = 0 then
      (c223_195 v1 v2 v3 v4 v5 q_70.2)
    else
      (Option.bind (e175 v1 v5 q_70.2) fun q_78 =>
      Option.bind (s_a q_78.2 25 q_78.1) fun v_84 =>
      Option.bind (e189 v_84 q_78.2) fun q_86 =>
      Option.bind (s_s q_86.2 31 v2 q_86.1) fun S92 =>
      Option.bind (s_s S92 31 (v2 + (1 : Int32)) v5) fun S98 =>
      c223_195 v1 (v2 + (2 : Int32)) (v3 + (1 : Int32)) v4 v5 S98))
def c223_303 (v1 : Int32) (v2 : Int32) (v5 : Int32) (v7 : Int32) (si0 : Int32) (S : sT) : Option (sRes sT) :=
  some (.inr (264, [.inl v1, .inl v2, .inl v5, .inl si0, .inl (v7 + (1 : Int32))], S))
def c223_339 (v1 : Int32) (v2 : Int32) (v5 : Int32) (si0 : Int32) (S : sT) : Option (sRes sT) :=
  Option.bind (s_s S 31 (1 : Int32) ((si0 >>> ((16 : Int32) &&& 31)) &&& (255 : Int32))) fun S123 =>
  Option.bind (s_s S123 31 (2 : Int32) ((si0 >>> ((8 : Int32) &&& 31)) &&& (255 : Int32))) fun S129 =>
  Option.bind (s_s S129 31 (3 : Int32) (si0 &&& (255 : Int32))) fun S135 =>
  some (.inr (386, [.inl v1, .inl v2, .inl v5, .inl (0 : Int32)], S135))
def c223_311 (v1 : Int32) (v2 : Int32) (v5 : Int32) (v6 : Int32) (S : sT) : Option (sRes sT) :=
  if v6 = 0 then
    (Option.bind (s_a S 27 v5) fun v_113 =>
    if v_113 = 0 then
      (c223_339 v1 v2 v5 (1 : Int32) S)
    else
      (Option.bind (e191 v1 v1 S) fun q_115 =>
      c223_339 v1 v2 v5 (q_115.1 + (1 : Int32)) q_115.2))
  else
    (some (.inl S))
def c223_264 (v1 : Int32) (v2 : Int32) (v5 : Int32) (v6 : Int32) (v7 : Int32) (S : sT) : Option (sRes sT) :=
  if v2 ≤ v7 then
    (c223_311 v1 v2 v5 v6 S)
  else
    (if v6 = 0 then
      (c223_311 v1 v2 v5 v6 S)
    else
      (Option.bind (s_a S 29 (((64 : Int32) * v5) + v7)) fun v_106 =>
      Option.bind (s_a S 31 v7) fun v_108 =>
      if v_106 = v_108 then
        (c223_303 v1 v2 v5 v7 (1 : Int32) S)
      else
        (c223_303 v1 v2 v5 v7 (0 : Int32) S)))
def c223_386 (v1 : Int32) (v2 : Int32) (v5 : Int32) (v8 : Int32) (S : sT) : Option (sRes sT) :=
  if v2 ≤ v8 then
    (Option.bind (s_s S 30 v5 v2) fun S141 =>
    Option.bind (s_sz S141 27 v5 (1 : Int32)) fun S147 =>
    Option.bind (s_s S147 28 v5 (s_g S147 3)) fun S153 =>
    Option.bind (s_a S153 4 (8 : Int32)) fun v_159 =>
    Option.bind (s_s S153 4 (8 : Int32) (v_159 + (1 : Int32))) fun S161 =>
    Option.bind (e222 v1 v1 (-1 : Int32) S161) fun q_167 =>
    some (.inl q_167))
  else
    (Option.bind (s_a S 31 v8) fun v_173 =>
    Option.bind (s_s S 29 (((64 : Int32) * v5) + v8) v_173) fun S175 =>
    some (.inr (386, [.inl v1, .inl v2, .inl v5, .inl (v8 + (1 : Int32))], S175)))
def kS223 (h : Nat) (as : List aV) (S : sT) : Option (sRes sT) :=
  if h = 29 then (match as with | [.inl v1, .inl v2, .inl v3, .inl v4] => c223_29 v1 v2 v3 v4 S | _ => none) else
  if h = 132 then (match as with | [.inl v1, .inl v2, .inl v3, .inl v4, .inl v5] => c223_132 v1 v2 v3 v4 v5 S | _ => none) else
  if h = 264 then (match as with | [.inl v1, .inl v2, .inl v5, .inl v6, .inl v7] => c223_264 v1 v2 v5 v6 v7 S | _ => none) else
  if h = 386 then (match as with | [.inl v1, .inl v2, .inl v5, .inl v8] => c223_386 v1 v2 v5 v8 S | _ => none) else
  none
def J223 (m : Nat) (h : Nat) (as : List aV) : List aV := .inr (.inr (some m)) :: as
def e223 (v1 : Int32) (S : sT) : Option sT := s_go kS223 (c223_0 v1 S)
theorem q223_0 {m : Nat} {ad : Nat → Nat} {M : hM} {S : sT} (hR : rR m ad M S) (v1 : Int32) {rs : sRes sT} (h : c223_0 v1 S = some rs) : ∃ res, b223_0 m v1 M = some res ∧ simR o_V f_1 (J223 m) m ad M rs res := by
  have hs : sm m ad M M := sm.rf
  unfold c223_0 at h
  unfold b223_0
  refine exb (rR_gr hR 31) ?_
  obtain ⟨S1, h3, h⟩ := bd h
  obtain ⟨M2, e4, hR5, hs6⟩ := rR_si hR h3
  replace hs6 := hs.tr hs6
  refine exb e4 ?_
  refine exb (rR_gr hR5 31) ?_
  refine exb (rR_gr hR5 26) ?_
  obtain ⟨v_7, h8, h⟩ := bd h
  refine exb (rR_al hR5 h8) ?_
  obtain ⟨S9, h11, h⟩ := bd h
  obtain ⟨M10, e12, hR13, hs14⟩ := rR_si hR5 h11
  replace hs14 := hs6.tr hs14
  refine exb e12 ?_
  obtain rfl := Option.some.inj h
  exact ⟨_, rfl, _, rfl, hR13, hs14⟩
theorem q223_108 {m : Nat} {ad : Nat → Nat} {M : hM} {S : sT} (hR : rR m ad M S) (v1 : Int32) (v2 : Int32) (v3 : Int32) (v4 : Int32) {rs : sRes sT} (h : c223_108 v1 v2 v3 v4 S = some rs) : ∃ res, b223_108 m v1 v2 v3 v4 M = some res ∧ simR o_V f_1 (J223 m) m ad M rs res := by
  have hs : sm m ad M M := sm.rf
  unfold c223_108 at h
  unfold b223_108
  obtain rfl := Option.some.inj h
  exact ⟨_, rfl, _, rfl, hR, hs⟩
theorem q223_29 {m : Nat} {ad : Nat → Nat} {M : hM} {S : sT} (hR : rR m ad M S) (v1 : Int32) (v2 : Int32) (v3 : Int32) (v4 : Int32) {rs : sRes sT} (h : c223_29 v1 v2 v3 v4 S = some rs) : ∃ res, b223_29 m v1 v2 v3 v4 M = some res ∧ simR o_V f_1 (J223 m) m ad M rs res := by
  have hs : sm m ad M M := sm.rf
  unfold c223_29 at h
  unfold b223_29
  by_cases q54 : (8 : Int32) ≤ v4
  · rw [if_pos q54] at h ⊢
    refine exb (rR_gr hR 31) ?_
    obtain ⟨S15, h17, h⟩ := bd h
    obtain ⟨M16, e18, hR19, hs20⟩ := rR_si hR h17
    replace hs20 := hs.tr hs20
    refine exb e18 ?_
    obtain rfl := Option.some.inj h
    exact ⟨_, rfl, _, rfl, hR19, hs20⟩
  · rw [if_neg q54] at h ⊢
    refine exb (rR_go hR) ?_
    obtain ⟨q_21, h22, h⟩ := bd h
    obtain ⟨M23, e24, hR25, hs26⟩ := u175 hR h22
    replace hs26 := hs.tr hs26
    refine exb (c_I_of e24) ?_
    refine exb (rR_gr hR25 23) ?_
    obtain ⟨v_27, h28, h⟩ := bd h
    refine exb (rR_al hR25 h28) ?_
    by_cases q53 : v_27 = (-1 : Int32)
    · rw [if_pos q53] at h ⊢
      exact simT hs26 (q223_108 hR25 v1 v2 v3 v4 h)
    · rw [if_neg q53] at h ⊢
      refine exb (rR_gr hR25 31) ?_
      obtain ⟨S29, h31, h⟩ := bd h
      obtain ⟨M30, e32, hR33, hs34⟩ := rR_si hR25 h31
      replace hs34 := hs26.tr hs34
      refine exb e32 ?_
      refine exb (rR_gr hR33 31) ?_
      refine exb (rR_gr hR33 23) ?_
      obtain ⟨v_35, h36, h⟩ := bd h
      refine exb (rR_al hR33 h36) ?_
      obtain ⟨S37, h39, h⟩ := bd h
      obtain ⟨M38, e40, hR41, hs42⟩ := rR_si hR33 h39
      replace hs42 := hs34.tr hs42
      refine exb e40 ?_
      refine exb (rR_gr hR41 31) ?_
      refine exb (rR_gr hR41 11) ?_
      refine exb (rR_gr hR41 14) ?_
      obtain ⟨v_43, h44, h⟩ := bd h
      refine exb (rR_al hR41 h44) ?_
      obtain ⟨v_45, h46, h⟩ := bd h
      refine exb (rR_al hR41 h46) ?_
      obtain ⟨S47, h49, h⟩ := bd h
      obtain ⟨M48, e50, hR51, hs52⟩ := rR_si hR41 h49
      replace hs52 := hs42.tr hs52
      refine exb e50 ?_
      exact simT hs52 (q223_108 hR51 v1 (v2 + (3 : Int32)) (v3 + (1 : Int32)) v4 h)
theorem q223_195 {m : Nat} {ad : Nat → Nat} {M : hM} {S : sT} (hR : rR m ad M S) (v1 : Int32) (v2 : Int32) (v3 : Int32) (v4 : Int32) (v5 : Int32) {rs : sRes sT} (h : c223_195 v1 v2 v3 v4 v5 S = some rs) : ∃ res, b223_195 m v1 v2 v3 v4 v5 M = some res ∧ simR o_V f_1 (J223 m) m ad M rs res := by
  have hs : sm m ad M M := sm.rf
  unfold c223_195 at h
  unfold b223_195
  obtain rfl := Option.some.inj h
  exact ⟨_, rfl, _, rfl, hR, hs⟩
theorem q223_259 {m : Nat} {ad : Nat → Nat} {M : hM} {S : sT} (hR : rR m ad M S) (v1 : Int32) (v2 : Int32) (v5 : Int32) (si0 : Int32) {rs : sRes sT} (h : c223_259 v1 v2 v5 si0 S = some rs) : ∃ res, b223_259 m v1 v2 v5 si0 M = some res ∧ simR o_V f_1 (J223 m) m ad M rs res := by
  have hs : sm m ad M M := sm.rf
  unfold c223_259 at h
  unfold b223_259
  obtain rfl := Option.some.inj h
  exact ⟨_, rfl, _, rfl, hR, hs⟩
theorem q223_258 {m : Nat} {ad : Nat → Nat} {M : hM} {S : sT} (hR : rR m ad M S) (v1 : Int32) (v2 : Int32) (v5 : Int32) {rs : sRes sT} (h : c223_258 v1 v2 v5 S = some rs) : ∃ res, b223_258 m v1 v2 v5 M = some res ∧ simR o_V f_1 (J223 m) m ad M rs res := by
  have hs : sm m ad M M := sm.rf
  unfold c223_258 at h
  unfold b223_258
  exact simT hs (q223_259 hR v1 v2 v5 (0 : Int32) h)
theorem q223_132 {m : Nat} {ad : Nat → Nat} {M : hM} {S : sT} (hR : rR m ad M S) (v1 : Int32) (v2 : Int32) (v3 : Int32) (v4 : Int32) (v5 : Int32) {rs : sRes sT} (h : c223_132 v1 v2 v3 v4 v5 S = some rs) : ∃ res, b223_132 m v1 v2 v3 v4 v5 M = some res ∧ simR o_V f_1 (J223 m) m ad M rs res := by
  have hs : sm m ad M M := sm.rf
  unfold c223_132 at h
  unfold b223_132
  by_cases q105 : (8 : Int32) ≤ v5
  · rw [if_pos q105] at h ⊢
    refine exb (rR_gr hR 31) ?_
    obtain ⟨S55, h57, h⟩ := bd h
    obtain ⟨M56, e58, hR59, hs60⟩ := rR_si hR h57
    replace hs60 := hs.tr hs60
    refine exb e58 ?_
    refine exb (rR_gr hR59 27) ?_
    obtain ⟨v_61, h62, h⟩ := bd h
    refine exb (rR_al hR59 h62) ?_
    by_cases q69 : v_61 = 0
    · rw [if_pos q69] at h ⊢
      exact simT hs60 (q223_258 hR59 v1 v2 (((5 : Int32) * v1) + v1) h)
    · rw [if_neg q69] at h ⊢
      refine exb (rR_gr hR59 30) ?_
      obtain ⟨v_63, h64, h⟩ := bd h
      refine exb (rR_al hR59 h64) ?_
      by_cases q68 : v_63 = v2
      · rw [if_pos q68] at h ⊢
        refine exb (rR_gi hR59 3) ?_
        refine exb (rR_gr hR59 28) ?_
        obtain ⟨v_65, h66, h⟩ := bd h
        refine exb (rR_al hR59 h66) ?_
        by_cases q67 : (40 : Int32) ≤ ((s_g S55 3) - v_65)
        · rw [if_pos q67] at h ⊢
          exact simT hs60 (q223_258 hR59 v1 v2 (((5 : Int32) * v1) + v1) h)
        · rw [if_neg q67] at h ⊢
          exact simT hs60 (q223_259 hR59 v1 v2 (((5 : Int32) * v1) + v1) (1 : Int32) h)
      · rw [if_neg q68] at h ⊢
        exact simT hs60 (q223_258 hR59 v1 v2 (((5 : Int32) * v1) + v1) h)
  · rw [if_neg q105] at h ⊢
    refine exb (rR_gr hR 25) ?_
    refine exb (rR_go hR) ?_
    obtain ⟨q_70, h71, h⟩ := bd h
    obtain ⟨M72, e73, hR74, hs75⟩ := u175 hR h71
    replace hs75 := hs.tr hs75
    refine exb (c_I_of e73) ?_
    obtain ⟨v_76, h77, h⟩ := bd h
    refine exb (rR_al hR74 h77) ?_
    by_cases q104 : v_76 = 0
    · rw [if_pos q104] at h ⊢
      exact simT hs75 (q223_195 hR74 v1 v2 v3 v4 v5 h)
    · rw [if_neg q104] at h ⊢
      refine exb (rR_gr hR74 31) ?_
      refine exb (rR_gr hR74 25) ?_
      refine exb (rR_go hR74) ?_
      obtain ⟨q_78, h79, h⟩ := bd h
      obtain ⟨M80, e81, hR82, hs83⟩ := u175 hR74 h79
      replace hs83 := hs75.tr hs83
      refine exb (c_I_of e81) ?_
      obtain ⟨v_84, h85, h⟩ := bd h
      refine exb (rR_al hR82 h85) ?_
      refine exb (rR_go hR82) ?_
      obtain ⟨q_86, h87, h⟩ := bd h
      obtain ⟨M88, e89, hR90, hs91⟩ := u189 hR82 h87
      replace hs91 := hs83.tr hs91
      refine exb (c_I_of e89) ?_
      obtain ⟨S92, h94, h⟩ := bd h
      obtain ⟨M93, e95, hR96, hs97⟩ := rR_si hR90 h94
      replace hs97 := hs91.tr hs97
      refine exb e95 ?_
      refine exb (rR_gr hR96 31) ?_
      obtain ⟨S98, h100, h⟩ := bd h
      obtain ⟨M99, e101, hR102, hs103⟩ := rR_si hR96 h100
      replace hs103 := hs97.tr hs103
      refine exb e101 ?_
      exact simT hs103 (q223_195 hR102 v1 (v2 + (2 : Int32)) (v3 + (1 : Int32)) v4 v5 h)
theorem q223_303 {m : Nat} {ad : Nat → Nat} {M : hM} {S : sT} (hR : rR m ad M S) (v1 : Int32) (v2 : Int32) (v5 : Int32) (v7 : Int32) (si0 : Int32) {rs : sRes sT} (h : c223_303 v1 v2 v5 v7 si0 S = some rs) : ∃ res, b223_303 m v1 v2 v5 v7 si0 M = some res ∧ simR o_V f_1 (J223 m) m ad M rs res := by
  have hs : sm m ad M M := sm.rf
  unfold c223_303 at h
  unfold b223_303
  obtain rfl := Option.some.inj h
  exact ⟨_, rfl, _, rfl, hR, hs⟩
theorem q223_339 {m : Nat} {ad : Nat → Nat} {M : hM} {S : sT} (hR : rR m ad M S) (v1 : Int32) (v2 : Int32) (v5 : Int32) (si0 : Int32) {rs : sRes sT} (h : c223_339 v1 v2 v5 si0 S = some rs) : ∃ res, b223_339 m v1 v2 v5 si0 M = some res ∧ simR o_V f_1 (J223 m) m ad M rs res := by
  have hs : sm m ad M M := sm.rf
  unfold c223_339 at h
  unfold b223_339
  refine exb (rR_gr hR 31) ?_
  obtain ⟨S123, h125, h⟩ := bd h
  obtain ⟨M124, e126, hR127, hs128⟩ := rR_si hR h125
  replace hs128 := hs.tr hs128
  refine exb e126 ?_
  refine exb (rR_gr hR127 31) ?_
  obtain ⟨S129, h131, h⟩ := bd h
  obtain ⟨M130, e132, hR133, hs134⟩ := rR_si hR127 h131
  replace hs134 := hs128.tr hs134
  refine exb e132 ?_
  refine exb (rR_gr hR133 31) ?_
  obtain ⟨S135, h137, h⟩ := bd h
  obtain ⟨M136, e138, hR139, hs140⟩ := rR_si hR133 h137
  replace hs140 := hs134.tr hs140
  refine exb e138 ?_
  obtain rfl := Option.some.inj h
  exact ⟨_, rfl, _, rfl, hR139, hs140⟩
theorem q223_311 {m : Nat} {ad : Nat → Nat} {M : hM} {S : sT} (hR : rR m ad M S) (v1 : Int32) (v2 : Int32) (v5 : Int32) (v6 : Int32) {rs : sRes sT} (h : c223_311 v1 v2 v5 v6 S = some rs) : ∃ res, b223_311 m v1 v2 v5 v6 M = some res ∧ simR o_V f_1 (J223 m) m ad M rs res := by
  have hs : sm m ad M M := sm.rf
  unfold c223_311 at h
  unfold b223_311
  by_cases q122 : v6 = 0
  · rw [if_pos q122] at h ⊢
    refine exb (rR_gr hR 27) ?_
    obtain ⟨v_113, h114, h⟩ := bd h
    refine exb (rR_al hR h114) ?_
    by_cases q121 : v_113 = 0
    · rw [if_pos q121] at h ⊢
      exact simT hs (q223_339 hR v1 v2 v5 (1 : Int32) h)
    · rw [if_neg q121] at h ⊢
      refine exb (rR_go hR) ?_
      obtain ⟨q_115, h116, h⟩ := bd h
      obtain ⟨M117, e118, hR119, hs120⟩ := u191 hR h116
      replace hs120 := hs.tr hs120
      refine exb (c_I_of e118) ?_
      exact simT hs120 (q223_339 hR119 v1 v2 v5 (q_115.1 + (1 : Int32)) h)
  · rw [if_neg q122] at h ⊢
    obtain rfl := Option.some.inj h
    exact ⟨_, rfl, _, rfl, hR, hs⟩
theorem q223_264 {m : Nat} {ad : Nat → Nat} {M : hM} {S : sT} (hR : rR m ad M S) (v1 : Int32) (v2 : Int32) (v5 : Int32) (v6 : Int32) (v7 : Int32) {rs : sRes sT} (h : c223_264 v1 v2 v5 v6 v7 S = some rs) : ∃ res, b223_264 m v1 v2 v5 v6 v7 M = some res ∧ simR o_V f_1 (J223 m) m ad M rs res := by
  have hs : sm m ad M M := sm.rf
  unfold c223_264 at h
  unfold b223_264
  by_cases q112 : v2 ≤ v7
  · rw [if_pos q112] at h ⊢
    exact simT hs (q223_311 hR v1 v2 v5 v6 h)
  · rw [if_neg q112] at h ⊢
    by_cases q111 : v6 = 0
    · rw [if_pos q111] at h ⊢
      exact simT hs (q223_311 hR v1 v2 v5 v6 h)
    · rw [if_neg q111] at h ⊢
      refine exb (rR_gr hR 29) ?_
      obtain ⟨v_106, h107, h⟩ := bd h
      refine exb (rR_al hR h107) ?_
      refine exb (rR_gr hR 31) ?_
      obtain ⟨v_108, h109, h⟩ := bd h
      refine exb (rR_al hR h109) ?_
      by_cases q110 : v_106 = v_108
      · rw [if_pos q110] at h ⊢
        exact simT hs (q223_303 hR v1 v2 v5 v7 (1 : Int32) h)
      · rw [if_neg q110] at h ⊢
        exact simT hs (q223_303 hR v1 v2 v5 v7 (0 : Int32) h)
theorem q223_386 {m : Nat} {ad : Nat → Nat} {M : hM} {S : sT} (hR : rR m ad M S) (v1 : Int32) (v2 : Int32) (v5 : Int32) (v8 : Int32) {rs : sRes sT} (h : c223_386 v1 v2 v5 v8 S = some rs) : ∃ res, b223_386 m v1 v2 v5 v8 M = some res ∧ simR o_V f_1 (J223 m) m ad M rs res := by
  have hs : sm m ad M M := sm.rf
  unfold c223_386 at h
  unfold b223_386
  by_cases q181 : v2 ≤ v8
  · rw [if_pos q181] at h ⊢
    refine exb (rR_gr hR 30) ?_
    obtain ⟨S141, h143, h⟩ := bd h
    obtain ⟨M142, e144, hR145, hs146⟩ := rR_si hR h143
    replace hs146 := hs.tr hs146
    refine exb e144 ?_
    refine exb (rR_gr hR145 27) ?_
    obtain ⟨S147, h149, h⟩ := bd h
    obtain ⟨M148, e150, hR151, hs152⟩ := rR_sz hR145 h149
    replace hs152 := hs146.tr hs152
    refine exb e150 ?_
    refine exb (rR_gr hR151 28) ?_
    refine exb (rR_gi hR151 3) ?_
    obtain ⟨S153, h155, h⟩ := bd h
    obtain ⟨M154, e156, hR157, hs158⟩ := rR_si hR151 h155
    replace hs158 := hs152.tr hs158
    refine exb e156 ?_
    refine exb (rR_gr hR157 4) ?_
    obtain ⟨v_159, h160, h⟩ := bd h
    refine exb (rR_al hR157 h160) ?_
    obtain ⟨S161, h163, h⟩ := bd h
    obtain ⟨M162, e164, hR165, hs166⟩ := rR_si hR157 h163
    replace hs166 := hs158.tr hs166
    refine exb e164 ?_
    refine exb (rR_go hR165) ?_
    obtain ⟨q_167, h168, h⟩ := bd h
    obtain ⟨M169, e170, hR171, hs172⟩ := u222 hR165 h168
    replace hs172 := hs166.tr hs172
    refine exb (c_V_of e170) ?_
    obtain rfl := Option.some.inj h
    exact ⟨_, rfl, _, rfl, hR171, hs172⟩
  · rw [if_neg q181] at h ⊢
    refine exb (rR_gr hR 29) ?_
    refine exb (rR_gr hR 31) ?_
    obtain ⟨v_173, h174, h⟩ := bd h
    refine exb (rR_al hR h174) ?_
    obtain ⟨S175, h177, h⟩ := bd h
    obtain ⟨M176, e178, hR179, hs180⟩ := rR_si hR h177
    replace hs180 := hs.tr hs180
    refine exb e178 ?_
    obtain rfl := Option.some.inj h
    exact ⟨_, rfl, _, rfl, hR179, hs180⟩
theorem u223 {m : Nat} {ad : Nat → Nat} {M : hM} {S : sT} (hR : rR m ad M S) {v1 : Int32} {q : sT} (h : e223 v1 S = some q) : ∃ M1, f223 [.inr (.inr (some m)), .inl v1] M = some (none, M1) ∧ rR m ad M1 q ∧ sm m ad M M1 := by
  unfold e223 at h
  show ∃ M1, x_go k223 (b223_0 m v1 M) = some (o_V q, M1) ∧ rR m ad M1 (f_1 q) ∧ sm m ad M M1
  refine s_go_ok (o := o_V) (f := f_1) (J := J223 m) (bs := kS223) (bk := k223) (xs := c223_0 v1 S) (x := b223_0 m v1 M) (M := M) (q := q) ?_ (fun rs hx => q223_0 hR v1 hx) h
  intro h as S M rs hR hb
  unfold kS223 at hb
  unfold k223 J223
  by_cases e0 : h = 29
  · rw [if_pos e0] at hb ⊢
    split at hb
    · subst e0; exact q223_29 hR _ _ _ _ hb
    · cases hb
  · rw [if_neg e0] at hb
    by_cases e1 : h = 132
    · rw [if_pos e1] at hb ⊢
      split at hb
      · subst e1; exact q223_132 hR _ _ _ _ _ hb
      · cases hb
    · rw [if_neg e1] at hb
      by_cases e2 : h = 264
      · rw [if_pos e2] at hb ⊢
        split at hb
        · subst e2; exact q223_264 hR _ _ _ _ _ hb
        · cases hb
      · rw [if_neg e2] at hb
        by_cases e3 : h = 386
        · rw [if_pos e3] at hb ⊢
          split at hb
          · subst e3; exact q223_386 hR _ _ _ _ hb
          · cases hb
        · rw [if_neg e3] at hb
          cases hb
/-! reference: timers(I)V -/
def c224_0 (v1 : Int32) (S : sT) : Option (sRes sT) :=
  some (.inr (2, [.inl v1, .inl (0 : Int32)], S))
def c224_77 (v1 : Int32) (v2 : Int32) (S : sT) : Option (sRes sT) :=
  some (.inr (2, [.inl v1, .inl (v2 + (1 : Int32))], S))
def c224_53 (v1 : Int32) (v2 : Int32) (v3 : Int32) (S : sT) : Option (sRes sT) :=
  Option.bind (s_s S 25 v3 (0 : Int32)) fun S23 =>
  Option.bind (e168 (4 : Int32) (0 : Int32) (16777214 : Int32) (0 : Int32) (0 : Int32) (0 : Int32) S23) fun q_29 =>
  Option.bind (e183 v3 q_29.1 q_29.2) fun q_35 =>
  c224_77 v1 v2 q_35
def c224_2 (v1 : Int32) (v2 : Int32) (S : sT) : Option (sRes sT) :=
  if (8 : Int32) ≤ v2 then
    (some (.inr (85, [.inl v1, .inl (0 : Int32)], S)))
  else
    (Option.bind (e175 v1 v2 S) fun q_1 =>
    Option.bind (s_a q_1.2 25 q_1.1) fun v_7 =>
    if v_7 = 0 then
      (c224_77 v1 v2 q_1.2)
    else
      (Option.bind (s_a q_1.2 25 q_1.1) fun v_9 =>
      Option.bind (s_a q_1.2 26 v1) fun v_11 =>
      if (v_9 >>> ((16 : Int32) &&& 31)) = v_11 then
        (Option.bind (e200 v1 q_1.2) fun q_13 =>
        if q_13.1 = 0 then
          (c224_77 v1 v2 q_13.2)
        else
          (c224_53 v1 v2 q_1.1 q_13.2))
      else
        (c224_53 v1 v2 q_1.1 q_1.2)))
def c224_143 (v1 : Int32) (v2 : Int32) (S : sT) : Option (sRes sT) :=
  some (.inr (85, [.inl v1, .inl (v2 + (1 : Int32))], S))
def c224_85 (v1 : Int32) (v2 : Int32) (S : sT) : Option (sRes sT) :=
  if (s_g S 0) ≤ v2 then
    (some (.inr (151, [.inl v1, .inl (0 : Int32)], S)))
  else
    (if v2 = v1 then
      (c224_143 v1 v2 S)
    else
      (Option.bind (s_a S 27 (((5 : Int32) * v1) + v2)) fun v_41 =>
      if v_41 = 0 then
        (c224_143 v1 v2 S)
      else
        (Option.bind (s_a S 28 (((5 : Int32) * v1) + v2)) fun v_43 =>
        if ((s_g S 3) - v_43) < (150 : Int32) then
          (c224_143 v1 v2 S)
        else
          (Option.bind (s_sz S 27 (((5 : Int32) * v1) + v2) (0 : Int32)) fun S45 =>
          c224_143 v1 v2 S45))))
def c224_252 (v1 : Int32) (v2 : Int32) (S : sT) : Option (sRes sT) :=
  some (.inr (151, [.inl v1, .inl (v2 + (1 : Int32))], S))
def c224_151 (v1 : Int32) (v2 : Int32) (S : sT) : Option (sRes sT) :=
  if (8 : Int32) ≤ v2 then
    (Option.bind (e223 v1 S) fun q_55 =>
    some (.inl q_55))
  else
    (Option.bind (e175 v1 v2 S) fun q_61 =>
    Option.bind (e177 q_61.1 q_61.2) fun q_67 =>
    if q_67.1 = 0 then
      (c224_252 v1 v2 q_67.2)
    else
      (Option.bind (e179 q_61.1 q_67.2) fun q_73 =>
      if q_73.1 = (-1 : Int32) then
        (Option.bind (s_a q_73.2 23 q_61.1) fun v_79 =>
        if v_79 = (-1 : Int32) then
          (Option.bind (s_a q_73.2 24 q_61.1) fun v_81 =>
          if (10 : Int32) < ((s_g q_73.2 3) - v_81) then
            (Option.bind (s_s q_73.2 24 q_61.1 (s_g q_73.2 3)) fun S83 =>
            Option.bind (e168 (1 : Int32) (16777213 : Int32) (16777213 : Int32) (0 : Int32) (0 : Int32) (0 : Int32) S83) fun q_89 =>
            Option.bind (e167 q_89.1 (Int32.toInt64 v1) (1 : Int32) q_89.2) fun q_95 =>
            Option.bind (e183 q_61.1 q_89.1 q_95) fun q_101 =>
            c224_252 v1 v2 q_101)
          else
            (c224_252 v1 v2 q_73.2))
        else
          (c224_252 v1 v2 q_73.2))
      else
        (c224_252 v1 v2 q_73.2)))
def kS224 (h : Nat) (as : List aV) (S : sT) : Option (sRes sT) :=
  if h = 2 then (match as with | [.inl v1, .inl v2] => c224_2 v1 v2 S | _ => none) else
  if h = 85 then (match as with | [.inl v1, .inl v2] => c224_85 v1 v2 S | _ => none) else
  if h = 151 then (match as with | [.inl v1, .inl v2] => c224_151 v1 v2 S | _ => none) else
  none
def J224 (m : Nat) (h : Nat) (as : List aV) : List aV := .inr (.inr (some m)) :: as
def e224 (v1 : Int32) (S : sT) : Option sT := s_go kS224 (c224_0 v1 S)
theorem q224_0 {m : Nat} {ad : Nat → Nat} {M : hM} {S : sT} (hR : rR m ad M S) (v1 : Int32) {rs : sRes sT} (h : c224_0 v1 S = some rs) : ∃ res, b224_0 m v1 M = some res ∧ simR o_V f_1 (J224 m) m ad M rs res := by
  have hs : sm m ad M M := sm.rf
  unfold c224_0 at h
  unfold b224_0
  obtain rfl := Option.some.inj h
  exact ⟨_, rfl, _, rfl, hR, hs⟩
theorem q224_77 {m : Nat} {ad : Nat → Nat} {M : hM} {S : sT} (hR : rR m ad M S) (v1 : Int32) (v2 : Int32) {rs : sRes sT} (h : c224_77 v1 v2 S = some rs) : ∃ res, b224_77 m v1 v2 M = some res ∧ simR o_V f_1 (J224 m) m ad M rs res := by
  have hs : sm m ad M M := sm.rf
  unfold c224_77 at h
  unfold b224_77
  obtain rfl := Option.some.inj h
  exact ⟨_, rfl, _, rfl, hR, hs⟩
theorem q224_53 {m : Nat} {ad : Nat → Nat} {M : hM} {S : sT} (hR : rR m ad M S) (v1 : Int32) (v2 : Int32) (v3 : Int32) {rs : sRes sT} (h : c224_53 v1 v2 v3 S = some rs) : ∃ res, b224_53 m v1 v2 v3 M = some res ∧ simR o_V f_1 (J224 m) m ad M rs res := by
  have hs : sm m ad M M := sm.rf
  unfold c224_53 at h
  unfold b224_53
  refine exb (rR_gr hR 25) ?_
  obtain ⟨S23, h25, h⟩ := bd h
  obtain ⟨M24, e26, hR27, hs28⟩ := rR_si hR h25
  replace hs28 := hs.tr hs28
  refine exb e26 ?_
  refine exb (rR_go hR27) ?_
  obtain ⟨q_29, h30, h⟩ := bd h
  obtain ⟨M31, e32, hR33, hs34⟩ := u168 hR27 h30
  replace hs34 := hs28.tr hs34
  refine exb (c_I_of e32) ?_
  refine exb (rR_go hR33) ?_
  obtain ⟨q_35, h36, h⟩ := bd h
  obtain ⟨M37, e38, hR39, hs40⟩ := u183 hR33 h36
  replace hs40 := hs34.tr hs40
  refine exb (c_V_of e38) ?_
  exact simT hs40 (q224_77 hR39 v1 v2 h)
theorem q224_2 {m : Nat} {ad : Nat → Nat} {M : hM} {S : sT} (hR : rR m ad M S) (v1 : Int32) (v2 : Int32) {rs : sRes sT} (h : c224_2 v1 v2 S = some rs) : ∃ res, b224_2 m v1 v2 M = some res ∧ simR o_V f_1 (J224 m) m ad M rs res := by
  have hs : sm m ad M M := sm.rf
  unfold c224_2 at h
  unfold b224_2
  by_cases q22 : (8 : Int32) ≤ v2
  · rw [if_pos q22] at h ⊢
    obtain rfl := Option.some.inj h
    exact ⟨_, rfl, _, rfl, hR, hs⟩
  · rw [if_neg q22] at h ⊢
    refine exb (rR_go hR) ?_
    obtain ⟨q_1, h2, h⟩ := bd h
    obtain ⟨M3, e4, hR5, hs6⟩ := u175 hR h2
    replace hs6 := hs.tr hs6
    refine exb (c_I_of e4) ?_
    refine exb (rR_gr hR5 25) ?_
    obtain ⟨v_7, h8, h⟩ := bd h
    refine exb (rR_al hR5 h8) ?_
    by_cases q21 : v_7 = 0
    · rw [if_pos q21] at h ⊢
      exact simT hs6 (q224_77 hR5 v1 v2 h)
    · rw [if_neg q21] at h ⊢
      refine exb (rR_gr hR5 25) ?_
      obtain ⟨v_9, h10, h⟩ := bd h
      refine exb (rR_al hR5 h10) ?_
      refine exb (rR_gr hR5 26) ?_
      obtain ⟨v_11, h12, h⟩ := bd h
      refine exb (rR_al hR5 h12) ?_
      by_cases q20 : (v_9 >>> ((16 : Int32) &&& 31)) = v_11
      · rw [if_pos q20] at h ⊢
        refine exb (rR_go hR5) ?_
        obtain ⟨q_13, h14, h⟩ := bd h
        obtain ⟨M15, e16, hR17, hs18⟩ := u200 hR5 h14
        replace hs18 := hs6.tr hs18
        refine exb (c_I_of e16) ?_
        by_cases q19 : q_13.1 = 0
        · rw [if_pos q19] at h ⊢
          exact simT hs18 (q224_77 hR17 v1 v2 h)
        · rw [if_neg q19] at h ⊢
          exact simT hs18 (q224_53 hR17 v1 v2 q_1.1 h)
      · rw [if_neg q20] at h ⊢
        exact simT hs6 (q224_53 hR5 v1 v2 q_1.1 h)
theorem q224_143 {m : Nat} {ad : Nat → Nat} {M : hM} {S : sT} (hR : rR m ad M S) (v1 : Int32) (v2 : Int32) {rs : sRes sT} (h : c224_143 v1 v2 S = some rs) : ∃ res, b224_143 m v1 v2 M = some res ∧ simR o_V f_1 (J224 m) m ad M rs res := by
  have hs : sm m ad M M := sm.rf
  unfold c224_143 at h
  unfold b224_143
  obtain rfl := Option.some.inj h
  exact ⟨_, rfl, _, rfl, hR, hs⟩
theorem q224_85 {m : Nat} {ad : Nat → Nat} {M : hM} {S : sT} (hR : rR m ad M S) (v1 : Int32) (v2 : Int32) {rs : sRes sT} (h : c224_85 v1 v2 S = some rs) : ∃ res, b224_85 m v1 v2 M = some res ∧ simR o_V f_1 (J224 m) m ad M rs res := by
  have hs : sm m ad M M := sm.rf
  unfold c224_85 at h
  unfold b224_85
  refine exb (rR_gi hR 0) ?_
  by_cases q54 : (s_g S 0) ≤ v2
  · rw [if_pos q54] at h ⊢
    obtain rfl := Option.some.inj h
    exact ⟨_, rfl, _, rfl, hR, hs⟩
  · rw [if_neg q54] at h ⊢
    by_cases q53 : v2 = v1
    · rw [if_pos q53] at h ⊢
      exact simT hs (q224_143 hR v1 v2 h)
    · rw [if_neg q53] at h ⊢
      refine exb (rR_gr hR 27) ?_
      obtain ⟨v_41, h42, h⟩ := bd h
      refine exb (rR_al hR h42) ?_
      by_cases q52 : v_41 = 0
      · rw [if_pos q52] at h ⊢
        exact simT hs (q224_143 hR v1 v2 h)
      · rw [if_neg q52] at h ⊢
        refine exb (rR_gi hR 3) ?_
        refine exb (rR_gr hR 28) ?_
        obtain ⟨v_43, h44, h⟩ := bd h
        refine exb (rR_al hR h44) ?_
        by_cases q51 : ((s_g S 3) - v_43) < (150 : Int32)
        · rw [if_pos q51] at h ⊢
          exact simT hs (q224_143 hR v1 v2 h)
        · rw [if_neg q51] at h ⊢
          refine exb (rR_gr hR 27) ?_
          obtain ⟨S45, h47, h⟩ := bd h
          obtain ⟨M46, e48, hR49, hs50⟩ := rR_sz hR h47
          replace hs50 := hs.tr hs50
          refine exb e48 ?_
          exact simT hs50 (q224_143 hR49 v1 v2 h)
theorem q224_252 {m : Nat} {ad : Nat → Nat} {M : hM} {S : sT} (hR : rR m ad M S) (v1 : Int32) (v2 : Int32) {rs : sRes sT} (h : c224_252 v1 v2 S = some rs) : ∃ res, b224_252 m v1 v2 M = some res ∧ simR o_V f_1 (J224 m) m ad M rs res := by
  have hs : sm m ad M M := sm.rf
  unfold c224_252 at h
  unfold b224_252
  obtain rfl := Option.some.inj h
  exact ⟨_, rfl, _, rfl, hR, hs⟩
theorem q224_151 {m : Nat} {ad : Nat → Nat} {M : hM} {S : sT} (hR : rR m ad M S) (v1 : Int32) (v2 : Int32) {rs : sRes sT} (h : c224_151 v1 v2 S = some rs) : ∃ res, b224_151 m v1 v2 M = some res ∧ simR o_V f_1 (J224 m) m ad M rs res := by
  have hs : sm m ad M M := sm.rf
  unfold c224_151 at h
  unfold b224_151
  by_cases q111 : (8 : Int32) ≤ v2
  · rw [if_pos q111] at h ⊢
    refine exb (rR_go hR) ?_
    obtain ⟨q_55, h56, h⟩ := bd h
    obtain ⟨M57, e58, hR59, hs60⟩ := u223 hR h56
    replace hs60 := hs.tr hs60
    refine exb (c_V_of e58) ?_
    obtain rfl := Option.some.inj h
    exact ⟨_, rfl, _, rfl, hR59, hs60⟩
  · rw [if_neg q111] at h ⊢
    refine exb (rR_go hR) ?_
    obtain ⟨q_61, h62, h⟩ := bd h
    obtain ⟨M63, e64, hR65, hs66⟩ := u175 hR h62
    replace hs66 := hs.tr hs66
    refine exb (c_I_of e64) ?_
    refine exb (rR_go hR65) ?_
    obtain ⟨q_67, h68, h⟩ := bd h
    obtain ⟨M69, e70, hR71, hs72⟩ := u177 hR65 h68
    replace hs72 := hs66.tr hs72
    refine exb (c_I_of e70) ?_
    by_cases q110 : q_67.1 = 0
    · rw [if_pos q110] at h ⊢
      exact simT hs72 (q224_252 hR71 v1 v2 h)
    · rw [if_neg q110] at h ⊢
      refine exb (rR_go hR71) ?_
      obtain ⟨q_73, h74, h⟩ := bd h
      obtain ⟨M75, e76, hR77, hs78⟩ := u179 hR71 h74
      replace hs78 := hs72.tr hs78
      refine exb (c_I_of e76) ?_
      by_cases q109 : q_73.1 = (-1 : Int32)
      · rw [if_pos q109] at h ⊢
        refine exb (rR_gr hR77 23) ?_
        obtain ⟨v_79, h80, h⟩ := bd h
        refine exb (rR_al hR77 h80) ?_
        by_cases q108 : v_79 = (-1 : Int32)
        · rw [if_pos q108] at h ⊢
          refine exb (rR_gi hR77 3) ?_
          refine exb (rR_gr hR77 24) ?_
          obtain ⟨v_81, h82, h⟩ := bd h
          refine exb (rR_al hR77 h82) ?_
          by_cases q107 : (10 : Int32) < ((s_g q_73.2 3) - v_81)
          · rw [if_pos q107] at h ⊢
            refine exb (rR_gr hR77 24) ?_
            refine exb (rR_gi hR77 3) ?_
            obtain ⟨S83, h85, h⟩ := bd h
            obtain ⟨M84, e86, hR87, hs88⟩ := rR_si hR77 h85
            replace hs88 := hs78.tr hs88
            refine exb e86 ?_
            refine exb (rR_go hR87) ?_
            obtain ⟨q_89, h90, h⟩ := bd h
            obtain ⟨M91, e92, hR93, hs94⟩ := u168 hR87 h90
            replace hs94 := hs88.tr hs94
            refine exb (c_I_of e92) ?_
            refine exb (rR_go hR93) ?_
            obtain ⟨q_95, h96, h⟩ := bd h
            obtain ⟨M97, e98, hR99, hs100⟩ := u167 hR93 h96
            replace hs100 := hs94.tr hs100
            refine exb (c_V_of e98) ?_
            refine exb (rR_go hR99) ?_
            obtain ⟨q_101, h102, h⟩ := bd h
            obtain ⟨M103, e104, hR105, hs106⟩ := u183 hR99 h102
            replace hs106 := hs100.tr hs106
            refine exb (c_V_of e104) ?_
            exact simT hs106 (q224_252 hR105 v1 v2 h)
          · rw [if_neg q107] at h ⊢
            exact simT hs78 (q224_252 hR77 v1 v2 h)
        · rw [if_neg q108] at h ⊢
          exact simT hs78 (q224_252 hR77 v1 v2 h)
      · rw [if_neg q109] at h ⊢
        exact simT hs78 (q224_252 hR77 v1 v2 h)
theorem u224 {m : Nat} {ad : Nat → Nat} {M : hM} {S : sT} (hR : rR m ad M S) {v1 : Int32} {q : sT} (h : e224 v1 S = some q) : ∃ M1, f224 [.inr (.inr (some m)), .inl v1] M = some (none, M1) ∧ rR m ad M1 q ∧ sm m ad M M1 := by
  unfold e224 at h
  show ∃ M1, x_go k224 (b224_0 m v1 M) = some (o_V q, M1) ∧ rR m ad M1 (f_1 q) ∧ sm m ad M M1
  refine s_go_ok (o := o_V) (f := f_1) (J := J224 m) (bs := kS224) (bk := k224) (xs := c224_0 v1 S) (x := b224_0 m v1 M) (M := M) (q := q) ?_ (fun rs hx => q224_0 hR v1 hx) h
  intro h as S M rs hR hb
  unfold kS224 at hb
  unfold k224 J224
  by_cases e0 : h = 2
  · rw [if_pos e0] at hb ⊢
    split at hb
    · subst e0; exact q224_2 hR _ _ hb
    · cases hb
  · rw [if_neg e0] at hb
    by_cases e1 : h = 85
    · rw [if_pos e1] at hb ⊢
      split at hb
      · subst e1; exact q224_85 hR _ _ hb
      · cases hb
    · rw [if_neg e1] at hb
      by_cases e2 : h = 151
      · rw [if_pos e2] at hb ⊢
        split at hb
        · subst e2; exact q224_151 hR _ _ hb
        · cases hb
      · rw [if_neg e2] at hb
        cases hb
/-! reference: wayOn(IIII)I -/
def c225_57  (S : sT) : Option (sRes (Int32 × sT)) :=
  some (.inl ((2 : Int32), S))
def c225_152  (S : sT) : Option (sRes (Int32 × sT)) :=
  some (.inl ((3 : Int32), S))
def c225_182 (si0 : Int32) (S : sT) : Option (sRes (Int32 × sT)) :=
  some (.inl (si0, S))
def c225_207 (si0 : Int32) (S : sT) : Option (sRes (Int32 × sT)) :=
  some (.inl (si0, S))
def c225_183 (v1 : Int32) (v7 : Int32) (S : sT) : Option (sRes (Int32 × sT)) :=
  Option.bind (e201 v1 v7 S) fun q_108 =>
  if q_108.1 = (-1 : Int32) then
    (c225_207 (3 : Int32) q_108.2)
  else
    (c225_207 ((16 : Int32) + q_108.1) q_108.2)
def c225_59 (v1 : Int32) (v4 : Int32) (v5 : Int32) (S : sT) : Option (sRes (Int32 × sT)) :=
  Option.bind (s_a S 26 v1) fun v_33 =>
  if (v4 >>> ((16 : Int32) &&& 31)) = v_33 then
    (Option.bind (e200 v1 S) fun q_35 =>
    if q_35.1 = 0 then
      (if (7 : Int32) < ((v4 >>> ((8 : Int32) &&& 31)) &&& (255 : Int32)) then
        (c225_152  q_35.2)
      else
        (Option.bind (e175 v1 ((v4 >>> ((8 : Int32) &&& 31)) &&& (255 : Int32)) q_35.2) fun q_41 =>
        Option.bind (e177 q_41.1 q_41.2) fun q_47 =>
        if q_47.1 = 0 then
          (c225_152  q_47.2)
        else
          (Option.bind (e175 v1 ((v4 >>> ((8 : Int32) &&& 31)) &&& (255 : Int32)) q_47.2) fun q_53 =>
          Option.bind (e179 q_53.1 q_53.2) fun q_59 =>
          if q_59.1 = (-1 : Int32) then
            (c225_152  q_59.2)
          else
            (Option.bind (e175 v1 ((v4 >>> ((8 : Int32) &&& 31)) &&& (255 : Int32)) q_59.2) fun q_65 =>
            Option.bind (e179 q_65.1 q_65.2) fun q_71 =>
            Option.bind (e189 v4 q_71.2) fun q_77 =>
            if q_71.1 = q_77.1 then
              (Option.bind (e189 v5 q_77.2) fun q_83 =>
              Option.bind (e189 v4 q_83.2) fun q_89 =>
              Option.bind (e188 q_83.1 q_89.1 q_89.2) fun q_95 =>
              if q_95.1 = 0 then
                (c225_182 (2 : Int32) q_95.2)
              else
                (c225_182 ((16 : Int32) + ((v4 >>> ((8 : Int32) &&& 31)) &&& (255 : Int32))) q_95.2))
            else
              (c225_152  q_77.2)))))
    else
      (c225_183 v1 (v4 >>> ((16 : Int32) &&& 31)) q_35.2))
  else
    (c225_183 v1 (v4 >>> ((16 : Int32) &&& 31)) S)
def c225_0 (v1 : Int32) (v2 : Int32) (v3 : Int32) (v4 : Int32) (S : sT) : Option (sRes (Int32 × sT)) :=
  Option.bind (e166 v3 (4 : Int32) (3 : Int32) S) fun q_1 =>
  Option.bind (e179 v2 q_1.2) fun q_7 =>
  if q_7.1 = (-1 : Int32) then
    (c225_59 v1 v4 q_1.1 q_7.2)
  else
    (Option.bind (s_a q_7.2 25 v2) fun v_13 =>
    if v_13 = 0 then
      (c225_57  q_7.2)
    else
      (Option.bind (s_a q_7.2 25 v2) fun v_15 =>
      if q_1.1 = v_15 then
        (Option.bind (e189 v4 q_7.2) fun q_17 =>
        Option.bind (e188 q_7.1 q_17.1 q_17.2) fun q_23 =>
        if q_23.1 = 0 then
          (c225_57  q_23.2)
        else
          (c225_59 v1 v4 q_1.1 q_23.2))
      else
        (c225_57  q_7.2)))
def e225 (v1 : Int32) (v2 : Int32) (v3 : Int32) (v4 : Int32) (S : sT) : Option (Int32 × sT) := s_out (c225_0 v1 v2 v3 v4 S)
theorem q225_57 {m : Nat} {ad : Nat → Nat} {M : hM} {S : sT} (hR : rR m ad M S)  {rs : sRes (Int32 × sT)} (h : c225_57  S = some rs) : ∃ res, b225_57  M = some res ∧ simR o_I f_2 (fun _ as => as) m ad M rs res := by
  have hs : sm m ad M M := sm.rf
  unfold c225_57 at h
  unfold b225_57
  obtain rfl := Option.some.inj h
  exact ⟨_, rfl, _, rfl, hR, hs⟩
theorem q225_152 {m : Nat} {ad : Nat → Nat} {M : hM} {S : sT} (hR : rR m ad M S)  {rs : sRes (Int32 × sT)} (h : c225_152  S = some rs) : ∃ res, b225_152  M = some res ∧ simR o_I f_2 (fun _ as => as) m ad M rs res := by
  have hs : sm m ad M M := sm.rf
  unfold c225_152 at h
  unfold b225_152
  obtain rfl := Option.some.inj h
  exact ⟨_, rfl, _, rfl, hR, hs⟩
theorem q225_182 {m : Nat} {ad : Nat → Nat} {M : hM} {S : sT} (hR : rR m ad M S) (si0 : Int32) {rs : sRes (Int32 × sT)} (h : c225_182 si0 S = some rs) : ∃ res, b225_182 si0 M = some res ∧ simR o_I f_2 (fun _ as => as) m ad M rs res := by
  have hs : sm m ad M M := sm.rf
  unfold c225_182 at h
  unfold b225_182
  obtain rfl := Option.some.inj h
  exact ⟨_, rfl, _, rfl, hR, hs⟩
theorem q225_207 {m : Nat} {ad : Nat → Nat} {M : hM} {S : sT} (hR : rR m ad M S) (si0 : Int32) {rs : sRes (Int32 × sT)} (h : c225_207 si0 S = some rs) : ∃ res, b225_207 si0 M = some res ∧ simR o_I f_2 (fun _ as => as) m ad M rs res := by
  have hs : sm m ad M M := sm.rf
  unfold c225_207 at h
  unfold b225_207
  obtain rfl := Option.some.inj h
  exact ⟨_, rfl, _, rfl, hR, hs⟩
theorem q225_183 {m : Nat} {ad : Nat → Nat} {M : hM} {S : sT} (hR : rR m ad M S) (v1 : Int32) (v7 : Int32) {rs : sRes (Int32 × sT)} (h : c225_183 v1 v7 S = some rs) : ∃ res, b225_183 m v1 v7 M = some res ∧ simR o_I f_2 (fun _ as => as) m ad M rs res := by
  have hs : sm m ad M M := sm.rf
  unfold c225_183 at h
  unfold b225_183
  refine exb (rR_go hR) ?_
  obtain ⟨q_108, h109, h⟩ := bd h
  obtain ⟨M110, e111, hR112, hs113⟩ := u201 hR h109
  replace hs113 := hs.tr hs113
  refine exb (c_I_of e111) ?_
  by_cases q114 : q_108.1 = (-1 : Int32)
  · rw [if_pos q114] at h ⊢
    exact simT hs113 (q225_207 hR112 (3 : Int32) h)
  · rw [if_neg q114] at h ⊢
    exact simT hs113 (q225_207 hR112 ((16 : Int32) + q_108.1) h)
theorem q225_59 {m : Nat} {ad : Nat → Nat} {M : hM} {S : sT} (hR : rR m ad M S) (v1 : Int32) (v4 : Int32) (v5 : Int32) {rs : sRes (Int32 × sT)} (h : c225_59 v1 v4 v5 S = some rs) : ∃ res, b225_59 m v1 v4 v5 M = some res ∧ simR o_I f_2 (fun _ as => as) m ad M rs res := by
  have hs : sm m ad M M := sm.rf
  unfold c225_59 at h
  unfold b225_59
  refine exb (rR_gr hR 26) ?_
  obtain ⟨v_33, h34, h⟩ := bd h
  refine exb (rR_al hR h34) ?_
  by_cases q107 : (v4 >>> ((16 : Int32) &&& 31)) = v_33
  · rw [if_pos q107] at h ⊢
    refine exb (rR_go hR) ?_
    obtain ⟨q_35, h36, h⟩ := bd h
    obtain ⟨M37, e38, hR39, hs40⟩ := u200 hR h36
    replace hs40 := hs.tr hs40
    refine exb (c_I_of e38) ?_
    by_cases q106 : q_35.1 = 0
    · rw [if_pos q106] at h ⊢
      by_cases q105 : (7 : Int32) < ((v4 >>> ((8 : Int32) &&& 31)) &&& (255 : Int32))
      · rw [if_pos q105] at h ⊢
        exact simT hs40 (q225_152 hR39  h)
      · rw [if_neg q105] at h ⊢
        refine exb (rR_go hR39) ?_
        obtain ⟨q_41, h42, h⟩ := bd h
        obtain ⟨M43, e44, hR45, hs46⟩ := u175 hR39 h42
        replace hs46 := hs40.tr hs46
        refine exb (c_I_of e44) ?_
        refine exb (rR_go hR45) ?_
        obtain ⟨q_47, h48, h⟩ := bd h
        obtain ⟨M49, e50, hR51, hs52⟩ := u177 hR45 h48
        replace hs52 := hs46.tr hs52
        refine exb (c_I_of e50) ?_
        by_cases q104 : q_47.1 = 0
        · rw [if_pos q104] at h ⊢
          exact simT hs52 (q225_152 hR51  h)
        · rw [if_neg q104] at h ⊢
          refine exb (rR_go hR51) ?_
          obtain ⟨q_53, h54, h⟩ := bd h
          obtain ⟨M55, e56, hR57, hs58⟩ := u175 hR51 h54
          replace hs58 := hs52.tr hs58
          refine exb (c_I_of e56) ?_
          refine exb (rR_go hR57) ?_
          obtain ⟨q_59, h60, h⟩ := bd h
          obtain ⟨M61, e62, hR63, hs64⟩ := u179 hR57 h60
          replace hs64 := hs58.tr hs64
          refine exb (c_I_of e62) ?_
          by_cases q103 : q_59.1 = (-1 : Int32)
          · rw [if_pos q103] at h ⊢
            exact simT hs64 (q225_152 hR63  h)
          · rw [if_neg q103] at h ⊢
            refine exb (rR_go hR63) ?_
            obtain ⟨q_65, h66, h⟩ := bd h
            obtain ⟨M67, e68, hR69, hs70⟩ := u175 hR63 h66
            replace hs70 := hs64.tr hs70
            refine exb (c_I_of e68) ?_
            refine exb (rR_go hR69) ?_
            obtain ⟨q_71, h72, h⟩ := bd h
            obtain ⟨M73, e74, hR75, hs76⟩ := u179 hR69 h72
            replace hs76 := hs70.tr hs76
            refine exb (c_I_of e74) ?_
            refine exb (rR_go hR75) ?_
            obtain ⟨q_77, h78, h⟩ := bd h
            obtain ⟨M79, e80, hR81, hs82⟩ := u189 hR75 h78
            replace hs82 := hs76.tr hs82
            refine exb (c_I_of e80) ?_
            by_cases q102 : q_71.1 = q_77.1
            · rw [if_pos q102] at h ⊢
              refine exb (rR_go hR81) ?_
              obtain ⟨q_83, h84, h⟩ := bd h
              obtain ⟨M85, e86, hR87, hs88⟩ := u189 hR81 h84
              replace hs88 := hs82.tr hs88
              refine exb (c_I_of e86) ?_
              refine exb (rR_go hR87) ?_
              obtain ⟨q_89, h90, h⟩ := bd h
              obtain ⟨M91, e92, hR93, hs94⟩ := u189 hR87 h90
              replace hs94 := hs88.tr hs94
              refine exb (c_I_of e92) ?_
              refine exb (rR_go hR93) ?_
              obtain ⟨q_95, h96, h⟩ := bd h
              obtain ⟨M97, e98, hR99, hs100⟩ := u188 hR93 h96
              replace hs100 := hs94.tr hs100
              refine exb (c_I_of e98) ?_
              by_cases q101 : q_95.1 = 0
              · rw [if_pos q101] at h ⊢
                exact simT hs100 (q225_182 hR99 (2 : Int32) h)
              · rw [if_neg q101] at h ⊢
                exact simT hs100 (q225_182 hR99 ((16 : Int32) + ((v4 >>> ((8 : Int32) &&& 31)) &&& (255 : Int32))) h)
            · rw [if_neg q102] at h ⊢
              exact simT hs82 (q225_152 hR81  h)
    · rw [if_neg q106] at h ⊢
      exact simT hs40 (q225_183 hR39 v1 (v4 >>> ((16 : Int32) &&& 31)) h)
  · rw [if_neg q107] at h ⊢
    exact simT hs (q225_183 hR v1 (v4 >>> ((16 : Int32) &&& 31)) h)
theorem q225_0 {m : Nat} {ad : Nat → Nat} {M : hM} {S : sT} (hR : rR m ad M S) (v1 : Int32) (v2 : Int32) (v3 : Int32) (v4 : Int32) {rs : sRes (Int32 × sT)} (h : c225_0 v1 v2 v3 v4 S = some rs) : ∃ res, b225_0 m v1 v2 v3 v4 M = some res ∧ simR o_I f_2 (fun _ as => as) m ad M rs res := by
  have hs : sm m ad M M := sm.rf
  unfold c225_0 at h
  unfold b225_0
  refine exb (rR_go hR) ?_
  obtain ⟨q_1, h2, h⟩ := bd h
  obtain ⟨M3, e4, hR5, hs6⟩ := u166 hR h2
  replace hs6 := hs.tr hs6
  refine exb (c_I_of e4) ?_
  refine exb (rR_go hR5) ?_
  obtain ⟨q_7, h8, h⟩ := bd h
  obtain ⟨M9, e10, hR11, hs12⟩ := u179 hR5 h8
  replace hs12 := hs6.tr hs12
  refine exb (c_I_of e10) ?_
  by_cases q32 : q_7.1 = (-1 : Int32)
  · rw [if_pos q32] at h ⊢
    exact simT hs12 (q225_59 hR11 v1 v4 q_1.1 h)
  · rw [if_neg q32] at h ⊢
    refine exb (rR_gr hR11 25) ?_
    obtain ⟨v_13, h14, h⟩ := bd h
    refine exb (rR_al hR11 h14) ?_
    by_cases q31 : v_13 = 0
    · rw [if_pos q31] at h ⊢
      exact simT hs12 (q225_57 hR11  h)
    · rw [if_neg q31] at h ⊢
      refine exb (rR_gr hR11 25) ?_
      obtain ⟨v_15, h16, h⟩ := bd h
      refine exb (rR_al hR11 h16) ?_
      by_cases q30 : q_1.1 = v_15
      · rw [if_pos q30] at h ⊢
        refine exb (rR_go hR11) ?_
        obtain ⟨q_17, h18, h⟩ := bd h
        obtain ⟨M19, e20, hR21, hs22⟩ := u189 hR11 h18
        replace hs22 := hs12.tr hs22
        refine exb (c_I_of e20) ?_
        refine exb (rR_go hR21) ?_
        obtain ⟨q_23, h24, h⟩ := bd h
        obtain ⟨M25, e26, hR27, hs28⟩ := u188 hR21 h24
        replace hs28 := hs22.tr hs28
        refine exb (c_I_of e26) ?_
        by_cases q29 : q_23.1 = 0
        · rw [if_pos q29] at h ⊢
          exact simT hs28 (q225_57 hR27  h)
        · rw [if_neg q29] at h ⊢
          exact simT hs28 (q225_59 hR27 v1 v4 q_1.1 h)
      · rw [if_neg q30] at h ⊢
        exact simT hs12 (q225_57 hR11  h)
theorem u225 {m : Nat} {ad : Nat → Nat} {M : hM} {S : sT} (hR : rR m ad M S) {v1 : Int32} {v2 : Int32} {v3 : Int32} {v4 : Int32} {q : (Int32 × sT)} (h : e225 v1 v2 v3 v4 S = some q) : ∃ M1, f225 [.inr (.inr (some m)), .inl v1, .inl v2, .inl v3, .inl v4] M = some (some (.inl q.1), M1) ∧ rR m ad M1 q.2 ∧ sm m ad M M1 := by
  exact s_out_sim (o := o_I) (f := f_2) (J := fun _ as => as) (fun rs hx => q225_0 hR v1 v2 v3 v4 hx) h
/-! reference: passes(IIII)V -/
def c226_138  (S : sT) : Option (sRes sT) :=
  some (.inl S)
def c226_139 (v2 : Int32) (S : sT) : Option (sRes sT) :=
  Option.bind (s_a S 21 v2) fun v_104 =>
  Option.bind (s_s S 21 v2 (v_104 + (1 : Int32))) fun S106 =>
  Option.bind (s_a S106 21 v2) fun v_112 =>
  if (25 : Int32) ≤ v_112 then
    (Option.bind (s_a S106 4 (4 : Int32)) fun v_114 =>
    Option.bind (s_s S106 4 (4 : Int32) (v_114 + (1 : Int32))) fun S116 =>
    Option.bind (e185 v2 S116) fun q_122 =>
    Option.bind (e171 q_122.1 q_122.2) fun q_128 =>
    some (.inl q_128))
  else
    (some (.inl S106))
def c226_0 (v1 : Int32) (v2 : Int32) (v3 : Int32) (v4 : Int32) (S : sT) : Option (sRes sT) :=
  Option.bind (e225 v1 v2 v3 v4 S) fun q_1 =>
  if (16 : Int32) ≤ q_1.1 then
    (Option.bind (e175 v1 (q_1.1 - (16 : Int32)) q_1.2) fun q_7 =>
    Option.bind (s_a q_7.2 19 q_7.1) fun v_13 =>
    if v_13 = 0 then
      (Option.bind (e181 q_7.1 q_7.2) fun q_15 =>
      if q_15.1 = 0 then
        (c226_139 v2 q_15.2)
      else
        (Option.bind (e185 v2 q_15.2) fun q_21 =>
        Option.bind (e182 q_7.1 v3 q_21.2) fun q_27 =>
        Option.bind (s_a q_27 4 (7 : Int32)) fun v_33 =>
        Option.bind (s_s q_27 4 (7 : Int32) (v_33 + (1 : Int32))) fun S35 =>
        Option.bind (e179 q_7.1 S35) fun q_41 =>
        if q_41.1 = (-1 : Int32) then
          (c226_138  q_41.2)
        else
          (Option.bind (e166 v3 (4 : Int32) (3 : Int32) q_41.2) fun q_47 =>
          Option.bind (e189 q_47.1 q_47.2) fun q_53 =>
          Option.bind (e179 q_7.1 q_53.2) fun q_59 =>
          Option.bind (e188 q_53.1 q_59.1 q_59.2) fun q_65 =>
          if q_65.1 = 0 then
            (Option.bind (s_a q_65.2 5 (0 : Int32)) fun v_71 =>
            Option.bind (s_s q_65.2 5 (0 : Int32) (v_71 + (1 : Int32))) fun S73 =>
            c226_138  S73)
          else
            (c226_138  q_65.2))))
    else
      (c226_139 v2 q_7.2))
  else
    (Option.bind (s_a q_1.2 4 q_1.1) fun v_83 =>
    Option.bind (s_s q_1.2 4 q_1.1 (v_83 + (1 : Int32))) fun S85 =>
    Option.bind (e185 v2 S85) fun q_91 =>
    Option.bind (e171 q_91.1 q_91.2) fun q_97 =>
    some (.inl q_97))
def e226 (v1 : Int32) (v2 : Int32) (v3 : Int32) (v4 : Int32) (S : sT) : Option sT := s_out (c226_0 v1 v2 v3 v4 S)
theorem q226_138 {m : Nat} {ad : Nat → Nat} {M : hM} {S : sT} (hR : rR m ad M S)  {rs : sRes sT} (h : c226_138  S = some rs) : ∃ res, b226_138  M = some res ∧ simR o_V f_1 (fun _ as => as) m ad M rs res := by
  have hs : sm m ad M M := sm.rf
  unfold c226_138 at h
  unfold b226_138
  obtain rfl := Option.some.inj h
  exact ⟨_, rfl, _, rfl, hR, hs⟩
theorem q226_139 {m : Nat} {ad : Nat → Nat} {M : hM} {S : sT} (hR : rR m ad M S) (v2 : Int32) {rs : sRes sT} (h : c226_139 v2 S = some rs) : ∃ res, b226_139 m v2 M = some res ∧ simR o_V f_1 (fun _ as => as) m ad M rs res := by
  have hs : sm m ad M M := sm.rf
  unfold c226_139 at h
  unfold b226_139
  refine exb (rR_gr hR 21) ?_
  obtain ⟨v_104, h105, h⟩ := bd h
  refine exb (rR_al hR h105) ?_
  obtain ⟨S106, h108, h⟩ := bd h
  obtain ⟨M107, e109, hR110, hs111⟩ := rR_si hR h108
  replace hs111 := hs.tr hs111
  refine exb e109 ?_
  refine exb (rR_gr hR110 21) ?_
  obtain ⟨v_112, h113, h⟩ := bd h
  refine exb (rR_al hR110 h113) ?_
  by_cases q134 : (25 : Int32) ≤ v_112
  · rw [if_pos q134] at h ⊢
    refine exb (rR_gr hR110 4) ?_
    obtain ⟨v_114, h115, h⟩ := bd h
    refine exb (rR_al hR110 h115) ?_
    obtain ⟨S116, h118, h⟩ := bd h
    obtain ⟨M117, e119, hR120, hs121⟩ := rR_si hR110 h118
    replace hs121 := hs111.tr hs121
    refine exb e119 ?_
    refine exb (rR_go hR120) ?_
    obtain ⟨q_122, h123, h⟩ := bd h
    obtain ⟨M124, e125, hR126, hs127⟩ := u185 hR120 h123
    replace hs127 := hs121.tr hs127
    refine exb (c_I_of e125) ?_
    refine exb (rR_go hR126) ?_
    obtain ⟨q_128, h129, h⟩ := bd h
    obtain ⟨M130, e131, hR132, hs133⟩ := u171 hR126 h129
    replace hs133 := hs127.tr hs133
    refine exb (c_V_of e131) ?_
    obtain rfl := Option.some.inj h
    exact ⟨_, rfl, _, rfl, hR132, hs133⟩
  · rw [if_neg q134] at h ⊢
    obtain rfl := Option.some.inj h
    exact ⟨_, rfl, _, rfl, hR110, hs111⟩
theorem q226_0 {m : Nat} {ad : Nat → Nat} {M : hM} {S : sT} (hR : rR m ad M S) (v1 : Int32) (v2 : Int32) (v3 : Int32) (v4 : Int32) {rs : sRes sT} (h : c226_0 v1 v2 v3 v4 S = some rs) : ∃ res, b226_0 m v1 v2 v3 v4 M = some res ∧ simR o_V f_1 (fun _ as => as) m ad M rs res := by
  have hs : sm m ad M M := sm.rf
  unfold c226_0 at h
  unfold b226_0
  refine exb (rR_go hR) ?_
  obtain ⟨q_1, h2, h⟩ := bd h
  obtain ⟨M3, e4, hR5, hs6⟩ := u225 hR h2
  replace hs6 := hs.tr hs6
  refine exb (c_I_of e4) ?_
  by_cases q103 : (16 : Int32) ≤ q_1.1
  · rw [if_pos q103] at h ⊢
    refine exb (rR_go hR5) ?_
    obtain ⟨q_7, h8, h⟩ := bd h
    obtain ⟨M9, e10, hR11, hs12⟩ := u175 hR5 h8
    replace hs12 := hs6.tr hs12
    refine exb (c_I_of e10) ?_
    refine exb (rR_gr hR11 19) ?_
    obtain ⟨v_13, h14, h⟩ := bd h
    refine exb (rR_al hR11 h14) ?_
    by_cases q82 : v_13 = 0
    · rw [if_pos q82] at h ⊢
      refine exb (rR_go hR11) ?_
      obtain ⟨q_15, h16, h⟩ := bd h
      obtain ⟨M17, e18, hR19, hs20⟩ := u181 hR11 h16
      replace hs20 := hs12.tr hs20
      refine exb (c_I_of e18) ?_
      by_cases q81 : q_15.1 = 0
      · rw [if_pos q81] at h ⊢
        exact simT hs20 (q226_139 hR19 v2 h)
      · rw [if_neg q81] at h ⊢
        refine exb (rR_go hR19) ?_
        obtain ⟨q_21, h22, h⟩ := bd h
        obtain ⟨M23, e24, hR25, hs26⟩ := u185 hR19 h22
        replace hs26 := hs20.tr hs26
        refine exb (c_I_of e24) ?_
        refine exb (rR_go hR25) ?_
        obtain ⟨q_27, h28, h⟩ := bd h
        obtain ⟨M29, e30, hR31, hs32⟩ := u182 hR25 h28
        replace hs32 := hs26.tr hs32
        refine exb (c_V_of e30) ?_
        refine exb (rR_gr hR31 4) ?_
        obtain ⟨v_33, h34, h⟩ := bd h
        refine exb (rR_al hR31 h34) ?_
        obtain ⟨S35, h37, h⟩ := bd h
        obtain ⟨M36, e38, hR39, hs40⟩ := rR_si hR31 h37
        replace hs40 := hs32.tr hs40
        refine exb e38 ?_
        refine exb (rR_go hR39) ?_
        obtain ⟨q_41, h42, h⟩ := bd h
        obtain ⟨M43, e44, hR45, hs46⟩ := u179 hR39 h42
        replace hs46 := hs40.tr hs46
        refine exb (c_I_of e44) ?_
        by_cases q80 : q_41.1 = (-1 : Int32)
        · rw [if_pos q80] at h ⊢
          exact simT hs46 (q226_138 hR45  h)
        · rw [if_neg q80] at h ⊢
          refine exb (rR_go hR45) ?_
          obtain ⟨q_47, h48, h⟩ := bd h
          obtain ⟨M49, e50, hR51, hs52⟩ := u166 hR45 h48
          replace hs52 := hs46.tr hs52
          refine exb (c_I_of e50) ?_
          refine exb (rR_go hR51) ?_
          obtain ⟨q_53, h54, h⟩ := bd h
          obtain ⟨M55, e56, hR57, hs58⟩ := u189 hR51 h54
          replace hs58 := hs52.tr hs58
          refine exb (c_I_of e56) ?_
          refine exb (rR_go hR57) ?_
          obtain ⟨q_59, h60, h⟩ := bd h
          obtain ⟨M61, e62, hR63, hs64⟩ := u179 hR57 h60
          replace hs64 := hs58.tr hs64
          refine exb (c_I_of e62) ?_
          refine exb (rR_go hR63) ?_
          obtain ⟨q_65, h66, h⟩ := bd h
          obtain ⟨M67, e68, hR69, hs70⟩ := u188 hR63 h66
          replace hs70 := hs64.tr hs70
          refine exb (c_I_of e68) ?_
          by_cases q79 : q_65.1 = 0
          · rw [if_pos q79] at h ⊢
            refine exb (rR_gr hR69 5) ?_
            obtain ⟨v_71, h72, h⟩ := bd h
            refine exb (rR_al hR69 h72) ?_
            obtain ⟨S73, h75, h⟩ := bd h
            obtain ⟨M74, e76, hR77, hs78⟩ := rR_si hR69 h75
            replace hs78 := hs70.tr hs78
            refine exb e76 ?_
            exact simT hs78 (q226_138 hR77  h)
          · rw [if_neg q79] at h ⊢
            exact simT hs70 (q226_138 hR69  h)
    · rw [if_neg q82] at h ⊢
      exact simT hs12 (q226_139 hR11 v2 h)
  · rw [if_neg q103] at h ⊢
    refine exb (rR_gr hR5 4) ?_
    obtain ⟨v_83, h84, h⟩ := bd h
    refine exb (rR_al hR5 h84) ?_
    obtain ⟨S85, h87, h⟩ := bd h
    obtain ⟨M86, e88, hR89, hs90⟩ := rR_si hR5 h87
    replace hs90 := hs6.tr hs90
    refine exb e88 ?_
    refine exb (rR_go hR89) ?_
    obtain ⟨q_91, h92, h⟩ := bd h
    obtain ⟨M93, e94, hR95, hs96⟩ := u185 hR89 h92
    replace hs96 := hs90.tr hs96
    refine exb (c_I_of e94) ?_
    refine exb (rR_go hR95) ?_
    obtain ⟨q_97, h98, h⟩ := bd h
    obtain ⟨M99, e100, hR101, hs102⟩ := u171 hR95 h98
    replace hs102 := hs96.tr hs102
    refine exb (c_V_of e100) ?_
    obtain rfl := Option.some.inj h
    exact ⟨_, rfl, _, rfl, hR101, hs102⟩
theorem u226 {m : Nat} {ad : Nat → Nat} {M : hM} {S : sT} (hR : rR m ad M S) {v1 : Int32} {v2 : Int32} {v3 : Int32} {v4 : Int32} {q : sT} (h : e226 v1 v2 v3 v4 S = some q) : ∃ M1, f226 [.inr (.inr (some m)), .inl v1, .inl v2, .inl v3, .inl v4] M = some (none, M1) ∧ rR m ad M1 q ∧ sm m ad M M1 := by
  exact s_out_sim (o := o_V) (f := f_1) (J := fun _ as => as) (fun rs hx => q226_0 hR v1 v2 v3 v4 hx) h
