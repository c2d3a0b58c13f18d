theorem mw1011 : Cond.code ⟨"ZonedFabricModel", "wayTo", "(II)I"⟩ prog_14_method_33_code 8 (some FieldType.int) ∈ xTs := xTs_in (tk7 (List.mem_of_getElem? (i := 24) rfl)) rfl
theorem mw1012 : Cond.code ⟨"ZonedFabricModel", "isReached", "(II)Z"⟩ prog_14_method_34_code 3 (some FieldType.boolean) ∈ xTs := xTs_in (tk7 (List.mem_of_getElem? (i := 20) rfl)) rfl
theorem mw1013 : Cond.methodLink "ZonedFabricModel" 257 ⟨"ZonedFabricModel", "wayTo", "(II)I"⟩ ∈ xTs := xTs_in (tk7 (List.mem_of_getElem? (i := 21) (by decide +kernel))) rfl
theorem mw1014 : Cond.instanceMethod ⟨"ZonedFabricModel", "wayTo", "(II)I"⟩ ∈ xTs := xTs_in (tk7 (List.mem_of_getElem? (i := 23) (by decide +kernel))) rfl
theorem mw1015 : Cond.selects "ZonedFabricModel" ⟨"ZonedFabricModel", "wayTo", "(II)I"⟩ ⟨"ZonedFabricModel", "wayTo", "(II)I"⟩ ∈ xTs := xTs_in (List.mem_append_left _ (List.mem_of_getElem? (i := 77) (by decide +kernel))) rfl
theorem mw1016 : Cond.code ⟨"ZonedFabricModel", "domainOf", "(II)I"⟩ prog_14_method_35_code 3 (some FieldType.int) ∈ xTs := xTs_in (tk7 (List.mem_of_getElem? (i := 16) rfl)) rfl
theorem mw1017 : Cond.code ⟨"ZonedFabricModel", "isOff", "(II)Z"⟩ prog_14_method_36_code 5 (some FieldType.boolean) ∈ xTs := xTs_in (tk7 (List.mem_of_getElem? (i := 12) rfl)) rfl
theorem mw1018 : Cond.methodLink "ZonedFabricModel" 260 ⟨"ZonedFabricModel", "domainOf", "(II)I"⟩ ∈ xTs := xTs_in (tk7 (List.mem_of_getElem? (i := 13) (by decide +kernel))) rfl
theorem mw1019 : Cond.instanceMethod ⟨"ZonedFabricModel", "domainOf", "(II)I"⟩ ∈ xTs := xTs_in (tk7 (List.mem_of_getElem? (i := 15) (by decide +kernel))) rfl
theorem mw1020 : Cond.selects "ZonedFabricModel" ⟨"ZonedFabricModel", "domainOf", "(II)I"⟩ ⟨"ZonedFabricModel", "domainOf", "(II)I"⟩ ∈ xTs := xTs_in (List.mem_append_left _ (List.mem_of_getElem? (i := 75) (by decide +kernel))) rfl
theorem mw1021 : Cond.methodLink "ZonedFabricModel" 263 ⟨"ZonedFabricModel", "isReached", "(II)Z"⟩ ∈ xTs := xTs_in (tk7 (List.mem_of_getElem? (i := 17) (by decide +kernel))) rfl
theorem mw1022 : Cond.instanceMethod ⟨"ZonedFabricModel", "isReached", "(II)Z"⟩ ∈ xTs := xTs_in (tk7 (List.mem_of_getElem? (i := 19) (by decide +kernel))) rfl
theorem mw1023 : Cond.selects "ZonedFabricModel" ⟨"ZonedFabricModel", "isReached", "(II)Z"⟩ ⟨"ZonedFabricModel", "isReached", "(II)Z"⟩ ∈ xTs := xTs_in (List.mem_append_left _ (List.mem_of_getElem? (i := 76) (by decide +kernel))) rfl
theorem mw1024 : Cond.code ⟨"ZonedFabricModel", "isOffItself", "(I)Z"⟩ prog_14_method_37_code 2 (some FieldType.boolean) ∈ xTs := xTs_in (tk6 (List.mem_of_getElem? (i := 230) rfl)) rfl
theorem mw1025 : Cond.methodLink "ZonedFabricModel" 266 ⟨"ZonedFabricModel", "sums", "(I)V"⟩ ∈ xTs := xTs_in (tk6 (List.mem_of_getElem? (i := 231) (by decide +kernel))) rfl
theorem mw1026 : Cond.instanceMethod ⟨"ZonedFabricModel", "sums", "(I)V"⟩ ∈ xTs := xTs_in (tk6 (List.mem_of_getElem? (i := 233) (by decide +kernel))) rfl
theorem mw1027 : Cond.selects "ZonedFabricModel" ⟨"ZonedFabricModel", "sums", "(I)V"⟩ ⟨"ZonedFabricModel", "sums", "(I)V"⟩ ∈ xTs := xTs_in (List.mem_append_left _ (List.mem_of_getElem? (i := 70) (by decide +kernel))) rfl
theorem mw1028 : Cond.methodLink "ZonedFabricModel" 268 ⟨"ZonedFabricModel", "isOff", "(II)Z"⟩ ∈ xTs := xTs_in (tk7 (List.mem_of_getElem? (i := 9) (by decide +kernel))) rfl
theorem mw1029 : Cond.instanceMethod ⟨"ZonedFabricModel", "isOff", "(II)Z"⟩ ∈ xTs := xTs_in (tk7 (List.mem_of_getElem? (i := 11) (by decide +kernel))) rfl
theorem mw1030 : Cond.selects "ZonedFabricModel" ⟨"ZonedFabricModel", "isOff", "(II)Z"⟩ ⟨"ZonedFabricModel", "isOff", "(II)Z"⟩ ∈ xTs := xTs_in (List.mem_append_left _ (List.mem_of_getElem? (i := 74) (by decide +kernel))) rfl
theorem mw1031 : Cond.code ⟨"ZonedFabricModel", "wayOut", "(II)I"⟩ prog_14_method_38_code 4 (some FieldType.int) ∈ xTs := xTs_in (tk7 (List.mem_of_getElem? (i := 148) rfl)) rfl
theorem mw1032 : Cond.code ⟨"ZonedFabricModel", "recordFrame", "(II)I"⟩ prog_14_method_39_code 5 (some FieldType.int) ∈ xTs := xTs_in (tk7 (List.mem_of_getElem? (i := 79) rfl)) rfl
theorem mw1033 : Cond.methodLink "ZonedFabricModel" 272 ⟨"ZonedFabricModel", "begins", "(IIIIII)I"⟩ ∈ xTs := xTs_in (tk7 (List.mem_of_getElem? (i := 26) (by decide +kernel))) rfl
theorem mw1034 : Cond.instanceMethod ⟨"ZonedFabricModel", "begins", "(IIIIII)I"⟩ ∈ xTs := xTs_in (tk7 (List.mem_of_getElem? (i := 28) (by decide +kernel))) rfl
theorem mw1035 : Cond.selects "ZonedFabricModel" ⟨"ZonedFabricModel", "begins", "(IIIIII)I"⟩ ⟨"ZonedFabricModel", "begins", "(IIIIII)I"⟩ ∈ xTs := xTs_in (List.mem_append_left _ (List.mem_of_getElem? (i := 78) (by decide +kernel))) rfl
theorem mw1036 : Cond.constant "ZonedFabricModel" 271 (16777213) ∈ xTs := xTs_in (tk7 (List.mem_of_getElem? (i := 59) (by decide +kernel))) rfl
theorem mw1037 : Cond.code ⟨"ZonedFabricModel", "closesOpen", "(II)V"⟩ prog_14_method_67_code 5 none ∈ xTs := xTs_in (tk7 (List.mem_of_getElem? (i := 197) rfl)) rfl
theorem mw1038 : Cond.code ⟨"ZonedFabricModel", "tellsPhase", "(I)V"⟩ prog_14_method_56_code 6 none ∈ xTs := xTs_in (tk7 (List.mem_of_getElem? (i := 209) rfl)) rfl
theorem mw1039 : Cond.constant "ZonedFabricModel" 328 (16777212) ∈ xTs := xTs_in (tk7 (List.mem_of_getElem? (i := 120) (by decide +kernel))) rfl
theorem mw1040 : Cond.methodLink "ZonedFabricModel" 352 ⟨"ZonedFabricModel", "nodeSide", "(I)I"⟩ ∈ xTs := xTs_in (tk6 (List.mem_of_getElem? (i := 151) (by decide +kernel))) rfl
theorem mw1041 : Cond.instanceMethod ⟨"ZonedFabricModel", "nodeSide", "(I)I"⟩ ∈ xTs := xTs_in (tk6 (List.mem_of_getElem? (i := 153) (by decide +kernel))) rfl
theorem mw1042 : Cond.selects "ZonedFabricModel" ⟨"ZonedFabricModel", "nodeSide", "(I)I"⟩ ⟨"ZonedFabricModel", "nodeSide", "(I)I"⟩ ∈ xTs := xTs_in (List.mem_append_left _ (List.mem_of_getElem? (i := 58) (by decide +kernel))) rfl
theorem mw1043 : Cond.methodLink "ZonedFabricModel" 301 ⟨"ZonedFabricModel", "queues", "(II)V"⟩ ∈ xTs := xTs_in (tk7 (List.mem_of_getElem? (i := 34) (by decide +kernel))) rfl
theorem mw1044 : Cond.instanceMethod ⟨"ZonedFabricModel", "queues", "(II)V"⟩ ∈ xTs := xTs_in (tk7 (List.mem_of_getElem? (i := 36) (by decide +kernel))) rfl
theorem mw1045 : Cond.selects "ZonedFabricModel" ⟨"ZonedFabricModel", "queues", "(II)V"⟩ ⟨"ZonedFabricModel", "queues", "(II)V"⟩ ∈ xTs := xTs_in (List.mem_append_left _ (List.mem_of_getElem? (i := 80) (by decide +kernel))) rfl
theorem mw1046 : Cond.code ⟨"ZonedFabricModel", "ends", "(II)V"⟩ prog_14_method_54_code 3 none ∈ xTs := xTs_in (tk7 (List.mem_of_getElem? (i := 217) rfl)) rfl
theorem mw1047 : Cond.fieldLink "ZonedFabricModel" 276 "ZonedFabricModel" "time" "I" ∈ xTs := xTs_in (tk5 (List.mem_of_getElem? (i := 205) (by decide +kernel))) rfl
theorem mw1048 : Cond.code ⟨"ZonedFabricModel", "turns", "(II)V"⟩ prog_14_method_55_code 3 none ∈ xTs := xTs_in (tk7 (List.mem_of_getElem? (i := 205) rfl)) rfl
theorem mw1049 : Cond.methodLink "ZonedFabricModel" 378 ⟨"ZonedFabricModel", "tellsPhase", "(I)V"⟩ ∈ xTs := xTs_in (tk7 (List.mem_of_getElem? (i := 206) (by decide +kernel))) rfl
theorem mw1050 : Cond.instanceMethod ⟨"ZonedFabricModel", "tellsPhase", "(I)V"⟩ ∈ xTs := xTs_in (tk7 (List.mem_of_getElem? (i := 208) (by decide +kernel))) rfl
theorem mw1051 : Cond.selects "ZonedFabricModel" ⟨"ZonedFabricModel", "tellsPhase", "(I)V"⟩ ⟨"ZonedFabricModel", "tellsPhase", "(I)V"⟩ ∈ xTs := xTs_in (List.mem_append_left _ (List.mem_of_getElem? (i := 122) (by decide +kernel))) rfl
theorem mw1052 : Cond.code ⟨"ZonedFabricModel", "commandTimer", "(I)V"⟩ prog_14_method_53_code 2 none ∈ xTs := xTs_in (tk7 (List.mem_of_getElem? (i := 225) rfl)) rfl
theorem mw1053 : Cond.methodLink "ZonedFabricModel" 373 ⟨"ZonedFabricModel", "ends", "(II)V"⟩ ∈ xTs := xTs_in (tk7 (List.mem_of_getElem? (i := 214) (by decide +kernel))) rfl
theorem mw1054 : Cond.instanceMethod ⟨"ZonedFabricModel", "ends", "(II)V"⟩ ∈ xTs := xTs_in (tk7 (List.mem_of_getElem? (i := 216) (by decide +kernel))) rfl
theorem mw1055 : Cond.selects "ZonedFabricModel" ⟨"ZonedFabricModel", "ends", "(II)V"⟩ ⟨"ZonedFabricModel", "ends", "(II)V"⟩ ∈ xTs := xTs_in (List.mem_append_left _ (List.mem_of_getElem? (i := 124) (by decide +kernel))) rfl
theorem mw1056 : Cond.methodLink "ZonedFabricModel" 375 ⟨"ZonedFabricModel", "turns", "(II)V"⟩ ∈ xTs := xTs_in (tk7 (List.mem_of_getElem? (i := 202) (by decide +kernel))) rfl
theorem mw1057 : Cond.instanceMethod ⟨"ZonedFabricModel", "turns", "(II)V"⟩ ∈ xTs := xTs_in (tk7 (List.mem_of_getElem? (i := 204) (by decide +kernel))) rfl
theorem mw1058 : Cond.selects "ZonedFabricModel" ⟨"ZonedFabricModel", "turns", "(II)V"⟩ ⟨"ZonedFabricModel", "turns", "(II)V"⟩ ∈ xTs := xTs_in (List.mem_append_left _ (List.mem_of_getElem? (i := 121) (by decide +kernel))) rfl
theorem mw1059 : Cond.code ⟨"ZonedFabricModel", "nodeTimers", "(I)V"⟩ prog_14_method_52_code 4 none ∈ xTs := xTs_in (tk7 (List.mem_of_getElem? (i := 221) rfl)) rfl
theorem mw1060 : Cond.constant "ZonedFabricModel" 300 (16777214) ∈ xTs := xTs_in (tk7 (List.mem_of_getElem? (i := 25) (by decide +kernel))) rfl
theorem mw1061 : Cond.fieldLink "ZonedFabricModel" 364 "ZonedFabricModel" "commands" "I" ∈ xTs := xTs_in (tk6 (List.mem_of_getElem? (i := 9) (by decide +kernel))) rfl
theorem mw1062 : Cond.methodLink "ZonedFabricModel" 367 ⟨"ZonedFabricModel", "commandTimer", "(I)V"⟩ ∈ xTs := xTs_in (tk7 (List.mem_of_getElem? (i := 222) (by decide +kernel))) rfl
theorem mw1063 : Cond.instanceMethod ⟨"ZonedFabricModel", "commandTimer", "(I)V"⟩ ∈ xTs := xTs_in (tk7 (List.mem_of_getElem? (i := 224) (by decide +kernel))) rfl
theorem mw1064 : Cond.selects "ZonedFabricModel" ⟨"ZonedFabricModel", "commandTimer", "(I)V"⟩ ⟨"ZonedFabricModel", "commandTimer", "(I)V"⟩ ∈ xTs := xTs_in (List.mem_append_left _ (List.mem_of_getElem? (i := 126) (by decide +kernel))) rfl
theorem mw1065 : Cond.methodLink "ZonedFabricModel" 370 ⟨"ZonedFabricModel", "closesOpen", "(II)V"⟩ ∈ xTs := xTs_in (tk7 (List.mem_of_getElem? (i := 194) (by decide +kernel))) rfl
theorem mw1066 : Cond.instanceMethod ⟨"ZonedFabricModel", "closesOpen", "(II)V"⟩ ∈ xTs := xTs_in (tk7 (List.mem_of_getElem? (i := 196) (by decide +kernel))) rfl
theorem mw1067 : Cond.selects "ZonedFabricModel" ⟨"ZonedFabricModel", "closesOpen", "(II)V"⟩ ⟨"ZonedFabricModel", "closesOpen", "(II)V"⟩ ∈ xTs := xTs_in (List.mem_append_left _ (List.mem_of_getElem? (i := 119) (by decide +kernel))) rfl
/-! ZFModel.wayTo(II)I -/
def ym196 : MethodName := ⟨"ZonedFabricModel", "wayTo", "(II)I"⟩
theorem cd196 : xCd ym196 prog_14_method_33_code 8 (some FieldType.int) 2 := ⟨mw1011, mw864, by decide, by decide, by decide +kernel⟩
def b196_0 (a0 : Nat) (v1 : Int32) (v2 : Int32) (M : hM) : Option xRes :=
  Option.bind (g_r M 12 27 (some a0)) fun o_1 =>
  Option.bind (al_i M 22 o_1 (((5 : Int32) * v1) + v1)) fun v_3 =>
  if v_3 = 0 then
    (some (.inl (some (.inl (-1 : Int32)), M)))
  else
    (some (.inr (25, [.inr (.inr (some a0)), .inl v1, .inl v2, .inl (1000000 : Int32), .inl (-1 : Int32), .inl (0 : Int32)], M)))
def b196_123 (a0 : Nat) (v1 : Int32) (v2 : Int32) (v3 : Int32) (v4 : Int32) (v5 : Int32) (M : hM) : Option xRes :=
  some (.inr (25, [.inr (.inr (some a0)), .inl v1, .inl v2, .inl v3, .inl v4, .inl (v5 + (1 : Int32))], M))
def b196_25 (a0 : Nat) (v1 : Int32) (v2 : Int32) (v3 : Int32) (v4 : Int32) (v5 : Int32) (M : hM) : Option xRes :=
  Option.bind (g_o M 12 (some a0)) fun b_8 =>
  Option.bind (c_I (f190 [.inr (.inr (some b_8)), .inl v1, .inl v1, .inl (5 : Int32)] M)) fun q_6 =>
  if q_6.1 ≤ v5 then
    (some (.inl (some (.inl v4), q_6.2)))
  else
    (Option.bind (g_o q_6.2 12 (some a0)) fun b_12 =>
    Option.bind (c_I (f190 [.inr (.inr (some b_12)), .inl v1, .inl v1, .inl ((7 : Int32) + ((3 : Int32) * v5))] q_6.2)) fun q_10 =>
    if q_10.1 = v1 then
      (b196_123 a0 v1 v2 v3 v4 v5 q_10.2)
    else
      (Option.bind (g_o q_10.2 12 (some a0)) fun b_16 =>
      Option.bind (c_I (f194 [.inr (.inr (some b_16)), .inl v1, .inl v1, .inl q_10.1] q_10.2)) fun q_14 =>
      if q_14.1 = 0 then
        (b196_123 a0 v1 v2 v3 v4 v5 q_14.2)
      else
        (Option.bind (g_o q_14.2 12 (some a0)) fun b_20 =>
        Option.bind (c_I (f190 [.inr (.inr (some b_20)), .inl v1, .inl v1, .inl ((8 : Int32) + ((3 : Int32) * v5))] q_14.2)) fun q_18 =>
        Option.bind (g_r q_18.2 12 32 (some a0)) fun o_22 =>
        Option.bind (al_i q_18.2 20 o_22 (((5 : Int32) * q_10.1) + v2)) fun v_24 =>
        if v3 ≤ (q_18.1 + v_24) then
          (b196_123 a0 v1 v2 v3 v4 v5 q_18.2)
        else
          (Option.bind (g_o q_18.2 12 (some a0)) fun b_28 =>
          Option.bind (c_I (f190 [.inr (.inr (some b_28)), .inl v1, .inl v1, .inl ((6 : Int32) + ((3 : Int32) * v5))] q_18.2)) fun q_26 =>
          b196_123 a0 v1 v2 (q_18.1 + v_24) q_26.1 v5 q_26.2))))
def k196 (h : Nat) (as : List aV) (M : hM) : Option xRes :=
  if h = 25 then (match as with | [.inr (.inr (some a0)), .inl v1, .inl v2, .inl v3, .inl v4, .inl v5] => b196_25 a0 v1 v2 v3 v4 v5 M | _ => none) else
  none
def f196 (as : List aV) (M : hM) : xO := match as with
  | [.inr (.inr (some a0)), .inl v1, .inl v2] => x_go k196 (b196_0 a0 v1 v2 M)
  | _ => none
theorem lb196_0 (G : gX) (l : Launch) (a0 : Nat) (v1 : Int32) (v2 : Int32) (M : hM) {res : xRes} (h : b196_0 a0 v1 v2 M = some res) : h_sz M ≤ r_sz res ∧ h_sl M ≤ r_sl res := by
  unfold b196_0 at h
  obtain ⟨o_1, h2, h⟩ := bd h
  obtain ⟨v_3, h4, h⟩ := bd h
  by_cases q5 : v_3 = 0
  · rw [if_pos q5] at h
    obtain rfl := Option.some.inj h
    show h_sz M ≤ h_sz M ∧ h_sl M ≤ h_sl M
    omega
  · rw [if_neg q5] at h
    obtain rfl := Option.some.inj h
    show h_sz M ≤ h_sz M ∧ h_sl M ≤ h_sl M
    omega
theorem lb196_123 (G : gX) (l : Launch) (a0 : Nat) (v1 : Int32) (v2 : Int32) (v3 : Int32) (v4 : Int32) (v5 : Int32) (M : hM) {res : xRes} (h : b196_123 a0 v1 v2 v3 v4 v5 M = some res) : h_sz M ≤ r_sz res ∧ h_sl M ≤ r_sl res := by
  unfold b196_123 at h
  obtain rfl := Option.some.inj h
  show h_sz M ≤ h_sz M ∧ h_sl M ≤ h_sl M
  omega
theorem lb196_25 (G : gX) (l : Launch) (a0 : Nat) (v1 : Int32) (v2 : Int32) (v3 : Int32) (v4 : Int32) (v5 : Int32) (M : hM) {res : xRes} (h : b196_25 a0 v1 v2 v3 v4 v5 M = some res) : h_sz M ≤ r_sz res ∧ h_sl M ≤ r_sl res := by
  unfold b196_25 at h
  obtain ⟨b_8, h9, h⟩ := bd h
  obtain ⟨q_6, h7, h⟩ := bd h
  have eh7 := (t190 G l (c_I_some h7)).1
  by_cases q33 : q_6.1 ≤ v5
  · rw [if_pos q33] at h
    obtain rfl := Option.some.inj h
    show h_sz M ≤ h_sz q_6.2 ∧ h_sl M ≤ h_sl q_6.2
    omega
  · rw [if_neg q33] at h
    obtain ⟨b_12, h13, h⟩ := bd h
    obtain ⟨q_10, h11, h⟩ := bd h
    have eh11 := (t190 G l (c_I_some h11)).1
    by_cases q32 : q_10.1 = v1
    · rw [if_pos q32] at h
      have e := lb196_123 G l a0 v1 v2 v3 v4 v5 q_10.2 h
      omega
    · rw [if_neg q32] at h
      obtain ⟨b_16, h17, h⟩ := bd h
      obtain ⟨q_14, h15, h⟩ := bd h
      have eh15 := (t194 G l (c_I_some h15)).1
      by_cases q31 : q_14.1 = 0
      · rw [if_pos q31] at h
        have e := lb196_123 G l a0 v1 v2 v3 v4 v5 q_14.2 h
        omega
      · rw [if_neg q31] at h
        obtain ⟨b_20, h21, h⟩ := bd h
        obtain ⟨q_18, h19, h⟩ := bd h
        have eh19 := (t190 G l (c_I_some h19)).1
        obtain ⟨o_22, h23, h⟩ := bd h
        obtain ⟨v_24, h25, h⟩ := bd h
        by_cases q30 : v3 ≤ (q_18.1 + v_24)
        · rw [if_pos q30] at h
          have e := lb196_123 G l a0 v1 v2 v3 v4 v5 q_18.2 h
          omega
        · rw [if_neg q30] at h
          obtain ⟨b_28, h29, h⟩ := bd h
          obtain ⟨q_26, h27, h⟩ := bd h
          have eh27 := (t190 G l (c_I_some h27)).1
          have e := lb196_123 G l a0 v1 v2 (q_18.1 + v_24) q_26.1 v5 q_26.2 h
          omega
section
variable {p : Program} {l : Launch} {e : Env} {s : State} {m : MethodId} {args : Array Value} {below : List Frame} {meth : Method} {c : Code} {G : gX} {z0 y0 : Nat} {r : Option aV} {M' : hM}
def pg196 (p : Program) (l : Launch) (e : Env) (s : State) (m : MethodId) (args : Array Value) (below : List Frame) (meth : Method) (c : Code) (G : gX) (z0 y0 : Nat) (r : Option aV) (M' : hM) (h : Nat) (as : List aV) (M : hM) : Prop :=
  if h = 25 then (match as with | [.inr (.inr (some a0)), .inl v1, .inl v2, .inl v3, .inl v4, .inl v5] => xV G p l e (xRm 3 (h_sz M' - z0) (h_sl M' - y0)) s m args below meth c z0 y0 (h_sz M') (h_sl M') 8 (MQ below (xQc G r M') args s (h_sz M' - z0) (h_sl M' - y0) (xFr G)) 25 [(0, .inr (.inr (some a0))), (1, .inl v1), (2, .inl v2), (3, .inl v3), (4, .inl v4), (5, .inl v5)] [] M | _ => False) else
  False
theorem sb196_0 (E : xE G p (xRm 3 (h_sz M' - z0) (h_sl M' - y0)) s m args c prog_14_method_33_code "ZonedFabricModel" z0 y0 (h_sz M') (h_sl M') 8) (B : xB ym196 (some FieldType.int) meth) (a0 : Nat) (v1 : Int32) (v2 : Int32) (M : hM) {res : xRes} (h : b196_0 a0 v1 v2 M = some res) (hN : xN (pg196 p l e s m args below meth c G z0 y0 r M') r M' res) : xV G p l e (xRm 3 (h_sz M' - z0) (h_sl M' - y0)) s m args below meth c z0 y0 (h_sz M') (h_sl M') 8 (MQ below (xQc G r M') args s (h_sz M' - z0) (h_sl M' - y0) (xFr G)) 0 [(0, .inr (.inr (some a0))), (1, .inl v1), (2, .inl v2)] [] M := by
  unfold b196_0 at h
  refine xv_ldc E (1000000 : Int32) mw1001 (show decode prog_14_method_33_code 0 = .ok (.ldc 244, 2) by decide +kernel) ?_
  refine xv_b E [.istore_n 3, .iconst (-1), .istore 4, .aload_n 0] (pc' := 7) (lv' := [(4, .inl (-1 : Int32)), (3, .inl (1000000 : Int32)), (0, .inr (.inr (some a0))), (1, .inl v1), (2, .inl v2)]) (st' := [.inr (.inr (some a0))]) (by decide +kernel) rfl rfl ?_
  obtain ⟨o_1, h2, h⟩ := bd h
  refine xg_r E 12 27 h2 mw887 (show decode prog_14_method_33_code 7 = .ok (.getfield 76, 3) by decide +kernel) ?_
  refine xv_b E [.iconst 5, .iload_n 1, .imul, .iload_n 1, .iadd] (pc' := 15) (lv' := [(4, .inl (-1 : Int32)), (3, .inl (1000000 : Int32)), (0, .inr (.inr (some a0))), (1, .inl v1), (2, .inl v2)]) (st' := [.inl (((5 : Int32) * v1) + v1), .inr (.inr o_1)]) (by decide +kernel) rfl rfl ?_
  obtain ⟨v_3, h4, h⟩ := bd h
  refine xa_z E h4 (show decode prog_14_method_33_code 15 = .ok (.baload, 1) by decide +kernel) ?_
  by_cases q5 : v_3 = 0
  · rw [if_pos q5] at h
    refine xv_if_ne E 22 (show decode prog_14_method_33_code 16 = .ok (.ifCond .ne (6), 3) by decide +kernel) rfl (fun z => absurd q5 z) (fun _ => ?_)
    refine xv_b E [.iload 4] (pc' := 21) (lv' := [(4, .inl (-1 : Int32)), (3, .inl (1000000 : Int32)), (0, .inr (.inr (some a0))), (1, .inl v1), (2, .inl v2)]) (st' := [.inl (-1 : Int32)]) (by decide +kernel) rfl rfl ?_
    obtain rfl := Option.some.inj h
    obtain ⟨rfl, rfl⟩ := Prod.mk.inj (show ((some (.inl (-1 : Int32)) : Option aV), M) = (r, M') from hN)
    exact xv_ri E B.1 rfl B.2.1 (show decode prog_14_method_33_code 21 = .ok (.ireturn, 1) by decide +kernel) rfl rfl
  · rw [if_neg q5] at h
    refine xv_if_ne E 22 (show decode prog_14_method_33_code 16 = .ok (.ifCond .ne (6), 3) by decide +kernel) rfl (fun _ => ?_) (fun z => absurd z q5)
    refine xv_b E [.iconst 0, .istore 5] (pc' := 25) (lv' := [(5, .inl (0 : Int32)), (4, .inl (-1 : Int32)), (3, .inl (1000000 : Int32)), (0, .inr (.inr (some a0))), (1, .inl v1), (2, .inl v2)]) (st' := []) (by decide +kernel) rfl rfl ?_
    obtain rfl := Option.some.inj h
    exact xv_w hN rfl
theorem sb196_123 (E : xE G p (xRm 3 (h_sz M' - z0) (h_sl M' - y0)) s m args c prog_14_method_33_code "ZonedFabricModel" z0 y0 (h_sz M') (h_sl M') 8) (B : xB ym196 (some FieldType.int) meth) (a0 : Nat) (v1 : Int32) (v2 : Int32) (v3 : Int32) (v4 : Int32) (v5 : Int32) (M : hM) {res : xRes} (h : b196_123 a0 v1 v2 v3 v4 v5 M = some res) (hN : xN (pg196 p l e s m args below meth c G z0 y0 r M') r M' res) : xV G p l e (xRm 3 (h_sz M' - z0) (h_sl M' - y0)) s m args below meth c z0 y0 (h_sz M') (h_sl M') 8 (MQ below (xQc G r M') args s (h_sz M' - z0) (h_sl M' - y0) (xFr G)) 123 [(0, .inr (.inr (some a0))), (1, .inl v1), (2, .inl v2), (3, .inl v3), (4, .inl v4), (5, .inl v5)] [] M := by
  unfold b196_123 at h
  refine xv_b E [.iinc 5 1] (pc' := 126) (lv' := [(5, .inl (v5 + (1 : Int32))), (0, .inr (.inr (some a0))), (1, .inl v1), (2, .inl v2), (3, .inl v3), (4, .inl v4)]) (st' := []) (by decide +kernel) rfl rfl ?_
  refine xv_goto E 25 (show decode prog_14_method_33_code 126 = .ok (.goto (-101), 3) by decide +kernel) rfl ?_
  obtain rfl := Option.some.inj h
  exact xv_w hN rfl
theorem sb196_25 (E : xE G p (xRm 3 (h_sz M' - z0) (h_sl M' - y0)) s m args c prog_14_method_33_code "ZonedFabricModel" z0 y0 (h_sz M') (h_sl M') 8) (B : xB ym196 (some FieldType.int) meth) (a0 : Nat) (v1 : Int32) (v2 : Int32) (v3 : Int32) (v4 : Int32) (v5 : Int32) (M : hM) {res : xRes} (h : b196_25 a0 v1 v2 v3 v4 v5 M = some res) (hN : xN (pg196 p l e s m args below meth c G z0 y0 r M') r M' res) : xV G p l e (xRm 3 (h_sz M' - z0) (h_sl M' - y0)) s m args below meth c z0 y0 (h_sz M') (h_sl M') 8 (MQ below (xQc G r M') args s (h_sz M' - z0) (h_sl M' - y0) (xFr G)) 25 [(0, .inr (.inr (some a0))), (1, .inl v1), (2, .inl v2), (3, .inl v3), (4, .inl v4), (5, .inl v5)] [] M := by
  unfold b196_25 at h
  refine xv_b E [.iload 5, .aload_n 0, .iload_n 1, .iload_n 1, .iconst 5] (pc' := 31) (lv' := [(0, .inr (.inr (some a0))), (1, .inl v1), (2, .inl v2), (3, .inl v3), (4, .inl v4), (5, .inl v5)]) (st' := [.inl (5 : Int32), .inl v1, .inl v1, .inr (.inr (some a0)), .inl v5]) (by decide +kernel) rfl rfl ?_
  obtain ⟨b_8, h9, h⟩ := bd h
  obtain ⟨eh9, th9⟩ := g_o_some h9
  obtain ⟨q_6, h7, h⟩ := bd h
  refine xv_cvo E eh9 12 (as := [.inl v1, .inl v1, .inl (5 : Int32)]) (t190 G l (c_I_some h7)) cd190 mw996 mw997 mw998 (show decode prog_14_method_33_code 31 = .ok (.invokevirtual 241, 3) by decide +kernel) th9 rfl rfl (Nat.le_of_ble_eq_true rfl) ⟨Nat.le_of_ble_eq_true rfl, Nat.le_of_ble_eq_true rfl⟩ ?_
  by_cases q33 : q_6.1 ≤ v5
  · rw [if_pos q33] at h
    refine xv_icmp_ge E 129 (show decode prog_14_method_33_code 34 = .ok (.if_icmp .ge (95), 3) by decide +kernel) rfl (fun _ => ?_) (fun z => absurd q33 z)
    refine xv_b E [.iload 4] (pc' := 131) (lv' := [(0, .inr (.inr (some a0))), (1, .inl v1), (2, .inl v2), (3, .inl v3), (4, .inl v4), (5, .inl v5)]) (st' := [.inl v4]) (by decide +kernel) rfl rfl ?_
    obtain rfl := Option.some.inj h
    obtain ⟨rfl, rfl⟩ := Prod.mk.inj (show ((some (.inl v4) : Option aV), q_6.2) = (r, M') from hN)
    exact xv_ri E B.1 rfl B.2.1 (show decode prog_14_method_33_code 131 = .ok (.ireturn, 1) by decide +kernel) rfl rfl
  · rw [if_neg q33] at h
    refine xv_icmp_ge E 129 (show decode prog_14_method_33_code 34 = .ok (.if_icmp .ge (95), 3) by decide +kernel) rfl (fun z => absurd z q33) (fun _ => ?_)
    refine xv_b E [.aload_n 0, .iload_n 1, .iload_n 1, .bipush 7, .iconst 3, .iload 5, .imul, .iadd] (pc' := 47) (lv' := [(0, .inr (.inr (some a0))), (1, .inl v1), (2, .inl v2), (3, .inl v3), (4, .inl v4), (5, .inl v5)]) (st' := [.inl ((7 : Int32) + ((3 : Int32) * v5)), .inl v1, .inl v1, .inr (.inr (some a0))]) (by decide +kernel) rfl rfl ?_
    obtain ⟨b_12, h13, h⟩ := bd h
    obtain ⟨eh13, th13⟩ := g_o_some h13
    obtain ⟨q_10, h11, h⟩ := bd h
    refine xv_cvo E eh13 12 (as := [.inl v1, .inl v1, .inl ((7 : Int32) + ((3 : Int32) * v5))]) (t190 G l (c_I_some h11)) cd190 mw996 mw997 mw998 (show decode prog_14_method_33_code 47 = .ok (.invokevirtual 241, 3) by decide +kernel) th13 rfl rfl (Nat.le_of_ble_eq_true rfl) ⟨Nat.le_of_ble_eq_true rfl, Nat.le_of_ble_eq_true rfl⟩ ?_
    refine xv_b E [.istore 6, .iload 6, .iload_n 1] (pc' := 55) (lv' := [(6, .inl q_10.1), (0, .inr (.inr (some a0))), (1, .inl v1), (2, .inl v2), (3, .inl v3), (4, .inl v4), (5, .inl v5)]) (st' := [.inl v1, .inl q_10.1]) (by decide +kernel) rfl rfl ?_
    by_cases q32 : q_10.1 = v1
    · rw [if_pos q32] at h
      refine xv_icmp_eq E 123 (show decode prog_14_method_33_code 55 = .ok (.if_icmp .eq (68), 3) by decide +kernel) rfl (fun _ => ?_) (fun z => absurd q32 z)
      exact xv_w (sb196_123 E B a0 v1 v2 v3 v4 v5 q_10.2 h hN) rfl
    · rw [if_neg q32] at h
      refine xv_icmp_eq E 123 (show decode prog_14_method_33_code 55 = .ok (.if_icmp .eq (68), 3) by decide +kernel) rfl (fun z => absurd z q32) (fun _ => ?_)
      refine xv_b E [.aload_n 0, .iload_n 1, .iload_n 1, .iload 6] (pc' := 63) (lv' := [(6, .inl q_10.1), (0, .inr (.inr (some a0))), (1, .inl v1), (2, .inl v2), (3, .inl v3), (4, .inl v4), (5, .inl v5)]) (st' := [.inl q_10.1, .inl v1, .inl v1, .inr (.inr (some a0))]) (by decide +kernel) rfl rfl ?_
      obtain ⟨b_16, h17, h⟩ := bd h
      obtain ⟨eh17, th17⟩ := g_o_some h17
      obtain ⟨q_14, h15, h⟩ := bd h
      refine xv_cvo E eh17 12 (as := [.inl v1, .inl v1, .inl q_10.1]) (t194 G l (c_I_some h15)) cd194 mw1007 mw1008 mw1009 (show decode prog_14_method_33_code 63 = .ok (.invokevirtual 248, 3) by decide +kernel) th17 rfl rfl (Nat.le_of_ble_eq_true rfl) ⟨Nat.le_of_ble_eq_true rfl, Nat.le_of_ble_eq_true rfl⟩ ?_
      by_cases q31 : q_14.1 = 0
      · rw [if_pos q31] at h
        refine xv_if_ne E 72 (show decode prog_14_method_33_code 66 = .ok (.ifCond .ne (6), 3) by decide +kernel) rfl (fun z => absurd q31 z) (fun _ => ?_)
        refine xv_goto E 123 (show decode prog_14_method_33_code 69 = .ok (.goto (54), 3) by decide +kernel) rfl ?_
        exact xv_w (sb196_123 E B a0 v1 v2 v3 v4 v5 q_14.2 h hN) rfl
      · rw [if_neg q31] at h
        refine xv_if_ne E 72 (show decode prog_14_method_33_code 66 = .ok (.ifCond .ne (6), 3) by decide +kernel) rfl (fun _ => ?_) (fun z => absurd z q31)
        refine xv_b E [.aload_n 0, .iload_n 1, .iload_n 1, .bipush 8, .iconst 3, .iload 5, .imul, .iadd] (pc' := 82) (lv' := [(6, .inl q_10.1), (0, .inr (.inr (some a0))), (1, .inl v1), (2, .inl v2), (3, .inl v3), (4, .inl v4), (5, .inl v5)]) (st' := [.inl ((8 : Int32) + ((3 : Int32) * v5)), .inl v1, .inl v1, .inr (.inr (some a0))]) (by decide +kernel) rfl rfl ?_
        obtain ⟨b_20, h21, h⟩ := bd h
        obtain ⟨eh21, th21⟩ := g_o_some h21
        obtain ⟨q_18, h19, h⟩ := bd h
        refine xv_cvo E eh21 12 (as := [.inl v1, .inl v1, .inl ((8 : Int32) + ((3 : Int32) * v5))]) (t190 G l (c_I_some h19)) cd190 mw996 mw997 mw998 (show decode prog_14_method_33_code 82 = .ok (.invokevirtual 241, 3) by decide +kernel) th21 rfl rfl (Nat.le_of_ble_eq_true rfl) ⟨Nat.le_of_ble_eq_true rfl, Nat.le_of_ble_eq_true rfl⟩ ?_
        refine xv_b E [.aload_n 0] (pc' := 86) (lv' := [(6, .inl q_10.1), (0, .inr (.inr (some a0))), (1, .inl v1), (2, .inl v2), (3, .inl v3), (4, .inl v4), (5, .inl v5)]) (st' := [.inr (.inr (some a0)), .inl q_18.1]) (by decide +kernel) rfl rfl ?_
        obtain ⟨o_22, h23, h⟩ := bd h
        refine xg_r E 12 32 h23 mw892 (show decode prog_14_method_33_code 86 = .ok (.getfield 91, 3) by decide +kernel) ?_
        refine xv_b E [.iconst 5, .iload 6, .imul, .iload_n 2, .iadd] (pc' := 95) (lv' := [(6, .inl q_10.1), (0, .inr (.inr (some a0))), (1, .inl v1), (2, .inl v2), (3, .inl v3), (4, .inl v4), (5, .inl v5)]) (st' := [.inl (((5 : Int32) * q_10.1) + v2), .inr (.inr o_22), .inl q_18.1]) (by decide +kernel) rfl rfl ?_
        obtain ⟨v_24, h25, h⟩ := bd h
        refine xa_i E h25 (show decode prog_14_method_33_code 95 = .ok (.iaload, 1) by decide +kernel) ?_
        refine xv_b E [.iadd, .istore 7, .iload 7, .iload_n 3] (pc' := 102) (lv' := [(7, .inl (q_18.1 + v_24)), (6, .inl q_10.1), (0, .inr (.inr (some a0))), (1, .inl v1), (2, .inl v2), (3, .inl v3), (4, .inl v4), (5, .inl v5)]) (st' := [.inl v3, .inl (q_18.1 + v_24)]) (by decide +kernel) rfl rfl ?_
        by_cases q30 : v3 ≤ (q_18.1 + v_24)
        · rw [if_pos q30] at h
          refine xv_icmp_ge E 123 (show decode prog_14_method_33_code 102 = .ok (.if_icmp .ge (21), 3) by decide +kernel) rfl (fun _ => ?_) (fun z => absurd q30 z)
          exact xv_w (sb196_123 E B a0 v1 v2 v3 v4 v5 q_18.2 h hN) rfl
        · rw [if_neg q30] at h
          refine xv_icmp_ge E 123 (show decode prog_14_method_33_code 102 = .ok (.if_icmp .ge (21), 3) by decide +kernel) rfl (fun z => absurd z q30) (fun _ => ?_)
          refine xv_b E [.iload 7, .istore_n 3, .aload_n 0, .iload_n 1, .iload_n 1, .bipush 6, .iconst 3, .iload 5, .imul, .iadd] (pc' := 118) (lv' := [(3, .inl (q_18.1 + v_24)), (7, .inl (q_18.1 + v_24)), (6, .inl q_10.1), (0, .inr (.inr (some a0))), (1, .inl v1), (2, .inl v2), (4, .inl v4), (5, .inl v5)]) (st' := [.inl ((6 : Int32) + ((3 : Int32) * v5)), .inl v1, .inl v1, .inr (.inr (some a0))]) (by decide +kernel) rfl rfl ?_
          obtain ⟨b_28, h29, h⟩ := bd h
          obtain ⟨eh29, th29⟩ := g_o_some h29
          obtain ⟨q_26, h27, h⟩ := bd h
          refine xv_cvo E eh29 12 (as := [.inl v1, .inl v1, .inl ((6 : Int32) + ((3 : Int32) * v5))]) (t190 G l (c_I_some h27)) cd190 mw996 mw997 mw998 (show decode prog_14_method_33_code 118 = .ok (.invokevirtual 241, 3) by decide +kernel) th29 rfl rfl (Nat.le_of_ble_eq_true rfl) ⟨Nat.le_of_ble_eq_true rfl, Nat.le_of_ble_eq_true rfl⟩ ?_
          refine xv_b E [.istore 4] (pc' := 123) (lv' := [(4, .inl q_26.1), (3, .inl (q_18.1 + v_24)), (7, .inl (q_18.1 + v_24)), (6, .inl q_10.1), (0, .inr (.inr (some a0))), (1, .inl v1), (2, .inl v2), (5, .inl v5)]) (st' := []) (by decide +kernel) rfl rfl ?_
          exact xv_w (sb196_123 E B a0 v1 v2 (q_18.1 + v_24) q_26.1 v5 q_26.2 h hN) rfl
end
theorem t196 (G : gX) (l : Launch) {as : List aV} {M : hM} {r : Option aV} {M' : hM} (h : f196 as M = some (r, M')) : xM G l ym196 prog_14_method_33_code 8 (some FieldType.int) 3 as M r M' := by
  unfold f196 at h
  split at h
  · have hle : ∀ h as M res, k196 h as M = some res → h_sz M ≤ r_sz res ∧ h_sl M ≤ r_sl res := by
      intro h as M res hb
      unfold k196 at hb
      by_cases e0 : h = 25
      · rw [if_pos e0] at hb
        split at hb
        · exact lb196_25 G l _ _ _ _ _ _ M hb
        · cases hb
      · rw [if_neg e0] at hb
        cases hb
    obtain ⟨res, hx, hres⟩ := x_go_ok h
    refine xM_of (by decide) (Nat.le_of_ble_eq_true rfl) ?_ ?_
    · have e1 := lb196_0 G l _ _ _ M hx
      have e2 := x_go_le hle hres
      omega
    · intro p e s m args below meth c E B
      refine sb196_0 E B _ _ _ M hx (hres _ ?_)
      intro h as M res hb hN
      unfold k196 at hb
      unfold pg196
      by_cases e0 : h = 25
      · rw [if_pos e0] at hb ⊢
        split at hb
        · exact sb196_25 E B _ _ _ _ _ _ M hb hN
        · cases hb
      · rw [if_neg e0] at hb ⊢
        cases hb
  · cases h
/-! ZFModel.isReached(II)Z -/
def ym197 : MethodName := ⟨"ZonedFabricModel", "isReached", "(II)Z"⟩
theorem cd197 : xCd ym197 prog_14_method_34_code 3 (some FieldType.boolean) 2 := ⟨mw1012, mw864, by decide, by decide, by decide +kernel⟩
def b197_20 (si0 : Int32) (M : hM) : Option xRes :=
  if si0 = 0 ∨ si0 = 1 then
    (some (.inl (some (.inl si0), M)))
  else
    none
def b197_15  (M : hM) : Option xRes :=
  b197_20 (1 : Int32) M
def b197_0 (a0 : Nat) (v1 : Int32) (v2 : Int32) (M : hM) : Option xRes :=
  if v2 = v1 then
    (b197_15  M)
  else
    (Option.bind (g_o M 12 (some a0)) fun b_3 =>
    Option.bind (c_I (f196 [.inr (.inr (some b_3)), .inl v1, .inl v2] M)) fun q_1 =>
    if q_1.1 = (-1 : Int32) then
      (b197_20 (0 : Int32) q_1.2)
    else
      (b197_15  q_1.2))
def f197 (as : List aV) (M : hM) : xO := match as with
  | [.inr (.inr (some a0)), .inl v1, .inl v2] => x_out (b197_0 a0 v1 v2 M)
  | _ => none
theorem lb197_20 (G : gX) (l : Launch) (si0 : Int32) (M : hM) {res : xRes} (h : b197_20 si0 M = some res) : h_sz M ≤ r_sz res ∧ h_sl M ≤ r_sl res := by
  unfold b197_20 at h
  by_cases q7 : si0 = 0 ∨ si0 = 1
  · rw [if_pos q7] at h
    obtain rfl := Option.some.inj h
    show h_sz M ≤ h_sz M ∧ h_sl M ≤ h_sl M
    omega
  · rw [if_neg q7] at h
    cases h
theorem lb197_15 (G : gX) (l : Launch)  (M : hM) {res : xRes} (h : b197_15  M = some res) : h_sz M ≤ r_sz res ∧ h_sl M ≤ r_sl res := by
  unfold b197_15 at h
  have e := lb197_20 G l (1 : Int32) M h
  omega
theorem lb197_0 (G : gX) (l : Launch) (a0 : Nat) (v1 : Int32) (v2 : Int32) (M : hM) {res : xRes} (h : b197_0 a0 v1 v2 M = some res) : h_sz M ≤ r_sz res ∧ h_sl M ≤ r_sl res := by
  unfold b197_0 at h
  by_cases q6 : v2 = v1
  · rw [if_pos q6] at h
    have e := lb197_15 G l  M h
    omega
  · rw [if_neg q6] at h
    obtain ⟨b_3, h4, h⟩ := bd h
    obtain ⟨q_1, h2, h⟩ := bd h
    have eh2 := (t196 G l (c_I_some h2)).1
    by_cases q5 : q_1.1 = (-1 : Int32)
    · rw [if_pos q5] at h
      have e := lb197_20 G l (0 : Int32) q_1.2 h
      omega
    · rw [if_neg q5] at h
      have e := lb197_15 G l  q_1.2 h
      omega
section
variable {p : Program} {l : Launch} {e : Env} {s : State} {m : MethodId} {args : Array Value} {below : List Frame} {meth : Method} {c : Code} {G : gX} {z0 y0 : Nat} {r : Option aV} {M' : hM}
theorem sb197_20 (E : xE G p (xRm 4 (h_sz M' - z0) (h_sl M' - y0)) s m args c prog_14_method_34_code "ZonedFabricModel" z0 y0 (h_sz M') (h_sl M') 3) (B : xB ym197 (some FieldType.boolean) meth) (si0 : Int32) (M : hM) {res : xRes} (h : b197_20 si0 M = some res) (hN : xN (fun _ _ _ => False) r M' res) : xV G p l e (xRm 4 (h_sz M' - z0) (h_sl M' - y0)) s m args below meth c z0 y0 (h_sz M') (h_sl M') 3 (MQ below (xQc G r M') args s (h_sz M' - z0) (h_sl M' - y0) (xFr G)) 20 [] [.inl si0] M := by
  unfold b197_20 at h
  by_cases q7 : si0 = 0 ∨ si0 = 1
  · rw [if_pos q7] at h
    obtain rfl := Option.some.inj h
    obtain ⟨rfl, rfl⟩ := Prod.mk.inj (show ((some (.inl si0) : Option aV), M) = (r, M') from hN)
    exact xv_ri E B.1 (by rcases q7 with z | z <;> rw [z] <;> rfl) B.2.1 (show decode prog_14_method_34_code 20 = .ok (.ireturn, 1) by decide +kernel) rfl rfl
  · rw [if_neg q7] at h
    cases h
theorem sb197_15 (E : xE G p (xRm 4 (h_sz M' - z0) (h_sl M' - y0)) s m args c prog_14_method_34_code "ZonedFabricModel" z0 y0 (h_sz M') (h_sl M') 3) (B : xB ym197 (some FieldType.boolean) meth)  (M : hM) {res : xRes} (h : b197_15  M = some res) (hN : xN (fun _ _ _ => False) r M' res) : xV G p l e (xRm 4 (h_sz M' - z0) (h_sl M' - y0)) s m args below meth c z0 y0 (h_sz M') (h_sl M') 3 (MQ below (xQc G r M') args s (h_sz M' - z0) (h_sl M' - y0) (xFr G)) 15 [] [] M := by
  unfold b197_15 at h
  refine xv_b E [.iconst 1] (pc' := 16) (lv' := []) (st' := [.inl (1 : Int32)]) (by decide +kernel) rfl rfl ?_
  refine xv_goto E 20 (show decode prog_14_method_34_code 16 = .ok (.goto (4), 3) by decide +kernel) rfl ?_
  exact xv_w (sb197_20 E B (1 : Int32) M h hN) rfl
theorem sb197_0 (E : xE G p (xRm 4 (h_sz M' - z0) (h_sl M' - y0)) s m args c prog_14_method_34_code "ZonedFabricModel" z0 y0 (h_sz M') (h_sl M') 3) (B : xB ym197 (some FieldType.boolean) meth) (a0 : Nat) (v1 : Int32) (v2 : Int32) (M : hM) {res : xRes} (h : b197_0 a0 v1 v2 M = some res) (hN : xN (fun _ _ _ => False) r M' res) : xV G p l e (xRm 4 (h_sz M' - z0) (h_sl M' - y0)) s m args below meth c z0 y0 (h_sz M') (h_sl M') 3 (MQ below (xQc G r M') args s (h_sz M' - z0) (h_sl M' - y0) (xFr G)) 0 [(0, .inr (.inr (some a0))), (1, .inl v1), (2, .inl v2)] [] M := by
  unfold b197_0 at h
  refine xv_b E [.iload_n 2, .iload_n 1] (pc' := 2) (lv' := [(0, .inr (.inr (some a0))), (1, .inl v1), (2, .inl v2)]) (st' := [.inl v1, .inl v2]) (by decide +kernel) rfl rfl ?_
  by_cases q6 : v2 = v1
  · rw [if_pos q6] at h
    refine xv_icmp_eq E 15 (show decode prog_14_method_34_code 2 = .ok (.if_icmp .eq (13), 3) by decide +kernel) rfl (fun _ => ?_) (fun z => absurd q6 z)
    exact xv_w (sb197_15 E B  M h hN) rfl
  · rw [if_neg q6] at h
    refine xv_icmp_eq E 15 (show decode prog_14_method_34_code 2 = .ok (.if_icmp .eq (13), 3) by decide +kernel) rfl (fun z => absurd z q6) (fun _ => ?_)
    refine xv_b E [.aload_n 0, .iload_n 1, .iload_n 2] (pc' := 8) (lv' := [(0, .inr (.inr (some a0))), (1, .inl v1), (2, .inl v2)]) (st' := [.inl v2, .inl v1, .inr (.inr (some a0))]) (by decide +kernel) rfl rfl ?_
    obtain ⟨b_3, h4, h⟩ := bd h
    obtain ⟨eh4, th4⟩ := g_o_some h4
    obtain ⟨q_1, h2, h⟩ := bd h
    refine xv_cvo E eh4 12 (as := [.inl v1, .inl v2]) (t196 G l (c_I_some h2)) cd196 mw1013 mw1014 mw1015 (show decode prog_14_method_34_code 8 = .ok (.invokevirtual 257, 3) by decide +kernel) th4 rfl rfl (Nat.le_of_ble_eq_true rfl) ⟨Nat.le_of_ble_eq_true rfl, Nat.le_of_ble_eq_true rfl⟩ ?_
    refine xv_b E [.iconst (-1)] (pc' := 12) (lv' := [(0, .inr (.inr (some a0))), (1, .inl v1), (2, .inl v2)]) (st' := [.inl (-1 : Int32), .inl q_1.1]) (by decide +kernel) rfl rfl ?_
    by_cases q5 : q_1.1 = (-1 : Int32)
    · rw [if_pos q5] at h
      refine xv_icmp_eq E 19 (show decode prog_14_method_34_code 12 = .ok (.if_icmp .eq (7), 3) by decide +kernel) rfl (fun _ => ?_) (fun z => absurd q5 z)
      refine xv_b E [.iconst 0] (pc' := 20) (lv' := [(0, .inr (.inr (some a0))), (1, .inl v1), (2, .inl v2)]) (st' := [.inl (0 : Int32)]) (by decide +kernel) rfl rfl ?_
      exact xv_w (sb197_20 E B (0 : Int32) q_1.2 h hN) rfl
    · rw [if_neg q5] at h
      refine xv_icmp_eq E 19 (show decode prog_14_method_34_code 12 = .ok (.if_icmp .eq (7), 3) by decide +kernel) rfl (fun z => absurd z q5) (fun _ => ?_)
      exact xv_w (sb197_15 E B  q_1.2 h hN) rfl
end
theorem t197 (G : gX) (l : Launch) {as : List aV} {M : hM} {r : Option aV} {M' : hM} (h : f197 as M = some (r, M')) : xM G l ym197 prog_14_method_34_code 3 (some FieldType.boolean) 4 as M r M' := by
  unfold f197 at h
  split at h
  · have h := x_out_ok h
    refine xM_of (by decide) (Nat.le_of_ble_eq_true rfl) (lb197_0 G l _ _ _ M h) ?_
    intro p e s m args below meth c E B
    exact sb197_0 E B _ _ _ M h rfl
  · cases h
/-! ZFModel.domainOf(II)I -/
def ym198 : MethodName := ⟨"ZonedFabricModel", "domainOf", "(II)I"⟩
theorem cd198 : xCd ym198 prog_14_method_35_code 3 (some FieldType.int) 2 := ⟨mw1016, mw864, by decide, by decide, by decide +kernel⟩
def b198_24 (si0 : Int32) (M : hM) : Option xRes :=
  some (.inl (some (.inl si0), M))
def b198_0 (a0 : Nat) (v1 : Int32) (v2 : Int32) (M : hM) : Option xRes :=
  Option.bind (g_r M 12 27 (some a0)) fun o_1 =>
  Option.bind (al_i M 22 o_1 (((5 : Int32) * v1) + v2)) fun v_3 =>
  if v_3 = 0 then
    (b198_24 (-1 : Int32) M)
  else
    (Option.bind (g_o M 12 (some a0)) fun b_7 =>
    Option.bind (c_I (f190 [.inr (.inr (some b_7)), .inl v1, .inl v2, .inl (4 : Int32)] M)) fun q_5 =>
    b198_24 q_5.1 q_5.2)
def f198 (as : List aV) (M : hM) : xO := match as with
  | [.inr (.inr (some a0)), .inl v1, .inl v2] => x_out (b198_0 a0 v1 v2 M)
  | _ => none
theorem lb198_24 (G : gX) (l : Launch) (si0 : Int32) (M : hM) {res : xRes} (h : b198_24 si0 M = some res) : h_sz M ≤ r_sz res ∧ h_sl M ≤ r_sl res := by
  unfold b198_24 at h
  obtain rfl := Option.some.inj h
  show h_sz M ≤ h_sz M ∧ h_sl M ≤ h_sl M
  omega
theorem lb198_0 (G : gX) (l : Launch) (a0 : Nat) (v1 : Int32) (v2 : Int32) (M : hM) {res : xRes} (h : b198_0 a0 v1 v2 M = some res) : h_sz M ≤ r_sz res ∧ h_sl M ≤ r_sl res := by
  unfold b198_0 at h
  obtain ⟨o_1, h2, h⟩ := bd h
  obtain ⟨v_3, h4, h⟩ := bd h
  by_cases q9 : v_3 = 0
  · rw [if_pos q9] at h
    have e := lb198_24 G l (-1 : Int32) M h
    omega
  · rw [if_neg q9] at h
    obtain ⟨b_7, h8, h⟩ := bd h
    obtain ⟨q_5, h6, h⟩ := bd h
    have eh6 := (t190 G l (c_I_some h6)).1
    have e := lb198_24 G l q_5.1 q_5.2 h
    omega
section
variable {p : Program} {l : Launch} {e : Env} {s : State} {m : MethodId} {args : Array Value} {below : List Frame} {meth : Method} {c : Code} {G : gX} {z0 y0 : Nat} {r : Option aV} {M' : hM}
theorem sb198_24 (E : xE G p (xRm 1 (h_sz M' - z0) (h_sl M' - y0)) s m args c prog_14_method_35_code "ZonedFabricModel" z0 y0 (h_sz M') (h_sl M') 3) (B : xB ym198 (some FieldType.int) meth) (si0 : Int32) (M : hM) {res : xRes} (h : b198_24 si0 M = some res) (hN : xN (fun _ _ _ => False) r M' res) : xV G p l e (xRm 1 (h_sz M' - z0) (h_sl M' - y0)) s m args below meth c z0 y0 (h_sz M') (h_sl M') 3 (MQ below (xQc G r M') args s (h_sz M' - z0) (h_sl M' - y0) (xFr G)) 24 [] [.inl si0] M := by
  unfold b198_24 at h
  obtain rfl := Option.some.inj h
  obtain ⟨rfl, rfl⟩ := Prod.mk.inj (show ((some (.inl si0) : Option aV), M) = (r, M') from hN)
  exact xv_ri E B.1 rfl B.2.1 (show decode prog_14_method_35_code 24 = .ok (.ireturn, 1) by decide +kernel) rfl rfl
theorem sb198_0 (E : xE G p (xRm 1 (h_sz M' - z0) (h_sl M' - y0)) s m args c prog_14_method_35_code "ZonedFabricModel" z0 y0 (h_sz M') (h_sl M') 3) (B : xB ym198 (some FieldType.int) meth) (a0 : Nat) (v1 : Int32) (v2 : Int32) (M : hM) {res : xRes} (h : b198_0 a0 v1 v2 M = some res) (hN : xN (fun _ _ _ => False) r M' res) : xV G p l e (xRm 1 (h_sz M' - z0) (h_sl M' - y0)) s m args below meth c z0 y0 (h_sz M') (h_sl M') 3 (MQ below (xQc G r M') args s (h_sz M' - z0) (h_sl M' - y0) (xFr G)) 0 [(0, .inr (.inr (some a0))), (1, .inl v1), (2, .inl v2)] [] M := by
  unfold b198_0 at h
  refine xv_b E [.aload_n 0] (pc' := 1) (lv' := [(0, .inr (.inr (some a0))), (1, .inl v1), (2, .inl v2)]) (st' := [.inr (.inr (some a0))]) (by decide +kernel) rfl rfl ?_
  obtain ⟨o_1, h2, h⟩ := bd h
  refine xg_r E 12 27 h2 mw887 (show decode prog_14_method_35_code 1 = .ok (.getfield 76, 3) by decide +kernel) ?_
  refine xv_b E [.iconst 5, .iload_n 1, .imul, .iload_n 2, .iadd] (pc' := 9) (lv' := [(0, .inr (.inr (some a0))), (1, .inl v1), (2, .inl v2)]) (st' := [.inl (((5 : Int32) * v1) + v2), .inr (.inr o_1)]) (by decide +kernel) rfl rfl ?_
  obtain ⟨v_3, h4, h⟩ := bd h
  refine xa_z E h4 (show decode prog_14_method_35_code 9 = .ok (.baload, 1) by decide +kernel) ?_
  by_cases q9 : v_3 = 0
  · rw [if_pos q9] at h
    refine xv_if_eq E 23 (show decode prog_14_method_35_code 10 = .ok (.ifCond .eq (13), 3) by decide +kernel) rfl (fun _ => ?_) (fun z => absurd q9 z)
    refine xv_b E [.iconst (-1)] (pc' := 24) (lv' := [(0, .inr (.inr (some a0))), (1, .inl v1), (2, .inl v2)]) (st' := [.inl (-1 : Int32)]) (by decide +kernel) rfl rfl ?_
    exact xv_w (sb198_24 E B (-1 : Int32) M h hN) rfl
  · rw [if_neg q9] at h
    refine xv_if_eq E 23 (show decode prog_14_method_35_code 10 = .ok (.ifCond .eq (13), 3) by decide +kernel) rfl (fun z => absurd z q9) (fun _ => ?_)
    refine xv_b E [.aload_n 0, .iload_n 1, .iload_n 2, .iconst 4] (pc' := 17) (lv' := [(0, .inr (.inr (some a0))), (1, .inl v1), (2, .inl v2)]) (st' := [.inl (4 : Int32), .inl v2, .inl v1, .inr (.inr (some a0))]) (by decide +kernel) rfl rfl ?_
    obtain ⟨b_7, h8, h⟩ := bd h
    obtain ⟨eh8, th8⟩ := g_o_some h8
    obtain ⟨q_5, h6, h⟩ := bd h
    refine xv_cvo E eh8 12 (as := [.inl v1, .inl v2, .inl (4 : Int32)]) (t190 G l (c_I_some h6)) cd190 mw996 mw997 mw998 (show decode prog_14_method_35_code 17 = .ok (.invokevirtual 241, 3) by decide +kernel) th8 rfl rfl (Nat.le_of_ble_eq_true rfl) ⟨Nat.le_of_ble_eq_true rfl, Nat.le_of_ble_eq_true rfl⟩ ?_
    refine xv_goto E 24 (show decode prog_14_method_35_code 20 = .ok (.goto (4), 3) by decide +kernel) rfl ?_
    exact xv_w (sb198_24 E B q_5.1 q_5.2 h hN) rfl
end
theorem t198 (G : gX) (l : Launch) {as : List aV} {M : hM} {r : Option aV} {M' : hM} (h : f198 as M = some (r, M')) : xM G l ym198 prog_14_method_35_code 3 (some FieldType.int) 1 as M r M' := by
  unfold f198 at h
  split at h
  · have h := x_out_ok h
    refine xM_of (by decide) (Nat.le_of_ble_eq_true rfl) (lb198_0 G l _ _ _ M h) ?_
    intro p e s m args below meth c E B
    exact sb198_0 E B _ _ _ M h rfl
  · cases h
/-! ZFModel.isOff(II)Z -/
def ym199 : MethodName := ⟨"ZonedFabricModel", "isOff", "(II)Z"⟩
theorem cd199 : xCd ym199 prog_14_method_36_code 5 (some FieldType.boolean) 2 := ⟨mw1017, mw864, by decide, by decide, by decide +kernel⟩
def b199_0 (a0 : Nat) (v1 : Int32) (v2 : Int32) (M : hM) : Option xRes :=
  some (.inr (5, [.inr (.inr (some a0)), .inl v1, .inl v2, .inl (0 : Int32), .inl (0 : Int32)], M))
def b199_57 (a0 : Nat) (v1 : Int32) (v2 : Int32) (v4 : Int32) (si0 : Int32) (M : hM) : Option xRes :=
  some (.inr (5, [.inr (.inr (some a0)), .inl v1, .inl v2, .inl si0, .inl (v4 + (1 : Int32))], M))
def b199_52 (a0 : Nat) (v1 : Int32) (v2 : Int32) (v4 : Int32) (M : hM) : Option xRes :=
  b199_57 a0 v1 v2 v4 (1 : Int32) M
def b199_56 (a0 : Nat) (v1 : Int32) (v2 : Int32) (v4 : Int32) (M : hM) : Option xRes :=
  b199_57 a0 v1 v2 v4 (0 : Int32) M
def b199_5 (a0 : Nat) (v1 : Int32) (v2 : Int32) (v3 : Int32) (v4 : Int32) (M : hM) : Option xRes :=
  if v2 ≤ v4 then
    (if v3 = 0 ∨ v3 = 1 then
      (some (.inl (some (.inl v3), M)))
    else
      none)
  else
    (if v3 = 0 then
      (Option.bind (g_o M 12 (some a0)) fun b_4 =>
      Option.bind (c_I (f198 [.inr (.inr (some b_4)), .inl v1, .inl v4] M)) fun q_2 =>
      if q_2.1 = (-1 : Int32) then
        (b199_56 a0 v1 v2 v4 q_2.2)
      else
        (Option.bind (g_o q_2.2 12 (some a0)) fun b_8 =>
        Option.bind (c_I (f198 [.inr (.inr (some b_8)), .inl v1, .inl v4] q_2.2)) fun q_6 =>
        Option.bind (g_o q_6.2 12 (some a0)) fun b_12 =>
        Option.bind (c_I (f198 [.inr (.inr (some b_12)), .inl v1, .inl v2] q_6.2)) fun q_10 =>
        if q_6.1 = q_10.1 then
          (Option.bind (g_o q_10.2 12 (some a0)) fun b_16 =>
          Option.bind (c_I (f197 [.inr (.inr (some b_16)), .inl v1, .inl v4] q_10.2)) fun q_14 =>
          if q_14.1 = 0 then
            (b199_56 a0 v1 v2 v4 q_14.2)
          else
            (b199_52 a0 v1 v2 v4 q_14.2))
        else
          (b199_56 a0 v1 v2 v4 q_10.2)))
    else
      (b199_52 a0 v1 v2 v4 M))
def k199 (h : Nat) (as : List aV) (M : hM) : Option xRes :=
  if h = 5 then (match as with | [.inr (.inr (some a0)), .inl v1, .inl v2, .inl v3, .inl v4] => b199_5 a0 v1 v2 v3 v4 M | _ => none) else
  none
def f199 (as : List aV) (M : hM) : xO := match as with
  | [.inr (.inr (some a0)), .inl v1, .inl v2] => x_go k199 (b199_0 a0 v1 v2 M)
  | _ => none
theorem lb199_0 (G : gX) (l : Launch) (a0 : Nat) (v1 : Int32) (v2 : Int32) (M : hM) {res : xRes} (h : b199_0 a0 v1 v2 M = some res) : h_sz M ≤ r_sz res ∧ h_sl M ≤ r_sl res := by
  unfold b199_0 at h
  obtain rfl := Option.some.inj h
  show h_sz M ≤ h_sz M ∧ h_sl M ≤ h_sl M
  omega
theorem lb199_57 (G : gX) (l : Launch) (a0 : Nat) (v1 : Int32) (v2 : Int32) (v4 : Int32) (si0 : Int32) (M : hM) {res : xRes} (h : b199_57 a0 v1 v2 v4 si0 M = some res) : h_sz M ≤ r_sz res ∧ h_sl M ≤ r_sl res := by
  unfold b199_57 at h
  obtain rfl := Option.some.inj h
  show h_sz M ≤ h_sz M ∧ h_sl M ≤ h_sl M
  omega
theorem lb199_52 (G : gX) (l : Launch) (a0 : Nat) (v1 : Int32) (v2 : Int32) (v4 : Int32) (M : hM) {res : xRes} (h : b199_52 a0 v1 v2 v4 M = some res) : h_sz M ≤ r_sz res ∧ h_sl M ≤ r_sl res := by
  unfold b199_52 at h
  have e := lb199_57 G l a0 v1 v2 v4 (1 : Int32) M h
  omega
theorem lb199_56 (G : gX) (l : Launch) (a0 : Nat) (v1 : Int32) (v2 : Int32) (v4 : Int32) (M : hM) {res : xRes} (h : b199_56 a0 v1 v2 v4 M = some res) : h_sz M ≤ r_sz res ∧ h_sl M ≤ r_sl res := by
  unfold b199_56 at h
  have e := lb199_57 G l a0 v1 v2 v4 (0 : Int32) M h
  omega
theorem lb199_5 (G : gX) (l : Launch) (a0 : Nat) (v1 : Int32) (v2 : Int32) (v3 : Int32) (v4 : Int32) (M : hM) {res : xRes} (h : b199_5 a0 v1 v2 v3 v4 M = some res) : h_sz M ≤ r_sz res ∧ h_sl M ≤ r_sl res := by
  unfold b199_5 at h
  by_cases q22 : v2 ≤ v4
  · rw [if_pos q22] at h
    by_cases q1 : v3 = 0 ∨ v3 = 1
    · rw [if_pos q1] at h
      obtain rfl := Option.some.inj h
      show h_sz M ≤ h_sz M ∧ h_sl M ≤ h_sl M
      omega
    · rw [if_neg q1] at h
      cases h
  · rw [if_neg q22] at h
    by_cases q21 : v3 = 0
    · rw [if_pos q21] at h
      obtain ⟨b_4, h5, h⟩ := bd h
      obtain ⟨q_2, h3, h⟩ := bd h
      have eh3 := (t198 G l (c_I_some h3)).1
      by_cases q20 : q_2.1 = (-1 : Int32)
      · rw [if_pos q20] at h
        have e := lb199_56 G l a0 v1 v2 v4 q_2.2 h
        omega
      · rw [if_neg q20] at h
        obtain ⟨b_8, h9, h⟩ := bd h
        obtain ⟨q_6, h7, h⟩ := bd h
        have eh7 := (t198 G l (c_I_some h7)).1
        obtain ⟨b_12, h13, h⟩ := bd h
        obtain ⟨q_10, h11, h⟩ := bd h
        have eh11 := (t198 G l (c_I_some h11)).1
        by_cases q19 : q_6.1 = q_10.1
        · rw [if_pos q19] at h
          obtain ⟨b_16, h17, h⟩ := bd h
          obtain ⟨q_14, h15, h⟩ := bd h
          have eh15 := (t197 G l (c_I_some h15)).1
          by_cases q18 : q_14.1 = 0
          · rw [if_pos q18] at h
            have e := lb199_56 G l a0 v1 v2 v4 q_14.2 h
            omega
          · rw [if_neg q18] at h
            have e := lb199_52 G l a0 v1 v2 v4 q_14.2 h
            omega
        · rw [if_neg q19] at h
          have e := lb199_56 G l a0 v1 v2 v4 q_10.2 h
          omega
    · rw [if_neg q21] at h
      have e := lb199_52 G l a0 v1 v2 v4 M h
      omega
section
variable {p : Program} {l : Launch} {e : Env} {s : State} {m : MethodId} {args : Array Value} {below : List Frame} {meth : Method} {c : Code} {G : gX} {z0 y0 : Nat} {r : Option aV} {M' : hM}
def pg199 (p : Program) (l : Launch) (e : Env) (s : State) (m : MethodId) (args : Array Value) (below : List Frame) (meth : Method) (c : Code) (G : gX) (z0 y0 : Nat) (r : Option aV) (M' : hM) (h : Nat) (as : List aV) (M : hM) : Prop :=
  if h = 5 then (match as with | [.inr (.inr (some a0)), .inl v1, .inl v2, .inl v3, .inl v4] => xV G p l e (xRm 5 (h_sz M' - z0) (h_sl M' - y0)) s m args below meth c z0 y0 (h_sz M') (h_sl M') 5 (MQ below (xQc G r M') args s (h_sz M' - z0) (h_sl M' - y0) (xFr G)) 5 [(0, .inr (.inr (some a0))), (1, .inl v1), (2, .inl v2), (3, .inl v3), (4, .inl v4)] [] M | _ => False) else
  False
theorem sb199_0 (E : xE G p (xRm 5 (h_sz M' - z0) (h_sl M' - y0)) s m args c prog_14_method_36_code "ZonedFabricModel" z0 y0 (h_sz M') (h_sl M') 5) (B : xB ym199 (some FieldType.boolean) meth) (a0 : Nat) (v1 : Int32) (v2 : Int32) (M : hM) {res : xRes} (h : b199_0 a0 v1 v2 M = some res) (hN : xN (pg199 p l e s m args below meth c G z0 y0 r M') r M' res) : xV G p l e (xRm 5 (h_sz M' - z0) (h_sl M' - y0)) s m args below meth c z0 y0 (h_sz M') (h_sl M') 5 (MQ below (xQc G r M') args s (h_sz M' - z0) (h_sl M' - y0) (xFr G)) 0 [(0, .inr (.inr (some a0))), (1, .inl v1), (2, .inl v2)] [] M := by
  unfold b199_0 at h
  refine xv_b E [.iconst 0, .istore_n 3, .iconst 0, .istore 4] (pc' := 5) (lv' := [(4, .inl (0 : Int32)), (3, .inl (0 : Int32)), (0, .inr (.inr (some a0))), (1, .inl v1), (2, .inl v2)]) (st' := []) (by decide +kernel) rfl rfl ?_
  obtain rfl := Option.some.inj h
  exact xv_w hN rfl
theorem sb199_57 (E : xE G p (xRm 5 (h_sz M' - z0) (h_sl M' - y0)) s m args c prog_14_method_36_code "ZonedFabricModel" z0 y0 (h_sz M') (h_sl M') 5) (B : xB ym199 (some FieldType.boolean) meth) (a0 : Nat) (v1 : Int32) (v2 : Int32) (v4 : Int32) (si0 : Int32) (M : hM) {res : xRes} (h : b199_57 a0 v1 v2 v4 si0 M = some res) (hN : xN (pg199 p l e s m args below meth c G z0 y0 r M') r M' res) : xV G p l e (xRm 5 (h_sz M' - z0) (h_sl M' - y0)) s m args below meth c z0 y0 (h_sz M') (h_sl M') 5 (MQ below (xQc G r M') args s (h_sz M' - z0) (h_sl M' - y0) (xFr G)) 57 [(0, .inr (.inr (some a0))), (1, .inl v1), (2, .inl v2), (4, .inl v4)] [.inl si0] M := by
  unfold b199_57 at h
  refine xv_b E [.istore_n 3, .iinc 4 1] (pc' := 61) (lv' := [(4, .inl (v4 + (1 : Int32))), (3, .inl si0), (0, .inr (.inr (some a0))), (1, .inl v1), (2, .inl v2)]) (st' := []) (by decide +kernel) rfl rfl ?_
  refine xv_goto E 5 (show decode prog_14_method_36_code 61 = .ok (.goto (-56), 3) by decide +kernel) rfl ?_
  obtain rfl := Option.some.inj h
  exact xv_w hN rfl
theorem sb199_52 (E : xE G p (xRm 5 (h_sz M' - z0) (h_sl M' - y0)) s m args c prog_14_method_36_code "ZonedFabricModel" z0 y0 (h_sz M') (h_sl M') 5) (B : xB ym199 (some FieldType.boolean) meth) (a0 : Nat) (v1 : Int32) (v2 : Int32) (v4 : Int32) (M : hM) {res : xRes} (h : b199_52 a0 v1 v2 v4 M = some res) (hN : xN (pg199 p l e s m args below meth c G z0 y0 r M') r M' res) : xV G p l e (xRm 5 (h_sz M' - z0) (h_sl M' - y0)) s m args below meth c z0 y0 (h_sz M') (h_sl M') 5 (MQ below (xQc G r M') args s (h_sz M' - z0) (h_sl M' - y0) (xFr G)) 52 [(0, .inr (.inr (some a0))), (1, .inl v1), (2, .inl v2), (4, .inl v4)] [] M := by
  unfold b199_52 at h
  refine xv_b E [.iconst 1] (pc' := 53) (lv' := [(0, .inr (.inr (some a0))), (1, .inl v1), (2, .inl v2), (4, .inl v4)]) (st' := [.inl (1 : Int32)]) (by decide +kernel) rfl rfl ?_
  refine xv_goto E 57 (show decode prog_14_method_36_code 53 = .ok (.goto (4), 3) by decide +kernel) rfl ?_
  exact xv_w (sb199_57 E B a0 v1 v2 v4 (1 : Int32) M h hN) rfl
theorem sb199_56 (E : xE G p (xRm 5 (h_sz M' - z0) (h_sl M' - y0)) s m args c prog_14_method_36_code "ZonedFabricModel" z0 y0 (h_sz M') (h_sl M') 5) (B : xB ym199 (some FieldType.boolean) meth) (a0 : Nat) (v1 : Int32) (v2 : Int32) (v4 : Int32) (M : hM) {res : xRes} (h : b199_56 a0 v1 v2 v4 M = some res) (hN : xN (pg199 p l e s m args below meth c G z0 y0 r M') r M' res) : xV G p l e (xRm 5 (h_sz M' - z0) (h_sl M' - y0)) s m args below meth c z0 y0 (h_sz M') (h_sl M') 5 (MQ below (xQc G r M') args s (h_sz M' - z0) (h_sl M' - y0) (xFr G)) 56 [(0, .inr (.inr (some a0))), (1, .inl v1), (2, .inl v2), (4, .inl v4)] [] M := by
  unfold b199_56 at h
  refine xv_b E [.iconst 0] (pc' := 57) (lv' := [(0, .inr (.inr (some a0))), (1, .inl v1), (2, .inl v2), (4, .inl v4)]) (st' := [.inl (0 : Int32)]) (by decide +kernel) rfl rfl ?_
  exact xv_w (sb199_57 E B a0 v1 v2 v4 (0 : Int32) M h hN) rfl
theorem sb199_5 (E : xE G p (xRm 5 (h_sz M' - z0) (h_sl M' - y0)) s m args c prog_14_method_36_code "ZonedFabricModel" z0 y0 (h_sz M') (h_sl M') 5) (B : xB ym199 (some FieldType.boolean) meth) (a0 : Nat) (v1 : Int32) (v2 : Int32) (v3 : Int32) (v4 : Int32) (M : hM) {res : xRes} (h : b199_5 a0 v1 v2 v3 v4 M = some res) (hN : xN (pg199 p l e s m args below meth c G z0 y0 r M') r M' res) : xV G p l e (xRm 5 (h_sz M' - z0) (h_sl M' - y0)) s m args below meth c z0 y0 (h_sz M') (h_sl M') 5 (MQ below (xQc G r M') args s (h_sz M' - z0) (h_sl M' - y0) (xFr G)) 5 [(0, .inr (.inr (some a0))), (1, .inl v1), (2, .inl v2), (3, .inl v3), (4, .inl v4)] [] M := by
  unfold b199_5 at h
  refine xv_b E [.iload 4, .iload_n 2] (pc' := 8) (lv' := [(0, .inr (.inr (some a0))), (1, .inl v1), (2, .inl v2), (3, .inl v3), (4, .inl v4)]) (st' := [.inl v2, .inl v4]) (by decide +kernel) rfl rfl ?_
  by_cases q22 : v2 ≤ v4
  · rw [if_pos q22] at h
    refine xv_icmp_ge E 64 (show decode prog_14_method_36_code 8 = .ok (.if_icmp .ge (56), 3) by decide +kernel) rfl (fun _ => ?_) (fun z => absurd q22 z)
    refine xv_b E [.iload_n 3] (pc' := 65) (lv' := [(0, .inr (.inr (some a0))), (1, .inl v1), (2, .inl v2), (3, .inl v3), (4, .inl v4)]) (st' := [.inl v3]) (by decide +kernel) rfl rfl ?_
    by_cases q1 : v3 = 0 ∨ v3 = 1
    · rw [if_pos q1] at h
      obtain rfl := Option.some.inj h
      obtain ⟨rfl, rfl⟩ := Prod.mk.inj (show ((some (.inl v3) : Option aV), M) = (r, M') from hN)
      exact xv_ri E B.1 (by rcases q1 with z | z <;> rw [z] <;> rfl) B.2.1 (show decode prog_14_method_36_code 65 = .ok (.ireturn, 1) by decide +kernel) rfl rfl
    · rw [if_neg q1] at h
      cases h
  · rw [if_neg q22] at h
    refine xv_icmp_ge E 64 (show decode prog_14_method_36_code 8 = .ok (.if_icmp .ge (56), 3) by decide +kernel) rfl (fun z => absurd z q22) (fun _ => ?_)
    refine xv_b E [.iload_n 3] (pc' := 12) (lv' := [(0, .inr (.inr (some a0))), (1, .inl v1), (2, .inl v2), (3, .inl v3), (4, .inl v4)]) (st' := [.inl v3]) (by decide +kernel) rfl rfl ?_
    by_cases q21 : v3 = 0
    · rw [if_pos q21] at h
      refine xv_if_ne E 52 (show decode prog_14_method_36_code 12 = .ok (.ifCond .ne (40), 3) by decide +kernel) rfl (fun z => absurd q21 z) (fun _ => ?_)
      refine xv_b E [.aload_n 0, .iload_n 1, .iload 4] (pc' := 19) (lv' := [(0, .inr (.inr (some a0))), (1, .inl v1), (2, .inl v2), (3, .inl v3), (4, .inl v4)]) (st' := [.inl v4, .inl v1, .inr (.inr (some a0))]) (by decide +kernel) rfl rfl ?_
      obtain ⟨b_4, h5, h⟩ := bd h
      obtain ⟨eh5, th5⟩ := g_o_some h5
      obtain ⟨q_2, h3, h⟩ := bd h
      refine xv_cvo E eh5 12 (as := [.inl v1, .inl v4]) (t198 G l (c_I_some h3)) cd198 mw1018 mw1019 mw1020 (show decode prog_14_method_36_code 19 = .ok (.invokevirtual 260, 3) by decide +kernel) th5 rfl rfl (Nat.le_of_ble_eq_true rfl) ⟨Nat.le_of_ble_eq_true rfl, Nat.le_of_ble_eq_true rfl⟩ ?_
      refine xv_b E [.iconst (-1)] (pc' := 23) (lv' := [(0, .inr (.inr (some a0))), (1, .inl v1), (2, .inl v2), (3, .inl v3), (4, .inl v4)]) (st' := [.inl (-1 : Int32), .inl q_2.1]) (by decide +kernel) rfl rfl ?_
      by_cases q20 : q_2.1 = (-1 : Int32)
      · rw [if_pos q20] at h
        refine xv_icmp_eq E 56 (show decode prog_14_method_36_code 23 = .ok (.if_icmp .eq (33), 3) by decide +kernel) rfl (fun _ => ?_) (fun z => absurd q20 z)
        exact xv_w (sb199_56 E B a0 v1 v2 v4 q_2.2 h hN) rfl
      · rw [if_neg q20] at h
        refine xv_icmp_eq E 56 (show decode prog_14_method_36_code 23 = .ok (.if_icmp .eq (33), 3) by decide +kernel) rfl (fun z => absurd z q20) (fun _ => ?_)
        refine xv_b E [.aload_n 0, .iload_n 1, .iload 4] (pc' := 30) (lv' := [(0, .inr (.inr (some a0))), (1, .inl v1), (2, .inl v2), (3, .inl v3), (4, .inl v4)]) (st' := [.inl v4, .inl v1, .inr (.inr (some a0))]) (by decide +kernel) rfl rfl ?_
        obtain ⟨b_8, h9, h⟩ := bd h
        obtain ⟨eh9, th9⟩ := g_o_some h9
        obtain ⟨q_6, h7, h⟩ := bd h
        refine xv_cvo E eh9 12 (as := [.inl v1, .inl v4]) (t198 G l (c_I_some h7)) cd198 mw1018 mw1019 mw1020 (show decode prog_14_method_36_code 30 = .ok (.invokevirtual 260, 3) by decide +kernel) th9 rfl rfl (Nat.le_of_ble_eq_true rfl) ⟨Nat.le_of_ble_eq_true rfl, Nat.le_of_ble_eq_true rfl⟩ ?_
        refine xv_b E [.aload_n 0, .iload_n 1, .iload_n 2] (pc' := 36) (lv' := [(0, .inr (.inr (some a0))), (1, .inl v1), (2, .inl v2), (3, .inl v3), (4, .inl v4)]) (st' := [.inl v2, .inl v1, .inr (.inr (some a0)), .inl q_6.1]) (by decide +kernel) rfl rfl ?_
        obtain ⟨b_12, h13, h⟩ := bd h
        obtain ⟨eh13, th13⟩ := g_o_some h13
        obtain ⟨q_10, h11, h⟩ := bd h
        refine xv_cvo E eh13 12 (as := [.inl v1, .inl v2]) (t198 G l (c_I_some h11)) cd198 mw1018 mw1019 mw1020 (show decode prog_14_method_36_code 36 = .ok (.invokevirtual 260, 3) by decide +kernel) th13 rfl rfl (Nat.le_of_ble_eq_true rfl) ⟨Nat.le_of_ble_eq_true rfl, Nat.le_of_ble_eq_true rfl⟩ ?_
        by_cases q19 : q_6.1 = q_10.1
        · rw [if_pos q19] at h
          refine xv_icmp_ne E 56 (show decode prog_14_method_36_code 39 = .ok (.if_icmp .ne (17), 3) by decide +kernel) rfl (fun z => absurd q19 z) (fun _ => ?_)
          refine xv_b E [.aload_n 0, .iload_n 1, .iload 4] (pc' := 46) (lv' := [(0, .inr (.inr (some a0))), (1, .inl v1), (2, .inl v2), (3, .inl v3), (4, .inl v4)]) (st' := [.inl v4, .inl v1, .inr (.inr (some a0))]) (by decide +kernel) rfl rfl ?_
          obtain ⟨b_16, h17, h⟩ := bd h
          obtain ⟨eh17, th17⟩ := g_o_some h17
          obtain ⟨q_14, h15, h⟩ := bd h
          refine xv_cvo E eh17 12 (as := [.inl v1, .inl v4]) (t197 G l (c_I_some h15)) cd197 mw1021 mw1022 mw1023 (show decode prog_14_method_36_code 46 = .ok (.invokevirtual 263, 3) by decide +kernel) th17 rfl rfl (Nat.le_of_ble_eq_true rfl) ⟨Nat.le_of_ble_eq_true rfl, Nat.le_of_ble_eq_true rfl⟩ ?_
          by_cases q18 : q_14.1 = 0
          · rw [if_pos q18] at h
            refine xv_if_eq E 56 (show decode prog_14_method_36_code 49 = .ok (.ifCond .eq (7), 3) by decide +kernel) rfl (fun _ => ?_) (fun z => absurd q18 z)
            exact xv_w (sb199_56 E B a0 v1 v2 v4 q_14.2 h hN) rfl
          · rw [if_neg q18] at h
            refine xv_if_eq E 56 (show decode prog_14_method_36_code 49 = .ok (.ifCond .eq (7), 3) by decide +kernel) rfl (fun z => absurd z q18) (fun _ => ?_)
            exact xv_w (sb199_52 E B a0 v1 v2 v4 q_14.2 h hN) rfl
        · rw [if_neg q19] at h
          refine xv_icmp_ne E 56 (show decode prog_14_method_36_code 39 = .ok (.if_icmp .ne (17), 3) by decide +kernel) rfl (fun _ => ?_) (fun z => absurd z q19)
          exact xv_w (sb199_56 E B a0 v1 v2 v4 q_10.2 h hN) rfl
    · rw [if_neg q21] at h
      refine xv_if_ne E 52 (show decode prog_14_method_36_code 12 = .ok (.ifCond .ne (40), 3) by decide +kernel) rfl (fun _ => ?_) (fun z => absurd z q21)
      exact xv_w (sb199_52 E B a0 v1 v2 v4 M h hN) rfl
end
theorem t199 (G : gX) (l : Launch) {as : List aV} {M : hM} {r : Option aV} {M' : hM} (h : f199 as M = some (r, M')) : xM G l ym199 prog_14_method_36_code 5 (some FieldType.boolean) 5 as M r M' := by
  unfold f199 at h
  split at h
  · have hle : ∀ h as M res, k199 h as M = some res → h_sz M ≤ r_sz res ∧ h_sl M ≤ r_sl res := by
      intro h as M res hb
      unfold k199 at hb
      by_cases e0 : h = 5
      · rw [if_pos e0] at hb
        split at hb
        · exact lb199_5 G l _ _ _ _ _ M hb
        · cases hb
      · rw [if_neg e0] at hb
        cases hb
    obtain ⟨res, hx, hres⟩ := x_go_ok h
    refine xM_of (by decide) (Nat.le_of_ble_eq_true rfl) ?_ ?_
    · have e1 := lb199_0 G l _ _ _ M hx
      have e2 := x_go_le hle hres
      omega
    · intro p e s m args below meth c E B
      refine sb199_0 E B _ _ _ M hx (hres _ ?_)
      intro h as M res hb hN
      unfold k199 at hb
      unfold pg199
      by_cases e0 : h = 5
      · rw [if_pos e0] at hb ⊢
        split at hb
        · exact sb199_5 E B _ _ _ _ _ M hb hN
        · cases hb
      · rw [if_neg e0] at hb ⊢
        cases hb
  · cases h
/-! ZFModel.isOffItself(I)Z -/
def ym200 : MethodName := ⟨"ZonedFabricModel", "isOffItself", "(I)Z"⟩
theorem cd200 : xCd ym200 prog_14_method_37_code 2 (some FieldType.boolean) 1 := ⟨mw1024, mw864, by decide, by decide, by decide +kernel⟩
def b200_0 (a0 : Nat) (v1 : Int32) (M : hM) : Option xRes :=
  Option.bind (g_o M 12 (some a0)) fun b_3 =>
  Option.bind (c_V (f195 [.inr (.inr (some b_3)), .inl v1] M)) fun q_1 =>
  Option.bind (g_o q_1 12 (some a0)) fun b_7 =>
  Option.bind (c_I (f199 [.inr (.inr (some b_7)), .inl v1, .inl v1] q_1)) fun q_5 =>
  if q_5.1 = 0 ∨ q_5.1 = 1 then
    (some (.inl (some (.inl q_5.1), q_5.2)))
  else
    none
def f200 (as : List aV) (M : hM) : xO := match as with
  | [.inr (.inr (some a0)), .inl v1] => x_out (b200_0 a0 v1 M)
  | _ => none
theorem lb200_0 (G : gX) (l : Launch) (a0 : Nat) (v1 : Int32) (M : hM) {res : xRes} (h : b200_0 a0 v1 M = some res) : h_sz M ≤ r_sz res ∧ h_sl M ≤ r_sl res := by
  unfold b200_0 at h
  obtain ⟨b_3, h4, h⟩ := bd h
  obtain ⟨q_1, h2, h⟩ := bd h
  have eh2 := (t195 G l (c_V_some h2)).1
  obtain ⟨b_7, h8, h⟩ := bd h
  obtain ⟨q_5, h6, h⟩ := bd h
  have eh6 := (t199 G l (c_I_some h6)).1
  by_cases q9 : q_5.1 = 0 ∨ q_5.1 = 1
  · rw [if_pos q9] at h
    obtain rfl := Option.some.inj h
    show h_sz M ≤ h_sz q_5.2 ∧ h_sl M ≤ h_sl q_5.2
    omega
  · rw [if_neg q9] at h
    cases h
section
variable {p : Program} {l : Launch} {e : Env} {s : State} {m : MethodId} {args : Array Value} {below : List Frame} {meth : Method} {c : Code} {G : gX} {z0 y0 : Nat} {r : Option aV} {M' : hM}
theorem sb200_0 (E : xE G p (xRm 6 (h_sz M' - z0) (h_sl M' - y0)) s m args c prog_14_method_37_code "ZonedFabricModel" z0 y0 (h_sz M') (h_sl M') 2) (B : xB ym200 (some FieldType.boolean) meth) (a0 : Nat) (v1 : Int32) (M : hM) {res : xRes} (h : b200_0 a0 v1 M = some res) (hN : xN (fun _ _ _ => False) r M' res) : xV G p l e (xRm 6 (h_sz M' - z0) (h_sl M' - y0)) s m args below meth c z0 y0 (h_sz M') (h_sl M') 2 (MQ below (xQc G r M') args s (h_sz M' - z0) (h_sl M' - y0) (xFr G)) 0 [(0, .inr (.inr (some a0))), (1, .inl v1)] [] M := by
  unfold b200_0 at h
  refine xv_b E [.aload_n 0, .iload_n 1] (pc' := 2) (lv' := [(0, .inr (.inr (some a0))), (1, .inl v1)]) (st' := [.inl v1, .inr (.inr (some a0))]) (by decide +kernel) rfl rfl ?_
  obtain ⟨b_3, h4, h⟩ := bd h
  obtain ⟨eh4, th4⟩ := g_o_some h4
  obtain ⟨q_1, h2, h⟩ := bd h
  refine xv_cvo E eh4 12 (as := [.inl v1]) (t195 G l (c_V_some h2)) cd195 mw1025 mw1026 mw1027 (show decode prog_14_method_37_code 2 = .ok (.invokevirtual 266, 3) by decide +kernel) th4 rfl rfl (Nat.le_of_ble_eq_true rfl) ⟨Nat.le_of_ble_eq_true rfl, Nat.le_of_ble_eq_true rfl⟩ ?_
  refine xv_b E [.aload_n 0, .iload_n 1, .iload_n 1] (pc' := 8) (lv' := [(0, .inr (.inr (some a0))), (1, .inl v1)]) (st' := [.inl v1, .inl v1, .inr (.inr (some a0))]) (by decide +kernel) rfl rfl ?_
  obtain ⟨b_7, h8, h⟩ := bd h
  obtain ⟨eh8, th8⟩ := g_o_some h8
  obtain ⟨q_5, h6, h⟩ := bd h
  refine xv_cvo E eh8 12 (as := [.inl v1, .inl v1]) (t199 G l (c_I_some h6)) cd199 mw1028 mw1029 mw1030 (show decode prog_14_method_37_code 8 = .ok (.invokevirtual 268, 3) by decide +kernel) th8 rfl rfl (Nat.le_of_ble_eq_true rfl) ⟨Nat.le_of_ble_eq_true rfl, Nat.le_of_ble_eq_true rfl⟩ ?_
  by_cases q9 : q_5.1 = 0 ∨ q_5.1 = 1
  · rw [if_pos q9] at h
    obtain rfl := Option.some.inj h
    obtain ⟨rfl, rfl⟩ := Prod.mk.inj (show ((some (.inl q_5.1) : Option aV), q_5.2) = (r, M') from hN)
    exact xv_ri E B.1 (by rcases q9 with z | z <;> rw [z] <;> rfl) B.2.1 (show decode prog_14_method_37_code 11 = .ok (.ireturn, 1) by decide +kernel) rfl rfl
  · rw [if_neg q9] at h
    cases h
end
theorem t200 (G : gX) (l : Launch) {as : List aV} {M : hM} {r : Option aV} {M' : hM} (h : f200 as M = some (r, M')) : xM G l ym200 prog_14_method_37_code 2 (some FieldType.boolean) 6 as M r M' := by
  unfold f200 at h
  split at h
  · have h := x_out_ok h
    refine xM_of (by decide) (Nat.le_of_ble_eq_true rfl) (lb200_0 G l _ _ M h) ?_
    intro p e s m args below meth c E B
    exact sb200_0 E B _ _ M h rfl
  · cases h
/-! ZFModel.wayOut(II)I -/
def ym201 : MethodName := ⟨"ZonedFabricModel", "wayOut", "(II)I"⟩
theorem cd201 : xCd ym201 prog_14_method_38_code 4 (some FieldType.int) 2 := ⟨mw1031, mw864, by decide, by decide, by decide +kernel⟩
def b201_0 (a0 : Nat) (v1 : Int32) (v2 : Int32) (M : hM) : Option xRes :=
  Option.bind (g_o M 12 (some a0)) fun b_3 =>
  Option.bind (c_V (f195 [.inr (.inr (some b_3)), .inl v1] M)) fun q_1 =>
  some (.inr (7, [.inr (.inr (some a0)), .inl v1, .inl v2, .inl (0 : Int32)], q_1))
def b201_58 (si0 : Int32) (M : hM) : Option xRes :=
  some (.inl (some (.inl si0), M))
def b201_59 (a0 : Nat) (v1 : Int32) (v2 : Int32) (v3 : Int32) (M : hM) : Option xRes :=
  some (.inr (7, [.inr (.inr (some a0)), .inl v1, .inl v2, .inl (v3 + (1 : Int32))], M))
def b201_7 (a0 : Nat) (v1 : Int32) (v2 : Int32) (v3 : Int32) (M : hM) : Option xRes :=
  Option.bind (g_i M 12 0 (some a0)) fun v_5 =>
  if v_5 ≤ v3 then
    (some (.inl (some (.inl (-1 : Int32)), M)))
  else
    (Option.bind (g_o M 12 (some a0)) fun b_9 =>
    Option.bind (c_I (f198 [.inr (.inr (some b_9)), .inl v1, .inl v3] M)) fun q_7 =>
    if q_7.1 = v2 then
      (Option.bind (g_o q_7.2 12 (some a0)) fun b_13 =>
      Option.bind (c_I (f197 [.inr (.inr (some b_13)), .inl v1, .inl v3] q_7.2)) fun q_11 =>
      if q_11.1 = 0 then
        (b201_59 a0 v1 v2 v3 q_11.2)
      else
        (Option.bind (g_o q_11.2 12 (some a0)) fun b_17 =>
        Option.bind (c_I (f199 [.inr (.inr (some b_17)), .inl v1, .inl v3] q_11.2)) fun q_15 =>
        if q_15.1 = 0 then
          (if v3 = v1 then
            (b201_58 (-1 : Int32) q_15.2)
          else
            (Option.bind (g_o q_15.2 12 (some a0)) fun b_21 =>
            Option.bind (c_I (f196 [.inr (.inr (some b_21)), .inl v1, .inl v3] q_15.2)) fun q_19 =>
            b201_58 q_19.1 q_19.2))
        else
          (b201_59 a0 v1 v2 v3 q_15.2)))
    else
      (b201_59 a0 v1 v2 v3 q_7.2))
def k201 (h : Nat) (as : List aV) (M : hM) : Option xRes :=
  if h = 7 then (match as with | [.inr (.inr (some a0)), .inl v1, .inl v2, .inl v3] => b201_7 a0 v1 v2 v3 M | _ => none) else
  none
def f201 (as : List aV) (M : hM) : xO := match as with
  | [.inr (.inr (some a0)), .inl v1, .inl v2] => x_go k201 (b201_0 a0 v1 v2 M)
  | _ => none
theorem lb201_0 (G : gX) (l : Launch) (a0 : Nat) (v1 : Int32) (v2 : Int32) (M : hM) {res : xRes} (h : b201_0 a0 v1 v2 M = some res) : h_sz M ≤ r_sz res ∧ h_sl M ≤ r_sl res := by
  unfold b201_0 at h
  obtain ⟨b_3, h4, h⟩ := bd h
  obtain ⟨q_1, h2, h⟩ := bd h
  have eh2 := (t195 G l (c_V_some h2)).1
  obtain rfl := Option.some.inj h
  show h_sz M ≤ h_sz q_1 ∧ h_sl M ≤ h_sl q_1
  omega
theorem lb201_58 (G : gX) (l : Launch) (si0 : Int32) (M : hM) {res : xRes} (h : b201_58 si0 M = some res) : h_sz M ≤ r_sz res ∧ h_sl M ≤ r_sl res := by
  unfold b201_58 at h
  obtain rfl := Option.some.inj h
  show h_sz M ≤ h_sz M ∧ h_sl M ≤ h_sl M
  omega
theorem lb201_59 (G : gX) (l : Launch) (a0 : Nat) (v1 : Int32) (v2 : Int32) (v3 : Int32) (M : hM) {res : xRes} (h : b201_59 a0 v1 v2 v3 M = some res) : h_sz M ≤ r_sz res ∧ h_sl M ≤ r_sl res := by
  unfold b201_59 at h
  obtain rfl := Option.some.inj h
  show h_sz M ≤ h_sz M ∧ h_sl M ≤ h_sl M
  omega
theorem lb201_7 (G : gX) (l : Launch) (a0 : Nat) (v1 : Int32) (v2 : Int32) (v3 : Int32) (M : hM) {res : xRes} (h : b201_7 a0 v1 v2 v3 M = some res) : h_sz M ≤ r_sz res ∧ h_sl M ≤ r_sl res := by
  unfold b201_7 at h
  obtain ⟨v_5, h6, h⟩ := bd h
  by_cases q27 : v_5 ≤ v3
  · rw [if_pos q27] at h
    obtain rfl := Option.some.inj h
    show h_sz M ≤ h_sz M ∧ h_sl M ≤ h_sl M
    omega
  · rw [if_neg q27] at h
    obtain ⟨b_9, h10, h⟩ := bd h
    obtain ⟨q_7, h8, h⟩ := bd h
    have eh8 := (t198 G l (c_I_some h8)).1
    by_cases q26 : q_7.1 = v2
    · rw [if_pos q26] at h
      obtain ⟨b_13, h14, h⟩ := bd h
      obtain ⟨q_11, h12, h⟩ := bd h
      have eh12 := (t197 G l (c_I_some h12)).1
      by_cases q25 : q_11.1 = 0
      · rw [if_pos q25] at h
        have e := lb201_59 G l a0 v1 v2 v3 q_11.2 h
        omega
      · rw [if_neg q25] at h
        obtain ⟨b_17, h18, h⟩ := bd h
        obtain ⟨q_15, h16, h⟩ := bd h
        have eh16 := (t199 G l (c_I_some h16)).1
        by_cases q24 : q_15.1 = 0
        · rw [if_pos q24] at h
          by_cases q23 : v3 = v1
          · rw [if_pos q23] at h
            have e := lb201_58 G l (-1 : Int32) q_15.2 h
            omega
          · rw [if_neg q23] at h
            obtain ⟨b_21, h22, h⟩ := bd h
            obtain ⟨q_19, h20, h⟩ := bd h
            have eh20 := (t196 G l (c_I_some h20)).1
            have e := lb201_58 G l q_19.1 q_19.2 h
            omega
        · rw [if_neg q24] at h
          have e := lb201_59 G l a0 v1 v2 v3 q_15.2 h
          omega
    · rw [if_neg q26] at h
      have e := lb201_59 G l a0 v1 v2 v3 q_7.2 h
      omega
section
variable {p : Program} {l : Launch} {e : Env} {s : State} {m : MethodId} {args : Array Value} {below : List Frame} {meth : Method} {c : Code} {G : gX} {z0 y0 : Nat} {r : Option aV} {M' : hM}
def pg201 (p : Program) (l : Launch) (e : Env) (s : State) (m : MethodId) (args : Array Value) (below : List Frame) (meth : Method) (c : Code) (G : gX) (z0 y0 : Nat) (r : Option aV) (M' : hM) (h : Nat) (as : List aV) (M : hM) : Prop :=
  if h = 7 then (match as with | [.inr (.inr (some a0)), .inl v1, .inl v2, .inl v3] => xV G p l e (xRm 6 (h_sz M' - z0) (h_sl M' - y0)) s m args below meth c z0 y0 (h_sz M') (h_sl M') 4 (MQ below (xQc G r M') args s (h_sz M' - z0) (h_sl M' - y0) (xFr G)) 7 [(0, .inr (.inr (some a0))), (1, .inl v1), (2, .inl v2), (3, .inl v3)] [] M | _ => False) else
  False
theorem sb201_0 (E : xE G p (xRm 6 (h_sz M' - z0) (h_sl M' - y0)) s m args c prog_14_method_38_code "ZonedFabricModel" z0 y0 (h_sz M') (h_sl M') 4) (B : xB ym201 (some FieldType.int) meth) (a0 : Nat) (v1 : Int32) (v2 : Int32) (M : hM) {res : xRes} (h : b201_0 a0 v1 v2 M = some res) (hN : xN (pg201 p l e s m args below meth c G z0 y0 r M') r M' res) : xV G p l e (xRm 6 (h_sz M' - z0) (h_sl M' - y0)) s m args below meth c z0 y0 (h_sz M') (h_sl M') 4 (MQ below (xQc G r M') args s (h_sz M' - z0) (h_sl M' - y0) (xFr G)) 0 [(0, .inr (.inr (some a0))), (1, .inl v1), (2, .inl v2)] [] M := by
  unfold b201_0 at h
  refine xv_b E [.aload_n 0, .iload_n 1] (pc' := 2) (lv' := [(0, .inr (.inr (some a0))), (1, .inl v1), (2, .inl v2)]) (st' := [.inl v1, .inr (.inr (some a0))]) (by decide +kernel) rfl rfl ?_
  obtain ⟨b_3, h4, h⟩ := bd h
  obtain ⟨eh4, th4⟩ := g_o_some h4
  obtain ⟨q_1, h2, h⟩ := bd h
  refine xv_cvo E eh4 12 (as := [.inl v1]) (t195 G l (c_V_some h2)) cd195 mw1025 mw1026 mw1027 (show decode prog_14_method_38_code 2 = .ok (.invokevirtual 266, 3) by decide +kernel) th4 rfl rfl (Nat.le_of_ble_eq_true rfl) ⟨Nat.le_of_ble_eq_true rfl, Nat.le_of_ble_eq_true rfl⟩ ?_
  refine xv_b E [.iconst 0, .istore_n 3] (pc' := 7) (lv' := [(3, .inl (0 : Int32)), (0, .inr (.inr (some a0))), (1, .inl v1), (2, .inl v2)]) (st' := []) (by decide +kernel) rfl rfl ?_
  obtain rfl := Option.some.inj h
  exact xv_w hN rfl
theorem sb201_58 (E : xE G p (xRm 6 (h_sz M' - z0) (h_sl M' - y0)) s m args c prog_14_method_38_code "ZonedFabricModel" z0 y0 (h_sz M') (h_sl M') 4) (B : xB ym201 (some FieldType.int) meth) (si0 : Int32) (M : hM) {res : xRes} (h : b201_58 si0 M = some res) (hN : xN (pg201 p l e s m args below meth c G z0 y0 r M') r M' res) : xV G p l e (xRm 6 (h_sz M' - z0) (h_sl M' - y0)) s m args below meth c z0 y0 (h_sz M') (h_sl M') 4 (MQ below (xQc G r M') args s (h_sz M' - z0) (h_sl M' - y0) (xFr G)) 58 [] [.inl si0] M := by
  unfold b201_58 at h
  obtain rfl := Option.some.inj h
  obtain ⟨rfl, rfl⟩ := Prod.mk.inj (show ((some (.inl si0) : Option aV), M) = (r, M') from hN)
  exact xv_ri E B.1 rfl B.2.1 (show decode prog_14_method_38_code 58 = .ok (.ireturn, 1) by decide +kernel) rfl rfl
theorem sb201_59 (E : xE G p (xRm 6 (h_sz M' - z0) (h_sl M' - y0)) s m args c prog_14_method_38_code "ZonedFabricModel" z0 y0 (h_sz M') (h_sl M') 4) (B : xB ym201 (some FieldType.int) meth) (a0 : Nat) (v1 : Int32) (v2 : Int32) (v3 : Int32) (M : hM) {res : xRes} (h : b201_59 a0 v1 v2 v3 M = some res) (hN : xN (pg201 p l e s m args below meth c G z0 y0 r M') r M' res) : xV G p l e (xRm 6 (h_sz M' - z0) (h_sl M' - y0)) s m args below meth c z0 y0 (h_sz M') (h_sl M') 4 (MQ below (xQc G r M') args s (h_sz M' - z0) (h_sl M' - y0) (xFr G)) 59 [(0, .inr (.inr (some a0))), (1, .inl v1), (2, .inl v2), (3, .inl v3)] [] M := by
  unfold b201_59 at h
  refine xv_b E [.iinc 3 1] (pc' := 62) (lv' := [(3, .inl (v3 + (1 : Int32))), (0, .inr (.inr (some a0))), (1, .inl v1), (2, .inl v2)]) (st' := []) (by decide +kernel) rfl rfl ?_
  refine xv_goto E 7 (show decode prog_14_method_38_code 62 = .ok (.goto (-55), 3) by decide +kernel) rfl ?_
  obtain rfl := Option.some.inj h
  exact xv_w hN rfl
theorem sb201_7 (E : xE G p (xRm 6 (h_sz M' - z0) (h_sl M' - y0)) s m args c prog_14_method_38_code "ZonedFabricModel" z0 y0 (h_sz M') (h_sl M') 4) (B : xB ym201 (some FieldType.int) meth) (a0 : Nat) (v1 : Int32) (v2 : Int32) (v3 : Int32) (M : hM) {res : xRes} (h : b201_7 a0 v1 v2 v3 M = some res) (hN : xN (pg201 p l e s m args below meth c G z0 y0 r M') r M' res) : xV G p l e (xRm 6 (h_sz M' - z0) (h_sl M' - y0)) s m args below meth c z0 y0 (h_sz M') (h_sl M') 4 (MQ below (xQc G r M') args s (h_sz M' - z0) (h_sl M' - y0) (xFr G)) 7 [(0, .inr (.inr (some a0))), (1, .inl v1), (2, .inl v2), (3, .inl v3)] [] M := by
  unfold b201_7 at h
  refine xv_b E [.iload_n 3, .aload_n 0] (pc' := 9) (lv' := [(0, .inr (.inr (some a0))), (1, .inl v1), (2, .inl v2), (3, .inl v3)]) (st' := [.inr (.inr (some a0)), .inl v3]) (by decide +kernel) rfl rfl ?_
  obtain ⟨v_5, h6, h⟩ := bd h
  refine xg_i E 12 0 h6 mw921 (show decode prog_14_method_38_code 9 = .ok (.getfield 173, 3) by decide +kernel) ?_
  by_cases q27 : v_5 ≤ v3
  · rw [if_pos q27] at h
    refine xv_icmp_ge E 65 (show decode prog_14_method_38_code 12 = .ok (.if_icmp .ge (53), 3) by decide +kernel) rfl (fun _ => ?_) (fun z => absurd q27 z)
    refine xv_b E [.iconst (-1)] (pc' := 66) (lv' := [(0, .inr (.inr (some a0))), (1, .inl v1), (2, .inl v2), (3, .inl v3)]) (st' := [.inl (-1 : Int32)]) (by decide +kernel) rfl rfl ?_
    obtain rfl := Option.some.inj h
    obtain ⟨rfl, rfl⟩ := Prod.mk.inj (show ((some (.inl (-1 : Int32)) : Option aV), M) = (r, M') from hN)
    exact xv_ri E B.1 rfl B.2.1 (show decode prog_14_method_38_code 66 = .ok (.ireturn, 1) by decide +kernel) rfl rfl
  · rw [if_neg q27] at h
    refine xv_icmp_ge E 65 (show decode prog_14_method_38_code 12 = .ok (.if_icmp .ge (53), 3) by decide +kernel) rfl (fun z => absurd z q27) (fun _ => ?_)
    refine xv_b E [.aload_n 0, .iload_n 1, .iload_n 3] (pc' := 18) (lv' := [(0, .inr (.inr (some a0))), (1, .inl v1), (2, .inl v2), (3, .inl v3)]) (st' := [.inl v3, .inl v1, .inr (.inr (some a0))]) (by decide +kernel) rfl rfl ?_
    obtain ⟨b_9, h10, h⟩ := bd h
    obtain ⟨eh10, th10⟩ := g_o_some h10
    obtain ⟨q_7, h8, h⟩ := bd h
    refine xv_cvo E eh10 12 (as := [.inl v1, .inl v3]) (t198 G l (c_I_some h8)) cd198 mw1018 mw1019 mw1020 (show decode prog_14_method_38_code 18 = .ok (.invokevirtual 260, 3) by decide +kernel) th10 rfl rfl (Nat.le_of_ble_eq_true rfl) ⟨Nat.le_of_ble_eq_true rfl, Nat.le_of_ble_eq_true rfl⟩ ?_
    refine xv_b E [.iload_n 2] (pc' := 22) (lv' := [(0, .inr (.inr (some a0))), (1, .inl v1), (2, .inl v2), (3, .inl v3)]) (st' := [.inl v2, .inl q_7.1]) (by decide +kernel) rfl rfl ?_
    by_cases q26 : q_7.1 = v2
    · rw [if_pos q26] at h
      refine xv_icmp_ne E 59 (show decode prog_14_method_38_code 22 = .ok (.if_icmp .ne (37), 3) by decide +kernel) rfl (fun z => absurd q26 z) (fun _ => ?_)
      refine xv_b E [.aload_n 0, .iload_n 1, .iload_n 3] (pc' := 28) (lv' := [(0, .inr (.inr (some a0))), (1, .inl v1), (2, .inl v2), (3, .inl v3)]) (st' := [.inl v3, .inl v1, .inr (.inr (some a0))]) (by decide +kernel) rfl rfl ?_
      obtain ⟨b_13, h14, h⟩ := bd h
      obtain ⟨eh14, th14⟩ := g_o_some h14
      obtain ⟨q_11, h12, h⟩ := bd h
      refine xv_cvo E eh14 12 (as := [.inl v1, .inl v3]) (t197 G l (c_I_some h12)) cd197 mw1021 mw1022 mw1023 (show decode prog_14_method_38_code 28 = .ok (.invokevirtual 263, 3) by decide +kernel) th14 rfl rfl (Nat.le_of_ble_eq_true rfl) ⟨Nat.le_of_ble_eq_true rfl, Nat.le_of_ble_eq_true rfl⟩ ?_
      by_cases q25 : q_11.1 = 0
      · rw [if_pos q25] at h
        refine xv_if_eq E 59 (show decode prog_14_method_38_code 31 = .ok (.ifCond .eq (28), 3) by decide +kernel) rfl (fun _ => ?_) (fun z => absurd q25 z)
        exact xv_w (sb201_59 E B a0 v1 v2 v3 q_11.2 h hN) rfl
      · rw [if_neg q25] at h
        refine xv_if_eq E 59 (show decode prog_14_method_38_code 31 = .ok (.ifCond .eq (28), 3) by decide +kernel) rfl (fun z => absurd z q25) (fun _ => ?_)
        refine xv_b E [.aload_n 0, .iload_n 1, .iload_n 3] (pc' := 37) (lv' := [(0, .inr (.inr (some a0))), (1, .inl v1), (2, .inl v2), (3, .inl v3)]) (st' := [.inl v3, .inl v1, .inr (.inr (some a0))]) (by decide +kernel) rfl rfl ?_
        obtain ⟨b_17, h18, h⟩ := bd h
        obtain ⟨eh18, th18⟩ := g_o_some h18
        obtain ⟨q_15, h16, h⟩ := bd h
        refine xv_cvo E eh18 12 (as := [.inl v1, .inl v3]) (t199 G l (c_I_some h16)) cd199 mw1028 mw1029 mw1030 (show decode prog_14_method_38_code 37 = .ok (.invokevirtual 268, 3) by decide +kernel) th18 rfl rfl (Nat.le_of_ble_eq_true rfl) ⟨Nat.le_of_ble_eq_true rfl, Nat.le_of_ble_eq_true rfl⟩ ?_
        by_cases q24 : q_15.1 = 0
        · rw [if_pos q24] at h
          refine xv_if_ne E 59 (show decode prog_14_method_38_code 40 = .ok (.ifCond .ne (19), 3) by decide +kernel) rfl (fun z => absurd q24 z) (fun _ => ?_)
          refine xv_b E [.iload_n 3, .iload_n 1] (pc' := 45) (lv' := [(0, .inr (.inr (some a0))), (1, .inl v1), (2, .inl v2), (3, .inl v3)]) (st' := [.inl v1, .inl v3]) (by decide +kernel) rfl rfl ?_
          by_cases q23 : v3 = v1
          · rw [if_pos q23] at h
            refine xv_icmp_ne E 52 (show decode prog_14_method_38_code 45 = .ok (.if_icmp .ne (7), 3) by decide +kernel) rfl (fun z => absurd q23 z) (fun _ => ?_)
            refine xv_b E [.iconst (-1)] (pc' := 49) (lv' := [(0, .inr (.inr (some a0))), (1, .inl v1), (2, .inl v2), (3, .inl v3)]) (st' := [.inl (-1 : Int32)]) (by decide +kernel) rfl rfl ?_
            refine xv_goto E 58 (show decode prog_14_method_38_code 49 = .ok (.goto (9), 3) by decide +kernel) rfl ?_
            exact xv_w (sb201_58 E B (-1 : Int32) q_15.2 h hN) rfl
          · rw [if_neg q23] at h
            refine xv_icmp_ne E 52 (show decode prog_14_method_38_code 45 = .ok (.if_icmp .ne (7), 3) by decide +kernel) rfl (fun _ => ?_) (fun z => absurd z q23)
            refine xv_b E [.aload_n 0, .iload_n 1, .iload_n 3] (pc' := 55) (lv' := [(0, .inr (.inr (some a0))), (1, .inl v1), (2, .inl v2), (3, .inl v3)]) (st' := [.inl v3, .inl v1, .inr (.inr (some a0))]) (by decide +kernel) rfl rfl ?_
            obtain ⟨b_21, h22, h⟩ := bd h
            obtain ⟨eh22, th22⟩ := g_o_some h22
            obtain ⟨q_19, h20, h⟩ := bd h
            refine xv_cvo E eh22 12 (as := [.inl v1, .inl v3]) (t196 G l (c_I_some h20)) cd196 mw1013 mw1014 mw1015 (show decode prog_14_method_38_code 55 = .ok (.invokevirtual 257, 3) by decide +kernel) th22 rfl rfl (Nat.le_of_ble_eq_true rfl) ⟨Nat.le_of_ble_eq_true rfl, Nat.le_of_ble_eq_true rfl⟩ ?_
            exact xv_w (sb201_58 E B q_19.1 q_19.2 h hN) rfl
        · rw [if_neg q24] at h
          refine xv_if_ne E 59 (show decode prog_14_method_38_code 40 = .ok (.ifCond .ne (19), 3) by decide +kernel) rfl (fun _ => ?_) (fun z => absurd z q24)
          exact xv_w (sb201_59 E B a0 v1 v2 v3 q_15.2 h hN) rfl
    · rw [if_neg q26] at h
      refine xv_icmp_ne E 59 (show decode prog_14_method_38_code 22 = .ok (.if_icmp .ne (37), 3) by decide +kernel) rfl (fun _ => ?_) (fun z => absurd z q26)
      exact xv_w (sb201_59 E B a0 v1 v2 v3 q_7.2 h hN) rfl
end
theorem t201 (G : gX) (l : Launch) {as : List aV} {M : hM} {r : Option aV} {M' : hM} (h : f201 as M = some (r, M')) : xM G l ym201 prog_14_method_38_code 4 (some FieldType.int) 6 as M r M' := by
  unfold f201 at h
  split at h
  · have hle : ∀ h as M res, k201 h as M = some res → h_sz M ≤ r_sz res ∧ h_sl M ≤ r_sl res := by
      intro h as M res hb
      unfold k201 at hb
      by_cases e0 : h = 7
      · rw [if_pos e0] at hb
        split at hb
        · exact lb201_7 G l _ _ _ _ M hb
        · cases hb
      · rw [if_neg e0] at hb
        cases hb
    obtain ⟨res, hx, hres⟩ := x_go_ok h
    refine xM_of (by decide) (Nat.le_of_ble_eq_true rfl) ?_ ?_
    · have e1 := lb201_0 G l _ _ _ M hx
      have e2 := x_go_le hle hres
      omega
    · intro p e s m args below meth c E B
      refine sb201_0 E B _ _ _ M hx (hres _ ?_)
      intro h as M res hb hN
      unfold k201 at hb
      unfold pg201
      by_cases e0 : h = 7
      · rw [if_pos e0] at hb ⊢
        split at hb
        · exact sb201_7 E B _ _ _ _ M hb hN
        · cases hb
      · rw [if_neg e0] at hb ⊢
        cases hb
  · cases h
/-! ZFModel.recordFrame(II)I -/
def ym202 : MethodName := ⟨"ZonedFabricModel", "recordFrame", "(II)I"⟩
theorem cd202 : xCd ym202 prog_14_method_39_code 5 (some FieldType.int) 2 := ⟨mw1032, mw864, by decide, by decide, by decide +kernel⟩
def b202_0 (a0 : Nat) (v1 : Int32) (v2 : Int32) (M : hM) : Option xRes :=
  Option.bind (g_o M 12 (some a0)) fun b_3 =>
  Option.bind (c_I (f168 [.inr (.inr (some b_3)), .inl (2 : Int32), .inl (16777213 : Int32), .inl (16777213 : Int32), .inl (0 : Int32), .inl (0 : Int32), .inl (0 : Int32)] M)) fun q_1 =>
  some (.inr (18, [.inr (.inr (some a0)), .inl v1, .inl v2, .inl q_1.1, .inl (0 : Int32)], q_1.2))
def b202_18 (a0 : Nat) (v1 : Int32) (v2 : Int32) (v3 : Int32) (v4 : Int32) (M : hM) : Option xRes :=
  Option.bind (g_r M 12 30 (some a0)) fun o_5 =>
  Option.bind (al_i M 20 o_5 (((5 : Int32) * v1) + v2)) fun v_7 =>
  if v_7 ≤ v4 then
    (some (.inl (some (.inl v3), M)))
  else
    (Option.bind (g_o M 12 (some a0)) fun b_11 =>
    Option.bind (c_I (f190 [.inr (.inr (some b_11)), .inl v1, .inl v2, .inl v4] M)) fun q_9 =>
    Option.bind (g_o q_9.2 12 (some a0)) fun b_15 =>
    Option.bind (c_V (f167 [.inr (.inr (some b_15)), .inl v3, .inr (.inl (Int32.toInt64 q_9.1)), .inl (1 : Int32)] q_9.2)) fun q_13 =>
    some (.inr (18, [.inr (.inr (some a0)), .inl v1, .inl v2, .inl v3, .inl (v4 + (1 : Int32))], q_13)))
def k202 (h : Nat) (as : List aV) (M : hM) : Option xRes :=
  if h = 18 then (match as with | [.inr (.inr (some a0)), .inl v1, .inl v2, .inl v3, .inl v4] => b202_18 a0 v1 v2 v3 v4 M | _ => none) else
  none
def f202 (as : List aV) (M : hM) : xO := match as with
  | [.inr (.inr (some a0)), .inl v1, .inl v2] => x_go k202 (b202_0 a0 v1 v2 M)
  | _ => none
theorem lb202_0 (G : gX) (l : Launch) (a0 : Nat) (v1 : Int32) (v2 : Int32) (M : hM) {res : xRes} (h : b202_0 a0 v1 v2 M = some res) : h_sz M ≤ r_sz res ∧ h_sl M ≤ r_sl res := by
  unfold b202_0 at h
  obtain ⟨b_3, h4, h⟩ := bd h
  obtain ⟨q_1, h2, h⟩ := bd h
  have eh2 := (t168 G l (c_I_some h2)).1
  obtain rfl := Option.some.inj h
  show h_sz M ≤ h_sz q_1.2 ∧ h_sl M ≤ h_sl q_1.2
  omega
theorem lb202_18 (G : gX) (l : Launch) (a0 : Nat) (v1 : Int32) (v2 : Int32) (v3 : Int32) (v4 : Int32) (M : hM) {res : xRes} (h : b202_18 a0 v1 v2 v3 v4 M = some res) : h_sz M ≤ r_sz res ∧ h_sl M ≤ r_sl res := by
  unfold b202_18 at h
  obtain ⟨o_5, h6, h⟩ := bd h
  obtain ⟨v_7, h8, h⟩ := bd h
  by_cases q17 : v_7 ≤ v4
  · rw [if_pos q17] at h
    obtain rfl := Option.some.inj h
    show h_sz M ≤ h_sz M ∧ h_sl M ≤ h_sl M
    omega
  · rw [if_neg q17] at h
    obtain ⟨b_11, h12, h⟩ := bd h
    obtain ⟨q_9, h10, h⟩ := bd h
    have eh10 := (t190 G l (c_I_some h10)).1
    obtain ⟨b_15, h16, h⟩ := bd h
    obtain ⟨q_13, h14, h⟩ := bd h
    have eh14 := (t167 G l (c_V_some h14)).1
    obtain rfl := Option.some.inj h
    show h_sz M ≤ h_sz q_13 ∧ h_sl M ≤ h_sl q_13
    omega
section
variable {p : Program} {l : Launch} {e : Env} {s : State} {m : MethodId} {args : Array Value} {below : List Frame} {meth : Method} {c : Code} {G : gX} {z0 y0 : Nat} {r : Option aV} {M' : hM}
def pg202 (p : Program) (l : Launch) (e : Env) (s : State) (m : MethodId) (args : Array Value) (below : List Frame) (meth : Method) (c : Code) (G : gX) (z0 y0 : Nat) (r : Option aV) (M' : hM) (h : Nat) (as : List aV) (M : hM) : Prop :=
  if h = 18 then (match as with | [.inr (.inr (some a0)), .inl v1, .inl v2, .inl v3, .inl v4] => xV G p l e (xRm 2 (h_sz M' - z0) (h_sl M' - y0)) s m args below meth c z0 y0 (h_sz M') (h_sl M') 5 (MQ below (xQc G r M') args s (h_sz M' - z0) (h_sl M' - y0) (xFr G)) 18 [(0, .inr (.inr (some a0))), (1, .inl v1), (2, .inl v2), (3, .inl v3), (4, .inl v4)] [] M | _ => False) else
  False
theorem sb202_0 (E : xE G p (xRm 2 (h_sz M' - z0) (h_sl M' - y0)) s m args c prog_14_method_39_code "ZonedFabricModel" z0 y0 (h_sz M') (h_sl M') 5) (B : xB ym202 (some FieldType.int) meth) (a0 : Nat) (v1 : Int32) (v2 : Int32) (M : hM) {res : xRes} (h : b202_0 a0 v1 v2 M = some res) (hN : xN (pg202 p l e s m args below meth c G z0 y0 r M') r M' res) : xV G p l e (xRm 2 (h_sz M' - z0) (h_sl M' - y0)) s m args below meth c z0 y0 (h_sz M') (h_sl M') 5 (MQ below (xQc G r M') args s (h_sz M' - z0) (h_sl M' - y0) (xFr G)) 0 [(0, .inr (.inr (some a0))), (1, .inl v1), (2, .inl v2)] [] M := by
  unfold b202_0 at h
  refine xv_b E [.aload_n 0, .iconst 2] (pc' := 2) (lv' := [(0, .inr (.inr (some a0))), (1, .inl v1), (2, .inl v2)]) (st' := [.inl (2 : Int32), .inr (.inr (some a0))]) (by decide +kernel) rfl rfl ?_
  refine xv_ldcw E (16777213 : Int32) mw1036 (show decode prog_14_method_39_code 2 = .ok (.ldc_w 271, 3) by decide +kernel) ?_
  refine xv_ldcw E (16777213 : Int32) mw1036 (show decode prog_14_method_39_code 5 = .ok (.ldc_w 271, 3) by decide +kernel) ?_
  refine xv_b E [.iconst 0, .iconst 0, .iconst 0] (pc' := 11) (lv' := [(0, .inr (.inr (some a0))), (1, .inl v1), (2, .inl v2)]) (st' := [.inl (0 : Int32), .inl (0 : Int32), .inl (0 : Int32), .inl (16777213 : Int32), .inl (16777213 : Int32), .inl (2 : Int32), .inr (.inr (some a0))]) (by decide +kernel) rfl rfl ?_
  obtain ⟨b_3, h4, h⟩ := bd h
  obtain ⟨eh4, th4⟩ := g_o_some h4
  obtain ⟨q_1, h2, h⟩ := bd h
  refine xv_cvo E eh4 12 (as := [.inl (2 : Int32), .inl (16777213 : Int32), .inl (16777213 : Int32), .inl (0 : Int32), .inl (0 : Int32), .inl (0 : Int32)]) (t168 G l (c_I_some h2)) cd168 mw1033 mw1034 mw1035 (show decode prog_14_method_39_code 11 = .ok (.invokevirtual 272, 3) by decide +kernel) th4 rfl rfl (Nat.le_of_ble_eq_true rfl) ⟨Nat.le_of_ble_eq_true rfl, Nat.le_of_ble_eq_true rfl⟩ ?_
  refine xv_b E [.istore_n 3, .iconst 0, .istore 4] (pc' := 18) (lv' := [(4, .inl (0 : Int32)), (3, .inl q_1.1), (0, .inr (.inr (some a0))), (1, .inl v1), (2, .inl v2)]) (st' := []) (by decide +kernel) rfl rfl ?_
  obtain rfl := Option.some.inj h
  exact xv_w hN rfl
theorem sb202_18 (E : xE G p (xRm 2 (h_sz M' - z0) (h_sl M' - y0)) s m args c prog_14_method_39_code "ZonedFabricModel" z0 y0 (h_sz M') (h_sl M') 5) (B : xB ym202 (some FieldType.int) meth) (a0 : Nat) (v1 : Int32) (v2 : Int32) (v3 : Int32) (v4 : Int32) (M : hM) {res : xRes} (h : b202_18 a0 v1 v2 v3 v4 M = some res) (hN : xN (pg202 p l e s m args below meth c G z0 y0 r M') r M' res) : xV G p l e (xRm 2 (h_sz M' - z0) (h_sl M' - y0)) s m args below meth c z0 y0 (h_sz M') (h_sl M') 5 (MQ below (xQc G r M') args s (h_sz M' - z0) (h_sl M' - y0) (xFr G)) 18 [(0, .inr (.inr (some a0))), (1, .inl v1), (2, .inl v2), (3, .inl v3), (4, .inl v4)] [] M := by
  unfold b202_18 at h
  refine xv_b E [.iload 4, .aload_n 0] (pc' := 21) (lv' := [(0, .inr (.inr (some a0))), (1, .inl v1), (2, .inl v2), (3, .inl v3), (4, .inl v4)]) (st' := [.inr (.inr (some a0)), .inl v4]) (by decide +kernel) rfl rfl ?_
  obtain ⟨o_5, h6, h⟩ := bd h
  refine xg_r E 12 30 h6 mw890 (show decode prog_14_method_39_code 21 = .ok (.getfield 85, 3) by decide +kernel) ?_
  refine xv_b E [.iconst 5, .iload_n 1, .imul, .iload_n 2, .iadd] (pc' := 29) (lv' := [(0, .inr (.inr (some a0))), (1, .inl v1), (2, .inl v2), (3, .inl v3), (4, .inl v4)]) (st' := [.inl (((5 : Int32) * v1) + v2), .inr (.inr o_5), .inl v4]) (by decide +kernel) rfl rfl ?_
  obtain ⟨v_7, h8, h⟩ := bd h
  refine xa_i E h8 (show decode prog_14_method_39_code 29 = .ok (.iaload, 1) by decide +kernel) ?_
  by_cases q17 : v_7 ≤ v4
  · rw [if_pos q17] at h
    refine xv_icmp_ge E 54 (show decode prog_14_method_39_code 30 = .ok (.if_icmp .ge (24), 3) by decide +kernel) rfl (fun _ => ?_) (fun z => absurd q17 z)
    refine xv_b E [.iload_n 3] (pc' := 55) (lv' := [(0, .inr (.inr (some a0))), (1, .inl v1), (2, .inl v2), (3, .inl v3), (4, .inl v4)]) (st' := [.inl v3]) (by decide +kernel) rfl rfl ?_
    obtain rfl := Option.some.inj h
    obtain ⟨rfl, rfl⟩ := Prod.mk.inj (show ((some (.inl v3) : Option aV), M) = (r, M') from hN)
    exact xv_ri E B.1 rfl B.2.1 (show decode prog_14_method_39_code 55 = .ok (.ireturn, 1) by decide +kernel) rfl rfl
  · rw [if_neg q17] at h
    refine xv_icmp_ge E 54 (show decode prog_14_method_39_code 30 = .ok (.if_icmp .ge (24), 3) by decide +kernel) rfl (fun z => absurd z q17) (fun _ => ?_)
    refine xv_b E [.aload_n 0, .iload_n 3, .aload_n 0, .iload_n 1, .iload_n 2, .iload 4] (pc' := 40) (lv' := [(0, .inr (.inr (some a0))), (1, .inl v1), (2, .inl v2), (3, .inl v3), (4, .inl v4)]) (st' := [.inl v4, .inl v2, .inl v1, .inr (.inr (some a0)), .inl v3, .inr (.inr (some a0))]) (by decide +kernel) rfl rfl ?_
    obtain ⟨b_11, h12, h⟩ := bd h
    obtain ⟨eh12, th12⟩ := g_o_some h12
    obtain ⟨q_9, h10, h⟩ := bd h
    refine xv_cvo E eh12 12 (as := [.inl v1, .inl v2, .inl v4]) (t190 G l (c_I_some h10)) cd190 mw996 mw997 mw998 (show decode prog_14_method_39_code 40 = .ok (.invokevirtual 241, 3) by decide +kernel) th12 rfl rfl (Nat.le_of_ble_eq_true rfl) ⟨Nat.le_of_ble_eq_true rfl, Nat.le_of_ble_eq_true rfl⟩ ?_
    refine xv_b E [.i2l, .iconst 1] (pc' := 45) (lv' := [(0, .inr (.inr (some a0))), (1, .inl v1), (2, .inl v2), (3, .inl v3), (4, .inl v4)]) (st' := [.inl (1 : Int32), .inr (.inl (Int32.toInt64 q_9.1)), .inl v3, .inr (.inr (some a0))]) (by decide +kernel) rfl rfl ?_
    obtain ⟨b_15, h16, h⟩ := bd h
    obtain ⟨eh16, th16⟩ := g_o_some h16
    obtain ⟨q_13, h14, h⟩ := bd h
    refine xv_cvo E eh16 12 (as := [.inl v3, .inr (.inl (Int32.toInt64 q_9.1)), .inl (1 : Int32)]) (t167 G l (c_V_some h14)) cd167 mw932 mw933 mw934 (show decode prog_14_method_39_code 45 = .ok (.invokevirtual 190, 3) by decide +kernel) th16 rfl rfl (Nat.le_of_ble_eq_true rfl) ⟨Nat.le_of_ble_eq_true rfl, Nat.le_of_ble_eq_true rfl⟩ ?_
    refine xv_b E [.iinc 4 1] (pc' := 51) (lv' := [(4, .inl (v4 + (1 : Int32))), (0, .inr (.inr (some a0))), (1, .inl v1), (2, .inl v2), (3, .inl v3)]) (st' := []) (by decide +kernel) rfl rfl ?_
    refine xv_goto E 18 (show decode prog_14_method_39_code 51 = .ok (.goto (-33), 3) by decide +kernel) rfl ?_
    obtain rfl := Option.some.inj h
    exact xv_w hN rfl
end
theorem t202 (G : gX) (l : Launch) {as : List aV} {M : hM} {r : Option aV} {M' : hM} (h : f202 as M = some (r, M')) : xM G l ym202 prog_14_method_39_code 5 (some FieldType.int) 2 as M r M' := by
  unfold f202 at h
  split at h
  · have hle : ∀ h as M res, k202 h as M = some res → h_sz M ≤ r_sz res ∧ h_sl M ≤ r_sl res := by
      intro h as M res hb
      unfold k202 at hb
      by_cases e0 : h = 18
      · rw [if_pos e0] at hb
        split at hb
        · exact lb202_18 G l _ _ _ _ _ M hb
        · cases hb
      · rw [if_neg e0] at hb
        cases hb
    obtain ⟨res, hx, hres⟩ := x_go_ok h
    refine xM_of (by decide) (Nat.le_of_ble_eq_true rfl) ?_ ?_
    · have e1 := lb202_0 G l _ _ _ M hx
      have e2 := x_go_le hle hres
      omega
    · intro p e s m args below meth c E B
      refine sb202_0 E B _ _ _ M hx (hres _ ?_)
      intro h as M res hb hN
      unfold k202 at hb
      unfold pg202
      by_cases e0 : h = 18
      · rw [if_pos e0] at hb ⊢
        split at hb
        · exact sb202_18 E B _ _ _ _ _ M hb hN
        · cases hb
      · rw [if_neg e0] at hb ⊢
        cases hb
  · cases h
/-! ZFModel.closesOpen(II)V -/
def ym203 : MethodName := ⟨"ZonedFabricModel", "closesOpen", "(II)V"⟩
theorem cd203 : xCd ym203 prog_14_method_67_code 5 none 2 := ⟨mw1037, mw864, by decide, by decide, by decide +kernel⟩
def b203_0 (a0 : Nat) (v1 : Int32) (v2 : Int32) (M : hM) : Option xRes :=
  Option.bind (g_r M 12 46 (some a0)) fun o_1 =>
  Option.bind (al_i M 20 o_1 v1) fun v_3 =>
  Option.bind (as_i M 20 o_1 v1 (v_3 - (1 : Int32))) fun M5 =>
  some (.inr (12, [.inr (.inr (some a0)), .inl v1, .inl v2], M5))
def b203_12 (a0 : Nat) (v1 : Int32) (v3 : Int32) (M : hM) : Option xRes :=
  Option.bind (g_r M 12 46 (some a0)) fun o_7 =>
  Option.bind (al_i M 20 o_7 v1) fun v_9 =>
  if v_9 ≤ v3 then
    (some (.inl (none, M)))
  else
    (some (.inr (25, [.inr (.inr (some a0)), .inl v1, .inl v3, .inl (0 : Int32)], M)))
def b203_25 (a0 : Nat) (v1 : Int32) (v3 : Int32) (v4 : Int32) (M : hM) : Option xRes :=
  if (8 : Int32) ≤ v4 then
    (some (.inr (78, [.inr (.inr (some a0)), .inl v1, .inl v3, .inl (0 : Int32)], M)))
  else
    (Option.bind (g_r M 12 44 (some a0)) fun o_12 =>
    Option.bind (g_r M 12 44 (some a0)) fun o_14 =>
    Option.bind (al_i M 20 o_14 (((((48 : Int32) * v1) + ((8 : Int32) * v3)) + (8 : Int32)) + v4)) fun v_16 =>
    Option.bind (as_i M 20 o_12 ((((48 : Int32) * v1) + ((8 : Int32) * v3)) + v4) v_16) fun M18 =>
    some (.inr (25, [.inr (.inr (some a0)), .inl v1, .inl v3, .inl (v4 + (1 : Int32))], M18)))
def b203_78 (a0 : Nat) (v1 : Int32) (v3 : Int32) (v4 : Int32) (M : hM) : Option xRes :=
  if (4 : Int32) ≤ v4 then
    (some (.inr (12, [.inr (.inr (some a0)), .inl v1, .inl (v3 + (1 : Int32))], M)))
  else
    (Option.bind (g_r M 12 45 (some a0)) fun o_21 =>
    Option.bind (g_r M 12 45 (some a0)) fun o_23 =>
    Option.bind (al_l M 23 o_23 (((((24 : Int32) * v1) + ((4 : Int32) * v3)) + (4 : Int32)) + v4)) fun w_25 =>
    Option.bind (as_l M 23 o_21 ((((24 : Int32) * v1) + ((4 : Int32) * v3)) + v4) w_25) fun M27 =>
    some (.inr (78, [.inr (.inr (some a0)), .inl v1, .inl v3, .inl (v4 + (1 : Int32))], M27)))
def k203 (h : Nat) (as : List aV) (M : hM) : Option xRes :=
  if h = 12 then (match as with | [.inr (.inr (some a0)), .inl v1, .inl v3] => b203_12 a0 v1 v3 M | _ => none) else
  if h = 25 then (match as with | [.inr (.inr (some a0)), .inl v1, .inl v3, .inl v4] => b203_25 a0 v1 v3 v4 M | _ => none) else
  if h = 78 then (match as with | [.inr (.inr (some a0)), .inl v1, .inl v3, .inl v4] => b203_78 a0 v1 v3 v4 M | _ => none) else
  none
def f203 (as : List aV) (M : hM) : xO := match as with
  | [.inr (.inr (some a0)), .inl v1, .inl v2] => x_go k203 (b203_0 a0 v1 v2 M)
  | _ => none
theorem lb203_0 (G : gX) (l : Launch) (a0 : Nat) (v1 : Int32) (v2 : Int32) (M : hM) {res : xRes} (h : b203_0 a0 v1 v2 M = some res) : h_sz M ≤ r_sz res ∧ h_sl M ≤ r_sl res := by
  unfold b203_0 at h
  obtain ⟨o_1, h2, h⟩ := bd h
  obtain ⟨v_3, h4, h⟩ := bd h
  obtain ⟨M5, h6, h⟩ := bd h
  have eh6 := as_i_sz h6
  obtain rfl := Option.some.inj h
  show h_sz M ≤ h_sz M5 ∧ h_sl M ≤ h_sl M5
  omega
theorem lb203_12 (G : gX) (l : Launch) (a0 : Nat) (v1 : Int32) (v3 : Int32) (M : hM) {res : xRes} (h : b203_12 a0 v1 v3 M = some res) : h_sz M ≤ r_sz res ∧ h_sl M ≤ r_sl res := by
  unfold b203_12 at h
  obtain ⟨o_7, h8, h⟩ := bd h
  obtain ⟨v_9, h10, h⟩ := bd h
  by_cases q11 : v_9 ≤ v3
  · rw [if_pos q11] at h
    obtain rfl := Option.some.inj h
    show h_sz M ≤ h_sz M ∧ h_sl M ≤ h_sl M
    omega
  · rw [if_neg q11] at h
    obtain rfl := Option.some.inj h
    show h_sz M ≤ h_sz M ∧ h_sl M ≤ h_sl M
    omega
theorem lb203_25 (G : gX) (l : Launch) (a0 : Nat) (v1 : Int32) (v3 : Int32) (v4 : Int32) (M : hM) {res : xRes} (h : b203_25 a0 v1 v3 v4 M = some res) : h_sz M ≤ r_sz res ∧ h_sl M ≤ r_sl res := by
  unfold b203_25 at h
  by_cases q20 : (8 : Int32) ≤ v4
  · rw [if_pos q20] at h
    obtain rfl := Option.some.inj h
    show h_sz M ≤ h_sz M ∧ h_sl M ≤ h_sl M
    omega
  · rw [if_neg q20] at h
    obtain ⟨o_12, h13, h⟩ := bd h
    obtain ⟨o_14, h15, h⟩ := bd h
    obtain ⟨v_16, h17, h⟩ := bd h
    obtain ⟨M18, h19, h⟩ := bd h
    have eh19 := as_i_sz h19
    obtain rfl := Option.some.inj h
    show h_sz M ≤ h_sz M18 ∧ h_sl M ≤ h_sl M18
    omega
theorem lb203_78 (G : gX) (l : Launch) (a0 : Nat) (v1 : Int32) (v3 : Int32) (v4 : Int32) (M : hM) {res : xRes} (h : b203_78 a0 v1 v3 v4 M = some res) : h_sz M ≤ r_sz res ∧ h_sl M ≤ r_sl res := by
  unfold b203_78 at h
  by_cases q29 : (4 : Int32) ≤ v4
  · rw [if_pos q29] at h
    obtain rfl := Option.some.inj h
    show h_sz M ≤ h_sz M ∧ h_sl M ≤ h_sl M
    omega
  · rw [if_neg q29] at h
    obtain ⟨o_21, h22, h⟩ := bd h
    obtain ⟨o_23, h24, h⟩ := bd h
    obtain ⟨w_25, h26, h⟩ := bd h
    obtain ⟨M27, h28, h⟩ := bd h
    have eh28 := as_l_sz h28
    obtain rfl := Option.some.inj h
    show h_sz M ≤ h_sz M27 ∧ h_sl M ≤ h_sl M27
    omega
section
variable {p : Program} {l : Launch} {e : Env} {s : State} {m : MethodId} {args : Array Value} {below : List Frame} {meth : Method} {c : Code} {G : gX} {z0 y0 : Nat} {r : Option aV} {M' : hM}
def pg203 (p : Program) (l : Launch) (e : Env) (s : State) (m : MethodId) (args : Array Value) (below : List Frame) (meth : Method) (c : Code) (G : gX) (z0 y0 : Nat) (r : Option aV) (M' : hM) (h : Nat) (as : List aV) (M : hM) : Prop :=
  if h = 12 then (match as with | [.inr (.inr (some a0)), .inl v1, .inl v3] => xV G p l e (xRm 0 (h_sz M' - z0) (h_sl M' - y0)) s m args below meth c z0 y0 (h_sz M') (h_sl M') 5 (MQ below (xQc G r M') args s (h_sz M' - z0) (h_sl M' - y0) (xFr G)) 12 [(0, .inr (.inr (some a0))), (1, .inl v1), (3, .inl v3)] [] M | _ => False) else
  if h = 25 then (match as with | [.inr (.inr (some a0)), .inl v1, .inl v3, .inl v4] => xV G p l e (xRm 0 (h_sz M' - z0) (h_sl M' - y0)) s m args below meth c z0 y0 (h_sz M') (h_sl M') 5 (MQ below (xQc G r M') args s (h_sz M' - z0) (h_sl M' - y0) (xFr G)) 25 [(0, .inr (.inr (some a0))), (1, .inl v1), (3, .inl v3), (4, .inl v4)] [] M | _ => False) else
  if h = 78 then (match as with | [.inr (.inr (some a0)), .inl v1, .inl v3, .inl v4] => xV G p l e (xRm 0 (h_sz M' - z0) (h_sl M' - y0)) s m args below meth c z0 y0 (h_sz M') (h_sl M') 5 (MQ below (xQc G r M') args s (h_sz M' - z0) (h_sl M' - y0) (xFr G)) 78 [(0, .inr (.inr (some a0))), (1, .inl v1), (3, .inl v3), (4, .inl v4)] [] M | _ => False) else
  False
theorem sb203_0 (E : xE G p (xRm 0 (h_sz M' - z0) (h_sl M' - y0)) s m args c prog_14_method_67_code "ZonedFabricModel" z0 y0 (h_sz M') (h_sl M') 5) (B : xB ym203 none meth) (a0 : Nat) (v1 : Int32) (v2 : Int32) (M : hM) {res : xRes} (h : b203_0 a0 v1 v2 M = some res) (hN : xN (pg203 p l e s m args below meth c G z0 y0 r M') r M' res) : xV G p l e (xRm 0 (h_sz M' - z0) (h_sl M' - y0)) s m args below meth c z0 y0 (h_sz M') (h_sl M') 5 (MQ below (xQc G r M') args s (h_sz M' - z0) (h_sl M' - y0) (xFr G)) 0 [(0, .inr (.inr (some a0))), (1, .inl v1), (2, .inl v2)] [] M := by
  unfold b203_0 at h
  refine xv_b E [.aload_n 0] (pc' := 1) (lv' := [(0, .inr (.inr (some a0))), (1, .inl v1), (2, .inl v2)]) (st' := [.inr (.inr (some a0))]) (by decide +kernel) rfl rfl ?_
  obtain ⟨o_1, h2, h⟩ := bd h
  refine xg_r E 12 46 h2 mw905 (show decode prog_14_method_67_code 1 = .ok (.getfield 131, 3) by decide +kernel) ?_
  refine xv_b E [.iload_n 1, .dup2] (pc' := 6) (lv' := [(0, .inr (.inr (some a0))), (1, .inl v1), (2, .inl v2)]) (st' := [.inl v1, .inr (.inr o_1), .inl v1, .inr (.inr o_1)]) (by decide +kernel) rfl rfl ?_
  obtain ⟨v_3, h4, h⟩ := bd h
  refine xa_i E h4 (show decode prog_14_method_67_code 6 = .ok (.iaload, 1) by decide +kernel) ?_
  refine xv_b E [.iconst 1, .isub] (pc' := 9) (lv' := [(0, .inr (.inr (some a0))), (1, .inl v1), (2, .inl v2)]) (st' := [.inl (v_3 - (1 : Int32)), .inl v1, .inr (.inr o_1)]) (by decide +kernel) rfl rfl ?_
  obtain ⟨M5, h6, h⟩ := bd h
  refine xs_i E h6 (show decode prog_14_method_67_code 9 = .ok (.iastore, 1) by decide +kernel) ?_
  refine xv_b E [.iload_n 2, .istore_n 3] (pc' := 12) (lv' := [(3, .inl v2), (0, .inr (.inr (some a0))), (1, .inl v1), (2, .inl v2)]) (st' := []) (by decide +kernel) rfl rfl ?_
  obtain rfl := Option.some.inj h
  exact xv_w hN rfl
theorem sb203_12 (E : xE G p (xRm 0 (h_sz M' - z0) (h_sl M' - y0)) s m args c prog_14_method_67_code "ZonedFabricModel" z0 y0 (h_sz M') (h_sl M') 5) (B : xB ym203 none meth) (a0 : Nat) (v1 : Int32) (v3 : Int32) (M : hM) {res : xRes} (h : b203_12 a0 v1 v3 M = some res) (hN : xN (pg203 p l e s m args below meth c G z0 y0 r M') r M' res) : xV G p l e (xRm 0 (h_sz M' - z0) (h_sl M' - y0)) s m args below meth c z0 y0 (h_sz M') (h_sl M') 5 (MQ below (xQc G r M') args s (h_sz M' - z0) (h_sl M' - y0) (xFr G)) 12 [(0, .inr (.inr (some a0))), (1, .inl v1), (3, .inl v3)] [] M := by
  unfold b203_12 at h
  refine xv_b E [.iload_n 3, .aload_n 0] (pc' := 14) (lv' := [(0, .inr (.inr (some a0))), (1, .inl v1), (3, .inl v3)]) (st' := [.inr (.inr (some a0)), .inl v3]) (by decide +kernel) rfl rfl ?_
  obtain ⟨o_7, h8, h⟩ := bd h
  refine xg_r E 12 46 h8 mw905 (show decode prog_14_method_67_code 14 = .ok (.getfield 131, 3) by decide +kernel) ?_
  refine xv_b E [.iload_n 1] (pc' := 18) (lv' := [(0, .inr (.inr (some a0))), (1, .inl v1), (3, .inl v3)]) (st' := [.inl v1, .inr (.inr o_7), .inl v3]) (by decide +kernel) rfl rfl ?_
  obtain ⟨v_9, h10, h⟩ := bd h
  refine xa_i E h10 (show decode prog_14_method_67_code 18 = .ok (.iaload, 1) by decide +kernel) ?_
  by_cases q11 : v_9 ≤ v3
  · rw [if_pos q11] at h
    refine xv_icmp_ge E 130 (show decode prog_14_method_67_code 19 = .ok (.if_icmp .ge (111), 3) by decide +kernel) rfl (fun _ => ?_) (fun z => absurd q11 z)
    obtain rfl := Option.some.inj h
    obtain ⟨rfl, rfl⟩ := Prod.mk.inj (show ((none : Option aV), M) = (r, M') from hN)
    exact xv_rv E B.1 B.2.1 (show decode prog_14_method_67_code 130 = .ok (.return_, 1) by decide +kernel) rfl rfl
  · rw [if_neg q11] at h
    refine xv_icmp_ge E 130 (show decode prog_14_method_67_code 19 = .ok (.if_icmp .ge (111), 3) by decide +kernel) rfl (fun z => absurd z q11) (fun _ => ?_)
    refine xv_b E [.iconst 0, .istore 4] (pc' := 25) (lv' := [(4, .inl (0 : Int32)), (0, .inr (.inr (some a0))), (1, .inl v1), (3, .inl v3)]) (st' := []) (by decide +kernel) rfl rfl ?_
    obtain rfl := Option.some.inj h
    exact xv_w hN rfl
theorem sb203_25 (E : xE G p (xRm 0 (h_sz M' - z0) (h_sl M' - y0)) s m args c prog_14_method_67_code "ZonedFabricModel" z0 y0 (h_sz M') (h_sl M') 5) (B : xB ym203 none meth) (a0 : Nat) (v1 : Int32) (v3 : Int32) (v4 : Int32) (M : hM) {res : xRes} (h : b203_25 a0 v1 v3 v4 M = some res) (hN : xN (pg203 p l e s m args below meth c G z0 y0 r M') r M' res) : xV G p l e (xRm 0 (h_sz M' - z0) (h_sl M' - y0)) s m args below meth c z0 y0 (h_sz M') (h_sl M') 5 (MQ below (xQc G r M') args s (h_sz M' - z0) (h_sl M' - y0) (xFr G)) 25 [(0, .inr (.inr (some a0))), (1, .inl v1), (3, .inl v3), (4, .inl v4)] [] M := by
  unfold b203_25 at h
  refine xv_b E [.iload 4, .bipush 8] (pc' := 29) (lv' := [(0, .inr (.inr (some a0))), (1, .inl v1), (3, .inl v3), (4, .inl v4)]) (st' := [.inl (8 : Int32), .inl v4]) (by decide +kernel) rfl rfl ?_
  by_cases q20 : (8 : Int32) ≤ v4
  · rw [if_pos q20] at h
    refine xv_icmp_ge E 75 (show decode prog_14_method_67_code 29 = .ok (.if_icmp .ge (46), 3) by decide +kernel) rfl (fun _ => ?_) (fun z => absurd q20 z)
    refine xv_b E [.iconst 0, .istore 4] (pc' := 78) (lv' := [(4, .inl (0 : Int32)), (0, .inr (.inr (some a0))), (1, .inl v1), (3, .inl v3)]) (st' := []) (by decide +kernel) rfl rfl ?_
    obtain rfl := Option.some.inj h
    exact xv_w hN rfl
  · rw [if_neg q20] at h
    refine xv_icmp_ge E 75 (show decode prog_14_method_67_code 29 = .ok (.if_icmp .ge (46), 3) by decide +kernel) rfl (fun z => absurd z q20) (fun _ => ?_)
    refine xv_b E [.aload_n 0] (pc' := 33) (lv' := [(0, .inr (.inr (some a0))), (1, .inl v1), (3, .inl v3), (4, .inl v4)]) (st' := [.inr (.inr (some a0))]) (by decide +kernel) rfl rfl ?_
    obtain ⟨o_12, h13, h⟩ := bd h
    refine xg_r E 12 44 h13 mw903 (show decode prog_14_method_67_code 33 = .ok (.getfield 125, 3) by decide +kernel) ?_
    refine xv_b E [.bipush 48, .iload_n 1, .imul, .bipush 8, .iload_n 3, .imul, .iadd, .iload 4, .iadd, .aload_n 0] (pc' := 49) (lv' := [(0, .inr (.inr (some a0))), (1, .inl v1), (3, .inl v3), (4, .inl v4)]) (st' := [.inr (.inr (some a0)), .inl ((((48 : Int32) * v1) + ((8 : Int32) * v3)) + v4), .inr (.inr o_12)]) (by decide +kernel) rfl rfl ?_
    obtain ⟨o_14, h15, h⟩ := bd h
    refine xg_r E 12 44 h15 mw903 (show decode prog_14_method_67_code 49 = .ok (.getfield 125, 3) by decide +kernel) ?_
    refine xv_b E [.bipush 48, .iload_n 1, .imul, .bipush 8, .iload_n 3, .imul, .iadd, .bipush 8, .iadd, .iload 4, .iadd] (pc' := 67) (lv' := [(0, .inr (.inr (some a0))), (1, .inl v1), (3, .inl v3), (4, .inl v4)]) (st' := [.inl (((((48 : Int32) * v1) + ((8 : Int32) * v3)) + (8 : Int32)) + v4), .inr (.inr o_14), .inl ((((48 : Int32) * v1) + ((8 : Int32) * v3)) + v4), .inr (.inr o_12)]) (by decide +kernel) rfl rfl ?_
    obtain ⟨v_16, h17, h⟩ := bd h
    refine xa_i E h17 (show decode prog_14_method_67_code 67 = .ok (.iaload, 1) by decide +kernel) ?_
    obtain ⟨M18, h19, h⟩ := bd h
    refine xs_i E h19 (show decode prog_14_method_67_code 68 = .ok (.iastore, 1) by decide +kernel) ?_
    refine xv_b E [.iinc 4 1] (pc' := 72) (lv' := [(4, .inl (v4 + (1 : Int32))), (0, .inr (.inr (some a0))), (1, .inl v1), (3, .inl v3)]) (st' := []) (by decide +kernel) rfl rfl ?_
    refine xv_goto E 25 (show decode prog_14_method_67_code 72 = .ok (.goto (-47), 3) by decide +kernel) rfl ?_
    obtain rfl := Option.some.inj h
    exact xv_w hN rfl
theorem sb203_78 (E : xE G p (xRm 0 (h_sz M' - z0) (h_sl M' - y0)) s m args c prog_14_method_67_code "ZonedFabricModel" z0 y0 (h_sz M') (h_sl M') 5) (B : xB ym203 none meth) (a0 : Nat) (v1 : Int32) (v3 : Int32) (v4 : Int32) (M : hM) {res : xRes} (h : b203_78 a0 v1 v3 v4 M = some res) (hN : xN (pg203 p l e s m args below meth c G z0 y0 r M') r M' res) : xV G p l e (xRm 0 (h_sz M' - z0) (h_sl M' - y0)) s m args below meth c z0 y0 (h_sz M') (h_sl M') 5 (MQ below (xQc G r M') args s (h_sz M' - z0) (h_sl M' - y0) (xFr G)) 78 [(0, .inr (.inr (some a0))), (1, .inl v1), (3, .inl v3), (4, .inl v4)] [] M := by
  unfold b203_78 at h
  refine xv_b E [.iload 4, .iconst 4] (pc' := 81) (lv' := [(0, .inr (.inr (some a0))), (1, .inl v1), (3, .inl v3), (4, .inl v4)]) (st' := [.inl (4 : Int32), .inl v4]) (by decide +kernel) rfl rfl ?_
  by_cases q29 : (4 : Int32) ≤ v4
  · rw [if_pos q29] at h
    refine xv_icmp_ge E 124 (show decode prog_14_method_67_code 81 = .ok (.if_icmp .ge (43), 3) by decide +kernel) rfl (fun _ => ?_) (fun z => absurd q29 z)
    refine xv_b E [.iinc 3 1] (pc' := 127) (lv' := [(3, .inl (v3 + (1 : Int32))), (0, .inr (.inr (some a0))), (1, .inl v1), (4, .inl v4)]) (st' := []) (by decide +kernel) rfl rfl ?_
    refine xv_goto E 12 (show decode prog_14_method_67_code 127 = .ok (.goto (-115), 3) by decide +kernel) rfl ?_
    obtain rfl := Option.some.inj h
    exact xv_w hN rfl
  · rw [if_neg q29] at h
    refine xv_icmp_ge E 124 (show decode prog_14_method_67_code 81 = .ok (.if_icmp .ge (43), 3) by decide +kernel) rfl (fun z => absurd z q29) (fun _ => ?_)
    refine xv_b E [.aload_n 0] (pc' := 85) (lv' := [(0, .inr (.inr (some a0))), (1, .inl v1), (3, .inl v3), (4, .inl v4)]) (st' := [.inr (.inr (some a0))]) (by decide +kernel) rfl rfl ?_
    obtain ⟨o_21, h22, h⟩ := bd h
    refine xg_r E 12 45 h22 mw904 (show decode prog_14_method_67_code 85 = .ok (.getfield 128, 3) by decide +kernel) ?_
    refine xv_b E [.bipush 24, .iload_n 1, .imul, .iconst 4, .iload_n 3, .imul, .iadd, .iload 4, .iadd, .aload_n 0] (pc' := 100) (lv' := [(0, .inr (.inr (some a0))), (1, .inl v1), (3, .inl v3), (4, .inl v4)]) (st' := [.inr (.inr (some a0)), .inl ((((24 : Int32) * v1) + ((4 : Int32) * v3)) + v4), .inr (.inr o_21)]) (by decide +kernel) rfl rfl ?_
    obtain ⟨o_23, h24, h⟩ := bd h
    refine xg_r E 12 45 h24 mw904 (show decode prog_14_method_67_code 100 = .ok (.getfield 128, 3) by decide +kernel) ?_
    refine xv_b E [.bipush 24, .iload_n 1, .imul, .iconst 4, .iload_n 3, .imul, .iadd, .iconst 4, .iadd, .iload 4, .iadd] (pc' := 116) (lv' := [(0, .inr (.inr (some a0))), (1, .inl v1), (3, .inl v3), (4, .inl v4)]) (st' := [.inl (((((24 : Int32) * v1) + ((4 : Int32) * v3)) + (4 : Int32)) + v4), .inr (.inr o_23), .inl ((((24 : Int32) * v1) + ((4 : Int32) * v3)) + v4), .inr (.inr o_21)]) (by decide +kernel) rfl rfl ?_
    obtain ⟨w_25, h26, h⟩ := bd h
    refine xa_l E h26 (show decode prog_14_method_67_code 116 = .ok (.laload, 1) by decide +kernel) ?_
    obtain ⟨M27, h28, h⟩ := bd h
    refine xs_l E h28 (show decode prog_14_method_67_code 117 = .ok (.lastore, 1) by decide +kernel) ?_
    refine xv_b E [.iinc 4 1] (pc' := 121) (lv' := [(4, .inl (v4 + (1 : Int32))), (0, .inr (.inr (some a0))), (1, .inl v1), (3, .inl v3)]) (st' := []) (by decide +kernel) rfl rfl ?_
    refine xv_goto E 78 (show decode prog_14_method_67_code 121 = .ok (.goto (-43), 3) by decide +kernel) rfl ?_
    obtain rfl := Option.some.inj h
    exact xv_w hN rfl
end
theorem t203 (G : gX) (l : Launch) {as : List aV} {M : hM} {r : Option aV} {M' : hM} (h : f203 as M = some (r, M')) : xM G l ym203 prog_14_method_67_code 5 none 0 as M r M' := by
  unfold f203 at h
  split at h
  · have hle : ∀ h as M res, k203 h as M = some res → h_sz M ≤ r_sz res ∧ h_sl M ≤ r_sl res := by
      intro h as M res hb
      unfold k203 at hb
      by_cases e0 : h = 12
      · rw [if_pos e0] at hb
        split at hb
        · exact lb203_12 G l _ _ _ M hb
        · cases hb
      · rw [if_neg e0] at hb
        by_cases e1 : h = 25
        · rw [if_pos e1] at hb
          split at hb
          · exact lb203_25 G l _ _ _ _ M hb
          · cases hb
        · rw [if_neg e1] at hb
          by_cases e2 : h = 78
          · rw [if_pos e2] at hb
            split at hb
            · exact lb203_78 G l _ _ _ _ M hb
            · cases hb
          · rw [if_neg e2] at hb
            cases hb
    obtain ⟨res, hx, hres⟩ := x_go_ok h
    refine xM_of (by decide) (Nat.le_of_ble_eq_true rfl) ?_ ?_
    · have e1 := lb203_0 G l _ _ _ M hx
      have e2 := x_go_le hle hres
      omega
    · intro p e s m args below meth c E B
      refine sb203_0 E B _ _ _ M hx (hres _ ?_)
      intro h as M res hb hN
      unfold k203 at hb
      unfold pg203
      by_cases e0 : h = 12
      · rw [if_pos e0] at hb ⊢
        split at hb
        · exact sb203_12 E B _ _ _ M hb hN
        · cases hb
      · rw [if_neg e0] at hb ⊢
        by_cases e1 : h = 25
        · rw [if_pos e1] at hb ⊢
          split at hb
          · exact sb203_25 E B _ _ _ _ M hb hN
          · cases hb
        · rw [if_neg e1] at hb ⊢
          by_cases e2 : h = 78
          · rw [if_pos e2] at hb ⊢
            split at hb
            · exact sb203_78 E B _ _ _ _ M hb hN
            · cases hb
          · rw [if_neg e2] at hb ⊢
            cases hb
  · cases h
/-! ZFModel.tellsPhase(I)V -/
def ym204 : MethodName := ⟨"ZonedFabricModel", "tellsPhase", "(I)V"⟩
theorem cd204 : xCd ym204 prog_14_method_56_code 6 none 1 := ⟨mw1038, mw864, by decide, by decide, by decide +kernel⟩
def b204_189 (a0 : Nat) (v2 : Int32) (v5 : Int32) (M : hM) : Option xRes :=
  Option.bind (g_o M 12 (some a0)) fun b_80 =>
  Option.bind (c_I (f176 [.inr (.inr (some b_80)), .inl v2] M)) fun q_78 =>
  Option.bind (g_o q_78.2 12 (some a0)) fun b_84 =>
  Option.bind (c_V (f183 [.inr (.inr (some b_84)), .inl q_78.1, .inl v5] q_78.2)) fun q_82 =>
  some (.inl (none, q_82))
def b204_157 (a0 : Nat) (v1 : Int32) (v2 : Int32) (v5 : Int32) (sl0 : Int64) (si1 : Int32) (sr2 : Option Nat) (M : hM) : Option xRes :=
  Option.bind (g_o M 12 sr2) fun b_60 =>
  Option.bind (c_V (f167 [.inr (.inr (some b_60)), .inl si1, .inr (.inl sl0), .inl (1 : Int32)] M)) fun q_58 =>
  Option.bind (g_r q_58 12 52 (some a0)) fun o_62 =>
  Option.bind (al_i q_58 20 o_62 v1) fun v_64 =>
  Option.bind (g_o q_58 12 (some a0)) fun b_68 =>
  Option.bind (c_V (f167 [.inr (.inr (some b_68)), .inl v5, .inr (.inl (Int32.toInt64 v_64)), .inl (1 : Int32)] q_58)) fun q_66 =>
  Option.bind (g_r q_66 12 53 (some a0)) fun o_70 =>
  Option.bind (al_i q_66 20 o_70 v1) fun v_72 =>
  Option.bind (g_o q_66 12 (some a0)) fun b_76 =>
  Option.bind (c_V (f167 [.inr (.inr (some b_76)), .inl v5, .inr (.inl (Int32.toInt64 v_72)), .inl (1 : Int32)] q_66)) fun q_74 =>
  b204_189 a0 v2 v5 q_74
def b204_121 (a0 : Nat) (v1 : Int32) (v2 : Int32) (v3 : Int32) (v5 : Int32) (M : hM) : Option xRes :=
  if v3 = (2 : Int32) then
    (Option.bind (g_r M 12 51 (some a0)) fun o_44 =>
    Option.bind (al_i M 20 o_44 v1) fun v_46 =>
    Option.bind (g_o M 12 (some a0)) fun b_50 =>
    Option.bind (c_V (f167 [.inr (.inr (some b_50)), .inl v5, .inr (.inl (Int32.toInt64 v_46)), .inl (1 : Int32)] M)) fun q_48 =>
    Option.bind (g_r q_48 12 50 (some a0)) fun o_52 =>
    Option.bind (al_i q_48 22 o_52 v1) fun v_54 =>
    if v_54 = 0 then
      (b204_157 a0 v1 v2 v5 (0 : Int64) v5 (some a0) q_48)
    else
      (b204_157 a0 v1 v2 v5 (1 : Int64) v5 (some a0) q_48))
  else
    (b204_189 a0 v2 v5 M)
def b204_107 (a0 : Nat) (v1 : Int32) (v2 : Int32) (v3 : Int32) (v5 : Int32) (M : hM) : Option xRes :=
  if v3 = (1 : Int32) then
    (Option.bind (g_o M 12 (some a0)) fun b_41 =>
    Option.bind (c_V (f167 [.inr (.inr (some b_41)), .inl v5, .inr (.inl (Int32.toInt64 v2)), .inl (1 : Int32)] M)) fun q_39 =>
    b204_121 a0 v1 v2 v3 v5 q_39)
  else
    (b204_121 a0 v1 v2 v3 v5 M)
def b204_75 (a0 : Nat) (v1 : Int32) (v2 : Int32) (v3 : Int32) (si0 : Int32) (si1 : Int32) (sr2 : Option Nat) (M : hM) : Option xRes :=
  Option.bind (g_r M 12 35 (some a0)) fun o_22 =>
  Option.bind (al_i M 20 o_22 v2) fun v_24 =>
  Option.bind (g_o M 12 sr2) fun b_28 =>
  Option.bind (c_I (f168 [.inr (.inr (some b_28)), .inl si1, .inl si0, .inl v_24, .inl v1, .inl (0 : Int32), .inl (0 : Int32)] M)) fun q_26 =>
  if v3 = 0 then
    (Option.bind (g_r q_26.2 12 49 (some a0)) fun o_30 =>
    Option.bind (al_i q_26.2 20 o_30 v1) fun v_32 =>
    Option.bind (g_o q_26.2 12 (some a0)) fun b_36 =>
    Option.bind (c_V (f167 [.inr (.inr (some b_36)), .inl q_26.1, .inr (.inl (Int32.toInt64 v_32)), .inl (1 : Int32)] q_26.2)) fun q_34 =>
    b204_107 a0 v1 v2 v3 q_26.1 q_34)
  else
    (b204_107 a0 v1 v2 v3 q_26.1 q_26.2)
def b204_54 (a0 : Nat) (v1 : Int32) (v2 : Int32) (v3 : Int32) (si0 : Int32) (M : hM) : Option xRes :=
  if v3 = 0 then
    (b204_75 a0 v1 v2 v3 (16777212 : Int32) si0 (some a0) M)
  else
    (Option.bind (g_r M 12 60 (some a0)) fun o_17 =>
    Option.bind (al_i M 20 o_17 v1) fun v_19 =>
    b204_75 a0 v1 v2 v3 v_19 si0 (some a0) M)
def b204_0 (a0 : Nat) (v1 : Int32) (M : hM) : Option xRes :=
  Option.bind (g_r M 12 48 (some a0)) fun o_1 =>
  Option.bind (al_i M 20 o_1 v1) fun v_3 =>
  Option.bind (g_r M 12 35 (some a0)) fun o_5 =>
  Option.bind (al_i M 20 o_5 v_3) fun v_7 =>
  if v_7 = 0 then
    (some (.inl (none, M)))
  else
    (Option.bind (g_r M 12 56 (some a0)) fun o_9 =>
    Option.bind (al_i M 20 o_9 v1) fun v_11 =>
    if v_11 = 0 then
      (b204_54 a0 v1 v_3 v_11 (5 : Int32) M)
    else
      (if v_11 = (1 : Int32) then
        (b204_54 a0 v1 v_3 v_11 (7 : Int32) M)
      else
        (if v_11 = (2 : Int32) then
          (b204_54 a0 v1 v_3 v_11 (9 : Int32) M)
        else
          (b204_54 a0 v1 v_3 v_11 (13 : Int32) M))))
def f204 (as : List aV) (M : hM) : xO := match as with
  | [.inr (.inr (some a0)), .inl v1] => x_out (b204_0 a0 v1 M)
  | _ => none
theorem lb204_189 (G : gX) (l : Launch) (a0 : Nat) (v2 : Int32) (v5 : Int32) (M : hM) {res : xRes} (h : b204_189 a0 v2 v5 M = some res) : h_sz M ≤ r_sz res ∧ h_sl M ≤ r_sl res := by
  unfold b204_189 at h
  obtain ⟨b_80, h81, h⟩ := bd h
  obtain ⟨q_78, h79, h⟩ := bd h
  have eh79 := (t176 G l (c_I_some h79)).1
  obtain ⟨b_84, h85, h⟩ := bd h
  obtain ⟨q_82, h83, h⟩ := bd h
  have eh83 := (t183 G l (c_V_some h83)).1
  obtain rfl := Option.some.inj h
  show h_sz M ≤ h_sz q_82 ∧ h_sl M ≤ h_sl q_82
  omega
theorem lb204_157 (G : gX) (l : Launch) (a0 : Nat) (v1 : Int32) (v2 : Int32) (v5 : Int32) (sl0 : Int64) (si1 : Int32) (sr2 : Option Nat) (M : hM) {res : xRes} (h : b204_157 a0 v1 v2 v5 sl0 si1 sr2 M = some res) : h_sz M ≤ r_sz res ∧ h_sl M ≤ r_sl res := by
  unfold b204_157 at h
  obtain ⟨b_60, h61, h⟩ := bd h
  obtain ⟨q_58, h59, h⟩ := bd h
  have eh59 := (t167 G l (c_V_some h59)).1
  obtain ⟨o_62, h63, h⟩ := bd h
  obtain ⟨v_64, h65, h⟩ := bd h
  obtain ⟨b_68, h69, h⟩ := bd h
  obtain ⟨q_66, h67, h⟩ := bd h
  have eh67 := (t167 G l (c_V_some h67)).1
  obtain ⟨o_70, h71, h⟩ := bd h
  obtain ⟨v_72, h73, h⟩ := bd h
  obtain ⟨b_76, h77, h⟩ := bd h
  obtain ⟨q_74, h75, h⟩ := bd h
  have eh75 := (t167 G l (c_V_some h75)).1
  have e := lb204_189 G l a0 v2 v5 q_74 h
  omega
theorem lb204_121 (G : gX) (l : Launch) (a0 : Nat) (v1 : Int32) (v2 : Int32) (v3 : Int32) (v5 : Int32) (M : hM) {res : xRes} (h : b204_121 a0 v1 v2 v3 v5 M = some res) : h_sz M ≤ r_sz res ∧ h_sl M ≤ r_sl res := by
  unfold b204_121 at h
  by_cases q57 : v3 = (2 : Int32)
  · rw [if_pos q57] at h
    obtain ⟨o_44, h45, h⟩ := bd h
    obtain ⟨v_46, h47, h⟩ := bd h
    obtain ⟨b_50, h51, h⟩ := bd h
    obtain ⟨q_48, h49, h⟩ := bd h
    have eh49 := (t167 G l (c_V_some h49)).1
    obtain ⟨o_52, h53, h⟩ := bd h
    obtain ⟨v_54, h55, h⟩ := bd h
    by_cases q56 : v_54 = 0
    · rw [if_pos q56] at h
      have e := lb204_157 G l a0 v1 v2 v5 (0 : Int64) v5 (some a0) q_48 h
      omega
    · rw [if_neg q56] at h
      have e := lb204_157 G l a0 v1 v2 v5 (1 : Int64) v5 (some a0) q_48 h
      omega
  · rw [if_neg q57] at h
    have e := lb204_189 G l a0 v2 v5 M h
    omega
theorem lb204_107 (G : gX) (l : Launch) (a0 : Nat) (v1 : Int32) (v2 : Int32) (v3 : Int32) (v5 : Int32) (M : hM) {res : xRes} (h : b204_107 a0 v1 v2 v3 v5 M = some res) : h_sz M ≤ r_sz res ∧ h_sl M ≤ r_sl res := by
  unfold b204_107 at h
  by_cases q43 : v3 = (1 : Int32)
  · rw [if_pos q43] at h
    obtain ⟨b_41, h42, h⟩ := bd h
    obtain ⟨q_39, h40, h⟩ := bd h
    have eh40 := (t167 G l (c_V_some h40)).1
    have e := lb204_121 G l a0 v1 v2 v3 v5 q_39 h
    omega
  · rw [if_neg q43] at h
    have e := lb204_121 G l a0 v1 v2 v3 v5 M h
    omega
theorem lb204_75 (G : gX) (l : Launch) (a0 : Nat) (v1 : Int32) (v2 : Int32) (v3 : Int32) (si0 : Int32) (si1 : Int32) (sr2 : Option Nat) (M : hM) {res : xRes} (h : b204_75 a0 v1 v2 v3 si0 si1 sr2 M = some res) : h_sz M ≤ r_sz res ∧ h_sl M ≤ r_sl res := by
  unfold b204_75 at h
  obtain ⟨o_22, h23, h⟩ := bd h
  obtain ⟨v_24, h25, h⟩ := bd h
  obtain ⟨b_28, h29, h⟩ := bd h
  obtain ⟨q_26, h27, h⟩ := bd h
  have eh27 := (t168 G l (c_I_some h27)).1
  by_cases q38 : v3 = 0
  · rw [if_pos q38] at h
    obtain ⟨o_30, h31, h⟩ := bd h
    obtain ⟨v_32, h33, h⟩ := bd h
    obtain ⟨b_36, h37, h⟩ := bd h
    obtain ⟨q_34, h35, h⟩ := bd h
    have eh35 := (t167 G l (c_V_some h35)).1
    have e := lb204_107 G l a0 v1 v2 v3 q_26.1 q_34 h
    omega
  · rw [if_neg q38] at h
    have e := lb204_107 G l a0 v1 v2 v3 q_26.1 q_26.2 h
    omega
theorem lb204_54 (G : gX) (l : Launch) (a0 : Nat) (v1 : Int32) (v2 : Int32) (v3 : Int32) (si0 : Int32) (M : hM) {res : xRes} (h : b204_54 a0 v1 v2 v3 si0 M = some res) : h_sz M ≤ r_sz res ∧ h_sl M ≤ r_sl res := by
  unfold b204_54 at h
  by_cases q21 : v3 = 0
  · rw [if_pos q21] at h
    have e := lb204_75 G l a0 v1 v2 v3 (16777212 : Int32) si0 (some a0) M h
    omega
  · rw [if_neg q21] at h
    obtain ⟨o_17, h18, h⟩ := bd h
    obtain ⟨v_19, h20, h⟩ := bd h
    have e := lb204_75 G l a0 v1 v2 v3 v_19 si0 (some a0) M h
    omega
theorem lb204_0 (G : gX) (l : Launch) (a0 : Nat) (v1 : Int32) (M : hM) {res : xRes} (h : b204_0 a0 v1 M = some res) : h_sz M ≤ r_sz res ∧ h_sl M ≤ r_sl res := by
  unfold b204_0 at h
  obtain ⟨o_1, h2, h⟩ := bd h
  obtain ⟨v_3, h4, h⟩ := bd h
  obtain ⟨o_5, h6, h⟩ := bd h
  obtain ⟨v_7, h8, h⟩ := bd h
  by_cases q16 : v_7 = 0
  · rw [if_pos q16] at h
    obtain rfl := Option.some.inj h
    show h_sz M ≤ h_sz M ∧ h_sl M ≤ h_sl M
    omega
  · rw [if_neg q16] at h
    obtain ⟨o_9, h10, h⟩ := bd h
    obtain ⟨v_11, h12, h⟩ := bd h
    by_cases q15 : v_11 = 0
    · rw [if_pos q15] at h
      have e := lb204_54 G l a0 v1 v_3 v_11 (5 : Int32) M h
      omega
    · rw [if_neg q15] at h
      by_cases q14 : v_11 = (1 : Int32)
      · rw [if_pos q14] at h
        have e := lb204_54 G l a0 v1 v_3 v_11 (7 : Int32) M h
        omega
      · rw [if_neg q14] at h
        by_cases q13 : v_11 = (2 : Int32)
        · rw [if_pos q13] at h
          have e := lb204_54 G l a0 v1 v_3 v_11 (9 : Int32) M h
          omega
        · rw [if_neg q13] at h
          have e := lb204_54 G l a0 v1 v_3 v_11 (13 : Int32) M h
          omega
section
variable {p : Program} {l : Launch} {e : Env} {s : State} {m : MethodId} {args : Array Value} {below : List Frame} {meth : Method} {c : Code} {G : gX} {z0 y0 : Nat} {r : Option aV} {M' : hM}
theorem sb204_189 (E : xE G p (xRm 4 (h_sz M' - z0) (h_sl M' - y0)) s m args c prog_14_method_56_code "ZonedFabricModel" z0 y0 (h_sz M') (h_sl M') 6) (B : xB ym204 none meth) (a0 : Nat) (v2 : Int32) (v5 : Int32) (M : hM) {res : xRes} (h : b204_189 a0 v2 v5 M = some res) (hN : xN (fun _ _ _ => False) r M' res) : xV G p l e (xRm 4 (h_sz M' - z0) (h_sl M' - y0)) s m args below meth c z0 y0 (h_sz M') (h_sl M') 6 (MQ below (xQc G r M') args s (h_sz M' - z0) (h_sl M' - y0) (xFr G)) 189 [(0, .inr (.inr (some a0))), (2, .inl v2), (5, .inl v5)] [] M := by
  unfold b204_189 at h
  refine xv_b E [.aload_n 0, .aload_n 0, .iload_n 2] (pc' := 192) (lv' := [(0, .inr (.inr (some a0))), (2, .inl v2), (5, .inl v5)]) (st' := [.inl v2, .inr (.inr (some a0)), .inr (.inr (some a0))]) (by decide +kernel) rfl rfl ?_
  obtain ⟨b_80, h81, h⟩ := bd h
  obtain ⟨eh81, th81⟩ := g_o_some h81
  obtain ⟨q_78, h79, h⟩ := bd h
  refine xv_cvo E eh81 12 (as := [.inl v2]) (t176 G l (c_I_some h79)) cd176 mw1040 mw1041 mw1042 (show decode prog_14_method_56_code 192 = .ok (.invokevirtual 352, 3) by decide +kernel) th81 rfl rfl (Nat.le_of_ble_eq_true rfl) ⟨Nat.le_of_ble_eq_true rfl, Nat.le_of_ble_eq_true rfl⟩ ?_
  refine xv_b E [.iload 5] (pc' := 197) (lv' := [(0, .inr (.inr (some a0))), (2, .inl v2), (5, .inl v5)]) (st' := [.inl v5, .inl q_78.1, .inr (.inr (some a0))]) (by decide +kernel) rfl rfl ?_
  obtain ⟨b_84, h85, h⟩ := bd h
  obtain ⟨eh85, th85⟩ := g_o_some h85
  obtain ⟨q_82, h83, h⟩ := bd h
  refine xv_cvo E eh85 12 (as := [.inl q_78.1, .inl v5]) (t183 G l (c_V_some h83)) cd183 mw1043 mw1044 mw1045 (show decode prog_14_method_56_code 197 = .ok (.invokevirtual 301, 3) by decide +kernel) th85 rfl rfl (Nat.le_of_ble_eq_true rfl) ⟨Nat.le_of_ble_eq_true rfl, Nat.le_of_ble_eq_true rfl⟩ ?_
  obtain rfl := Option.some.inj h
  obtain ⟨rfl, rfl⟩ := Prod.mk.inj (show ((none : Option aV), q_82) = (r, M') from hN)
  exact xv_rv E B.1 B.2.1 (show decode prog_14_method_56_code 200 = .ok (.return_, 1) by decide +kernel) rfl rfl
theorem sb204_157 (E : xE G p (xRm 4 (h_sz M' - z0) (h_sl M' - y0)) s m args c prog_14_method_56_code "ZonedFabricModel" z0 y0 (h_sz M') (h_sl M') 6) (B : xB ym204 none meth) (a0 : Nat) (v1 : Int32) (v2 : Int32) (v5 : Int32) (sl0 : Int64) (si1 : Int32) (sr2 : Option Nat) (M : hM) {res : xRes} (h : b204_157 a0 v1 v2 v5 sl0 si1 sr2 M = some res) (hN : xN (fun _ _ _ => False) r M' res) : xV G p l e (xRm 4 (h_sz M' - z0) (h_sl M' - y0)) s m args below meth c z0 y0 (h_sz M') (h_sl M') 6 (MQ below (xQc G r M') args s (h_sz M' - z0) (h_sl M' - y0) (xFr G)) 157 [(0, .inr (.inr (some a0))), (1, .inl v1), (2, .inl v2), (5, .inl v5)] [.inr (.inl sl0), .inl si1, .inr (.inr sr2)] M := by
  unfold b204_157 at h
  refine xv_b E [.iconst 1] (pc' := 158) (lv' := [(0, .inr (.inr (some a0))), (1, .inl v1), (2, .inl v2), (5, .inl v5)]) (st' := [.inl (1 : Int32), .inr (.inl sl0), .inl si1, .inr (.inr sr2)]) (by decide +kernel) rfl rfl ?_
  obtain ⟨b_60, h61, h⟩ := bd h
  obtain ⟨eh61, th61⟩ := g_o_some h61
  obtain ⟨q_58, h59, h⟩ := bd h
  refine xv_cvo E eh61 12 (as := [.inl si1, .inr (.inl sl0), .inl (1 : Int32)]) (t167 G l (c_V_some h59)) cd167 mw932 mw933 mw934 (show decode prog_14_method_56_code 158 = .ok (.invokevirtual 190, 3) by decide +kernel) th61 rfl rfl (Nat.le_of_ble_eq_true rfl) ⟨Nat.le_of_ble_eq_true rfl, Nat.le_of_ble_eq_true rfl⟩ ?_
  refine xv_b E [.aload_n 0, .iload 5, .aload_n 0] (pc' := 165) (lv' := [(0, .inr (.inr (some a0))), (1, .inl v1), (2, .inl v2), (5, .inl v5)]) (st' := [.inr (.inr (some a0)), .inl v5, .inr (.inr (some a0))]) (by decide +kernel) rfl rfl ?_
  obtain ⟨o_62, h63, h⟩ := bd h
  refine xg_r E 12 52 h63 mw910 (show decode prog_14_method_56_code 165 = .ok (.getfield 146, 3) by decide +kernel) ?_
  refine xv_b E [.iload_n 1] (pc' := 169) (lv' := [(0, .inr (.inr (some a0))), (1, .inl v1), (2, .inl v2), (5, .inl v5)]) (st' := [.inl v1, .inr (.inr o_62), .inl v5, .inr (.inr (some a0))]) (by decide +kernel) rfl rfl ?_
  obtain ⟨v_64, h65, h⟩ := bd h
  refine xa_i E h65 (show decode prog_14_method_56_code 169 = .ok (.iaload, 1) by decide +kernel) ?_
  refine xv_b E [.i2l, .iconst 1] (pc' := 172) (lv' := [(0, .inr (.inr (some a0))), (1, .inl v1), (2, .inl v2), (5, .inl v5)]) (st' := [.inl (1 : Int32), .inr (.inl (Int32.toInt64 v_64)), .inl v5, .inr (.inr (some a0))]) (by decide +kernel) rfl rfl ?_
  obtain ⟨b_68, h69, h⟩ := bd h
  obtain ⟨eh69, th69⟩ := g_o_some h69
  obtain ⟨q_66, h67, h⟩ := bd h
  refine xv_cvo E eh69 12 (as := [.inl v5, .inr (.inl (Int32.toInt64 v_64)), .inl (1 : Int32)]) (t167 G l (c_V_some h67)) cd167 mw932 mw933 mw934 (show decode prog_14_method_56_code 172 = .ok (.invokevirtual 190, 3) by decide +kernel) th69 rfl rfl (Nat.le_of_ble_eq_true rfl) ⟨Nat.le_of_ble_eq_true rfl, Nat.le_of_ble_eq_true rfl⟩ ?_
  refine xv_b E [.aload_n 0, .iload 5, .aload_n 0] (pc' := 179) (lv' := [(0, .inr (.inr (some a0))), (1, .inl v1), (2, .inl v2), (5, .inl v5)]) (st' := [.inr (.inr (some a0)), .inl v5, .inr (.inr (some a0))]) (by decide +kernel) rfl rfl ?_
  obtain ⟨o_70, h71, h⟩ := bd h
  refine xg_r E 12 53 h71 mw911 (show decode prog_14_method_56_code 179 = .ok (.getfield 149, 3) by decide +kernel) ?_
  refine xv_b E [.iload_n 1] (pc' := 183) (lv' := [(0, .inr (.inr (some a0))), (1, .inl v1), (2, .inl v2), (5, .inl v5)]) (st' := [.inl v1, .inr (.inr o_70), .inl v5, .inr (.inr (some a0))]) (by decide +kernel) rfl rfl ?_
  obtain ⟨v_72, h73, h⟩ := bd h
  refine xa_i E h73 (show decode prog_14_method_56_code 183 = .ok (.iaload, 1) by decide +kernel) ?_
  refine xv_b E [.i2l, .iconst 1] (pc' := 186) (lv' := [(0, .inr (.inr (some a0))), (1, .inl v1), (2, .inl v2), (5, .inl v5)]) (st' := [.inl (1 : Int32), .inr (.inl (Int32.toInt64 v_72)), .inl v5, .inr (.inr (some a0))]) (by decide +kernel) rfl rfl ?_
  obtain ⟨b_76, h77, h⟩ := bd h
  obtain ⟨eh77, th77⟩ := g_o_some h77
  obtain ⟨q_74, h75, h⟩ := bd h
  refine xv_cvo E eh77 12 (as := [.inl v5, .inr (.inl (Int32.toInt64 v_72)), .inl (1 : Int32)]) (t167 G l (c_V_some h75)) cd167 mw932 mw933 mw934 (show decode prog_14_method_56_code 186 = .ok (.invokevirtual 190, 3) by decide +kernel) th77 rfl rfl (Nat.le_of_ble_eq_true rfl) ⟨Nat.le_of_ble_eq_true rfl, Nat.le_of_ble_eq_true rfl⟩ ?_
  exact xv_w (sb204_189 E B a0 v2 v5 q_74 h hN) rfl
theorem sb204_121 (E : xE G p (xRm 4 (h_sz M' - z0) (h_sl M' - y0)) s m args c prog_14_method_56_code "ZonedFabricModel" z0 y0 (h_sz M') (h_sl M') 6) (B : xB ym204 none meth) (a0 : Nat) (v1 : Int32) (v2 : Int32) (v3 : Int32) (v5 : Int32) (M : hM) {res : xRes} (h : b204_121 a0 v1 v2 v3 v5 M = some res) (hN : xN (fun _ _ _ => False) r M' res) : xV G p l e (xRm 4 (h_sz M' - z0) (h_sl M' - y0)) s m args below meth c z0 y0 (h_sz M') (h_sl M') 6 (MQ below (xQc G r M') args s (h_sz M' - z0) (h_sl M' - y0) (xFr G)) 121 [(0, .inr (.inr (some a0))), (1, .inl v1), (2, .inl v2), (3, .inl v3), (5, .inl v5)] [] M := by
  unfold b204_121 at h
  refine xv_b E [.iload_n 3, .iconst 2] (pc' := 123) (lv' := [(0, .inr (.inr (some a0))), (1, .inl v1), (2, .inl v2), (3, .inl v3), (5, .inl v5)]) (st' := [.inl (2 : Int32), .inl v3]) (by decide +kernel) rfl rfl ?_
  by_cases q57 : v3 = (2 : Int32)
  · rw [if_pos q57] at h
    refine xv_icmp_ne E 189 (show decode prog_14_method_56_code 123 = .ok (.if_icmp .ne (66), 3) by decide +kernel) rfl (fun z => absurd q57 z) (fun _ => ?_)
    refine xv_b E [.aload_n 0, .iload 5, .aload_n 0] (pc' := 130) (lv' := [(0, .inr (.inr (some a0))), (1, .inl v1), (2, .inl v2), (3, .inl v3), (5, .inl v5)]) (st' := [.inr (.inr (some a0)), .inl v5, .inr (.inr (some a0))]) (by decide +kernel) rfl rfl ?_
    obtain ⟨o_44, h45, h⟩ := bd h
    refine xg_r E 12 51 h45 mw909 (show decode prog_14_method_56_code 130 = .ok (.getfield 143, 3) by decide +kernel) ?_
    refine xv_b E [.iload_n 1] (pc' := 134) (lv' := [(0, .inr (.inr (some a0))), (1, .inl v1), (2, .inl v2), (3, .inl v3), (5, .inl v5)]) (st' := [.inl v1, .inr (.inr o_44), .inl v5, .inr (.inr (some a0))]) (by decide +kernel) rfl rfl ?_
    obtain ⟨v_46, h47, h⟩ := bd h
    refine xa_i E h47 (show decode prog_14_method_56_code 134 = .ok (.iaload, 1) by decide +kernel) ?_
    refine xv_b E [.i2l, .iconst 1] (pc' := 137) (lv' := [(0, .inr (.inr (some a0))), (1, .inl v1), (2, .inl v2), (3, .inl v3), (5, .inl v5)]) (st' := [.inl (1 : Int32), .inr (.inl (Int32.toInt64 v_46)), .inl v5, .inr (.inr (some a0))]) (by decide +kernel) rfl rfl ?_
    obtain ⟨b_50, h51, h⟩ := bd h
    obtain ⟨eh51, th51⟩ := g_o_some h51
    obtain ⟨q_48, h49, h⟩ := bd h
    refine xv_cvo E eh51 12 (as := [.inl v5, .inr (.inl (Int32.toInt64 v_46)), .inl (1 : Int32)]) (t167 G l (c_V_some h49)) cd167 mw932 mw933 mw934 (show decode prog_14_method_56_code 137 = .ok (.invokevirtual 190, 3) by decide +kernel) th51 rfl rfl (Nat.le_of_ble_eq_true rfl) ⟨Nat.le_of_ble_eq_true rfl, Nat.le_of_ble_eq_true rfl⟩ ?_
    refine xv_b E [.aload_n 0, .iload 5, .aload_n 0] (pc' := 144) (lv' := [(0, .inr (.inr (some a0))), (1, .inl v1), (2, .inl v2), (3, .inl v3), (5, .inl v5)]) (st' := [.inr (.inr (some a0)), .inl v5, .inr (.inr (some a0))]) (by decide +kernel) rfl rfl ?_
    obtain ⟨o_52, h53, h⟩ := bd h
    refine xg_r E 12 50 h53 mw908 (show decode prog_14_method_56_code 144 = .ok (.getfield 140, 3) by decide +kernel) ?_
    refine xv_b E [.iload_n 1] (pc' := 148) (lv' := [(0, .inr (.inr (some a0))), (1, .inl v1), (2, .inl v2), (3, .inl v3), (5, .inl v5)]) (st' := [.inl v1, .inr (.inr o_52), .inl v5, .inr (.inr (some a0))]) (by decide +kernel) rfl rfl ?_
    obtain ⟨v_54, h55, h⟩ := bd h
    refine xa_z E h55 (show decode prog_14_method_56_code 148 = .ok (.baload, 1) by decide +kernel) ?_
    by_cases q56 : v_54 = 0
    · rw [if_pos q56] at h
      refine xv_if_eq E 156 (show decode prog_14_method_56_code 149 = .ok (.ifCond .eq (7), 3) by decide +kernel) rfl (fun _ => ?_) (fun z => absurd q56 z)
      refine xv_b E [.lconst 0] (pc' := 157) (lv' := [(0, .inr (.inr (some a0))), (1, .inl v1), (2, .inl v2), (3, .inl v3), (5, .inl v5)]) (st' := [.inr (.inl (0 : Int64)), .inl v5, .inr (.inr (some a0))]) (by decide +kernel) rfl rfl ?_
      exact xv_w (sb204_157 E B a0 v1 v2 v5 (0 : Int64) v5 (some a0) q_48 h hN) rfl
    · rw [if_neg q56] at h
      refine xv_if_eq E 156 (show decode prog_14_method_56_code 149 = .ok (.ifCond .eq (7), 3) by decide +kernel) rfl (fun z => absurd z q56) (fun _ => ?_)
      refine xv_b E [.lconst 1] (pc' := 153) (lv' := [(0, .inr (.inr (some a0))), (1, .inl v1), (2, .inl v2), (3, .inl v3), (5, .inl v5)]) (st' := [.inr (.inl (1 : Int64)), .inl v5, .inr (.inr (some a0))]) (by decide +kernel) rfl rfl ?_
      refine xv_goto E 157 (show decode prog_14_method_56_code 153 = .ok (.goto (4), 3) by decide +kernel) rfl ?_
      exact xv_w (sb204_157 E B a0 v1 v2 v5 (1 : Int64) v5 (some a0) q_48 h hN) rfl
  · rw [if_neg q57] at h
    refine xv_icmp_ne E 189 (show decode prog_14_method_56_code 123 = .ok (.if_icmp .ne (66), 3) by decide +kernel) rfl (fun _ => ?_) (fun z => absurd z q57)
    exact xv_w (sb204_189 E B a0 v2 v5 M h hN) rfl
theorem sb204_107 (E : xE G p (xRm 4 (h_sz M' - z0) (h_sl M' - y0)) s m args c prog_14_method_56_code "ZonedFabricModel" z0 y0 (h_sz M') (h_sl M') 6) (B : xB ym204 none meth) (a0 : Nat) (v1 : Int32) (v2 : Int32) (v3 : Int32) (v5 : Int32) (M : hM) {res : xRes} (h : b204_107 a0 v1 v2 v3 v5 M = some res) (hN : xN (fun _ _ _ => False) r M' res) : xV G p l e (xRm 4 (h_sz M' - z0) (h_sl M' - y0)) s m args below meth c z0 y0 (h_sz M') (h_sl M') 6 (MQ below (xQc G r M') args s (h_sz M' - z0) (h_sl M' - y0) (xFr G)) 107 [(0, .inr (.inr (some a0))), (1, .inl v1), (2, .inl v2), (3, .inl v3), (5, .inl v5)] [] M := by
  unfold b204_107 at h
  refine xv_b E [.iload_n 3, .iconst 1] (pc' := 109) (lv' := [(0, .inr (.inr (some a0))), (1, .inl v1), (2, .inl v2), (3, .inl v3), (5, .inl v5)]) (st' := [.inl (1 : Int32), .inl v3]) (by decide +kernel) rfl rfl ?_
  by_cases q43 : v3 = (1 : Int32)
  · rw [if_pos q43] at h
    refine xv_icmp_ne E 121 (show decode prog_14_method_56_code 109 = .ok (.if_icmp .ne (12), 3) by decide +kernel) rfl (fun z => absurd q43 z) (fun _ => ?_)
    refine xv_b E [.aload_n 0, .iload 5, .iload_n 2, .i2l, .iconst 1] (pc' := 118) (lv' := [(0, .inr (.inr (some a0))), (1, .inl v1), (2, .inl v2), (3, .inl v3), (5, .inl v5)]) (st' := [.inl (1 : Int32), .inr (.inl (Int32.toInt64 v2)), .inl v5, .inr (.inr (some a0))]) (by decide +kernel) rfl rfl ?_
    obtain ⟨b_41, h42, h⟩ := bd h
    obtain ⟨eh42, th42⟩ := g_o_some h42
    obtain ⟨q_39, h40, h⟩ := bd h
    refine xv_cvo E eh42 12 (as := [.inl v5, .inr (.inl (Int32.toInt64 v2)), .inl (1 : Int32)]) (t167 G l (c_V_some h40)) cd167 mw932 mw933 mw934 (show decode prog_14_method_56_code 118 = .ok (.invokevirtual 190, 3) by decide +kernel) th42 rfl rfl (Nat.le_of_ble_eq_true rfl) ⟨Nat.le_of_ble_eq_true rfl, Nat.le_of_ble_eq_true rfl⟩ ?_
    exact xv_w (sb204_121 E B a0 v1 v2 v3 v5 q_39 h hN) rfl
  · rw [if_neg q43] at h
    refine xv_icmp_ne E 121 (show decode prog_14_method_56_code 109 = .ok (.if_icmp .ne (12), 3) by decide +kernel) rfl (fun _ => ?_) (fun z => absurd z q43)
    exact xv_w (sb204_121 E B a0 v1 v2 v3 v5 M h hN) rfl
theorem sb204_75 (E : xE G p (xRm 4 (h_sz M' - z0) (h_sl M' - y0)) s m args c prog_14_method_56_code "ZonedFabricModel" z0 y0 (h_sz M') (h_sl M') 6) (B : xB ym204 none meth) (a0 : Nat) (v1 : Int32) (v2 : Int32) (v3 : Int32) (si0 : Int32) (si1 : Int32) (sr2 : Option Nat) (M : hM) {res : xRes} (h : b204_75 a0 v1 v2 v3 si0 si1 sr2 M = some res) (hN : xN (fun _ _ _ => False) r M' res) : xV G p l e (xRm 4 (h_sz M' - z0) (h_sl M' - y0)) s m args below meth c z0 y0 (h_sz M') (h_sl M') 6 (MQ below (xQc G r M') args s (h_sz M' - z0) (h_sl M' - y0) (xFr G)) 75 [(0, .inr (.inr (some a0))), (1, .inl v1), (2, .inl v2), (3, .inl v3)] [.inl si0, .inl si1, .inr (.inr sr2)] M := by
  unfold b204_75 at h
  refine xv_b E [.aload_n 0] (pc' := 76) (lv' := [(0, .inr (.inr (some a0))), (1, .inl v1), (2, .inl v2), (3, .inl v3)]) (st' := [.inr (.inr (some a0)), .inl si0, .inl si1, .inr (.inr sr2)]) (by decide +kernel) rfl rfl ?_
  obtain ⟨o_22, h23, h⟩ := bd h
  refine xg_r E 12 35 h23 mw895 (show decode prog_14_method_56_code 76 = .ok (.getfield 100, 3) by decide +kernel) ?_
  refine xv_b E [.iload_n 2] (pc' := 80) (lv' := [(0, .inr (.inr (some a0))), (1, .inl v1), (2, .inl v2), (3, .inl v3)]) (st' := [.inl v2, .inr (.inr o_22), .inl si0, .inl si1, .inr (.inr sr2)]) (by decide +kernel) rfl rfl ?_
  obtain ⟨v_24, h25, h⟩ := bd h
  refine xa_i E h25 (show decode prog_14_method_56_code 80 = .ok (.iaload, 1) by decide +kernel) ?_
  refine xv_b E [.iload_n 1, .iconst 0, .iconst 0] (pc' := 84) (lv' := [(0, .inr (.inr (some a0))), (1, .inl v1), (2, .inl v2), (3, .inl v3)]) (st' := [.inl (0 : Int32), .inl (0 : Int32), .inl v1, .inl v_24, .inl si0, .inl si1, .inr (.inr sr2)]) (by decide +kernel) rfl rfl ?_
  obtain ⟨b_28, h29, h⟩ := bd h
  obtain ⟨eh29, th29⟩ := g_o_some h29
  obtain ⟨q_26, h27, h⟩ := bd h
  refine xv_cvo E eh29 12 (as := [.inl si1, .inl si0, .inl v_24, .inl v1, .inl (0 : Int32), .inl (0 : Int32)]) (t168 G l (c_I_some h27)) cd168 mw1033 mw1034 mw1035 (show decode prog_14_method_56_code 84 = .ok (.invokevirtual 272, 3) by decide +kernel) th29 rfl rfl (Nat.le_of_ble_eq_true rfl) ⟨Nat.le_of_ble_eq_true rfl, Nat.le_of_ble_eq_true rfl⟩ ?_
  refine xv_b E [.istore 5, .iload_n 3] (pc' := 90) (lv' := [(5, .inl q_26.1), (0, .inr (.inr (some a0))), (1, .inl v1), (2, .inl v2), (3, .inl v3)]) (st' := [.inl v3]) (by decide +kernel) rfl rfl ?_
  by_cases q38 : v3 = 0
  · rw [if_pos q38] at h
    refine xv_if_ne E 107 (show decode prog_14_method_56_code 90 = .ok (.ifCond .ne (17), 3) by decide +kernel) rfl (fun z => absurd q38 z) (fun _ => ?_)
    refine xv_b E [.aload_n 0, .iload 5, .aload_n 0] (pc' := 97) (lv' := [(5, .inl q_26.1), (0, .inr (.inr (some a0))), (1, .inl v1), (2, .inl v2), (3, .inl v3)]) (st' := [.inr (.inr (some a0)), .inl q_26.1, .inr (.inr (some a0))]) (by decide +kernel) rfl rfl ?_
    obtain ⟨o_30, h31, h⟩ := bd h
    refine xg_r E 12 49 h31 mw907 (show decode prog_14_method_56_code 97 = .ok (.getfield 137, 3) by decide +kernel) ?_
    refine xv_b E [.iload_n 1] (pc' := 101) (lv' := [(5, .inl q_26.1), (0, .inr (.inr (some a0))), (1, .inl v1), (2, .inl v2), (3, .inl v3)]) (st' := [.inl v1, .inr (.inr o_30), .inl q_26.1, .inr (.inr (some a0))]) (by decide +kernel) rfl rfl ?_
    obtain ⟨v_32, h33, h⟩ := bd h
    refine xa_i E h33 (show decode prog_14_method_56_code 101 = .ok (.iaload, 1) by decide +kernel) ?_
    refine xv_b E [.i2l, .iconst 1] (pc' := 104) (lv' := [(5, .inl q_26.1), (0, .inr (.inr (some a0))), (1, .inl v1), (2, .inl v2), (3, .inl v3)]) (st' := [.inl (1 : Int32), .inr (.inl (Int32.toInt64 v_32)), .inl q_26.1, .inr (.inr (some a0))]) (by decide +kernel) rfl rfl ?_
    obtain ⟨b_36, h37, h⟩ := bd h
    obtain ⟨eh37, th37⟩ := g_o_some h37
    obtain ⟨q_34, h35, h⟩ := bd h
    refine xv_cvo E eh37 12 (as := [.inl q_26.1, .inr (.inl (Int32.toInt64 v_32)), .inl (1 : Int32)]) (t167 G l (c_V_some h35)) cd167 mw932 mw933 mw934 (show decode prog_14_method_56_code 104 = .ok (.invokevirtual 190, 3) by decide +kernel) th37 rfl rfl (Nat.le_of_ble_eq_true rfl) ⟨Nat.le_of_ble_eq_true rfl, Nat.le_of_ble_eq_true rfl⟩ ?_
    exact xv_w (sb204_107 E B a0 v1 v2 v3 q_26.1 q_34 h hN) rfl
  · rw [if_neg q38] at h
    refine xv_if_ne E 107 (show decode prog_14_method_56_code 90 = .ok (.ifCond .ne (17), 3) by decide +kernel) rfl (fun _ => ?_) (fun z => absurd z q38)
    exact xv_w (sb204_107 E B a0 v1 v2 v3 q_26.1 q_26.2 h hN) rfl
theorem sb204_54 (E : xE G p (xRm 4 (h_sz M' - z0) (h_sl M' - y0)) s m args c prog_14_method_56_code "ZonedFabricModel" z0 y0 (h_sz M') (h_sl M') 6) (B : xB ym204 none meth) (a0 : Nat) (v1 : Int32) (v2 : Int32) (v3 : Int32) (si0 : Int32) (M : hM) {res : xRes} (h : b204_54 a0 v1 v2 v3 si0 M = some res) (hN : xN (fun _ _ _ => False) r M' res) : xV G p l e (xRm 4 (h_sz M' - z0) (h_sl M' - y0)) s m args below meth c z0 y0 (h_sz M') (h_sl M') 6 (MQ below (xQc G r M') args s (h_sz M' - z0) (h_sl M' - y0) (xFr G)) 54 [(0, .inr (.inr (some a0))), (1, .inl v1), (2, .inl v2), (3, .inl v3)] [.inl si0] M := by
  unfold b204_54 at h
  refine xv_b E [.istore 4, .aload_n 0, .iload 4, .iload_n 3] (pc' := 60) (lv' := [(4, .inl si0), (0, .inr (.inr (some a0))), (1, .inl v1), (2, .inl v2), (3, .inl v3)]) (st' := [.inl v3, .inl si0, .inr (.inr (some a0))]) (by decide +kernel) rfl rfl ?_
  by_cases q21 : v3 = 0
  · rw [if_pos q21] at h
    refine xv_if_ne E 69 (show decode prog_14_method_56_code 60 = .ok (.ifCond .ne (9), 3) by decide +kernel) rfl (fun z => absurd q21 z) (fun _ => ?_)
    refine xv_ldcw E (16777212 : Int32) mw1039 (show decode prog_14_method_56_code 63 = .ok (.ldc_w 328, 3) by decide +kernel) ?_
    refine xv_goto E 75 (show decode prog_14_method_56_code 66 = .ok (.goto (9), 3) by decide +kernel) rfl ?_
    exact xv_w (sb204_75 E B a0 v1 v2 v3 (16777212 : Int32) si0 (some a0) M h hN) rfl
  · rw [if_neg q21] at h
    refine xv_if_ne E 69 (show decode prog_14_method_56_code 60 = .ok (.ifCond .ne (9), 3) by decide +kernel) rfl (fun _ => ?_) (fun z => absurd z q21)
    refine xv_b E [.aload_n 0] (pc' := 70) (lv' := [(4, .inl si0), (0, .inr (.inr (some a0))), (1, .inl v1), (2, .inl v2), (3, .inl v3)]) (st' := [.inr (.inr (some a0)), .inl si0, .inr (.inr (some a0))]) (by decide +kernel) rfl rfl ?_
    obtain ⟨o_17, h18, h⟩ := bd h
    refine xg_r E 12 60 h18 mw918 (show decode prog_14_method_56_code 70 = .ok (.getfield 170, 3) by decide +kernel) ?_
    refine xv_b E [.iload_n 1] (pc' := 74) (lv' := [(4, .inl si0), (0, .inr (.inr (some a0))), (1, .inl v1), (2, .inl v2), (3, .inl v3)]) (st' := [.inl v1, .inr (.inr o_17), .inl si0, .inr (.inr (some a0))]) (by decide +kernel) rfl rfl ?_
    obtain ⟨v_19, h20, h⟩ := bd h
    refine xa_i E h20 (show decode prog_14_method_56_code 74 = .ok (.iaload, 1) by decide +kernel) ?_
    exact xv_w (sb204_75 E B a0 v1 v2 v3 v_19 si0 (some a0) M h hN) rfl
theorem sb204_0 (E : xE G p (xRm 4 (h_sz M' - z0) (h_sl M' - y0)) s m args c prog_14_method_56_code "ZonedFabricModel" z0 y0 (h_sz M') (h_sl M') 6) (B : xB ym204 none meth) (a0 : Nat) (v1 : Int32) (M : hM) {res : xRes} (h : b204_0 a0 v1 M = some res) (hN : xN (fun _ _ _ => False) r M' res) : xV G p l e (xRm 4 (h_sz M' - z0) (h_sl M' - y0)) s m args below meth c z0 y0 (h_sz M') (h_sl M') 6 (MQ below (xQc G r M') args s (h_sz M' - z0) (h_sl M' - y0) (xFr G)) 0 [(0, .inr (.inr (some a0))), (1, .inl v1)] [] M := by
  unfold b204_0 at h
  refine xv_b E [.aload_n 0] (pc' := 1) (lv' := [(0, .inr (.inr (some a0))), (1, .inl v1)]) (st' := [.inr (.inr (some a0))]) (by decide +kernel) rfl rfl ?_
  obtain ⟨o_1, h2, h⟩ := bd h
  refine xg_r E 12 48 h2 mw906 (show decode prog_14_method_56_code 1 = .ok (.getfield 134, 3) by decide +kernel) ?_
  refine xv_b E [.iload_n 1] (pc' := 5) (lv' := [(0, .inr (.inr (some a0))), (1, .inl v1)]) (st' := [.inl v1, .inr (.inr o_1)]) (by decide +kernel) rfl rfl ?_
  obtain ⟨v_3, h4, h⟩ := bd h
  refine xa_i E h4 (show decode prog_14_method_56_code 5 = .ok (.iaload, 1) by decide +kernel) ?_
  refine xv_b E [.istore_n 2, .aload_n 0] (pc' := 8) (lv' := [(2, .inl v_3), (0, .inr (.inr (some a0))), (1, .inl v1)]) (st' := [.inr (.inr (some a0))]) (by decide +kernel) rfl rfl ?_
  obtain ⟨o_5, h6, h⟩ := bd h
  refine xg_r E 12 35 h6 mw895 (show decode prog_14_method_56_code 8 = .ok (.getfield 100, 3) by decide +kernel) ?_
  refine xv_b E [.iload_n 2] (pc' := 12) (lv' := [(2, .inl v_3), (0, .inr (.inr (some a0))), (1, .inl v1)]) (st' := [.inl v_3, .inr (.inr o_5)]) (by decide +kernel) rfl rfl ?_
  obtain ⟨v_7, h8, h⟩ := bd h
  refine xa_i E h8 (show decode prog_14_method_56_code 12 = .ok (.iaload, 1) by decide +kernel) ?_
  by_cases q16 : v_7 = 0
  · rw [if_pos q16] at h
    refine xv_if_ne E 17 (show decode prog_14_method_56_code 13 = .ok (.ifCond .ne (4), 3) by decide +kernel) rfl (fun z => absurd q16 z) (fun _ => ?_)
    obtain rfl := Option.some.inj h
    obtain ⟨rfl, rfl⟩ := Prod.mk.inj (show ((none : Option aV), M) = (r, M') from hN)
    exact xv_rv E B.1 B.2.1 (show decode prog_14_method_56_code 16 = .ok (.return_, 1) by decide +kernel) rfl rfl
  · rw [if_neg q16] at h
    refine xv_if_ne E 17 (show decode prog_14_method_56_code 13 = .ok (.ifCond .ne (4), 3) by decide +kernel) rfl (fun _ => ?_) (fun z => absurd z q16)
    refine xv_b E [.aload_n 0] (pc' := 18) (lv' := [(2, .inl v_3), (0, .inr (.inr (some a0))), (1, .inl v1)]) (st' := [.inr (.inr (some a0))]) (by decide +kernel) rfl rfl ?_
    obtain ⟨o_9, h10, h⟩ := bd h
    refine xg_r E 12 56 h10 mw914 (show decode prog_14_method_56_code 18 = .ok (.getfield 158, 3) by decide +kernel) ?_
    refine xv_b E [.iload_n 1] (pc' := 22) (lv' := [(2, .inl v_3), (0, .inr (.inr (some a0))), (1, .inl v1)]) (st' := [.inl v1, .inr (.inr o_9)]) (by decide +kernel) rfl rfl ?_
    obtain ⟨v_11, h12, h⟩ := bd h
    refine xa_i E h12 (show decode prog_14_method_56_code 22 = .ok (.iaload, 1) by decide +kernel) ?_
    refine xv_b E [.istore_n 3, .iload_n 3] (pc' := 25) (lv' := [(3, .inl v_11), (2, .inl v_3), (0, .inr (.inr (some a0))), (1, .inl v1)]) (st' := [.inl v_11]) (by decide +kernel) rfl rfl ?_
    by_cases q15 : v_11 = 0
    · rw [if_pos q15] at h
      refine xv_if_ne E 32 (show decode prog_14_method_56_code 25 = .ok (.ifCond .ne (7), 3) by decide +kernel) rfl (fun z => absurd q15 z) (fun _ => ?_)
      refine xv_b E [.iconst 5] (pc' := 29) (lv' := [(3, .inl v_11), (2, .inl v_3), (0, .inr (.inr (some a0))), (1, .inl v1)]) (st' := [.inl (5 : Int32)]) (by decide +kernel) rfl rfl ?_
      refine xv_goto E 54 (show decode prog_14_method_56_code 29 = .ok (.goto (25), 3) by decide +kernel) rfl ?_
      exact xv_w (sb204_54 E B a0 v1 v_3 v_11 (5 : Int32) M h hN) rfl
    · rw [if_neg q15] at h
      refine xv_if_ne E 32 (show decode prog_14_method_56_code 25 = .ok (.ifCond .ne (7), 3) by decide +kernel) rfl (fun _ => ?_) (fun z => absurd z q15)
      refine xv_b E [.iload_n 3, .iconst 1] (pc' := 34) (lv' := [(3, .inl v_11), (2, .inl v_3), (0, .inr (.inr (some a0))), (1, .inl v1)]) (st' := [.inl (1 : Int32), .inl v_11]) (by decide +kernel) rfl rfl ?_
      by_cases q14 : v_11 = (1 : Int32)
      · rw [if_pos q14] at h
        refine xv_icmp_ne E 42 (show decode prog_14_method_56_code 34 = .ok (.if_icmp .ne (8), 3) by decide +kernel) rfl (fun z => absurd q14 z) (fun _ => ?_)
        refine xv_b E [.bipush 7] (pc' := 39) (lv' := [(3, .inl v_11), (2, .inl v_3), (0, .inr (.inr (some a0))), (1, .inl v1)]) (st' := [.inl (7 : Int32)]) (by decide +kernel) rfl rfl ?_
        refine xv_goto E 54 (show decode prog_14_method_56_code 39 = .ok (.goto (15), 3) by decide +kernel) rfl ?_
        exact xv_w (sb204_54 E B a0 v1 v_3 v_11 (7 : Int32) M h hN) rfl
      · rw [if_neg q14] at h
        refine xv_icmp_ne E 42 (show decode prog_14_method_56_code 34 = .ok (.if_icmp .ne (8), 3) by decide +kernel) rfl (fun _ => ?_) (fun z => absurd z q14)
        refine xv_b E [.iload_n 3, .iconst 2] (pc' := 44) (lv' := [(3, .inl v_11), (2, .inl v_3), (0, .inr (.inr (some a0))), (1, .inl v1)]) (st' := [.inl (2 : Int32), .inl v_11]) (by decide +kernel) rfl rfl ?_
        by_cases q13 : v_11 = (2 : Int32)
        · rw [if_pos q13] at h
          refine xv_icmp_ne E 52 (show decode prog_14_method_56_code 44 = .ok (.if_icmp .ne (8), 3) by decide +kernel) rfl (fun z => absurd q13 z) (fun _ => ?_)
          refine xv_b E [.bipush 9] (pc' := 49) (lv' := [(3, .inl v_11), (2, .inl v_3), (0, .inr (.inr (some a0))), (1, .inl v1)]) (st' := [.inl (9 : Int32)]) (by decide +kernel) rfl rfl ?_
          refine xv_goto E 54 (show decode prog_14_method_56_code 49 = .ok (.goto (5), 3) by decide +kernel) rfl ?_
          exact xv_w (sb204_54 E B a0 v1 v_3 v_11 (9 : Int32) M h hN) rfl
        · rw [if_neg q13] at h
          refine xv_icmp_ne E 52 (show decode prog_14_method_56_code 44 = .ok (.if_icmp .ne (8), 3) by decide +kernel) rfl (fun _ => ?_) (fun z => absurd z q13)
          refine xv_b E [.bipush 13] (pc' := 54) (lv' := [(3, .inl v_11), (2, .inl v_3), (0, .inr (.inr (some a0))), (1, .inl v1)]) (st' := [.inl (13 : Int32)]) (by decide +kernel) rfl rfl ?_
          exact xv_w (sb204_54 E B a0 v1 v_3 v_11 (13 : Int32) M h hN) rfl
end
theorem t204 (G : gX) (l : Launch) {as : List aV} {M : hM} {r : Option aV} {M' : hM} (h : f204 as M = some (r, M')) : xM G l ym204 prog_14_method_56_code 6 none 4 as M r M' := by
  unfold f204 at h
  split at h
  · have h := x_out_ok h
    refine xM_of (by decide) (Nat.le_of_ble_eq_true rfl) (lb204_0 G l _ _ M h) ?_
    intro p e s m args below meth c E B
    exact sb204_0 E B _ _ M h rfl
  · cases h
/-! ZFModel.ends(II)V -/
def ym205 : MethodName := ⟨"ZonedFabricModel", "ends", "(II)V"⟩
theorem cd205 : xCd ym205 prog_14_method_54_code 3 none 2 := ⟨mw1046, mw864, by decide, by decide, by decide +kernel⟩
def b205_0 (a0 : Nat) (v1 : Int32) (v2 : Int32) (M : hM) : Option xRes :=
  Option.bind (g_r M 12 56 (some a0)) fun o_1 =>
  Option.bind (as_i M 20 o_1 v1 v2) fun M3 =>
  Option.bind (g_r M3 12 59 (some a0)) fun o_5 =>
  Option.bind (g_i M3 12 3 (some a0)) fun v_7 =>
  Option.bind (as_i M3 20 o_5 v1 v_7) fun M9 =>
  some (.inl (none, M9))
def f205 (as : List aV) (M : hM) : xO := match as with
  | [.inr (.inr (some a0)), .inl v1, .inl v2] => x_out (b205_0 a0 v1 v2 M)
  | _ => none
theorem lb205_0 (G : gX) (l : Launch) (a0 : Nat) (v1 : Int32) (v2 : Int32) (M : hM) {res : xRes} (h : b205_0 a0 v1 v2 M = some res) : h_sz M ≤ r_sz res ∧ h_sl M ≤ r_sl res := by
  unfold b205_0 at h
  obtain ⟨o_1, h2, h⟩ := bd h
  obtain ⟨M3, h4, h⟩ := bd h
  have eh4 := as_i_sz h4
  obtain ⟨o_5, h6, h⟩ := bd h
  obtain ⟨v_7, h8, h⟩ := bd h
  obtain ⟨M9, h10, h⟩ := bd h
  have eh10 := as_i_sz h10
  obtain rfl := Option.some.inj h
  show h_sz M ≤ h_sz M9 ∧ h_sl M ≤ h_sl M9
  omega
section
variable {p : Program} {l : Launch} {e : Env} {s : State} {m : MethodId} {args : Array Value} {below : List Frame} {meth : Method} {c : Code} {G : gX} {z0 y0 : Nat} {r : Option aV} {M' : hM}
theorem sb205_0 (E : xE G p (xRm 0 (h_sz M' - z0) (h_sl M' - y0)) s m args c prog_14_method_54_code "ZonedFabricModel" z0 y0 (h_sz M') (h_sl M') 3) (B : xB ym205 none meth) (a0 : Nat) (v1 : Int32) (v2 : Int32) (M : hM) {res : xRes} (h : b205_0 a0 v1 v2 M = some res) (hN : xN (fun _ _ _ => False) r M' res) : xV G p l e (xRm 0 (h_sz M' - z0) (h_sl M' - y0)) s m args below meth c z0 y0 (h_sz M') (h_sl M') 3 (MQ below (xQc G r M') args s (h_sz M' - z0) (h_sl M' - y0) (xFr G)) 0 [(0, .inr (.inr (some a0))), (1, .inl v1), (2, .inl v2)] [] M := by
  unfold b205_0 at h
  refine xv_b E [.aload_n 0] (pc' := 1) (lv' := [(0, .inr (.inr (some a0))), (1, .inl v1), (2, .inl v2)]) (st' := [.inr (.inr (some a0))]) (by decide +kernel) rfl rfl ?_
  obtain ⟨o_1, h2, h⟩ := bd h
  refine xg_r E 12 56 h2 mw914 (show decode prog_14_method_54_code 1 = .ok (.getfield 158, 3) by decide +kernel) ?_
  refine xv_b E [.iload_n 1, .iload_n 2] (pc' := 6) (lv' := [(0, .inr (.inr (some a0))), (1, .inl v1), (2, .inl v2)]) (st' := [.inl v2, .inl v1, .inr (.inr o_1)]) (by decide +kernel) rfl rfl ?_
  obtain ⟨M3, h4, h⟩ := bd h
  refine xs_i E h4 (show decode prog_14_method_54_code 6 = .ok (.iastore, 1) by decide +kernel) ?_
  refine xv_b E [.aload_n 0] (pc' := 8) (lv' := [(0, .inr (.inr (some a0))), (1, .inl v1), (2, .inl v2)]) (st' := [.inr (.inr (some a0))]) (by decide +kernel) rfl rfl ?_
  obtain ⟨o_5, h6, h⟩ := bd h
  refine xg_r E 12 59 h6 mw917 (show decode prog_14_method_54_code 8 = .ok (.getfield 167, 3) by decide +kernel) ?_
  refine xv_b E [.iload_n 1, .aload_n 0] (pc' := 13) (lv' := [(0, .inr (.inr (some a0))), (1, .inl v1), (2, .inl v2)]) (st' := [.inr (.inr (some a0)), .inl v1, .inr (.inr o_5)]) (by decide +kernel) rfl rfl ?_
  obtain ⟨v_7, h8, h⟩ := bd h
  refine xg_i E 12 3 h8 mw1047 (show decode prog_14_method_54_code 13 = .ok (.getfield 276, 3) by decide +kernel) ?_
  obtain ⟨M9, h10, h⟩ := bd h
  refine xs_i E h10 (show decode prog_14_method_54_code 16 = .ok (.iastore, 1) by decide +kernel) ?_
  obtain rfl := Option.some.inj h
  obtain ⟨rfl, rfl⟩ := Prod.mk.inj (show ((none : Option aV), M9) = (r, M') from hN)
  exact xv_rv E B.1 B.2.1 (show decode prog_14_method_54_code 17 = .ok (.return_, 1) by decide +kernel) rfl rfl
end
theorem t205 (G : gX) (l : Launch) {as : List aV} {M : hM} {r : Option aV} {M' : hM} (h : f205 as M = some (r, M')) : xM G l ym205 prog_14_method_54_code 3 none 0 as M r M' := by
  unfold f205 at h
  split at h
  · have h := x_out_ok h
    refine xM_of (by decide) (Nat.le_of_ble_eq_true rfl) (lb205_0 G l _ _ _ M h) ?_
    intro p e s m args below meth c E B
    exact sb205_0 E B _ _ _ M h rfl
  · cases h
/-! ZFModel.turns(II)V -/
def ym206 : MethodName := ⟨"ZonedFabricModel", "turns", "(II)V"⟩
theorem cd206 : xCd ym206 prog_14_method_55_code 3 none 2 := ⟨mw1048, mw864, by decide, by decide, by decide +kernel⟩
def b206_0 (a0 : Nat) (v1 : Int32) (v2 : Int32) (M : hM) : Option xRes :=
  Option.bind (g_r M 12 56 (some a0)) fun o_1 =>
  Option.bind (as_i M 20 o_1 v1 v2) fun M3 =>
  Option.bind (g_r M3 12 57 (some a0)) fun o_5 =>
  Option.bind (g_i M3 12 3 (some a0)) fun v_7 =>
  Option.bind (as_i M3 20 o_5 v1 v_7) fun M9 =>
  Option.bind (g_o M9 12 (some a0)) fun b_13 =>
  Option.bind (c_V (f204 [.inr (.inr (some b_13)), .inl v1] M9)) fun q_11 =>
  some (.inl (none, q_11))
def f206 (as : List aV) (M : hM) : xO := match as with
  | [.inr (.inr (some a0)), .inl v1, .inl v2] => x_out (b206_0 a0 v1 v2 M)
  | _ => none
theorem lb206_0 (G : gX) (l : Launch) (a0 : Nat) (v1 : Int32) (v2 : Int32) (M : hM) {res : xRes} (h : b206_0 a0 v1 v2 M = some res) : h_sz M ≤ r_sz res ∧ h_sl M ≤ r_sl res := by
  unfold b206_0 at h
  obtain ⟨o_1, h2, h⟩ := bd h
  obtain ⟨M3, h4, h⟩ := bd h
  have eh4 := as_i_sz h4
  obtain ⟨o_5, h6, h⟩ := bd h
  obtain ⟨v_7, h8, h⟩ := bd h
  obtain ⟨M9, h10, h⟩ := bd h
  have eh10 := as_i_sz h10
  obtain ⟨b_13, h14, h⟩ := bd h
  obtain ⟨q_11, h12, h⟩ := bd h
  have eh12 := (t204 G l (c_V_some h12)).1
  obtain rfl := Option.some.inj h
  show h_sz M ≤ h_sz q_11 ∧ h_sl M ≤ h_sl q_11
  omega
section
variable {p : Program} {l : Launch} {e : Env} {s : State} {m : MethodId} {args : Array Value} {below : List Frame} {meth : Method} {c : Code} {G : gX} {z0 y0 : Nat} {r : Option aV} {M' : hM}
theorem sb206_0 (E : xE G p (xRm 5 (h_sz M' - z0) (h_sl M' - y0)) s m args c prog_14_method_55_code "ZonedFabricModel" z0 y0 (h_sz M') (h_sl M') 3) (B : xB ym206 none meth) (a0 : Nat) (v1 : Int32) (v2 : Int32) (M : hM) {res : xRes} (h : b206_0 a0 v1 v2 M = some res) (hN : xN (fun _ _ _ => False) r M' res) : xV G p l e (xRm 5 (h_sz M' - z0) (h_sl M' - y0)) s m args below meth c z0 y0 (h_sz M') (h_sl M') 3 (MQ below (xQc G r M') args s (h_sz M' - z0) (h_sl M' - y0) (xFr G)) 0 [(0, .inr (.inr (some a0))), (1, .inl v1), (2, .inl v2)] [] M := by
  unfold b206_0 at h
  refine xv_b E [.aload_n 0] (pc' := 1) (lv' := [(0, .inr (.inr (some a0))), (1, .inl v1), (2, .inl v2)]) (st' := [.inr (.inr (some a0))]) (by decide +kernel) rfl rfl ?_
  obtain ⟨o_1, h2, h⟩ := bd h
  refine xg_r E 12 56 h2 mw914 (show decode prog_14_method_55_code 1 = .ok (.getfield 158, 3) by decide +kernel) ?_
  refine xv_b E [.iload_n 1, .iload_n 2] (pc' := 6) (lv' := [(0, .inr (.inr (some a0))), (1, .inl v1), (2, .inl v2)]) (st' := [.inl v2, .inl v1, .inr (.inr o_1)]) (by decide +kernel) rfl rfl ?_
  obtain ⟨M3, h4, h⟩ := bd h
  refine xs_i E h4 (show decode prog_14_method_55_code 6 = .ok (.iastore, 1) by decide +kernel) ?_
  refine xv_b E [.aload_n 0] (pc' := 8) (lv' := [(0, .inr (.inr (some a0))), (1, .inl v1), (2, .inl v2)]) (st' := [.inr (.inr (some a0))]) (by decide +kernel) rfl rfl ?_
  obtain ⟨o_5, h6, h⟩ := bd h
  refine xg_r E 12 57 h6 mw915 (show decode prog_14_method_55_code 8 = .ok (.getfield 161, 3) by decide +kernel) ?_
  refine xv_b E [.iload_n 1, .aload_n 0] (pc' := 13) (lv' := [(0, .inr (.inr (some a0))), (1, .inl v1), (2, .inl v2)]) (st' := [.inr (.inr (some a0)), .inl v1, .inr (.inr o_5)]) (by decide +kernel) rfl rfl ?_
  obtain ⟨v_7, h8, h⟩ := bd h
  refine xg_i E 12 3 h8 mw1047 (show decode prog_14_method_55_code 13 = .ok (.getfield 276, 3) by decide +kernel) ?_
  obtain ⟨M9, h10, h⟩ := bd h
  refine xs_i E h10 (show decode prog_14_method_55_code 16 = .ok (.iastore, 1) by decide +kernel) ?_
  refine xv_b E [.aload_n 0, .iload_n 1] (pc' := 19) (lv' := [(0, .inr (.inr (some a0))), (1, .inl v1), (2, .inl v2)]) (st' := [.inl v1, .inr (.inr (some a0))]) (by decide +kernel) rfl rfl ?_
  obtain ⟨b_13, h14, h⟩ := bd h
  obtain ⟨eh14, th14⟩ := g_o_some h14
  obtain ⟨q_11, h12, h⟩ := bd h
  refine xv_cvo E eh14 12 (as := [.inl v1]) (t204 G l (c_V_some h12)) cd204 mw1049 mw1050 mw1051 (show decode prog_14_method_55_code 19 = .ok (.invokevirtual 378, 3) by decide +kernel) th14 rfl rfl (Nat.le_of_ble_eq_true rfl) ⟨Nat.le_of_ble_eq_true rfl, Nat.le_of_ble_eq_true rfl⟩ ?_
  obtain rfl := Option.some.inj h
  obtain ⟨rfl, rfl⟩ := Prod.mk.inj (show ((none : Option aV), q_11) = (r, M') from hN)
  exact xv_rv E B.1 B.2.1 (show decode prog_14_method_55_code 22 = .ok (.return_, 1) by decide +kernel) rfl rfl
end
theorem t206 (G : gX) (l : Launch) {as : List aV} {M : hM} {r : Option aV} {M' : hM} (h : f206 as M = some (r, M')) : xM G l ym206 prog_14_method_55_code 3 none 5 as M r M' := by
  unfold f206 at h
  split at h
  · have h := x_out_ok h
    refine xM_of (by decide) (Nat.le_of_ble_eq_true rfl) (lb206_0 G l _ _ _ M h) ?_
    intro p e s m args below meth c E B
    exact sb206_0 E B _ _ _ M h rfl
  · cases h
/-! ZFModel.commandTimer(I)V -/
def ym207 : MethodName := ⟨"ZonedFabricModel", "commandTimer", "(I)V"⟩
theorem cd207 : xCd ym207 prog_14_method_53_code 2 none 1 := ⟨mw1052, mw864, by decide, by decide, by decide +kernel⟩
def b207_152  (M : hM) : Option xRes :=
  some (.inl (none, M))
def b207_107 (a0 : Nat) (v1 : Int32) (M : hM) : Option xRes :=
  Option.bind (g_r M 12 56 (some a0)) fun o_49 =>
  Option.bind (al_i M 20 o_49 v1) fun v_51 =>
  if v_51 = (2 : Int32) then
    (b207_152  M)
  else
    (Option.bind (g_i M 12 3 (some a0)) fun v_53 =>
    Option.bind (g_r M 12 57 (some a0)) fun o_55 =>
    Option.bind (al_i M 20 o_55 v1) fun v_57 =>
    if v_53 ≤ v_57 then
      (b207_152  M)
    else
      (Option.bind (g_i M 12 3 (some a0)) fun v_59 =>
      Option.bind (g_r M 12 57 (some a0)) fun o_61 =>
      Option.bind (al_i M 20 o_61 v1) fun v_63 =>
      Option.bind (d_m (v_59 - v_63) (20 : Int32)) fun v_65 =>
      if v_65 = 0 then
        (Option.bind (g_o M 12 (some a0)) fun b_69 =>
        Option.bind (c_V (f204 [.inr (.inr (some b_69)), .inl v1] M)) fun q_67 =>
        b207_152  q_67)
      else
        (b207_152  M)))
def b207_71 (a0 : Nat) (v1 : Int32) (M : hM) : Option xRes :=
  Option.bind (g_r M 12 56 (some a0)) fun o_33 =>
  Option.bind (al_i M 20 o_33 v1) fun v_35 =>
  if v_35 = (3 : Int32) then
    (Option.bind (g_i M 12 3 (some a0)) fun v_37 =>
    Option.bind (g_r M 12 57 (some a0)) fun o_39 =>
    Option.bind (al_i M 20 o_39 v1) fun v_41 =>
    if (v_37 - v_41) < (60 : Int32) then
      (b207_107 a0 v1 M)
    else
      (Option.bind (g_o M 12 (some a0)) fun b_45 =>
      Option.bind (c_V (f205 [.inr (.inr (some b_45)), .inl v1, .inl (12 : Int32)] M)) fun q_43 =>
      b207_152  q_43))
  else
    (b207_107 a0 v1 M)
def b207_36 (a0 : Nat) (v1 : Int32) (M : hM) : Option xRes :=
  Option.bind (g_r M 12 56 (some a0)) fun o_17 =>
  Option.bind (al_i M 20 o_17 v1) fun v_19 =>
  if v_19 = (2 : Int32) then
    (Option.bind (g_i M 12 3 (some a0)) fun v_21 =>
    Option.bind (g_r M 12 58 (some a0)) fun o_23 =>
    Option.bind (al_i M 20 o_23 v1) fun v_25 =>
    if (v_21 - v_25) < (120 : Int32) then
      (b207_71 a0 v1 M)
    else
      (Option.bind (g_o M 12 (some a0)) fun b_29 =>
      Option.bind (c_V (f206 [.inr (.inr (some b_29)), .inl v1, .inl (3 : Int32)] M)) fun q_27 =>
      b207_152  q_27))
  else
    (b207_71 a0 v1 M)
def b207_0 (a0 : Nat) (v1 : Int32) (M : hM) : Option xRes :=
  Option.bind (g_r M 12 56 (some a0)) fun o_1 =>
  Option.bind (al_i M 20 o_1 v1) fun v_3 =>
  if (2 : Int32) ≤ v_3 then
    (b207_36 a0 v1 M)
  else
    (Option.bind (g_i M 12 3 (some a0)) fun v_5 =>
    Option.bind (g_r M 12 58 (some a0)) fun o_7 =>
    Option.bind (al_i M 20 o_7 v1) fun v_9 =>
    if (v_5 - v_9) < (120 : Int32) then
      (b207_36 a0 v1 M)
    else
      (Option.bind (g_o M 12 (some a0)) fun b_13 =>
      Option.bind (c_V (f205 [.inr (.inr (some b_13)), .inl v1, .inl (13 : Int32)] M)) fun q_11 =>
      b207_152  q_11))
def f207 (as : List aV) (M : hM) : xO := match as with
  | [.inr (.inr (some a0)), .inl v1] => x_out (b207_0 a0 v1 M)
  | _ => none
theorem lb207_152 (G : gX) (l : Launch)  (M : hM) {res : xRes} (h : b207_152  M = some res) : h_sz M ≤ r_sz res ∧ h_sl M ≤ r_sl res := by
  unfold b207_152 at h
  obtain rfl := Option.some.inj h
  show h_sz M ≤ h_sz M ∧ h_sl M ≤ h_sl M
  omega
theorem lb207_107 (G : gX) (l : Launch) (a0 : Nat) (v1 : Int32) (M : hM) {res : xRes} (h : b207_107 a0 v1 M = some res) : h_sz M ≤ r_sz res ∧ h_sl M ≤ r_sl res := by
  unfold b207_107 at h
  obtain ⟨o_49, h50, h⟩ := bd h
  obtain ⟨v_51, h52, h⟩ := bd h
  by_cases q73 : v_51 = (2 : Int32)
  · rw [if_pos q73] at h
    have e := lb207_152 G l  M h
    omega
  · rw [if_neg q73] at h
    obtain ⟨v_53, h54, h⟩ := bd h
    obtain ⟨o_55, h56, h⟩ := bd h
    obtain ⟨v_57, h58, h⟩ := bd h
    by_cases q72 : v_53 ≤ v_57
    · rw [if_pos q72] at h
      have e := lb207_152 G l  M h
      omega
    · rw [if_neg q72] at h
      obtain ⟨v_59, h60, h⟩ := bd h
      obtain ⟨o_61, h62, h⟩ := bd h
      obtain ⟨v_63, h64, h⟩ := bd h
      obtain ⟨v_65, h66, h⟩ := bd h
      by_cases q71 : v_65 = 0
      · rw [if_pos q71] at h
        obtain ⟨b_69, h70, h⟩ := bd h
        obtain ⟨q_67, h68, h⟩ := bd h
        have eh68 := (t204 G l (c_V_some h68)).1
        have e := lb207_152 G l  q_67 h
        omega
      · rw [if_neg q71] at h
        have e := lb207_152 G l  M h
        omega
theorem lb207_71 (G : gX) (l : Launch) (a0 : Nat) (v1 : Int32) (M : hM) {res : xRes} (h : b207_71 a0 v1 M = some res) : h_sz M ≤ r_sz res ∧ h_sl M ≤ r_sl res := by
  unfold b207_71 at h
  obtain ⟨o_33, h34, h⟩ := bd h
  obtain ⟨v_35, h36, h⟩ := bd h
  by_cases q48 : v_35 = (3 : Int32)
  · rw [if_pos q48] at h
    obtain ⟨v_37, h38, h⟩ := bd h
    obtain ⟨o_39, h40, h⟩ := bd h
    obtain ⟨v_41, h42, h⟩ := bd h
    by_cases q47 : (v_37 - v_41) < (60 : Int32)
    · rw [if_pos q47] at h
      have e := lb207_107 G l a0 v1 M h
      omega
    · rw [if_neg q47] at h
      obtain ⟨b_45, h46, h⟩ := bd h
      obtain ⟨q_43, h44, h⟩ := bd h
      have eh44 := (t205 G l (c_V_some h44)).1
      have e := lb207_152 G l  q_43 h
      omega
  · rw [if_neg q48] at h
    have e := lb207_107 G l a0 v1 M h
    omega
theorem lb207_36 (G : gX) (l : Launch) (a0 : Nat) (v1 : Int32) (M : hM) {res : xRes} (h : b207_36 a0 v1 M = some res) : h_sz M ≤ r_sz res ∧ h_sl M ≤ r_sl res := by
  unfold b207_36 at h
  obtain ⟨o_17, h18, h⟩ := bd h
  obtain ⟨v_19, h20, h⟩ := bd h
  by_cases q32 : v_19 = (2 : Int32)
  · rw [if_pos q32] at h
    obtain ⟨v_21, h22, h⟩ := bd h
    obtain ⟨o_23, h24, h⟩ := bd h
    obtain ⟨v_25, h26, h⟩ := bd h
    by_cases q31 : (v_21 - v_25) < (120 : Int32)
    · rw [if_pos q31] at h
      have e := lb207_71 G l a0 v1 M h
      omega
    · rw [if_neg q31] at h
      obtain ⟨b_29, h30, h⟩ := bd h
      obtain ⟨q_27, h28, h⟩ := bd h
      have eh28 := (t206 G l (c_V_some h28)).1
      have e := lb207_152 G l  q_27 h
      omega
  · rw [if_neg q32] at h
    have e := lb207_71 G l a0 v1 M h
    omega
theorem lb207_0 (G : gX) (l : Launch) (a0 : Nat) (v1 : Int32) (M : hM) {res : xRes} (h : b207_0 a0 v1 M = some res) : h_sz M ≤ r_sz res ∧ h_sl M ≤ r_sl res := by
  unfold b207_0 at h
  obtain ⟨o_1, h2, h⟩ := bd h
  obtain ⟨v_3, h4, h⟩ := bd h
  by_cases q16 : (2 : Int32) ≤ v_3
  · rw [if_pos q16] at h
    have e := lb207_36 G l a0 v1 M h
    omega
  · rw [if_neg q16] at h
    obtain ⟨v_5, h6, h⟩ := bd h
    obtain ⟨o_7, h8, h⟩ := bd h
    obtain ⟨v_9, h10, h⟩ := bd h
    by_cases q15 : (v_5 - v_9) < (120 : Int32)
    · rw [if_pos q15] at h
      have e := lb207_36 G l a0 v1 M h
      omega
    · rw [if_neg q15] at h
      obtain ⟨b_13, h14, h⟩ := bd h
      obtain ⟨q_11, h12, h⟩ := bd h
      have eh12 := (t205 G l (c_V_some h12)).1
      have e := lb207_152 G l  q_11 h
      omega
section
variable {p : Program} {l : Launch} {e : Env} {s : State} {m : MethodId} {args : Array Value} {below : List Frame} {meth : Method} {c : Code} {G : gX} {z0 y0 : Nat} {r : Option aV} {M' : hM}
theorem sb207_152 (E : xE G p (xRm 6 (h_sz M' - z0) (h_sl M' - y0)) s m args c prog_14_method_53_code "ZonedFabricModel" z0 y0 (h_sz M') (h_sl M') 2) (B : xB ym207 none meth)  (M : hM) {res : xRes} (h : b207_152  M = some res) (hN : xN (fun _ _ _ => False) r M' res) : xV G p l e (xRm 6 (h_sz M' - z0) (h_sl M' - y0)) s m args below meth c z0 y0 (h_sz M') (h_sl M') 2 (MQ below (xQc G r M') args s (h_sz M' - z0) (h_sl M' - y0) (xFr G)) 152 [] [] M := by
  unfold b207_152 at h
  obtain rfl := Option.some.inj h
  obtain ⟨rfl, rfl⟩ := Prod.mk.inj (show ((none : Option aV), M) = (r, M') from hN)
  exact xv_rv E B.1 B.2.1 (show decode prog_14_method_53_code 152 = .ok (.return_, 1) by decide +kernel) rfl rfl
theorem sb207_107 (E : xE G p (xRm 6 (h_sz M' - z0) (h_sl M' - y0)) s m args c prog_14_method_53_code "ZonedFabricModel" z0 y0 (h_sz M') (h_sl M') 2) (B : xB ym207 none meth) (a0 : Nat) (v1 : Int32) (M : hM) {res : xRes} (h : b207_107 a0 v1 M = some res) (hN : xN (fun _ _ _ => False) r M' res) : xV G p l e (xRm 6 (h_sz M' - z0) (h_sl M' - y0)) s m args below meth c z0 y0 (h_sz M') (h_sl M') 2 (MQ below (xQc G r M') args s (h_sz M' - z0) (h_sl M' - y0) (xFr G)) 107 [(0, .inr (.inr (some a0))), (1, .inl v1)] [] M := by
  unfold b207_107 at h
  refine xv_b E [.aload_n 0] (pc' := 108) (lv' := [(0, .inr (.inr (some a0))), (1, .inl v1)]) (st' := [.inr (.inr (some a0))]) (by decide +kernel) rfl rfl ?_
  obtain ⟨o_49, h50, h⟩ := bd h
  refine xg_r E 12 56 h50 mw914 (show decode prog_14_method_53_code 108 = .ok (.getfield 158, 3) by decide +kernel) ?_
  refine xv_b E [.iload_n 1] (pc' := 112) (lv' := [(0, .inr (.inr (some a0))), (1, .inl v1)]) (st' := [.inl v1, .inr (.inr o_49)]) (by decide +kernel) rfl rfl ?_
  obtain ⟨v_51, h52, h⟩ := bd h
  refine xa_i E h52 (show decode prog_14_method_53_code 112 = .ok (.iaload, 1) by decide +kernel) ?_
  refine xv_b E [.iconst 2] (pc' := 114) (lv' := [(0, .inr (.inr (some a0))), (1, .inl v1)]) (st' := [.inl (2 : Int32), .inl v_51]) (by decide +kernel) rfl rfl ?_
  by_cases q73 : v_51 = (2 : Int32)
  · rw [if_pos q73] at h
    refine xv_icmp_eq E 152 (show decode prog_14_method_53_code 114 = .ok (.if_icmp .eq (38), 3) by decide +kernel) rfl (fun _ => ?_) (fun z => absurd q73 z)
    exact xv_w (sb207_152 E B  M h hN) rfl
  · rw [if_neg q73] at h
    refine xv_icmp_eq E 152 (show decode prog_14_method_53_code 114 = .ok (.if_icmp .eq (38), 3) by decide +kernel) rfl (fun z => absurd z q73) (fun _ => ?_)
    refine xv_b E [.aload_n 0] (pc' := 118) (lv' := [(0, .inr (.inr (some a0))), (1, .inl v1)]) (st' := [.inr (.inr (some a0))]) (by decide +kernel) rfl rfl ?_
    obtain ⟨v_53, h54, h⟩ := bd h
    refine xg_i E 12 3 h54 mw1047 (show decode prog_14_method_53_code 118 = .ok (.getfield 276, 3) by decide +kernel) ?_
    refine xv_b E [.aload_n 0] (pc' := 122) (lv' := [(0, .inr (.inr (some a0))), (1, .inl v1)]) (st' := [.inr (.inr (some a0)), .inl v_53]) (by decide +kernel) rfl rfl ?_
    obtain ⟨o_55, h56, h⟩ := bd h
    refine xg_r E 12 57 h56 mw915 (show decode prog_14_method_53_code 122 = .ok (.getfield 161, 3) by decide +kernel) ?_
    refine xv_b E [.iload_n 1] (pc' := 126) (lv' := [(0, .inr (.inr (some a0))), (1, .inl v1)]) (st' := [.inl v1, .inr (.inr o_55), .inl v_53]) (by decide +kernel) rfl rfl ?_
    obtain ⟨v_57, h58, h⟩ := bd h
    refine xa_i E h58 (show decode prog_14_method_53_code 126 = .ok (.iaload, 1) by decide +kernel) ?_
    by_cases q72 : v_53 ≤ v_57
    · rw [if_pos q72] at h
      refine xv_icmp_le E 152 (show decode prog_14_method_53_code 127 = .ok (.if_icmp .le (25), 3) by decide +kernel) rfl (fun _ => ?_) (fun z => absurd q72 z)
      exact xv_w (sb207_152 E B  M h hN) rfl
    · rw [if_neg q72] at h
      refine xv_icmp_le E 152 (show decode prog_14_method_53_code 127 = .ok (.if_icmp .le (25), 3) by decide +kernel) rfl (fun z => absurd z q72) (fun _ => ?_)
      refine xv_b E [.aload_n 0] (pc' := 131) (lv' := [(0, .inr (.inr (some a0))), (1, .inl v1)]) (st' := [.inr (.inr (some a0))]) (by decide +kernel) rfl rfl ?_
      obtain ⟨v_59, h60, h⟩ := bd h
      refine xg_i E 12 3 h60 mw1047 (show decode prog_14_method_53_code 131 = .ok (.getfield 276, 3) by decide +kernel) ?_
      refine xv_b E [.aload_n 0] (pc' := 135) (lv' := [(0, .inr (.inr (some a0))), (1, .inl v1)]) (st' := [.inr (.inr (some a0)), .inl v_59]) (by decide +kernel) rfl rfl ?_
      obtain ⟨o_61, h62, h⟩ := bd h
      refine xg_r E 12 57 h62 mw915 (show decode prog_14_method_53_code 135 = .ok (.getfield 161, 3) by decide +kernel) ?_
      refine xv_b E [.iload_n 1] (pc' := 139) (lv' := [(0, .inr (.inr (some a0))), (1, .inl v1)]) (st' := [.inl v1, .inr (.inr o_61), .inl v_59]) (by decide +kernel) rfl rfl ?_
      obtain ⟨v_63, h64, h⟩ := bd h
      refine xa_i E h64 (show decode prog_14_method_53_code 139 = .ok (.iaload, 1) by decide +kernel) ?_
      refine xv_b E [.isub, .bipush 20] (pc' := 143) (lv' := [(0, .inr (.inr (some a0))), (1, .inl v1)]) (st' := [.inl (20 : Int32), .inl (v_59 - v_63)]) (by decide +kernel) rfl rfl ?_
      obtain ⟨v_65, h66, h⟩ := bd h
      refine xd_m E h66 (show decode prog_14_method_53_code 143 = .ok (.irem, 1) by decide +kernel) ?_
      by_cases q71 : v_65 = 0
      · rw [if_pos q71] at h
        refine xv_if_ne E 152 (show decode prog_14_method_53_code 144 = .ok (.ifCond .ne (8), 3) by decide +kernel) rfl (fun z => absurd q71 z) (fun _ => ?_)
        refine xv_b E [.aload_n 0, .iload_n 1] (pc' := 149) (lv' := [(0, .inr (.inr (some a0))), (1, .inl v1)]) (st' := [.inl v1, .inr (.inr (some a0))]) (by decide +kernel) rfl rfl ?_
        obtain ⟨b_69, h70, h⟩ := bd h
        obtain ⟨eh70, th70⟩ := g_o_some h70
        obtain ⟨q_67, h68, h⟩ := bd h
        refine xv_cvo E eh70 12 (as := [.inl v1]) (t204 G l (c_V_some h68)) cd204 mw1049 mw1050 mw1051 (show decode prog_14_method_53_code 149 = .ok (.invokevirtual 378, 3) by decide +kernel) th70 rfl rfl (Nat.le_of_ble_eq_true rfl) ⟨Nat.le_of_ble_eq_true rfl, Nat.le_of_ble_eq_true rfl⟩ ?_
        exact xv_w (sb207_152 E B  q_67 h hN) rfl
      · rw [if_neg q71] at h
        refine xv_if_ne E 152 (show decode prog_14_method_53_code 144 = .ok (.ifCond .ne (8), 3) by decide +kernel) rfl (fun _ => ?_) (fun z => absurd z q71)
        exact xv_w (sb207_152 E B  M h hN) rfl
theorem sb207_71 (E : xE G p (xRm 6 (h_sz M' - z0) (h_sl M' - y0)) s m args c prog_14_method_53_code "ZonedFabricModel" z0 y0 (h_sz M') (h_sl M') 2) (B : xB ym207 none meth) (a0 : Nat) (v1 : Int32) (M : hM) {res : xRes} (h : b207_71 a0 v1 M = some res) (hN : xN (fun _ _ _ => False) r M' res) : xV G p l e (xRm 6 (h_sz M' - z0) (h_sl M' - y0)) s m args below meth c z0 y0 (h_sz M') (h_sl M') 2 (MQ below (xQc G r M') args s (h_sz M' - z0) (h_sl M' - y0) (xFr G)) 71 [(0, .inr (.inr (some a0))), (1, .inl v1)] [] M := by
  unfold b207_71 at h
  refine xv_b E [.aload_n 0] (pc' := 72) (lv' := [(0, .inr (.inr (some a0))), (1, .inl v1)]) (st' := [.inr (.inr (some a0))]) (by decide +kernel) rfl rfl ?_
  obtain ⟨o_33, h34, h⟩ := bd h
  refine xg_r E 12 56 h34 mw914 (show decode prog_14_method_53_code 72 = .ok (.getfield 158, 3) by decide +kernel) ?_
  refine xv_b E [.iload_n 1] (pc' := 76) (lv' := [(0, .inr (.inr (some a0))), (1, .inl v1)]) (st' := [.inl v1, .inr (.inr o_33)]) (by decide +kernel) rfl rfl ?_
  obtain ⟨v_35, h36, h⟩ := bd h
  refine xa_i E h36 (show decode prog_14_method_53_code 76 = .ok (.iaload, 1) by decide +kernel) ?_
  refine xv_b E [.iconst 3] (pc' := 78) (lv' := [(0, .inr (.inr (some a0))), (1, .inl v1)]) (st' := [.inl (3 : Int32), .inl v_35]) (by decide +kernel) rfl rfl ?_
  by_cases q48 : v_35 = (3 : Int32)
  · rw [if_pos q48] at h
    refine xv_icmp_ne E 107 (show decode prog_14_method_53_code 78 = .ok (.if_icmp .ne (29), 3) by decide +kernel) rfl (fun z => absurd q48 z) (fun _ => ?_)
    refine xv_b E [.aload_n 0] (pc' := 82) (lv' := [(0, .inr (.inr (some a0))), (1, .inl v1)]) (st' := [.inr (.inr (some a0))]) (by decide +kernel) rfl rfl ?_
    obtain ⟨v_37, h38, h⟩ := bd h
    refine xg_i E 12 3 h38 mw1047 (show decode prog_14_method_53_code 82 = .ok (.getfield 276, 3) by decide +kernel) ?_
    refine xv_b E [.aload_n 0] (pc' := 86) (lv' := [(0, .inr (.inr (some a0))), (1, .inl v1)]) (st' := [.inr (.inr (some a0)), .inl v_37]) (by decide +kernel) rfl rfl ?_
    obtain ⟨o_39, h40, h⟩ := bd h
    refine xg_r E 12 57 h40 mw915 (show decode prog_14_method_53_code 86 = .ok (.getfield 161, 3) by decide +kernel) ?_
    refine xv_b E [.iload_n 1] (pc' := 90) (lv' := [(0, .inr (.inr (some a0))), (1, .inl v1)]) (st' := [.inl v1, .inr (.inr o_39), .inl v_37]) (by decide +kernel) rfl rfl ?_
    obtain ⟨v_41, h42, h⟩ := bd h
    refine xa_i E h42 (show decode prog_14_method_53_code 90 = .ok (.iaload, 1) by decide +kernel) ?_
    refine xv_b E [.isub, .bipush 60] (pc' := 94) (lv' := [(0, .inr (.inr (some a0))), (1, .inl v1)]) (st' := [.inl (60 : Int32), .inl (v_37 - v_41)]) (by decide +kernel) rfl rfl ?_
    by_cases q47 : (v_37 - v_41) < (60 : Int32)
    · rw [if_pos q47] at h
      refine xv_icmp_lt E 107 (show decode prog_14_method_53_code 94 = .ok (.if_icmp .lt (13), 3) by decide +kernel) rfl (fun _ => ?_) (fun z => absurd q47 z)
      exact xv_w (sb207_107 E B a0 v1 M h hN) rfl
    · rw [if_neg q47] at h
      refine xv_icmp_lt E 107 (show decode prog_14_method_53_code 94 = .ok (.if_icmp .lt (13), 3) by decide +kernel) rfl (fun z => absurd z q47) (fun _ => ?_)
      refine xv_b E [.aload_n 0, .iload_n 1, .bipush 12] (pc' := 101) (lv' := [(0, .inr (.inr (some a0))), (1, .inl v1)]) (st' := [.inl (12 : Int32), .inl v1, .inr (.inr (some a0))]) (by decide +kernel) rfl rfl ?_
      obtain ⟨b_45, h46, h⟩ := bd h
      obtain ⟨eh46, th46⟩ := g_o_some h46
      obtain ⟨q_43, h44, h⟩ := bd h
      refine xv_cvo E eh46 12 (as := [.inl v1, .inl (12 : Int32)]) (t205 G l (c_V_some h44)) cd205 mw1053 mw1054 mw1055 (show decode prog_14_method_53_code 101 = .ok (.invokevirtual 373, 3) by decide +kernel) th46 rfl rfl (Nat.le_of_ble_eq_true rfl) ⟨Nat.le_of_ble_eq_true rfl, Nat.le_of_ble_eq_true rfl⟩ ?_
      refine xv_goto E 152 (show decode prog_14_method_53_code 104 = .ok (.goto (48), 3) by decide +kernel) rfl ?_
      exact xv_w (sb207_152 E B  q_43 h hN) rfl
  · rw [if_neg q48] at h
    refine xv_icmp_ne E 107 (show decode prog_14_method_53_code 78 = .ok (.if_icmp .ne (29), 3) by decide +kernel) rfl (fun _ => ?_) (fun z => absurd z q48)
    exact xv_w (sb207_107 E B a0 v1 M h hN) rfl
theorem sb207_36 (E : xE G p (xRm 6 (h_sz M' - z0) (h_sl M' - y0)) s m args c prog_14_method_53_code "ZonedFabricModel" z0 y0 (h_sz M') (h_sl M') 2) (B : xB ym207 none meth) (a0 : Nat) (v1 : Int32) (M : hM) {res : xRes} (h : b207_36 a0 v1 M = some res) (hN : xN (fun _ _ _ => False) r M' res) : xV G p l e (xRm 6 (h_sz M' - z0) (h_sl M' - y0)) s m args below meth c z0 y0 (h_sz M') (h_sl M') 2 (MQ below (xQc G r M') args s (h_sz M' - z0) (h_sl M' - y0) (xFr G)) 36 [(0, .inr (.inr (some a0))), (1, .inl v1)] [] M := by
  unfold b207_36 at h
  refine xv_b E [.aload_n 0] (pc' := 37) (lv' := [(0, .inr (.inr (some a0))), (1, .inl v1)]) (st' := [.inr (.inr (some a0))]) (by decide +kernel) rfl rfl ?_
  obtain ⟨o_17, h18, h⟩ := bd h
  refine xg_r E 12 56 h18 mw914 (show decode prog_14_method_53_code 37 = .ok (.getfield 158, 3) by decide +kernel) ?_
  refine xv_b E [.iload_n 1] (pc' := 41) (lv' := [(0, .inr (.inr (some a0))), (1, .inl v1)]) (st' := [.inl v1, .inr (.inr o_17)]) (by decide +kernel) rfl rfl ?_
  obtain ⟨v_19, h20, h⟩ := bd h
  refine xa_i E h20 (show decode prog_14_method_53_code 41 = .ok (.iaload, 1) by decide +kernel) ?_
  refine xv_b E [.iconst 2] (pc' := 43) (lv' := [(0, .inr (.inr (some a0))), (1, .inl v1)]) (st' := [.inl (2 : Int32), .inl v_19]) (by decide +kernel) rfl rfl ?_
  by_cases q32 : v_19 = (2 : Int32)
  · rw [if_pos q32] at h
    refine xv_icmp_ne E 71 (show decode prog_14_method_53_code 43 = .ok (.if_icmp .ne (28), 3) by decide +kernel) rfl (fun z => absurd q32 z) (fun _ => ?_)
    refine xv_b E [.aload_n 0] (pc' := 47) (lv' := [(0, .inr (.inr (some a0))), (1, .inl v1)]) (st' := [.inr (.inr (some a0))]) (by decide +kernel) rfl rfl ?_
    obtain ⟨v_21, h22, h⟩ := bd h
    refine xg_i E 12 3 h22 mw1047 (show decode prog_14_method_53_code 47 = .ok (.getfield 276, 3) by decide +kernel) ?_
    refine xv_b E [.aload_n 0] (pc' := 51) (lv' := [(0, .inr (.inr (some a0))), (1, .inl v1)]) (st' := [.inr (.inr (some a0)), .inl v_21]) (by decide +kernel) rfl rfl ?_
    obtain ⟨o_23, h24, h⟩ := bd h
    refine xg_r E 12 58 h24 mw916 (show decode prog_14_method_53_code 51 = .ok (.getfield 164, 3) by decide +kernel) ?_
    refine xv_b E [.iload_n 1] (pc' := 55) (lv' := [(0, .inr (.inr (some a0))), (1, .inl v1)]) (st' := [.inl v1, .inr (.inr o_23), .inl v_21]) (by decide +kernel) rfl rfl ?_
    obtain ⟨v_25, h26, h⟩ := bd h
    refine xa_i E h26 (show decode prog_14_method_53_code 55 = .ok (.iaload, 1) by decide +kernel) ?_
    refine xv_b E [.isub, .bipush 120] (pc' := 59) (lv' := [(0, .inr (.inr (some a0))), (1, .inl v1)]) (st' := [.inl (120 : Int32), .inl (v_21 - v_25)]) (by decide +kernel) rfl rfl ?_
    by_cases q31 : (v_21 - v_25) < (120 : Int32)
    · rw [if_pos q31] at h
      refine xv_icmp_lt E 71 (show decode prog_14_method_53_code 59 = .ok (.if_icmp .lt (12), 3) by decide +kernel) rfl (fun _ => ?_) (fun z => absurd q31 z)
      exact xv_w (sb207_71 E B a0 v1 M h hN) rfl
    · rw [if_neg q31] at h
      refine xv_icmp_lt E 71 (show decode prog_14_method_53_code 59 = .ok (.if_icmp .lt (12), 3) by decide +kernel) rfl (fun z => absurd z q31) (fun _ => ?_)
      refine xv_b E [.aload_n 0, .iload_n 1, .iconst 3] (pc' := 65) (lv' := [(0, .inr (.inr (some a0))), (1, .inl v1)]) (st' := [.inl (3 : Int32), .inl v1, .inr (.inr (some a0))]) (by decide +kernel) rfl rfl ?_
      obtain ⟨b_29, h30, h⟩ := bd h
      obtain ⟨eh30, th30⟩ := g_o_some h30
      obtain ⟨q_27, h28, h⟩ := bd h
      refine xv_cvo E eh30 12 (as := [.inl v1, .inl (3 : Int32)]) (t206 G l (c_V_some h28)) cd206 mw1056 mw1057 mw1058 (show decode prog_14_method_53_code 65 = .ok (.invokevirtual 375, 3) by decide +kernel) th30 rfl rfl (Nat.le_of_ble_eq_true rfl) ⟨Nat.le_of_ble_eq_true rfl, Nat.le_of_ble_eq_true rfl⟩ ?_
      refine xv_goto E 152 (show decode prog_14_method_53_code 68 = .ok (.goto (84), 3) by decide +kernel) rfl ?_
      exact xv_w (sb207_152 E B  q_27 h hN) rfl
  · rw [if_neg q32] at h
    refine xv_icmp_ne E 71 (show decode prog_14_method_53_code 43 = .ok (.if_icmp .ne (28), 3) by decide +kernel) rfl (fun _ => ?_) (fun z => absurd z q32)
    exact xv_w (sb207_71 E B a0 v1 M h hN) rfl
theorem sb207_0 (E : xE G p (xRm 6 (h_sz M' - z0) (h_sl M' - y0)) s m args c prog_14_method_53_code "ZonedFabricModel" z0 y0 (h_sz M') (h_sl M') 2) (B : xB ym207 none meth) (a0 : Nat) (v1 : Int32) (M : hM) {res : xRes} (h : b207_0 a0 v1 M = some res) (hN : xN (fun _ _ _ => False) r M' res) : xV G p l e (xRm 6 (h_sz M' - z0) (h_sl M' - y0)) s m args below meth c z0 y0 (h_sz M') (h_sl M') 2 (MQ below (xQc G r M') args s (h_sz M' - z0) (h_sl M' - y0) (xFr G)) 0 [(0, .inr (.inr (some a0))), (1, .inl v1)] [] M := by
  unfold b207_0 at h
  refine xv_b E [.aload_n 0] (pc' := 1) (lv' := [(0, .inr (.inr (some a0))), (1, .inl v1)]) (st' := [.inr (.inr (some a0))]) (by decide +kernel) rfl rfl ?_
  obtain ⟨o_1, h2, h⟩ := bd h
  refine xg_r E 12 56 h2 mw914 (show decode prog_14_method_53_code 1 = .ok (.getfield 158, 3) by decide +kernel) ?_
  refine xv_b E [.iload_n 1] (pc' := 5) (lv' := [(0, .inr (.inr (some a0))), (1, .inl v1)]) (st' := [.inl v1, .inr (.inr o_1)]) (by decide +kernel) rfl rfl ?_
  obtain ⟨v_3, h4, h⟩ := bd h
  refine xa_i E h4 (show decode prog_14_method_53_code 5 = .ok (.iaload, 1) by decide +kernel) ?_
  refine xv_b E [.iconst 2] (pc' := 7) (lv' := [(0, .inr (.inr (some a0))), (1, .inl v1)]) (st' := [.inl (2 : Int32), .inl v_3]) (by decide +kernel) rfl rfl ?_
  by_cases q16 : (2 : Int32) ≤ v_3
  · rw [if_pos q16] at h
    refine xv_icmp_ge E 36 (show decode prog_14_method_53_code 7 = .ok (.if_icmp .ge (29), 3) by decide +kernel) rfl (fun _ => ?_) (fun z => absurd q16 z)
    exact xv_w (sb207_36 E B a0 v1 M h hN) rfl
  · rw [if_neg q16] at h
    refine xv_icmp_ge E 36 (show decode prog_14_method_53_code 7 = .ok (.if_icmp .ge (29), 3) by decide +kernel) rfl (fun z => absurd z q16) (fun _ => ?_)
    refine xv_b E [.aload_n 0] (pc' := 11) (lv' := [(0, .inr (.inr (some a0))), (1, .inl v1)]) (st' := [.inr (.inr (some a0))]) (by decide +kernel) rfl rfl ?_
    obtain ⟨v_5, h6, h⟩ := bd h
    refine xg_i E 12 3 h6 mw1047 (show decode prog_14_method_53_code 11 = .ok (.getfield 276, 3) by decide +kernel) ?_
    refine xv_b E [.aload_n 0] (pc' := 15) (lv' := [(0, .inr (.inr (some a0))), (1, .inl v1)]) (st' := [.inr (.inr (some a0)), .inl v_5]) (by decide +kernel) rfl rfl ?_
    obtain ⟨o_7, h8, h⟩ := bd h
    refine xg_r E 12 58 h8 mw916 (show decode prog_14_method_53_code 15 = .ok (.getfield 164, 3) by decide +kernel) ?_
    refine xv_b E [.iload_n 1] (pc' := 19) (lv' := [(0, .inr (.inr (some a0))), (1, .inl v1)]) (st' := [.inl v1, .inr (.inr o_7), .inl v_5]) (by decide +kernel) rfl rfl ?_
    obtain ⟨v_9, h10, h⟩ := bd h
    refine xa_i E h10 (show decode prog_14_method_53_code 19 = .ok (.iaload, 1) by decide +kernel) ?_
    refine xv_b E [.isub, .bipush 120] (pc' := 23) (lv' := [(0, .inr (.inr (some a0))), (1, .inl v1)]) (st' := [.inl (120 : Int32), .inl (v_5 - v_9)]) (by decide +kernel) rfl rfl ?_
    by_cases q15 : (v_5 - v_9) < (120 : Int32)
    · rw [if_pos q15] at h
      refine xv_icmp_lt E 36 (show decode prog_14_method_53_code 23 = .ok (.if_icmp .lt (13), 3) by decide +kernel) rfl (fun _ => ?_) (fun z => absurd q15 z)
      exact xv_w (sb207_36 E B a0 v1 M h hN) rfl
    · rw [if_neg q15] at h
      refine xv_icmp_lt E 36 (show decode prog_14_method_53_code 23 = .ok (.if_icmp .lt (13), 3) by decide +kernel) rfl (fun z => absurd z q15) (fun _ => ?_)
      refine xv_b E [.aload_n 0, .iload_n 1, .bipush 13] (pc' := 30) (lv' := [(0, .inr (.inr (some a0))), (1, .inl v1)]) (st' := [.inl (13 : Int32), .inl v1, .inr (.inr (some a0))]) (by decide +kernel) rfl rfl ?_
      obtain ⟨b_13, h14, h⟩ := bd h
      obtain ⟨eh14, th14⟩ := g_o_some h14
      obtain ⟨q_11, h12, h⟩ := bd h
      refine xv_cvo E eh14 12 (as := [.inl v1, .inl (13 : Int32)]) (t205 G l (c_V_some h12)) cd205 mw1053 mw1054 mw1055 (show decode prog_14_method_53_code 30 = .ok (.invokevirtual 373, 3) by decide +kernel) th14 rfl rfl (Nat.le_of_ble_eq_true rfl) ⟨Nat.le_of_ble_eq_true rfl, Nat.le_of_ble_eq_true rfl⟩ ?_
      refine xv_goto E 152 (show decode prog_14_method_53_code 33 = .ok (.goto (119), 3) by decide +kernel) rfl ?_
      exact xv_w (sb207_152 E B  q_11 h hN) rfl
end
theorem t207 (G : gX) (l : Launch) {as : List aV} {M : hM} {r : Option aV} {M' : hM} (h : f207 as M = some (r, M')) : xM G l ym207 prog_14_method_53_code 2 none 6 as M r M' := by
  unfold f207 at h
  split at h
  · have h := x_out_ok h
    refine xM_of (by decide) (Nat.le_of_ble_eq_true rfl) (lb207_0 G l _ _ M h) ?_
    intro p e s m args below meth c E B
    exact sb207_0 E B _ _ M h rfl
  · cases h
/-! ZFModel.nodeTimers(I)V -/
def ym208 : MethodName := ⟨"ZonedFabricModel", "nodeTimers", "(I)V"⟩
theorem cd208 : xCd ym208 prog_14_method_52_code 4 none 1 := ⟨mw1059, mw864, by decide, by decide, by decide +kernel⟩
def b208_86 (a0 : Nat) (v1 : Int32) (M : hM) : Option xRes :=
  some (.inr (88, [.inr (.inr (some a0)), .inl v1, .inl (0 : Int32)], M))
def b208_41 (a0 : Nat) (v1 : Int32) (v2 : Int32) (si0 : Int32) (si1 : Int32) (M : hM) : Option xRes :=
  if si1 < si0 then
    (b208_86 a0 v1 M)
  else
    (Option.bind (g_r M 12 36 (some a0)) fun o_21 =>
    Option.bind (g_i M 12 3 (some a0)) fun v_23 =>
    Option.bind (as_i M 20 o_21 v1 v_23) fun M25 =>
    Option.bind (g_r M25 12 35 (some a0)) fun o_27 =>
    Option.bind (al_i M25 20 o_27 v1) fun v_29 =>
    Option.bind (g_o M25 12 (some a0)) fun b_33 =>
    Option.bind (c_I (f168 [.inr (.inr (some b_33)), .inl (3 : Int32), .inl (16777214 : Int32), .inl v_29, .inl (0 : Int32), .inl (0 : Int32), .inl (0 : Int32)] M25)) fun q_31 =>
    Option.bind (g_o q_31.2 12 (some a0)) fun b_37 =>
    Option.bind (c_V (f167 [.inr (.inr (some b_37)), .inl q_31.1, .inr (.inl (Int32.toInt64 v1)), .inl (1 : Int32)] q_31.2)) fun q_35 =>
    Option.bind (g_o q_35 12 (some a0)) fun b_41 =>
    Option.bind (c_V (f183 [.inr (.inr (some b_41)), .inl v2, .inl q_31.1] q_35)) fun q_39 =>
    b208_86 a0 v1 q_39)
def b208_0 (a0 : Nat) (v1 : Int32) (M : hM) : Option xRes :=
  Option.bind (g_o M 12 (some a0)) fun b_3 =>
  Option.bind (c_I (f176 [.inr (.inr (some b_3)), .inl v1] M)) fun q_1 =>
  Option.bind (g_o q_1.2 12 (some a0)) fun b_7 =>
  Option.bind (c_I (f177 [.inr (.inr (some b_7)), .inl q_1.1] q_1.2)) fun q_5 =>
  if q_5.1 = 0 then
    (b208_86 a0 v1 q_5.2)
  else
    (Option.bind (g_i q_5.2 12 3 (some a0)) fun v_9 =>
    Option.bind (g_r q_5.2 12 36 (some a0)) fun o_11 =>
    Option.bind (al_i q_5.2 20 o_11 v1) fun v_13 =>
    Option.bind (g_r q_5.2 12 35 (some a0)) fun o_15 =>
    Option.bind (al_i q_5.2 20 o_15 v1) fun v_17 =>
    if v_17 = 0 then
      (b208_41 a0 v1 q_1.1 (30 : Int32) (v_9 - v_13) q_5.2)
    else
      (b208_41 a0 v1 q_1.1 (90 : Int32) (v_9 - v_13) q_5.2))
def b208_121 (a0 : Nat) (v1 : Int32) (v3 : Int32) (M : hM) : Option xRes :=
  some (.inr (88, [.inr (.inr (some a0)), .inl v1, .inl (v3 + (1 : Int32))], M))
def b208_88 (a0 : Nat) (v1 : Int32) (v3 : Int32) (M : hM) : Option xRes :=
  Option.bind (g_i M 12 47 (some a0)) fun v_44 =>
  if v_44 ≤ v3 then
    (some (.inr (129, [.inr (.inr (some a0)), .inl v1, .inl (0 : Int32)], M)))
  else
    (Option.bind (g_r M 12 48 (some a0)) fun o_46 =>
    Option.bind (al_i M 20 o_46 v3) fun v_48 =>
    if v_48 = v1 then
      (Option.bind (g_r M 12 59 (some a0)) fun o_50 =>
      Option.bind (al_i M 20 o_50 v3) fun v_52 =>
      if v_52 = (-1 : Int32) then
        (Option.bind (g_o M 12 (some a0)) fun b_56 =>
        Option.bind (c_V (f207 [.inr (.inr (some b_56)), .inl v3] M)) fun q_54 =>
        b208_121 a0 v1 v3 q_54)
      else
        (b208_121 a0 v1 v3 M))
    else
      (b208_121 a0 v1 v3 M))
def b208_129 (a0 : Nat) (v1 : Int32) (v3 : Int32) (M : hM) : Option xRes :=
  Option.bind (g_r M 12 46 (some a0)) fun o_61 =>
  Option.bind (al_i M 20 o_61 v1) fun v_63 =>
  if v_63 ≤ v3 then
    (some (.inl (none, M)))
  else
    (Option.bind (g_i M 12 3 (some a0)) fun v_65 =>
    Option.bind (g_r M 12 44 (some a0)) fun o_67 =>
    Option.bind (al_i M 20 o_67 ((((48 : Int32) * v1) + ((8 : Int32) * v3)) + (7 : Int32))) fun v_69 =>
    if (v_65 - v_69) < (120 : Int32) then
      (some (.inr (129, [.inr (.inr (some a0)), .inl v1, .inl (v3 + (1 : Int32))], M)))
    else
      (Option.bind (g_o M 12 (some a0)) fun b_73 =>
      Option.bind (c_V (f203 [.inr (.inr (some b_73)), .inl v1, .inl v3] M)) fun q_71 =>
      some (.inr (129, [.inr (.inr (some a0)), .inl v1, .inl v3], q_71))))
def k208 (h : Nat) (as : List aV) (M : hM) : Option xRes :=
  if h = 88 then (match as with | [.inr (.inr (some a0)), .inl v1, .inl v3] => b208_88 a0 v1 v3 M | _ => none) else
  if h = 129 then (match as with | [.inr (.inr (some a0)), .inl v1, .inl v3] => b208_129 a0 v1 v3 M | _ => none) else
  none
def f208 (as : List aV) (M : hM) : xO := match as with
  | [.inr (.inr (some a0)), .inl v1] => x_go k208 (b208_0 a0 v1 M)
  | _ => none
theorem lb208_86 (G : gX) (l : Launch) (a0 : Nat) (v1 : Int32) (M : hM) {res : xRes} (h : b208_86 a0 v1 M = some res) : h_sz M ≤ r_sz res ∧ h_sl M ≤ r_sl res := by
  unfold b208_86 at h
  obtain rfl := Option.some.inj h
  show h_sz M ≤ h_sz M ∧ h_sl M ≤ h_sl M
  omega
theorem lb208_41 (G : gX) (l : Launch) (a0 : Nat) (v1 : Int32) (v2 : Int32) (si0 : Int32) (si1 : Int32) (M : hM) {res : xRes} (h : b208_41 a0 v1 v2 si0 si1 M = some res) : h_sz M ≤ r_sz res ∧ h_sl M ≤ r_sl res := by
  unfold b208_41 at h
  by_cases q43 : si1 < si0
  · rw [if_pos q43] at h
    have e := lb208_86 G l a0 v1 M h
    omega
  · rw [if_neg q43] at h
    obtain ⟨o_21, h22, h⟩ := bd h
    obtain ⟨v_23, h24, h⟩ := bd h
    obtain ⟨M25, h26, h⟩ := bd h
    have eh26 := as_i_sz h26
    obtain ⟨o_27, h28, h⟩ := bd h
    obtain ⟨v_29, h30, h⟩ := bd h
    obtain ⟨b_33, h34, h⟩ := bd h
    obtain ⟨q_31, h32, h⟩ := bd h
    have eh32 := (t168 G l (c_I_some h32)).1
    obtain ⟨b_37, h38, h⟩ := bd h
    obtain ⟨q_35, h36, h⟩ := bd h
    have eh36 := (t167 G l (c_V_some h36)).1
    obtain ⟨b_41, h42, h⟩ := bd h
    obtain ⟨q_39, h40, h⟩ := bd h
    have eh40 := (t183 G l (c_V_some h40)).1
    have e := lb208_86 G l a0 v1 q_39 h
    omega
theorem lb208_0 (G : gX) (l : Launch) (a0 : Nat) (v1 : Int32) (M : hM) {res : xRes} (h : b208_0 a0 v1 M = some res) : h_sz M ≤ r_sz res ∧ h_sl M ≤ r_sl res := by
  unfold b208_0 at h
  obtain ⟨b_3, h4, h⟩ := bd h
  obtain ⟨q_1, h2, h⟩ := bd h
  have eh2 := (t176 G l (c_I_some h2)).1
  obtain ⟨b_7, h8, h⟩ := bd h
  obtain ⟨q_5, h6, h⟩ := bd h
  have eh6 := (t177 G l (c_I_some h6)).1
  by_cases q20 : q_5.1 = 0
  · rw [if_pos q20] at h
    have e := lb208_86 G l a0 v1 q_5.2 h
    omega
  · rw [if_neg q20] at h
    obtain ⟨v_9, h10, h⟩ := bd h
    obtain ⟨o_11, h12, h⟩ := bd h
    obtain ⟨v_13, h14, h⟩ := bd h
    obtain ⟨o_15, h16, h⟩ := bd h
    obtain ⟨v_17, h18, h⟩ := bd h
    by_cases q19 : v_17 = 0
    · rw [if_pos q19] at h
      have e := lb208_41 G l a0 v1 q_1.1 (30 : Int32) (v_9 - v_13) q_5.2 h
      omega
    · rw [if_neg q19] at h
      have e := lb208_41 G l a0 v1 q_1.1 (90 : Int32) (v_9 - v_13) q_5.2 h
      omega
theorem lb208_121 (G : gX) (l : Launch) (a0 : Nat) (v1 : Int32) (v3 : Int32) (M : hM) {res : xRes} (h : b208_121 a0 v1 v3 M = some res) : h_sz M ≤ r_sz res ∧ h_sl M ≤ r_sl res := by
  unfold b208_121 at h
  obtain rfl := Option.some.inj h
  show h_sz M ≤ h_sz M ∧ h_sl M ≤ h_sl M
  omega
theorem lb208_88 (G : gX) (l : Launch) (a0 : Nat) (v1 : Int32) (v3 : Int32) (M : hM) {res : xRes} (h : b208_88 a0 v1 v3 M = some res) : h_sz M ≤ r_sz res ∧ h_sl M ≤ r_sl res := by
  unfold b208_88 at h
  obtain ⟨v_44, h45, h⟩ := bd h
  by_cases q60 : v_44 ≤ v3
  · rw [if_pos q60] at h
    obtain rfl := Option.some.inj h
    show h_sz M ≤ h_sz M ∧ h_sl M ≤ h_sl M
    omega
  · rw [if_neg q60] at h
    obtain ⟨o_46, h47, h⟩ := bd h
    obtain ⟨v_48, h49, h⟩ := bd h
    by_cases q59 : v_48 = v1
    · rw [if_pos q59] at h
      obtain ⟨o_50, h51, h⟩ := bd h
      obtain ⟨v_52, h53, h⟩ := bd h
      by_cases q58 : v_52 = (-1 : Int32)
      · rw [if_pos q58] at h
        obtain ⟨b_56, h57, h⟩ := bd h
        obtain ⟨q_54, h55, h⟩ := bd h
        have eh55 := (t207 G l (c_V_some h55)).1
        have e := lb208_121 G l a0 v1 v3 q_54 h
        omega
      · rw [if_neg q58] at h
        have e := lb208_121 G l a0 v1 v3 M h
        omega
    · rw [if_neg q59] at h
      have e := lb208_121 G l a0 v1 v3 M h
      omega
theorem lb208_129 (G : gX) (l : Launch) (a0 : Nat) (v1 : Int32) (v3 : Int32) (M : hM) {res : xRes} (h : b208_129 a0 v1 v3 M = some res) : h_sz M ≤ r_sz res ∧ h_sl M ≤ r_sl res := by
  unfold b208_129 at h
  obtain ⟨o_61, h62, h⟩ := bd h
  obtain ⟨v_63, h64, h⟩ := bd h
  by_cases q76 : v_63 ≤ v3
  · rw [if_pos q76] at h
    obtain rfl := Option.some.inj h
    show h_sz M ≤ h_sz M ∧ h_sl M ≤ h_sl M
    omega
  · rw [if_neg q76] at h
    obtain ⟨v_65, h66, h⟩ := bd h
    obtain ⟨o_67, h68, h⟩ := bd h
    obtain ⟨v_69, h70, h⟩ := bd h
    by_cases q75 : (v_65 - v_69) < (120 : Int32)
    · rw [if_pos q75] at h
      obtain rfl := Option.some.inj h
      show h_sz M ≤ h_sz M ∧ h_sl M ≤ h_sl M
      omega
    · rw [if_neg q75] at h
      obtain ⟨b_73, h74, h⟩ := bd h
      obtain ⟨q_71, h72, h⟩ := bd h
      have eh72 := (t203 G l (c_V_some h72)).1
      obtain rfl := Option.some.inj h
      show h_sz M ≤ h_sz q_71 ∧ h_sl M ≤ h_sl q_71
      omega
section
variable {p : Program} {l : Launch} {e : Env} {s : State} {m : MethodId} {args : Array Value} {below : List Frame} {meth : Method} {c : Code} {G : gX} {z0 y0 : Nat} {r : Option aV} {M' : hM}
def pg208 (p : Program) (l : Launch) (e : Env) (s : State) (m : MethodId) (args : Array Value) (below : List Frame) (meth : Method) (c : Code) (G : gX) (z0 y0 : Nat) (r : Option aV) (M' : hM) (h : Nat) (as : List aV) (M : hM) : Prop :=
  if h = 88 then (match as with | [.inr (.inr (some a0)), .inl v1, .inl v3] => xV G p l e (xRm 7 (h_sz M' - z0) (h_sl M' - y0)) s m args below meth c z0 y0 (h_sz M') (h_sl M') 4 (MQ below (xQc G r M') args s (h_sz M' - z0) (h_sl M' - y0) (xFr G)) 88 [(0, .inr (.inr (some a0))), (1, .inl v1), (3, .inl v3)] [] M | _ => False) else
  if h = 129 then (match as with | [.inr (.inr (some a0)), .inl v1, .inl v3] => xV G p l e (xRm 7 (h_sz M' - z0) (h_sl M' - y0)) s m args below meth c z0 y0 (h_sz M') (h_sl M') 4 (MQ below (xQc G r M') args s (h_sz M' - z0) (h_sl M' - y0) (xFr G)) 129 [(0, .inr (.inr (some a0))), (1, .inl v1), (3, .inl v3)] [] M | _ => False) else
  False
theorem sb208_86 (E : xE G p (xRm 7 (h_sz M' - z0) (h_sl M' - y0)) s m args c prog_14_method_52_code "ZonedFabricModel" z0 y0 (h_sz M') (h_sl M') 4) (B : xB ym208 none meth) (a0 : Nat) (v1 : Int32) (M : hM) {res : xRes} (h : b208_86 a0 v1 M = some res) (hN : xN (pg208 p l e s m args below meth c G z0 y0 r M') r M' res) : xV G p l e (xRm 7 (h_sz M' - z0) (h_sl M' - y0)) s m args below meth c z0 y0 (h_sz M') (h_sl M') 4 (MQ below (xQc G r M') args s (h_sz M' - z0) (h_sl M' - y0) (xFr G)) 86 [(0, .inr (.inr (some a0))), (1, .inl v1)] [] M := by
  unfold b208_86 at h
  refine xv_b E [.iconst 0, .istore_n 3] (pc' := 88) (lv' := [(3, .inl (0 : Int32)), (0, .inr (.inr (some a0))), (1, .inl v1)]) (st' := []) (by decide +kernel) rfl rfl ?_
  obtain rfl := Option.some.inj h
  exact xv_w hN rfl
theorem sb208_41 (E : xE G p (xRm 7 (h_sz M' - z0) (h_sl M' - y0)) s m args c prog_14_method_52_code "ZonedFabricModel" z0 y0 (h_sz M') (h_sl M') 4) (B : xB ym208 none meth) (a0 : Nat) (v1 : Int32) (v2 : Int32) (si0 : Int32) (si1 : Int32) (M : hM) {res : xRes} (h : b208_41 a0 v1 v2 si0 si1 M = some res) (hN : xN (pg208 p l e s m args below meth c G z0 y0 r M') r M' res) : xV G p l e (xRm 7 (h_sz M' - z0) (h_sl M' - y0)) s m args below meth c z0 y0 (h_sz M') (h_sl M') 4 (MQ below (xQc G r M') args s (h_sz M' - z0) (h_sl M' - y0) (xFr G)) 41 [(0, .inr (.inr (some a0))), (1, .inl v1), (2, .inl v2)] [.inl si0, .inl si1] M := by
  unfold b208_41 at h
  by_cases q43 : si1 < si0
  · rw [if_pos q43] at h
    refine xv_icmp_lt E 86 (show decode prog_14_method_52_code 41 = .ok (.if_icmp .lt (45), 3) by decide +kernel) rfl (fun _ => ?_) (fun z => absurd q43 z)
    exact xv_w (sb208_86 E B a0 v1 M h hN) rfl
  · rw [if_neg q43] at h
    refine xv_icmp_lt E 86 (show decode prog_14_method_52_code 41 = .ok (.if_icmp .lt (45), 3) by decide +kernel) rfl (fun z => absurd z q43) (fun _ => ?_)
    refine xv_b E [.aload_n 0] (pc' := 45) (lv' := [(0, .inr (.inr (some a0))), (1, .inl v1), (2, .inl v2)]) (st' := [.inr (.inr (some a0))]) (by decide +kernel) rfl rfl ?_
    obtain ⟨o_21, h22, h⟩ := bd h
    refine xg_r E 12 36 h22 mw896 (show decode prog_14_method_52_code 45 = .ok (.getfield 103, 3) by decide +kernel) ?_
    refine xv_b E [.iload_n 1, .aload_n 0] (pc' := 50) (lv' := [(0, .inr (.inr (some a0))), (1, .inl v1), (2, .inl v2)]) (st' := [.inr (.inr (some a0)), .inl v1, .inr (.inr o_21)]) (by decide +kernel) rfl rfl ?_
    obtain ⟨v_23, h24, h⟩ := bd h
    refine xg_i E 12 3 h24 mw1047 (show decode prog_14_method_52_code 50 = .ok (.getfield 276, 3) by decide +kernel) ?_
    obtain ⟨M25, h26, h⟩ := bd h
    refine xs_i E h26 (show decode prog_14_method_52_code 53 = .ok (.iastore, 1) by decide +kernel) ?_
    refine xv_b E [.aload_n 0, .iconst 3] (pc' := 56) (lv' := [(0, .inr (.inr (some a0))), (1, .inl v1), (2, .inl v2)]) (st' := [.inl (3 : Int32), .inr (.inr (some a0))]) (by decide +kernel) rfl rfl ?_
    refine xv_ldcw E (16777214 : Int32) mw1060 (show decode prog_14_method_52_code 56 = .ok (.ldc_w 300, 3) by decide +kernel) ?_
    refine xv_b E [.aload_n 0] (pc' := 60) (lv' := [(0, .inr (.inr (some a0))), (1, .inl v1), (2, .inl v2)]) (st' := [.inr (.inr (some a0)), .inl (16777214 : Int32), .inl (3 : Int32), .inr (.inr (some a0))]) (by decide +kernel) rfl rfl ?_
    obtain ⟨o_27, h28, h⟩ := bd h
    refine xg_r E 12 35 h28 mw895 (show decode prog_14_method_52_code 60 = .ok (.getfield 100, 3) by decide +kernel) ?_
    refine xv_b E [.iload_n 1] (pc' := 64) (lv' := [(0, .inr (.inr (some a0))), (1, .inl v1), (2, .inl v2)]) (st' := [.inl v1, .inr (.inr o_27), .inl (16777214 : Int32), .inl (3 : Int32), .inr (.inr (some a0))]) (by decide +kernel) rfl rfl ?_
    obtain ⟨v_29, h30, h⟩ := bd h
    refine xa_i E h30 (show decode prog_14_method_52_code 64 = .ok (.iaload, 1) by decide +kernel) ?_
    refine xv_b E [.iconst 0, .iconst 0, .iconst 0] (pc' := 68) (lv' := [(0, .inr (.inr (some a0))), (1, .inl v1), (2, .inl v2)]) (st' := [.inl (0 : Int32), .inl (0 : Int32), .inl (0 : Int32), .inl v_29, .inl (16777214 : Int32), .inl (3 : Int32), .inr (.inr (some a0))]) (by decide +kernel) rfl rfl ?_
    obtain ⟨b_33, h34, h⟩ := bd h
    obtain ⟨eh34, th34⟩ := g_o_some h34
    obtain ⟨q_31, h32, h⟩ := bd h
    refine xv_cvo E eh34 12 (as := [.inl (3 : Int32), .inl (16777214 : Int32), .inl v_29, .inl (0 : Int32), .inl (0 : Int32), .inl (0 : Int32)]) (t168 G l (c_I_some h32)) cd168 mw1033 mw1034 mw1035 (show decode prog_14_method_52_code 68 = .ok (.invokevirtual 272, 3) by decide +kernel) th34 rfl rfl (Nat.le_of_ble_eq_true rfl) ⟨Nat.le_of_ble_eq_true rfl, Nat.le_of_ble_eq_true rfl⟩ ?_
    refine xv_b E [.istore_n 3, .aload_n 0, .iload_n 3, .iload_n 1, .i2l, .iconst 1] (pc' := 77) (lv' := [(3, .inl q_31.1), (0, .inr (.inr (some a0))), (1, .inl v1), (2, .inl v2)]) (st' := [.inl (1 : Int32), .inr (.inl (Int32.toInt64 v1)), .inl q_31.1, .inr (.inr (some a0))]) (by decide +kernel) rfl rfl ?_
    obtain ⟨b_37, h38, h⟩ := bd h
    obtain ⟨eh38, th38⟩ := g_o_some h38
    obtain ⟨q_35, h36, h⟩ := bd h
    refine xv_cvo E eh38 12 (as := [.inl q_31.1, .inr (.inl (Int32.toInt64 v1)), .inl (1 : Int32)]) (t167 G l (c_V_some h36)) cd167 mw932 mw933 mw934 (show decode prog_14_method_52_code 77 = .ok (.invokevirtual 190, 3) by decide +kernel) th38 rfl rfl (Nat.le_of_ble_eq_true rfl) ⟨Nat.le_of_ble_eq_true rfl, Nat.le_of_ble_eq_true rfl⟩ ?_
    refine xv_b E [.aload_n 0, .iload_n 2, .iload_n 3] (pc' := 83) (lv' := [(3, .inl q_31.1), (0, .inr (.inr (some a0))), (1, .inl v1), (2, .inl v2)]) (st' := [.inl q_31.1, .inl v2, .inr (.inr (some a0))]) (by decide +kernel) rfl rfl ?_
    obtain ⟨b_41, h42, h⟩ := bd h
    obtain ⟨eh42, th42⟩ := g_o_some h42
    obtain ⟨q_39, h40, h⟩ := bd h
    refine xv_cvo E eh42 12 (as := [.inl v2, .inl q_31.1]) (t183 G l (c_V_some h40)) cd183 mw1043 mw1044 mw1045 (show decode prog_14_method_52_code 83 = .ok (.invokevirtual 301, 3) by decide +kernel) th42 rfl rfl (Nat.le_of_ble_eq_true rfl) ⟨Nat.le_of_ble_eq_true rfl, Nat.le_of_ble_eq_true rfl⟩ ?_
    exact xv_w (sb208_86 E B a0 v1 q_39 h hN) rfl
theorem sb208_0 (E : xE G p (xRm 7 (h_sz M' - z0) (h_sl M' - y0)) s m args c prog_14_method_52_code "ZonedFabricModel" z0 y0 (h_sz M') (h_sl M') 4) (B : xB ym208 none meth) (a0 : Nat) (v1 : Int32) (M : hM) {res : xRes} (h : b208_0 a0 v1 M = some res) (hN : xN (pg208 p l e s m args below meth c G z0 y0 r M') r M' res) : xV G p l e (xRm 7 (h_sz M' - z0) (h_sl M' - y0)) s m args below meth c z0 y0 (h_sz M') (h_sl M') 4 (MQ below (xQc G r M') args s (h_sz M' - z0) (h_sl M' - y0) (xFr G)) 0 [(0, .inr (.inr (some a0))), (1, .inl v1)] [] M := by
  unfold b208_0 at h
  refine xv_b E [.aload_n 0, .iload_n 1] (pc' := 2) (lv' := [(0, .inr (.inr (some a0))), (1, .inl v1)]) (st' := [.inl v1, .inr (.inr (some a0))]) (by decide +kernel) rfl rfl ?_
  obtain ⟨b_3, h4, h⟩ := bd h
  obtain ⟨eh4, th4⟩ := g_o_some h4
  obtain ⟨q_1, h2, h⟩ := bd h
  refine xv_cvo E eh4 12 (as := [.inl v1]) (t176 G l (c_I_some h2)) cd176 mw1040 mw1041 mw1042 (show decode prog_14_method_52_code 2 = .ok (.invokevirtual 352, 3) by decide +kernel) th4 rfl rfl (Nat.le_of_ble_eq_true rfl) ⟨Nat.le_of_ble_eq_true rfl, Nat.le_of_ble_eq_true rfl⟩ ?_
  refine xv_b E [.istore_n 2, .aload_n 0, .iload_n 2] (pc' := 8) (lv' := [(2, .inl q_1.1), (0, .inr (.inr (some a0))), (1, .inl v1)]) (st' := [.inl q_1.1, .inr (.inr (some a0))]) (by decide +kernel) rfl rfl ?_
  obtain ⟨b_7, h8, h⟩ := bd h
  obtain ⟨eh8, th8⟩ := g_o_some h8
  obtain ⟨q_5, h6, h⟩ := bd h
  refine xv_cvo E eh8 12 (as := [.inl q_1.1]) (t177 G l (c_I_some h6)) cd177 mw963 mw964 mw965 (show decode prog_14_method_52_code 8 = .ok (.invokevirtual 213, 3) by decide +kernel) th8 rfl rfl (Nat.le_of_ble_eq_true rfl) ⟨Nat.le_of_ble_eq_true rfl, Nat.le_of_ble_eq_true rfl⟩ ?_
  by_cases q20 : q_5.1 = 0
  · rw [if_pos q20] at h
    refine xv_if_eq E 86 (show decode prog_14_method_52_code 11 = .ok (.ifCond .eq (75), 3) by decide +kernel) rfl (fun _ => ?_) (fun z => absurd q20 z)
    exact xv_w (sb208_86 E B a0 v1 q_5.2 h hN) rfl
  · rw [if_neg q20] at h
    refine xv_if_eq E 86 (show decode prog_14_method_52_code 11 = .ok (.ifCond .eq (75), 3) by decide +kernel) rfl (fun z => absurd z q20) (fun _ => ?_)
    refine xv_b E [.aload_n 0] (pc' := 15) (lv' := [(2, .inl q_1.1), (0, .inr (.inr (some a0))), (1, .inl v1)]) (st' := [.inr (.inr (some a0))]) (by decide +kernel) rfl rfl ?_
    obtain ⟨v_9, h10, h⟩ := bd h
    refine xg_i E 12 3 h10 mw1047 (show decode prog_14_method_52_code 15 = .ok (.getfield 276, 3) by decide +kernel) ?_
    refine xv_b E [.aload_n 0] (pc' := 19) (lv' := [(2, .inl q_1.1), (0, .inr (.inr (some a0))), (1, .inl v1)]) (st' := [.inr (.inr (some a0)), .inl v_9]) (by decide +kernel) rfl rfl ?_
    obtain ⟨o_11, h12, h⟩ := bd h
    refine xg_r E 12 36 h12 mw896 (show decode prog_14_method_52_code 19 = .ok (.getfield 103, 3) by decide +kernel) ?_
    refine xv_b E [.iload_n 1] (pc' := 23) (lv' := [(2, .inl q_1.1), (0, .inr (.inr (some a0))), (1, .inl v1)]) (st' := [.inl v1, .inr (.inr o_11), .inl v_9]) (by decide +kernel) rfl rfl ?_
    obtain ⟨v_13, h14, h⟩ := bd h
    refine xa_i E h14 (show decode prog_14_method_52_code 23 = .ok (.iaload, 1) by decide +kernel) ?_
    refine xv_b E [.isub, .aload_n 0] (pc' := 26) (lv' := [(2, .inl q_1.1), (0, .inr (.inr (some a0))), (1, .inl v1)]) (st' := [.inr (.inr (some a0)), .inl (v_9 - v_13)]) (by decide +kernel) rfl rfl ?_
    obtain ⟨o_15, h16, h⟩ := bd h
    refine xg_r E 12 35 h16 mw895 (show decode prog_14_method_52_code 26 = .ok (.getfield 100, 3) by decide +kernel) ?_
    refine xv_b E [.iload_n 1] (pc' := 30) (lv' := [(2, .inl q_1.1), (0, .inr (.inr (some a0))), (1, .inl v1)]) (st' := [.inl v1, .inr (.inr o_15), .inl (v_9 - v_13)]) (by decide +kernel) rfl rfl ?_
    obtain ⟨v_17, h18, h⟩ := bd h
    refine xa_i E h18 (show decode prog_14_method_52_code 30 = .ok (.iaload, 1) by decide +kernel) ?_
    by_cases q19 : v_17 = 0
    · rw [if_pos q19] at h
      refine xv_if_ne E 39 (show decode prog_14_method_52_code 31 = .ok (.ifCond .ne (8), 3) by decide +kernel) rfl (fun z => absurd q19 z) (fun _ => ?_)
      refine xv_b E [.bipush 30] (pc' := 36) (lv' := [(2, .inl q_1.1), (0, .inr (.inr (some a0))), (1, .inl v1)]) (st' := [.inl (30 : Int32), .inl (v_9 - v_13)]) (by decide +kernel) rfl rfl ?_
      refine xv_goto E 41 (show decode prog_14_method_52_code 36 = .ok (.goto (5), 3) by decide +kernel) rfl ?_
      exact xv_w (sb208_41 E B a0 v1 q_1.1 (30 : Int32) (v_9 - v_13) q_5.2 h hN) rfl
    · rw [if_neg q19] at h
      refine xv_if_ne E 39 (show decode prog_14_method_52_code 31 = .ok (.ifCond .ne (8), 3) by decide +kernel) rfl (fun _ => ?_) (fun z => absurd z q19)
      refine xv_b E [.bipush 90] (pc' := 41) (lv' := [(2, .inl q_1.1), (0, .inr (.inr (some a0))), (1, .inl v1)]) (st' := [.inl (90 : Int32), .inl (v_9 - v_13)]) (by decide +kernel) rfl rfl ?_
      exact xv_w (sb208_41 E B a0 v1 q_1.1 (90 : Int32) (v_9 - v_13) q_5.2 h hN) rfl
theorem sb208_121 (E : xE G p (xRm 7 (h_sz M' - z0) (h_sl M' - y0)) s m args c prog_14_method_52_code "ZonedFabricModel" z0 y0 (h_sz M') (h_sl M') 4) (B : xB ym208 none meth) (a0 : Nat) (v1 : Int32) (v3 : Int32) (M : hM) {res : xRes} (h : b208_121 a0 v1 v3 M = some res) (hN : xN (pg208 p l e s m args below meth c G z0 y0 r M') r M' res) : xV G p l e (xRm 7 (h_sz M' - z0) (h_sl M' - y0)) s m args below meth c z0 y0 (h_sz M') (h_sl M') 4 (MQ below (xQc G r M') args s (h_sz M' - z0) (h_sl M' - y0) (xFr G)) 121 [(0, .inr (.inr (some a0))), (1, .inl v1), (3, .inl v3)] [] M := by
  unfold b208_121 at h
  refine xv_b E [.iinc 3 1] (pc' := 124) (lv' := [(3, .inl (v3 + (1 : Int32))), (0, .inr (.inr (some a0))), (1, .inl v1)]) (st' := []) (by decide +kernel) rfl rfl ?_
  refine xv_goto E 88 (show decode prog_14_method_52_code 124 = .ok (.goto (-36), 3) by decide +kernel) rfl ?_
  obtain rfl := Option.some.inj h
  exact xv_w hN rfl
theorem sb208_88 (E : xE G p (xRm 7 (h_sz M' - z0) (h_sl M' - y0)) s m args c prog_14_method_52_code "ZonedFabricModel" z0 y0 (h_sz M') (h_sl M') 4) (B : xB ym208 none meth) (a0 : Nat) (v1 : Int32) (v3 : Int32) (M : hM) {res : xRes} (h : b208_88 a0 v1 v3 M = some res) (hN : xN (pg208 p l e s m args below meth c G z0 y0 r M') r M' res) : xV G p l e (xRm 7 (h_sz M' - z0) (h_sl M' - y0)) s m args below meth c z0 y0 (h_sz M') (h_sl M') 4 (MQ below (xQc G r M') args s (h_sz M' - z0) (h_sl M' - y0) (xFr G)) 88 [(0, .inr (.inr (some a0))), (1, .inl v1), (3, .inl v3)] [] M := by
  unfold b208_88 at h
  refine xv_b E [.iload_n 3, .aload_n 0] (pc' := 90) (lv' := [(0, .inr (.inr (some a0))), (1, .inl v1), (3, .inl v3)]) (st' := [.inr (.inr (some a0)), .inl v3]) (by decide +kernel) rfl rfl ?_
  obtain ⟨v_44, h45, h⟩ := bd h
  refine xg_i E 12 47 h45 mw1061 (show decode prog_14_method_52_code 90 = .ok (.getfield 364, 3) by decide +kernel) ?_
  by_cases q60 : v_44 ≤ v3
  · rw [if_pos q60] at h
    refine xv_icmp_ge E 127 (show decode prog_14_method_52_code 93 = .ok (.if_icmp .ge (34), 3) by decide +kernel) rfl (fun _ => ?_) (fun z => absurd q60 z)
    refine xv_b E [.iconst 0, .istore_n 3] (pc' := 129) (lv' := [(3, .inl (0 : Int32)), (0, .inr (.inr (some a0))), (1, .inl v1)]) (st' := []) (by decide +kernel) rfl rfl ?_
    obtain rfl := Option.some.inj h
    exact xv_w hN rfl
  · rw [if_neg q60] at h
    refine xv_icmp_ge E 127 (show decode prog_14_method_52_code 93 = .ok (.if_icmp .ge (34), 3) by decide +kernel) rfl (fun z => absurd z q60) (fun _ => ?_)
    refine xv_b E [.aload_n 0] (pc' := 97) (lv' := [(0, .inr (.inr (some a0))), (1, .inl v1), (3, .inl v3)]) (st' := [.inr (.inr (some a0))]) (by decide +kernel) rfl rfl ?_
    obtain ⟨o_46, h47, h⟩ := bd h
    refine xg_r E 12 48 h47 mw906 (show decode prog_14_method_52_code 97 = .ok (.getfield 134, 3) by decide +kernel) ?_
    refine xv_b E [.iload_n 3] (pc' := 101) (lv' := [(0, .inr (.inr (some a0))), (1, .inl v1), (3, .inl v3)]) (st' := [.inl v3, .inr (.inr o_46)]) (by decide +kernel) rfl rfl ?_
    obtain ⟨v_48, h49, h⟩ := bd h
    refine xa_i E h49 (show decode prog_14_method_52_code 101 = .ok (.iaload, 1) by decide +kernel) ?_
    refine xv_b E [.iload_n 1] (pc' := 103) (lv' := [(0, .inr (.inr (some a0))), (1, .inl v1), (3, .inl v3)]) (st' := [.inl v1, .inl v_48]) (by decide +kernel) rfl rfl ?_
    by_cases q59 : v_48 = v1
    · rw [if_pos q59] at h
      refine xv_icmp_ne E 121 (show decode prog_14_method_52_code 103 = .ok (.if_icmp .ne (18), 3) by decide +kernel) rfl (fun z => absurd q59 z) (fun _ => ?_)
      refine xv_b E [.aload_n 0] (pc' := 107) (lv' := [(0, .inr (.inr (some a0))), (1, .inl v1), (3, .inl v3)]) (st' := [.inr (.inr (some a0))]) (by decide +kernel) rfl rfl ?_
      obtain ⟨o_50, h51, h⟩ := bd h
      refine xg_r E 12 59 h51 mw917 (show decode prog_14_method_52_code 107 = .ok (.getfield 167, 3) by decide +kernel) ?_
      refine xv_b E [.iload_n 3] (pc' := 111) (lv' := [(0, .inr (.inr (some a0))), (1, .inl v1), (3, .inl v3)]) (st' := [.inl v3, .inr (.inr o_50)]) (by decide +kernel) rfl rfl ?_
      obtain ⟨v_52, h53, h⟩ := bd h
      refine xa_i E h53 (show decode prog_14_method_52_code 111 = .ok (.iaload, 1) by decide +kernel) ?_
      refine xv_b E [.iconst (-1)] (pc' := 113) (lv' := [(0, .inr (.inr (some a0))), (1, .inl v1), (3, .inl v3)]) (st' := [.inl (-1 : Int32), .inl v_52]) (by decide +kernel) rfl rfl ?_
      by_cases q58 : v_52 = (-1 : Int32)
      · rw [if_pos q58] at h
        refine xv_icmp_ne E 121 (show decode prog_14_method_52_code 113 = .ok (.if_icmp .ne (8), 3) by decide +kernel) rfl (fun z => absurd q58 z) (fun _ => ?_)
        refine xv_b E [.aload_n 0, .iload_n 3] (pc' := 118) (lv' := [(0, .inr (.inr (some a0))), (1, .inl v1), (3, .inl v3)]) (st' := [.inl v3, .inr (.inr (some a0))]) (by decide +kernel) rfl rfl ?_
        obtain ⟨b_56, h57, h⟩ := bd h
        obtain ⟨eh57, th57⟩ := g_o_some h57
        obtain ⟨q_54, h55, h⟩ := bd h
        refine xv_cvo E eh57 12 (as := [.inl v3]) (t207 G l (c_V_some h55)) cd207 mw1062 mw1063 mw1064 (show decode prog_14_method_52_code 118 = .ok (.invokevirtual 367, 3) by decide +kernel) th57 rfl rfl (Nat.le_of_ble_eq_true rfl) ⟨Nat.le_of_ble_eq_true rfl, Nat.le_of_ble_eq_true rfl⟩ ?_
        exact xv_w (sb208_121 E B a0 v1 v3 q_54 h hN) rfl
      · rw [if_neg q58] at h
        refine xv_icmp_ne E 121 (show decode prog_14_method_52_code 113 = .ok (.if_icmp .ne (8), 3) by decide +kernel) rfl (fun _ => ?_) (fun z => absurd z q58)
        exact xv_w (sb208_121 E B a0 v1 v3 M h hN) rfl
    · rw [if_neg q59] at h
      refine xv_icmp_ne E 121 (show decode prog_14_method_52_code 103 = .ok (.if_icmp .ne (18), 3) by decide +kernel) rfl (fun _ => ?_) (fun z => absurd z q59)
      exact xv_w (sb208_121 E B a0 v1 v3 M h hN) rfl
theorem sb208_129 (E : xE G p (xRm 7 (h_sz M' - z0) (h_sl M' - y0)) s m args c prog_14_method_52_code "ZonedFabricModel" z0 y0 (h_sz M') (h_sl M') 4) (B : xB ym208 none meth) (a0 : Nat) (v1 : Int32) (v3 : Int32) (M : hM) {res : xRes} (h : b208_129 a0 v1 v3 M = some res) (hN : xN (pg208 p l e s m args below meth c G z0 y0 r M') r M' res) : xV G p l e (xRm 7 (h_sz M' - z0) (h_sl M' - y0)) s m args below meth c z0 y0 (h_sz M') (h_sl M') 4 (MQ below (xQc G r M') args s (h_sz M' - z0) (h_sl M' - y0) (xFr G)) 129 [(0, .inr (.inr (some a0))), (1, .inl v1), (3, .inl v3)] [] M := by
  unfold b208_129 at h
  refine xv_b E [.iload_n 3, .aload_n 0] (pc' := 131) (lv' := [(0, .inr (.inr (some a0))), (1, .inl v1), (3, .inl v3)]) (st' := [.inr (.inr (some a0)), .inl v3]) (by decide +kernel) rfl rfl ?_
  obtain ⟨o_61, h62, h⟩ := bd h
  refine xg_r E 12 46 h62 mw905 (show decode prog_14_method_52_code 131 = .ok (.getfield 131, 3) by decide +kernel) ?_
  refine xv_b E [.iload_n 1] (pc' := 135) (lv' := [(0, .inr (.inr (some a0))), (1, .inl v1), (3, .inl v3)]) (st' := [.inl v1, .inr (.inr o_61), .inl v3]) (by decide +kernel) rfl rfl ?_
  obtain ⟨v_63, h64, h⟩ := bd h
  refine xa_i E h64 (show decode prog_14_method_52_code 135 = .ok (.iaload, 1) by decide +kernel) ?_
  by_cases q76 : v_63 ≤ v3
  · rw [if_pos q76] at h
    refine xv_icmp_ge E 181 (show decode prog_14_method_52_code 136 = .ok (.if_icmp .ge (45), 3) by decide +kernel) rfl (fun _ => ?_) (fun z => absurd q76 z)
    obtain rfl := Option.some.inj h
    obtain ⟨rfl, rfl⟩ := Prod.mk.inj (show ((none : Option aV), M) = (r, M') from hN)
    exact xv_rv E B.1 B.2.1 (show decode prog_14_method_52_code 181 = .ok (.return_, 1) by decide +kernel) rfl rfl
  · rw [if_neg q76] at h
    refine xv_icmp_ge E 181 (show decode prog_14_method_52_code 136 = .ok (.if_icmp .ge (45), 3) by decide +kernel) rfl (fun z => absurd z q76) (fun _ => ?_)
    refine xv_b E [.aload_n 0] (pc' := 140) (lv' := [(0, .inr (.inr (some a0))), (1, .inl v1), (3, .inl v3)]) (st' := [.inr (.inr (some a0))]) (by decide +kernel) rfl rfl ?_
    obtain ⟨v_65, h66, h⟩ := bd h
    refine xg_i E 12 3 h66 mw1047 (show decode prog_14_method_52_code 140 = .ok (.getfield 276, 3) by decide +kernel) ?_
    refine xv_b E [.aload_n 0] (pc' := 144) (lv' := [(0, .inr (.inr (some a0))), (1, .inl v1), (3, .inl v3)]) (st' := [.inr (.inr (some a0)), .inl v_65]) (by decide +kernel) rfl rfl ?_
    obtain ⟨o_67, h68, h⟩ := bd h
    refine xg_r E 12 44 h68 mw903 (show decode prog_14_method_52_code 144 = .ok (.getfield 125, 3) by decide +kernel) ?_
    refine xv_b E [.bipush 48, .iload_n 1, .imul, .bipush 8, .iload_n 3, .imul, .iadd, .bipush 7, .iadd] (pc' := 159) (lv' := [(0, .inr (.inr (some a0))), (1, .inl v1), (3, .inl v3)]) (st' := [.inl ((((48 : Int32) * v1) + ((8 : Int32) * v3)) + (7 : Int32)), .inr (.inr o_67), .inl v_65]) (by decide +kernel) rfl rfl ?_
    obtain ⟨v_69, h70, h⟩ := bd h
    refine xa_i E h70 (show decode prog_14_method_52_code 159 = .ok (.iaload, 1) by decide +kernel) ?_
    refine xv_b E [.isub, .bipush 120] (pc' := 163) (lv' := [(0, .inr (.inr (some a0))), (1, .inl v1), (3, .inl v3)]) (st' := [.inl (120 : Int32), .inl (v_65 - v_69)]) (by decide +kernel) rfl rfl ?_
    by_cases q75 : (v_65 - v_69) < (120 : Int32)
    · rw [if_pos q75] at h
      refine xv_icmp_lt E 175 (show decode prog_14_method_52_code 163 = .ok (.if_icmp .lt (12), 3) by decide +kernel) rfl (fun _ => ?_) (fun z => absurd q75 z)
      refine xv_b E [.iinc 3 1] (pc' := 178) (lv' := [(3, .inl (v3 + (1 : Int32))), (0, .inr (.inr (some a0))), (1, .inl v1)]) (st' := []) (by decide +kernel) rfl rfl ?_
      refine xv_goto E 129 (show decode prog_14_method_52_code 178 = .ok (.goto (-49), 3) by decide +kernel) rfl ?_
      obtain rfl := Option.some.inj h
      exact xv_w hN rfl
    · rw [if_neg q75] at h
      refine xv_icmp_lt E 175 (show decode prog_14_method_52_code 163 = .ok (.if_icmp .lt (12), 3) by decide +kernel) rfl (fun z => absurd z q75) (fun _ => ?_)
      refine xv_b E [.aload_n 0, .iload_n 1, .iload_n 3] (pc' := 169) (lv' := [(0, .inr (.inr (some a0))), (1, .inl v1), (3, .inl v3)]) (st' := [.inl v3, .inl v1, .inr (.inr (some a0))]) (by decide +kernel) rfl rfl ?_
      obtain ⟨b_73, h74, h⟩ := bd h
      obtain ⟨eh74, th74⟩ := g_o_some h74
      obtain ⟨q_71, h72, h⟩ := bd h
      refine xv_cvo E eh74 12 (as := [.inl v1, .inl v3]) (t203 G l (c_V_some h72)) cd203 mw1065 mw1066 mw1067 (show decode prog_14_method_52_code 169 = .ok (.invokevirtual 370, 3) by decide +kernel) th74 rfl rfl (Nat.le_of_ble_eq_true rfl) ⟨Nat.le_of_ble_eq_true rfl, Nat.le_of_ble_eq_true rfl⟩ ?_
      refine xv_goto E 129 (show decode prog_14_method_52_code 172 = .ok (.goto (-43), 3) by decide +kernel) rfl ?_
      obtain rfl := Option.some.inj h
      exact xv_w hN rfl
end
theorem t208 (G : gX) (l : Launch) {as : List aV} {M : hM} {r : Option aV} {M' : hM} (h : f208 as M = some (r, M')) : xM G l ym208 prog_14_method_52_code 4 none 7 as M r M' := by
  unfold f208 at h
  split at h
  · have hle : ∀ h as M res, k208 h as M = some res → h_sz M ≤ r_sz res ∧ h_sl M ≤ r_sl res := by
      intro h as M res hb
      unfold k208 at hb
      by_cases e0 : h = 88
      · rw [if_pos e0] at hb
        split at hb
        · exact lb208_88 G l _ _ _ M hb
        · cases hb
      · rw [if_neg e0] at hb
        by_cases e1 : h = 129
        · rw [if_pos e1] at hb
          split at hb
          · exact lb208_129 G l _ _ _ M hb
          · cases hb
        · rw [if_neg e1] at hb
          cases hb
    obtain ⟨res, hx, hres⟩ := x_go_ok h
    refine xM_of (by decide) (Nat.le_of_ble_eq_true rfl) ?_ ?_
    · have e1 := lb208_0 G l _ _ M hx
      have e2 := x_go_le hle hres
      omega
    · intro p e s m args below meth c E B
      refine sb208_0 E B _ _ M hx (hres _ ?_)
      intro h as M res hb hN
      unfold k208 at hb
      unfold pg208
      by_cases e0 : h = 88
      · rw [if_pos e0] at hb ⊢
        split at hb
        · exact sb208_88 E B _ _ _ M hb hN
        · cases hb
      · rw [if_neg e0] at hb ⊢
        by_cases e1 : h = 129
        · rw [if_pos e1] at hb ⊢
          split at hb
          · exact sb208_129 E B _ _ _ M hb hN
          · cases hb
        · rw [if_neg e1] at hb ⊢
          cases hb
  · cases h
