theorem mw1147 : Cond.code ⟨"ZonedFabricModel", "timers", "(I)V"⟩ prog_14_method_42_code 5 none ∈ xTs := xTs_in (tk6 (List.mem_of_getElem? (i := 226) rfl)) rfl
theorem mw1148 : Cond.methodLink "ZonedFabricModel" 297 ⟨"ZonedFabricModel", "isOffItself", "(I)Z"⟩ ∈ xTs := xTs_in (tk6 (List.mem_of_getElem? (i := 227) (by decide +kernel))) rfl
theorem mw1149 : Cond.instanceMethod ⟨"ZonedFabricModel", "isOffItself", "(I)Z"⟩ ∈ xTs := xTs_in (tk6 (List.mem_of_getElem? (i := 229) (by decide +kernel))) rfl
theorem mw1150 : Cond.selects "ZonedFabricModel" ⟨"ZonedFabricModel", "isOffItself", "(I)Z"⟩ ⟨"ZonedFabricModel", "isOffItself", "(I)Z"⟩ ∈ xTs := xTs_in (List.mem_append_left _ (List.mem_of_getElem? (i := 69) (by decide +kernel))) rfl
theorem mw1151 : Cond.methodLink "ZonedFabricModel" 306 ⟨"ZonedFabricModel", "issues", "(I)V"⟩ ∈ xTs := xTs_in (tk7 (List.mem_of_getElem? (i := 60) (by decide +kernel))) rfl
theorem mw1152 : Cond.instanceMethod ⟨"ZonedFabricModel", "issues", "(I)V"⟩ ∈ xTs := xTs_in (tk7 (List.mem_of_getElem? (i := 62) (by decide +kernel))) rfl
theorem mw1153 : Cond.selects "ZonedFabricModel" ⟨"ZonedFabricModel", "issues", "(I)V"⟩ ⟨"ZonedFabricModel", "issues", "(I)V"⟩ ∈ xTs := xTs_in (List.mem_append_left _ (List.mem_of_getElem? (i := 86) (by decide +kernel))) rfl
theorem mw1154 : Cond.methodLink "ZonedFabricModel" 303 ⟨"ZonedFabricModel", "nodeAt", "(I)I"⟩ ∈ xTs := xTs_in (tk7 (List.mem_of_getElem? (i := 55) (by decide +kernel))) rfl
theorem mw1155 : Cond.instanceMethod ⟨"ZonedFabricModel", "nodeAt", "(I)I"⟩ ∈ xTs := xTs_in (tk7 (List.mem_of_getElem? (i := 57) (by decide +kernel))) rfl
theorem mw1156 : Cond.selects "ZonedFabricModel" ⟨"ZonedFabricModel", "nodeAt", "(I)I"⟩ ⟨"ZonedFabricModel", "nodeAt", "(I)I"⟩ ∈ xTs := xTs_in (List.mem_append_left _ (List.mem_of_getElem? (i := 85) (by decide +kernel))) rfl
theorem mw1157 : Cond.code ⟨"ZonedFabricModel", "wayOn", "(IIII)I"⟩ prog_14_method_46_code 9 (some FieldType.int) ∈ xTs := xTs_in (tk7 (List.mem_of_getElem? (i := 144) rfl)) rfl
theorem mw1158 : Cond.methodLink "ZonedFabricModel" 336 ⟨"ZonedFabricModel", "common", "(II)Z"⟩ ∈ xTs := xTs_in (tk7 (List.mem_of_getElem? (i := 125) (by decide +kernel))) rfl
theorem mw1159 : Cond.instanceMethod ⟨"ZonedFabricModel", "common", "(II)Z"⟩ ∈ xTs := xTs_in (tk7 (List.mem_of_getElem? (i := 127) (by decide +kernel))) rfl
theorem mw1160 : Cond.selects "ZonedFabricModel" ⟨"ZonedFabricModel", "common", "(II)Z"⟩ ⟨"ZonedFabricModel", "common", "(II)Z"⟩ ∈ xTs := xTs_in (List.mem_append_left _ (List.mem_of_getElem? (i := 102) (by decide +kernel))) rfl
theorem mw1161 : Cond.methodLink "ZonedFabricModel" 339 ⟨"ZonedFabricModel", "wayOut", "(II)I"⟩ ∈ xTs := xTs_in (tk7 (List.mem_of_getElem? (i := 145) (by decide +kernel))) rfl
theorem mw1162 : Cond.instanceMethod ⟨"ZonedFabricModel", "wayOut", "(II)I"⟩ ∈ xTs := xTs_in (tk7 (List.mem_of_getElem? (i := 147) (by decide +kernel))) rfl
theorem mw1163 : Cond.selects "ZonedFabricModel" ⟨"ZonedFabricModel", "wayOut", "(II)I"⟩ ⟨"ZonedFabricModel", "wayOut", "(II)I"⟩ ∈ xTs := xTs_in (List.mem_append_left _ (List.mem_of_getElem? (i := 107) (by decide +kernel))) rfl
theorem mw1164 : Cond.code ⟨"ZonedFabricModel", "passes", "(IIII)V"⟩ prog_14_method_47_code 7 none ∈ xTs := xTs_in (tk7 (List.mem_of_getElem? (i := 140) rfl)) rfl
theorem mw1165 : Cond.methodLink "ZonedFabricModel" 342 ⟨"ZonedFabricModel", "wayOn", "(IIII)I"⟩ ∈ xTs := xTs_in (tk7 (List.mem_of_getElem? (i := 141) (by decide +kernel))) rfl
theorem mw1166 : Cond.instanceMethod ⟨"ZonedFabricModel", "wayOn", "(IIII)I"⟩ ∈ xTs := xTs_in (tk7 (List.mem_of_getElem? (i := 143) (by decide +kernel))) rfl
theorem mw1167 : Cond.selects "ZonedFabricModel" ⟨"ZonedFabricModel", "wayOn", "(IIII)I"⟩ ⟨"ZonedFabricModel", "wayOn", "(IIII)I"⟩ ∈ xTs := xTs_in (List.mem_append_left _ (List.mem_of_getElem? (i := 106) (by decide +kernel))) rfl
theorem mw1168 : Cond.code ⟨"ZonedFabricModel", "addressOf", "(II)I"⟩ prog_14_method_49_code 6 (some FieldType.int) ∈ xTs := xTs_in (tk7 (List.mem_of_getElem? (i := 132) rfl)) rfl
theorem mw1169 : Cond.methodLink "ZonedFabricModel" 349 ⟨"ZonedFabricModel", "nodesFrom", "(II)I"⟩ ∈ xTs := xTs_in (tk7 (List.mem_of_getElem? (i := 133) (by decide +kernel))) rfl
theorem mw1170 : Cond.instanceMethod ⟨"ZonedFabricModel", "nodesFrom", "(II)I"⟩ ∈ xTs := xTs_in (tk7 (List.mem_of_getElem? (i := 135) (by decide +kernel))) rfl
theorem mw1171 : Cond.selects "ZonedFabricModel" ⟨"ZonedFabricModel", "nodesFrom", "(II)I"⟩ ⟨"ZonedFabricModel", "nodesFrom", "(II)I"⟩ ∈ xTs := xTs_in (List.mem_append_left _ (List.mem_of_getElem? (i := 104) (by decide +kernel))) rfl
theorem mw1172 : Cond.code ⟨"ZonedFabricModel", "taken", "(IIII)V"⟩ prog_14_method_48_code 9 none ∈ xTs := xTs_in (tk7 (List.mem_of_getElem? (i := 124) rfl)) rfl
theorem mw1173 : Cond.methodLink "ZonedFabricModel" 346 ⟨"ZonedFabricModel", "addressOf", "(II)I"⟩ ∈ xTs := xTs_in (tk7 (List.mem_of_getElem? (i := 129) (by decide +kernel))) rfl
theorem mw1174 : Cond.instanceMethod ⟨"ZonedFabricModel", "addressOf", "(II)I"⟩ ∈ xTs := xTs_in (tk7 (List.mem_of_getElem? (i := 131) (by decide +kernel))) rfl
theorem mw1175 : Cond.selects "ZonedFabricModel" ⟨"ZonedFabricModel", "addressOf", "(II)I"⟩ ⟨"ZonedFabricModel", "addressOf", "(II)I"⟩ ∈ xTs := xTs_in (List.mem_append_left _ (List.mem_of_getElem? (i := 103) (by decide +kernel))) rfl
/-! ZFModel.timers(I)V -/
def ym224 : MethodName := ⟨"ZonedFabricModel", "timers", "(I)V"⟩
theorem cd224 : xCd ym224 prog_14_method_42_code 5 none 1 := ⟨mw1147, mw864, by decide, by decide, by decide +kernel⟩
def b224_0 (a0 : Nat) (v1 : Int32) (M : hM) : Option xRes :=
  some (.inr (2, [.inr (.inr (some a0)), .inl v1, .inl (0 : Int32)], M))
def b224_77 (a0 : Nat) (v1 : Int32) (v2 : Int32) (M : hM) : Option xRes :=
  some (.inr (2, [.inr (.inr (some a0)), .inl v1, .inl (v2 + (1 : Int32))], M))
def b224_53 (a0 : Nat) (v1 : Int32) (v2 : Int32) (v3 : Int32) (M : hM) : Option xRes :=
  Option.bind (g_r M 12 25 (some a0)) fun o_25 =>
  Option.bind (as_i M 20 o_25 v3 (0 : Int32)) fun M27 =>
  Option.bind (g_o M27 12 (some a0)) fun b_31 =>
  Option.bind (c_I (f168 [.inr (.inr (some b_31)), .inl (4 : Int32), .inl (0 : Int32), .inl (16777214 : Int32), .inl (0 : Int32), .inl (0 : Int32), .inl (0 : Int32)] M27)) fun q_29 =>
  Option.bind (g_o q_29.2 12 (some a0)) fun b_35 =>
  Option.bind (c_V (f183 [.inr (.inr (some b_35)), .inl v3, .inl q_29.1] q_29.2)) fun q_33 =>
  b224_77 a0 v1 v2 q_33
def b224_2 (a0 : Nat) (v1 : Int32) (v2 : Int32) (M : hM) : Option xRes :=
  if (8 : Int32) ≤ v2 then
    (some (.inr (85, [.inr (.inr (some a0)), .inl v1, .inl (0 : Int32)], M)))
  else
    (Option.bind (g_o M 12 (some a0)) fun b_3 =>
    Option.bind (c_I (f175 [.inr (.inr (some b_3)), .inl v1, .inl v2] M)) fun q_1 =>
    Option.bind (g_r q_1.2 12 25 (some a0)) fun o_5 =>
    Option.bind (al_i q_1.2 20 o_5 q_1.1) fun v_7 =>
    if v_7 = 0 then
      (b224_77 a0 v1 v2 q_1.2)
    else
      (Option.bind (g_r q_1.2 12 25 (some a0)) fun o_9 =>
      Option.bind (al_i q_1.2 20 o_9 q_1.1) fun v_11 =>
      Option.bind (g_r q_1.2 12 26 (some a0)) fun o_13 =>
      Option.bind (al_i q_1.2 20 o_13 v1) fun v_15 =>
      if (v_11 >>> ((16 : Int32) &&& 31)) = v_15 then
        (Option.bind (g_o q_1.2 12 (some a0)) fun b_19 =>
        Option.bind (c_I (f200 [.inr (.inr (some b_19)), .inl v1] q_1.2)) fun q_17 =>
        if q_17.1 = 0 then
          (b224_77 a0 v1 v2 q_17.2)
        else
          (b224_53 a0 v1 v2 q_1.1 q_17.2))
      else
        (b224_53 a0 v1 v2 q_1.1 q_1.2)))
def b224_143 (a0 : Nat) (v1 : Int32) (v2 : Int32) (M : hM) : Option xRes :=
  some (.inr (85, [.inr (.inr (some a0)), .inl v1, .inl (v2 + (1 : Int32))], M))
def b224_85 (a0 : Nat) (v1 : Int32) (v2 : Int32) (M : hM) : Option xRes :=
  Option.bind (g_i M 12 0 (some a0)) fun v_37 =>
  if v_37 ≤ v2 then
    (some (.inr (151, [.inr (.inr (some a0)), .inl v1, .inl (0 : Int32)], M)))
  else
    (if v2 = v1 then
      (b224_143 a0 v1 v2 M)
    else
      (Option.bind (g_r M 12 27 (some a0)) fun o_39 =>
      Option.bind (al_i M 22 o_39 (((5 : Int32) * v1) + v2)) fun v_41 =>
      if v_41 = 0 then
        (b224_143 a0 v1 v2 M)
      else
        (Option.bind (g_i M 12 3 (some a0)) fun v_43 =>
        Option.bind (g_r M 12 28 (some a0)) fun o_45 =>
        Option.bind (al_i M 20 o_45 (((5 : Int32) * v1) + v2)) fun v_47 =>
        if (v_43 - v_47) < (150 : Int32) then
          (b224_143 a0 v1 v2 M)
        else
          (Option.bind (g_r M 12 27 (some a0)) fun o_49 =>
          Option.bind (as_z M 22 o_49 (((5 : Int32) * v1) + v2) (0 : Int32)) fun M51 =>
          b224_143 a0 v1 v2 M51))))
def b224_252 (a0 : Nat) (v1 : Int32) (v2 : Int32) (M : hM) : Option xRes :=
  some (.inr (151, [.inr (.inr (some a0)), .inl v1, .inl (v2 + (1 : Int32))], M))
def b224_151 (a0 : Nat) (v1 : Int32) (v2 : Int32) (M : hM) : Option xRes :=
  if (8 : Int32) ≤ v2 then
    (Option.bind (g_o M 12 (some a0)) fun b_59 =>
    Option.bind (c_V (f223 [.inr (.inr (some b_59)), .inl v1] M)) fun q_57 =>
    some (.inl (none, q_57)))
  else
    (Option.bind (g_o M 12 (some a0)) fun b_63 =>
    Option.bind (c_I (f175 [.inr (.inr (some b_63)), .inl v1, .inl v2] M)) fun q_61 =>
    Option.bind (g_o q_61.2 12 (some a0)) fun b_67 =>
    Option.bind (c_I (f177 [.inr (.inr (some b_67)), .inl q_61.1] q_61.2)) fun q_65 =>
    if q_65.1 = 0 then
      (b224_252 a0 v1 v2 q_65.2)
    else
      (Option.bind (g_o q_65.2 12 (some a0)) fun b_71 =>
      Option.bind (c_I (f179 [.inr (.inr (some b_71)), .inl q_61.1] q_65.2)) fun q_69 =>
      if q_69.1 = (-1 : Int32) then
        (Option.bind (g_r q_69.2 12 23 (some a0)) fun o_73 =>
        Option.bind (al_i q_69.2 20 o_73 q_61.1) fun v_75 =>
        if v_75 = (-1 : Int32) then
          (Option.bind (g_i q_69.2 12 3 (some a0)) fun v_77 =>
          Option.bind (g_r q_69.2 12 24 (some a0)) fun o_79 =>
          Option.bind (al_i q_69.2 20 o_79 q_61.1) fun v_81 =>
          if (10 : Int32) < (v_77 - v_81) then
            (Option.bind (g_r q_69.2 12 24 (some a0)) fun o_83 =>
            Option.bind (g_i q_69.2 12 3 (some a0)) fun v_85 =>
            Option.bind (as_i q_69.2 20 o_83 q_61.1 v_85) fun M87 =>
            Option.bind (g_o M87 12 (some a0)) fun b_91 =>
            Option.bind (c_I (f168 [.inr (.inr (some b_91)), .inl (1 : Int32), .inl (16777213 : Int32), .inl (16777213 : Int32), .inl (0 : Int32), .inl (0 : Int32), .inl (0 : Int32)] M87)) fun q_89 =>
            Option.bind (g_o q_89.2 12 (some a0)) fun b_95 =>
            Option.bind (c_V (f167 [.inr (.inr (some b_95)), .inl q_89.1, .inr (.inl (Int32.toInt64 v1)), .inl (1 : Int32)] q_89.2)) fun q_93 =>
            Option.bind (g_o q_93 12 (some a0)) fun b_99 =>
            Option.bind (c_V (f183 [.inr (.inr (some b_99)), .inl q_61.1, .inl q_89.1] q_93)) fun q_97 =>
            b224_252 a0 v1 v2 q_97)
          else
            (b224_252 a0 v1 v2 q_69.2))
        else
          (b224_252 a0 v1 v2 q_69.2))
      else
        (b224_252 a0 v1 v2 q_69.2)))
def k224 (h : Nat) (as : List aV) (M : hM) : Option xRes :=
  if h = 2 then (match as with | [.inr (.inr (some a0)), .inl v1, .inl v2] => b224_2 a0 v1 v2 M | _ => none) else
  if h = 85 then (match as with | [.inr (.inr (some a0)), .inl v1, .inl v2] => b224_85 a0 v1 v2 M | _ => none) else
  if h = 151 then (match as with | [.inr (.inr (some a0)), .inl v1, .inl v2] => b224_151 a0 v1 v2 M | _ => none) else
  none
def f224 (as : List aV) (M : hM) : xO := match as with
  | [.inr (.inr (some a0)), .inl v1] => x_go k224 (b224_0 a0 v1 M)
  | _ => none
theorem lb224_0 (G : gX) (l : Launch) (a0 : Nat) (v1 : Int32) (M : hM) {res : xRes} (h : b224_0 a0 v1 M = some res) : h_sz M ≤ r_sz res ∧ h_sl M ≤ r_sl res := by
  unfold b224_0 at h
  obtain rfl := Option.some.inj h
  show h_sz M ≤ h_sz M ∧ h_sl M ≤ h_sl M
  omega
theorem lb224_77 (G : gX) (l : Launch) (a0 : Nat) (v1 : Int32) (v2 : Int32) (M : hM) {res : xRes} (h : b224_77 a0 v1 v2 M = some res) : h_sz M ≤ r_sz res ∧ h_sl M ≤ r_sl res := by
  unfold b224_77 at h
  obtain rfl := Option.some.inj h
  show h_sz M ≤ h_sz M ∧ h_sl M ≤ h_sl M
  omega
theorem lb224_53 (G : gX) (l : Launch) (a0 : Nat) (v1 : Int32) (v2 : Int32) (v3 : Int32) (M : hM) {res : xRes} (h : b224_53 a0 v1 v2 v3 M = some res) : h_sz M ≤ r_sz res ∧ h_sl M ≤ r_sl res := by
  unfold b224_53 at h
  obtain ⟨o_25, h26, h⟩ := bd h
  obtain ⟨M27, h28, h⟩ := bd h
  have eh28 := as_i_sz h28
  obtain ⟨b_31, h32, h⟩ := bd h
  obtain ⟨q_29, h30, h⟩ := bd h
  have eh30 := (t168 G l (c_I_some h30)).1
  obtain ⟨b_35, h36, h⟩ := bd h
  obtain ⟨q_33, h34, h⟩ := bd h
  have eh34 := (t183 G l (c_V_some h34)).1
  have e := lb224_77 G l a0 v1 v2 q_33 h
  omega
theorem lb224_2 (G : gX) (l : Launch) (a0 : Nat) (v1 : Int32) (v2 : Int32) (M : hM) {res : xRes} (h : b224_2 a0 v1 v2 M = some res) : h_sz M ≤ r_sz res ∧ h_sl M ≤ r_sl res := by
  unfold b224_2 at h
  by_cases q24 : (8 : Int32) ≤ v2
  · rw [if_pos q24] at h
    obtain rfl := Option.some.inj h
    show h_sz M ≤ h_sz M ∧ h_sl M ≤ h_sl M
    omega
  · rw [if_neg q24] at h
    obtain ⟨b_3, h4, h⟩ := bd h
    obtain ⟨q_1, h2, h⟩ := bd h
    have eh2 := (t175 G l (c_I_some h2)).1
    obtain ⟨o_5, h6, h⟩ := bd h
    obtain ⟨v_7, h8, h⟩ := bd h
    by_cases q23 : v_7 = 0
    · rw [if_pos q23] at h
      have e := lb224_77 G l a0 v1 v2 q_1.2 h
      omega
    · rw [if_neg q23] at h
      obtain ⟨o_9, h10, h⟩ := bd h
      obtain ⟨v_11, h12, h⟩ := bd h
      obtain ⟨o_13, h14, h⟩ := bd h
      obtain ⟨v_15, h16, h⟩ := bd h
      by_cases q22 : (v_11 >>> ((16 : Int32) &&& 31)) = v_15
      · rw [if_pos q22] at h
        obtain ⟨b_19, h20, h⟩ := bd h
        obtain ⟨q_17, h18, h⟩ := bd h
        have eh18 := (t200 G l (c_I_some h18)).1
        by_cases q21 : q_17.1 = 0
        · rw [if_pos q21] at h
          have e := lb224_77 G l a0 v1 v2 q_17.2 h
          omega
        · rw [if_neg q21] at h
          have e := lb224_53 G l a0 v1 v2 q_1.1 q_17.2 h
          omega
      · rw [if_neg q22] at h
        have e := lb224_53 G l a0 v1 v2 q_1.1 q_1.2 h
        omega
theorem lb224_143 (G : gX) (l : Launch) (a0 : Nat) (v1 : Int32) (v2 : Int32) (M : hM) {res : xRes} (h : b224_143 a0 v1 v2 M = some res) : h_sz M ≤ r_sz res ∧ h_sl M ≤ r_sl res := by
  unfold b224_143 at h
  obtain rfl := Option.some.inj h
  show h_sz M ≤ h_sz M ∧ h_sl M ≤ h_sl M
  omega
theorem lb224_85 (G : gX) (l : Launch) (a0 : Nat) (v1 : Int32) (v2 : Int32) (M : hM) {res : xRes} (h : b224_85 a0 v1 v2 M = some res) : h_sz M ≤ r_sz res ∧ h_sl M ≤ r_sl res := by
  unfold b224_85 at h
  obtain ⟨v_37, h38, h⟩ := bd h
  by_cases q56 : v_37 ≤ v2
  · rw [if_pos q56] at h
    obtain rfl := Option.some.inj h
    show h_sz M ≤ h_sz M ∧ h_sl M ≤ h_sl M
    omega
  · rw [if_neg q56] at h
    by_cases q55 : v2 = v1
    · rw [if_pos q55] at h
      have e := lb224_143 G l a0 v1 v2 M h
      omega
    · rw [if_neg q55] at h
      obtain ⟨o_39, h40, h⟩ := bd h
      obtain ⟨v_41, h42, h⟩ := bd h
      by_cases q54 : v_41 = 0
      · rw [if_pos q54] at h
        have e := lb224_143 G l a0 v1 v2 M h
        omega
      · rw [if_neg q54] at h
        obtain ⟨v_43, h44, h⟩ := bd h
        obtain ⟨o_45, h46, h⟩ := bd h
        obtain ⟨v_47, h48, h⟩ := bd h
        by_cases q53 : (v_43 - v_47) < (150 : Int32)
        · rw [if_pos q53] at h
          have e := lb224_143 G l a0 v1 v2 M h
          omega
        · rw [if_neg q53] at h
          obtain ⟨o_49, h50, h⟩ := bd h
          obtain ⟨M51, h52, h⟩ := bd h
          have eh52 := as_z_sz h52
          have e := lb224_143 G l a0 v1 v2 M51 h
          omega
theorem lb224_252 (G : gX) (l : Launch) (a0 : Nat) (v1 : Int32) (v2 : Int32) (M : hM) {res : xRes} (h : b224_252 a0 v1 v2 M = some res) : h_sz M ≤ r_sz res ∧ h_sl M ≤ r_sl res := by
  unfold b224_252 at h
  obtain rfl := Option.some.inj h
  show h_sz M ≤ h_sz M ∧ h_sl M ≤ h_sl M
  omega
theorem lb224_151 (G : gX) (l : Launch) (a0 : Nat) (v1 : Int32) (v2 : Int32) (M : hM) {res : xRes} (h : b224_151 a0 v1 v2 M = some res) : h_sz M ≤ r_sz res ∧ h_sl M ≤ r_sl res := by
  unfold b224_151 at h
  by_cases q105 : (8 : Int32) ≤ v2
  · rw [if_pos q105] at h
    obtain ⟨b_59, h60, h⟩ := bd h
    obtain ⟨q_57, h58, h⟩ := bd h
    have eh58 := (t223 G l (c_V_some h58)).1
    obtain rfl := Option.some.inj h
    show h_sz M ≤ h_sz q_57 ∧ h_sl M ≤ h_sl q_57
    omega
  · rw [if_neg q105] at h
    obtain ⟨b_63, h64, h⟩ := bd h
    obtain ⟨q_61, h62, h⟩ := bd h
    have eh62 := (t175 G l (c_I_some h62)).1
    obtain ⟨b_67, h68, h⟩ := bd h
    obtain ⟨q_65, h66, h⟩ := bd h
    have eh66 := (t177 G l (c_I_some h66)).1
    by_cases q104 : q_65.1 = 0
    · rw [if_pos q104] at h
      have e := lb224_252 G l a0 v1 v2 q_65.2 h
      omega
    · rw [if_neg q104] at h
      obtain ⟨b_71, h72, h⟩ := bd h
      obtain ⟨q_69, h70, h⟩ := bd h
      have eh70 := (t179 G l (c_I_some h70)).1
      by_cases q103 : q_69.1 = (-1 : Int32)
      · rw [if_pos q103] at h
        obtain ⟨o_73, h74, h⟩ := bd h
        obtain ⟨v_75, h76, h⟩ := bd h
        by_cases q102 : v_75 = (-1 : Int32)
        · rw [if_pos q102] at h
          obtain ⟨v_77, h78, h⟩ := bd h
          obtain ⟨o_79, h80, h⟩ := bd h
          obtain ⟨v_81, h82, h⟩ := bd h
          by_cases q101 : (10 : Int32) < (v_77 - v_81)
          · rw [if_pos q101] at h
            obtain ⟨o_83, h84, h⟩ := bd h
            obtain ⟨v_85, h86, h⟩ := bd h
            obtain ⟨M87, h88, h⟩ := bd h
            have eh88 := as_i_sz h88
            obtain ⟨b_91, h92, h⟩ := bd h
            obtain ⟨q_89, h90, h⟩ := bd h
            have eh90 := (t168 G l (c_I_some h90)).1
            obtain ⟨b_95, h96, h⟩ := bd h
            obtain ⟨q_93, h94, h⟩ := bd h
            have eh94 := (t167 G l (c_V_some h94)).1
            obtain ⟨b_99, h100, h⟩ := bd h
            obtain ⟨q_97, h98, h⟩ := bd h
            have eh98 := (t183 G l (c_V_some h98)).1
            have e := lb224_252 G l a0 v1 v2 q_97 h
            omega
          · rw [if_neg q101] at h
            have e := lb224_252 G l a0 v1 v2 q_69.2 h
            omega
        · rw [if_neg q102] at h
          have e := lb224_252 G l a0 v1 v2 q_69.2 h
          omega
      · rw [if_neg q103] at h
        have e := lb224_252 G l a0 v1 v2 q_69.2 h
        omega
section
variable {p : Program} {l : Launch} {e : Env} {s : State} {m : MethodId} {args : Array Value} {below : List Frame} {meth : Method} {c : Code} {G : gX} {z0 y0 : Nat} {r : Option aV} {M' : hM}
def pg224 (p : Program) (l : Launch) (e : Env) (s : State) (m : MethodId) (args : Array Value) (below : List Frame) (meth : Method) (c : Code) (G : gX) (z0 y0 : Nat) (r : Option aV) (M' : hM) (h : Nat) (as : List aV) (M : hM) : Prop :=
  if h = 2 then (match as with | [.inr (.inr (some a0)), .inl v1, .inl v2] => xV G p l e (xRm 7 (h_sz M' - z0) (h_sl M' - y0)) s m args below meth c z0 y0 (h_sz M') (h_sl M') 5 (MQ below (xQc G r M') args s (h_sz M' - z0) (h_sl M' - y0) (xFr G)) 2 [(0, .inr (.inr (some a0))), (1, .inl v1), (2, .inl v2)] [] M | _ => False) else
  if h = 85 then (match as with | [.inr (.inr (some a0)), .inl v1, .inl v2] => xV G p l e (xRm 7 (h_sz M' - z0) (h_sl M' - y0)) s m args below meth c z0 y0 (h_sz M') (h_sl M') 5 (MQ below (xQc G r M') args s (h_sz M' - z0) (h_sl M' - y0) (xFr G)) 85 [(0, .inr (.inr (some a0))), (1, .inl v1), (2, .inl v2)] [] M | _ => False) else
  if h = 151 then (match as with | [.inr (.inr (some a0)), .inl v1, .inl v2] => xV G p l e (xRm 7 (h_sz M' - z0) (h_sl M' - y0)) s m args below meth c z0 y0 (h_sz M') (h_sl M') 5 (MQ below (xQc G r M') args s (h_sz M' - z0) (h_sl M' - y0) (xFr G)) 151 [(0, .inr (.inr (some a0))), (1, .inl v1), (2, .inl v2)] [] M | _ => False) else
  False
theorem sb224_0 (E : xE G p (xRm 7 (h_sz M' - z0) (h_sl M' - y0)) s m args c prog_14_method_42_code "ZonedFabricModel" z0 y0 (h_sz M') (h_sl M') 5) (B : xB ym224 none meth) (a0 : Nat) (v1 : Int32) (M : hM) {res : xRes} (h : b224_0 a0 v1 M = some res) (hN : xN (pg224 p l e s m args below meth c G z0 y0 r M') r M' res) : xV G p l e (xRm 7 (h_sz M' - z0) (h_sl M' - y0)) s m args below meth c z0 y0 (h_sz M') (h_sl M') 5 (MQ below (xQc G r M') args s (h_sz M' - z0) (h_sl M' - y0) (xFr G)) 0 [(0, .inr (.inr (some a0))), (1, .inl v1)] [] M := by
  unfold b224_0 at h
  refine xv_b E [.iconst 0, .istore_n 2] (pc' := 2) (lv' := [(2, .inl (0 : Int32)), (0, .inr (.inr (some a0))), (1, .inl v1)]) (st' := []) (by decide +kernel) rfl rfl ?_
  obtain rfl := Option.some.inj h
  exact xv_w hN rfl
theorem sb224_77 (E : xE G p (xRm 7 (h_sz M' - z0) (h_sl M' - y0)) s m args c prog_14_method_42_code "ZonedFabricModel" z0 y0 (h_sz M') (h_sl M') 5) (B : xB ym224 none meth) (a0 : Nat) (v1 : Int32) (v2 : Int32) (M : hM) {res : xRes} (h : b224_77 a0 v1 v2 M = some res) (hN : xN (pg224 p l e s m args below meth c G z0 y0 r M') r M' res) : xV G p l e (xRm 7 (h_sz M' - z0) (h_sl M' - y0)) s m args below meth c z0 y0 (h_sz M') (h_sl M') 5 (MQ below (xQc G r M') args s (h_sz M' - z0) (h_sl M' - y0) (xFr G)) 77 [(0, .inr (.inr (some a0))), (1, .inl v1), (2, .inl v2)] [] M := by
  unfold b224_77 at h
  refine xv_b E [.iinc 2 1] (pc' := 80) (lv' := [(2, .inl (v2 + (1 : Int32))), (0, .inr (.inr (some a0))), (1, .inl v1)]) (st' := []) (by decide +kernel) rfl rfl ?_
  refine xv_goto E 2 (show decode prog_14_method_42_code 80 = .ok (.goto (-78), 3) by decide +kernel) rfl ?_
  obtain rfl := Option.some.inj h
  exact xv_w hN rfl
theorem sb224_53 (E : xE G p (xRm 7 (h_sz M' - z0) (h_sl M' - y0)) s m args c prog_14_method_42_code "ZonedFabricModel" z0 y0 (h_sz M') (h_sl M') 5) (B : xB ym224 none meth) (a0 : Nat) (v1 : Int32) (v2 : Int32) (v3 : Int32) (M : hM) {res : xRes} (h : b224_53 a0 v1 v2 v3 M = some res) (hN : xN (pg224 p l e s m args below meth c G z0 y0 r M') r M' res) : xV G p l e (xRm 7 (h_sz M' - z0) (h_sl M' - y0)) s m args below meth c z0 y0 (h_sz M') (h_sl M') 5 (MQ below (xQc G r M') args s (h_sz M' - z0) (h_sl M' - y0) (xFr G)) 53 [(0, .inr (.inr (some a0))), (1, .inl v1), (2, .inl v2), (3, .inl v3)] [] M := by
  unfold b224_53 at h
  refine xv_b E [.aload_n 0] (pc' := 54) (lv' := [(0, .inr (.inr (some a0))), (1, .inl v1), (2, .inl v2), (3, .inl v3)]) (st' := [.inr (.inr (some a0))]) (by decide +kernel) rfl rfl ?_
  obtain ⟨o_25, h26, h⟩ := bd h
  refine xg_r E 12 25 h26 mw885 (show decode prog_14_method_42_code 54 = .ok (.getfield 70, 3) by decide +kernel) ?_
  refine xv_b E [.iload_n 3, .iconst 0] (pc' := 59) (lv' := [(0, .inr (.inr (some a0))), (1, .inl v1), (2, .inl v2), (3, .inl v3)]) (st' := [.inl (0 : Int32), .inl v3, .inr (.inr o_25)]) (by decide +kernel) rfl rfl ?_
  obtain ⟨M27, h28, h⟩ := bd h
  refine xs_i E h28 (show decode prog_14_method_42_code 59 = .ok (.iastore, 1) by decide +kernel) ?_
  refine xv_b E [.aload_n 0, .iload_n 3, .aload_n 0, .iconst 4, .iconst 0] (pc' := 65) (lv' := [(0, .inr (.inr (some a0))), (1, .inl v1), (2, .inl v2), (3, .inl v3)]) (st' := [.inl (0 : Int32), .inl (4 : Int32), .inr (.inr (some a0)), .inl v3, .inr (.inr (some a0))]) (by decide +kernel) rfl rfl ?_
  refine xv_ldcw E (16777214 : Int32) mw1060 (show decode prog_14_method_42_code 65 = .ok (.ldc_w 300, 3) by decide +kernel) ?_
  refine xv_b E [.iconst 0, .iconst 0, .iconst 0] (pc' := 71) (lv' := [(0, .inr (.inr (some a0))), (1, .inl v1), (2, .inl v2), (3, .inl v3)]) (st' := [.inl (0 : Int32), .inl (0 : Int32), .inl (0 : Int32), .inl (16777214 : Int32), .inl (0 : Int32), .inl (4 : Int32), .inr (.inr (some a0)), .inl v3, .inr (.inr (some a0))]) (by decide +kernel) rfl rfl ?_
  obtain ⟨b_31, h32, h⟩ := bd h
  obtain ⟨eh32, th32⟩ := g_o_some h32
  obtain ⟨q_29, h30, h⟩ := bd h
  refine xv_cvo E eh32 12 (as := [.inl (4 : Int32), .inl (0 : Int32), .inl (16777214 : Int32), .inl (0 : Int32), .inl (0 : Int32), .inl (0 : Int32)]) (t168 G l (c_I_some h30)) cd168 mw1033 mw1034 mw1035 (show decode prog_14_method_42_code 71 = .ok (.invokevirtual 272, 3) by decide +kernel) th32 rfl rfl (Nat.le_of_ble_eq_true rfl) ⟨Nat.le_of_ble_eq_true rfl, Nat.le_of_ble_eq_true rfl⟩ ?_
  obtain ⟨b_35, h36, h⟩ := bd h
  obtain ⟨eh36, th36⟩ := g_o_some h36
  obtain ⟨q_33, h34, h⟩ := bd h
  refine xv_cvo E eh36 12 (as := [.inl v3, .inl q_29.1]) (t183 G l (c_V_some h34)) cd183 mw1043 mw1044 mw1045 (show decode prog_14_method_42_code 74 = .ok (.invokevirtual 301, 3) by decide +kernel) th36 rfl rfl (Nat.le_of_ble_eq_true rfl) ⟨Nat.le_of_ble_eq_true rfl, Nat.le_of_ble_eq_true rfl⟩ ?_
  exact xv_w (sb224_77 E B a0 v1 v2 q_33 h hN) rfl
theorem sb224_2 (E : xE G p (xRm 7 (h_sz M' - z0) (h_sl M' - y0)) s m args c prog_14_method_42_code "ZonedFabricModel" z0 y0 (h_sz M') (h_sl M') 5) (B : xB ym224 none meth) (a0 : Nat) (v1 : Int32) (v2 : Int32) (M : hM) {res : xRes} (h : b224_2 a0 v1 v2 M = some res) (hN : xN (pg224 p l e s m args below meth c G z0 y0 r M') r M' res) : xV G p l e (xRm 7 (h_sz M' - z0) (h_sl M' - y0)) s m args below meth c z0 y0 (h_sz M') (h_sl M') 5 (MQ below (xQc G r M') args s (h_sz M' - z0) (h_sl M' - y0) (xFr G)) 2 [(0, .inr (.inr (some a0))), (1, .inl v1), (2, .inl v2)] [] M := by
  unfold b224_2 at h
  refine xv_b E [.iload_n 2, .bipush 8] (pc' := 5) (lv' := [(0, .inr (.inr (some a0))), (1, .inl v1), (2, .inl v2)]) (st' := [.inl (8 : Int32), .inl v2]) (by decide +kernel) rfl rfl ?_
  by_cases q24 : (8 : Int32) ≤ v2
  · rw [if_pos q24] at h
    refine xv_icmp_ge E 83 (show decode prog_14_method_42_code 5 = .ok (.if_icmp .ge (78), 3) by decide +kernel) rfl (fun _ => ?_) (fun z => absurd q24 z)
    refine xv_b E [.iconst 0, .istore_n 2] (pc' := 85) (lv' := [(2, .inl (0 : Int32)), (0, .inr (.inr (some a0))), (1, .inl v1)]) (st' := []) (by decide +kernel) rfl rfl ?_
    obtain rfl := Option.some.inj h
    exact xv_w hN rfl
  · rw [if_neg q24] at h
    refine xv_icmp_ge E 83 (show decode prog_14_method_42_code 5 = .ok (.if_icmp .ge (78), 3) by decide +kernel) rfl (fun z => absurd z q24) (fun _ => ?_)
    refine xv_b E [.aload_n 0, .iload_n 1, .iload_n 2] (pc' := 11) (lv' := [(0, .inr (.inr (some a0))), (1, .inl v1), (2, .inl v2)]) (st' := [.inl v2, .inl v1, .inr (.inr (some a0))]) (by decide +kernel) rfl rfl ?_
    obtain ⟨b_3, h4, h⟩ := bd h
    obtain ⟨eh4, th4⟩ := g_o_some h4
    obtain ⟨q_1, h2, h⟩ := bd h
    refine xv_cvo E eh4 12 (as := [.inl v1, .inl v2]) (t175 G l (c_I_some h2)) cd175 mw1134 mw1135 mw1136 (show decode prog_14_method_42_code 11 = .ok (.invokevirtual 288, 3) by decide +kernel) th4 rfl rfl (Nat.le_of_ble_eq_true rfl) ⟨Nat.le_of_ble_eq_true rfl, Nat.le_of_ble_eq_true rfl⟩ ?_
    refine xv_b E [.istore_n 3, .aload_n 0] (pc' := 16) (lv' := [(3, .inl q_1.1), (0, .inr (.inr (some a0))), (1, .inl v1), (2, .inl v2)]) (st' := [.inr (.inr (some a0))]) (by decide +kernel) rfl rfl ?_
    obtain ⟨o_5, h6, h⟩ := bd h
    refine xg_r E 12 25 h6 mw885 (show decode prog_14_method_42_code 16 = .ok (.getfield 70, 3) by decide +kernel) ?_
    refine xv_b E [.iload_n 3] (pc' := 20) (lv' := [(3, .inl q_1.1), (0, .inr (.inr (some a0))), (1, .inl v1), (2, .inl v2)]) (st' := [.inl q_1.1, .inr (.inr o_5)]) (by decide +kernel) rfl rfl ?_
    obtain ⟨v_7, h8, h⟩ := bd h
    refine xa_i E h8 (show decode prog_14_method_42_code 20 = .ok (.iaload, 1) by decide +kernel) ?_
    by_cases q23 : v_7 = 0
    · rw [if_pos q23] at h
      refine xv_if_eq E 77 (show decode prog_14_method_42_code 21 = .ok (.ifCond .eq (56), 3) by decide +kernel) rfl (fun _ => ?_) (fun z => absurd q23 z)
      exact xv_w (sb224_77 E B a0 v1 v2 q_1.2 h hN) rfl
    · rw [if_neg q23] at h
      refine xv_if_eq E 77 (show decode prog_14_method_42_code 21 = .ok (.ifCond .eq (56), 3) by decide +kernel) rfl (fun z => absurd z q23) (fun _ => ?_)
      refine xv_b E [.aload_n 0] (pc' := 25) (lv' := [(3, .inl q_1.1), (0, .inr (.inr (some a0))), (1, .inl v1), (2, .inl v2)]) (st' := [.inr (.inr (some a0))]) (by decide +kernel) rfl rfl ?_
      obtain ⟨o_9, h10, h⟩ := bd h
      refine xg_r E 12 25 h10 mw885 (show decode prog_14_method_42_code 25 = .ok (.getfield 70, 3) by decide +kernel) ?_
      refine xv_b E [.iload_n 3] (pc' := 29) (lv' := [(3, .inl q_1.1), (0, .inr (.inr (some a0))), (1, .inl v1), (2, .inl v2)]) (st' := [.inl q_1.1, .inr (.inr o_9)]) (by decide +kernel) rfl rfl ?_
      obtain ⟨v_11, h12, h⟩ := bd h
      refine xa_i E h12 (show decode prog_14_method_42_code 29 = .ok (.iaload, 1) by decide +kernel) ?_
      refine xv_b E [.bipush 16, .ishr, .aload_n 0] (pc' := 34) (lv' := [(3, .inl q_1.1), (0, .inr (.inr (some a0))), (1, .inl v1), (2, .inl v2)]) (st' := [.inr (.inr (some a0)), .inl (v_11 >>> ((16 : Int32) &&& 31))]) (by decide +kernel) rfl rfl ?_
      obtain ⟨o_13, h14, h⟩ := bd h
      refine xg_r E 12 26 h14 mw886 (show decode prog_14_method_42_code 34 = .ok (.getfield 73, 3) by decide +kernel) ?_
      refine xv_b E [.iload_n 1] (pc' := 38) (lv' := [(3, .inl q_1.1), (0, .inr (.inr (some a0))), (1, .inl v1), (2, .inl v2)]) (st' := [.inl v1, .inr (.inr o_13), .inl (v_11 >>> ((16 : Int32) &&& 31))]) (by decide +kernel) rfl rfl ?_
      obtain ⟨v_15, h16, h⟩ := bd h
      refine xa_i E h16 (show decode prog_14_method_42_code 38 = .ok (.iaload, 1) by decide +kernel) ?_
      by_cases q22 : (v_11 >>> ((16 : Int32) &&& 31)) = v_15
      · rw [if_pos q22] at h
        refine xv_icmp_ne E 53 (show decode prog_14_method_42_code 39 = .ok (.if_icmp .ne (14), 3) by decide +kernel) rfl (fun z => absurd q22 z) (fun _ => ?_)
        refine xv_b E [.aload_n 0, .iload_n 1] (pc' := 44) (lv' := [(3, .inl q_1.1), (0, .inr (.inr (some a0))), (1, .inl v1), (2, .inl v2)]) (st' := [.inl v1, .inr (.inr (some a0))]) (by decide +kernel) rfl rfl ?_
        obtain ⟨b_19, h20, h⟩ := bd h
        obtain ⟨eh20, th20⟩ := g_o_some h20
        obtain ⟨q_17, h18, h⟩ := bd h
        refine xv_cvo E eh20 12 (as := [.inl v1]) (t200 G l (c_I_some h18)) cd200 mw1148 mw1149 mw1150 (show decode prog_14_method_42_code 44 = .ok (.invokevirtual 297, 3) by decide +kernel) th20 rfl rfl (Nat.le_of_ble_eq_true rfl) ⟨Nat.le_of_ble_eq_true rfl, Nat.le_of_ble_eq_true rfl⟩ ?_
        by_cases q21 : q_17.1 = 0
        · rw [if_pos q21] at h
          refine xv_if_ne E 53 (show decode prog_14_method_42_code 47 = .ok (.ifCond .ne (6), 3) by decide +kernel) rfl (fun z => absurd q21 z) (fun _ => ?_)
          refine xv_goto E 77 (show decode prog_14_method_42_code 50 = .ok (.goto (27), 3) by decide +kernel) rfl ?_
          exact xv_w (sb224_77 E B a0 v1 v2 q_17.2 h hN) rfl
        · rw [if_neg q21] at h
          refine xv_if_ne E 53 (show decode prog_14_method_42_code 47 = .ok (.ifCond .ne (6), 3) by decide +kernel) rfl (fun _ => ?_) (fun z => absurd z q21)
          exact xv_w (sb224_53 E B a0 v1 v2 q_1.1 q_17.2 h hN) rfl
      · rw [if_neg q22] at h
        refine xv_icmp_ne E 53 (show decode prog_14_method_42_code 39 = .ok (.if_icmp .ne (14), 3) by decide +kernel) rfl (fun _ => ?_) (fun z => absurd z q22)
        exact xv_w (sb224_53 E B a0 v1 v2 q_1.1 q_1.2 h hN) rfl
theorem sb224_143 (E : xE G p (xRm 7 (h_sz M' - z0) (h_sl M' - y0)) s m args c prog_14_method_42_code "ZonedFabricModel" z0 y0 (h_sz M') (h_sl M') 5) (B : xB ym224 none meth) (a0 : Nat) (v1 : Int32) (v2 : Int32) (M : hM) {res : xRes} (h : b224_143 a0 v1 v2 M = some res) (hN : xN (pg224 p l e s m args below meth c G z0 y0 r M') r M' res) : xV G p l e (xRm 7 (h_sz M' - z0) (h_sl M' - y0)) s m args below meth c z0 y0 (h_sz M') (h_sl M') 5 (MQ below (xQc G r M') args s (h_sz M' - z0) (h_sl M' - y0) (xFr G)) 143 [(0, .inr (.inr (some a0))), (1, .inl v1), (2, .inl v2)] [] M := by
  unfold b224_143 at h
  refine xv_b E [.iinc 2 1] (pc' := 146) (lv' := [(2, .inl (v2 + (1 : Int32))), (0, .inr (.inr (some a0))), (1, .inl v1)]) (st' := []) (by decide +kernel) rfl rfl ?_
  refine xv_goto E 85 (show decode prog_14_method_42_code 146 = .ok (.goto (-61), 3) by decide +kernel) rfl ?_
  obtain rfl := Option.some.inj h
  exact xv_w hN rfl
theorem sb224_85 (E : xE G p (xRm 7 (h_sz M' - z0) (h_sl M' - y0)) s m args c prog_14_method_42_code "ZonedFabricModel" z0 y0 (h_sz M') (h_sl M') 5) (B : xB ym224 none meth) (a0 : Nat) (v1 : Int32) (v2 : Int32) (M : hM) {res : xRes} (h : b224_85 a0 v1 v2 M = some res) (hN : xN (pg224 p l e s m args below meth c G z0 y0 r M') r M' res) : xV G p l e (xRm 7 (h_sz M' - z0) (h_sl M' - y0)) s m args below meth c z0 y0 (h_sz M') (h_sl M') 5 (MQ below (xQc G r M') args s (h_sz M' - z0) (h_sl M' - y0) (xFr G)) 85 [(0, .inr (.inr (some a0))), (1, .inl v1), (2, .inl v2)] [] M := by
  unfold b224_85 at h
  refine xv_b E [.iload_n 2, .aload_n 0] (pc' := 87) (lv' := [(0, .inr (.inr (some a0))), (1, .inl v1), (2, .inl v2)]) (st' := [.inr (.inr (some a0)), .inl v2]) (by decide +kernel) rfl rfl ?_
  obtain ⟨v_37, h38, h⟩ := bd h
  refine xg_i E 12 0 h38 mw921 (show decode prog_14_method_42_code 87 = .ok (.getfield 173, 3) by decide +kernel) ?_
  by_cases q56 : v_37 ≤ v2
  · rw [if_pos q56] at h
    refine xv_icmp_ge E 149 (show decode prog_14_method_42_code 90 = .ok (.if_icmp .ge (59), 3) by decide +kernel) rfl (fun _ => ?_) (fun z => absurd q56 z)
    refine xv_b E [.iconst 0, .istore_n 2] (pc' := 151) (lv' := [(2, .inl (0 : Int32)), (0, .inr (.inr (some a0))), (1, .inl v1)]) (st' := []) (by decide +kernel) rfl rfl ?_
    obtain rfl := Option.some.inj h
    exact xv_w hN rfl
  · rw [if_neg q56] at h
    refine xv_icmp_ge E 149 (show decode prog_14_method_42_code 90 = .ok (.if_icmp .ge (59), 3) by decide +kernel) rfl (fun z => absurd z q56) (fun _ => ?_)
    refine xv_b E [.iload_n 2, .iload_n 1] (pc' := 95) (lv' := [(0, .inr (.inr (some a0))), (1, .inl v1), (2, .inl v2)]) (st' := [.inl v1, .inl v2]) (by decide +kernel) rfl rfl ?_
    by_cases q55 : v2 = v1
    · rw [if_pos q55] at h
      refine xv_icmp_eq E 143 (show decode prog_14_method_42_code 95 = .ok (.if_icmp .eq (48), 3) by decide +kernel) rfl (fun _ => ?_) (fun z => absurd q55 z)
      exact xv_w (sb224_143 E B a0 v1 v2 M h hN) rfl
    · rw [if_neg q55] at h
      refine xv_icmp_eq E 143 (show decode prog_14_method_42_code 95 = .ok (.if_icmp .eq (48), 3) by decide +kernel) rfl (fun z => absurd z q55) (fun _ => ?_)
      refine xv_b E [.aload_n 0] (pc' := 99) (lv' := [(0, .inr (.inr (some a0))), (1, .inl v1), (2, .inl v2)]) (st' := [.inr (.inr (some a0))]) (by decide +kernel) rfl rfl ?_
      obtain ⟨o_39, h40, h⟩ := bd h
      refine xg_r E 12 27 h40 mw887 (show decode prog_14_method_42_code 99 = .ok (.getfield 76, 3) by decide +kernel) ?_
      refine xv_b E [.iconst 5, .iload_n 1, .imul, .iload_n 2, .iadd] (pc' := 107) (lv' := [(0, .inr (.inr (some a0))), (1, .inl v1), (2, .inl v2)]) (st' := [.inl (((5 : Int32) * v1) + v2), .inr (.inr o_39)]) (by decide +kernel) rfl rfl ?_
      obtain ⟨v_41, h42, h⟩ := bd h
      refine xa_z E h42 (show decode prog_14_method_42_code 107 = .ok (.baload, 1) by decide +kernel) ?_
      by_cases q54 : v_41 = 0
      · rw [if_pos q54] at h
        refine xv_if_eq E 143 (show decode prog_14_method_42_code 108 = .ok (.ifCond .eq (35), 3) by decide +kernel) rfl (fun _ => ?_) (fun z => absurd q54 z)
        exact xv_w (sb224_143 E B a0 v1 v2 M h hN) rfl
      · rw [if_neg q54] at h
        refine xv_if_eq E 143 (show decode prog_14_method_42_code 108 = .ok (.ifCond .eq (35), 3) by decide +kernel) rfl (fun z => absurd z q54) (fun _ => ?_)
        refine xv_b E [.aload_n 0] (pc' := 112) (lv' := [(0, .inr (.inr (some a0))), (1, .inl v1), (2, .inl v2)]) (st' := [.inr (.inr (some a0))]) (by decide +kernel) rfl rfl ?_
        obtain ⟨v_43, h44, h⟩ := bd h
        refine xg_i E 12 3 h44 mw1047 (show decode prog_14_method_42_code 112 = .ok (.getfield 276, 3) by decide +kernel) ?_
        refine xv_b E [.aload_n 0] (pc' := 116) (lv' := [(0, .inr (.inr (some a0))), (1, .inl v1), (2, .inl v2)]) (st' := [.inr (.inr (some a0)), .inl v_43]) (by decide +kernel) rfl rfl ?_
        obtain ⟨o_45, h46, h⟩ := bd h
        refine xg_r E 12 28 h46 mw888 (show decode prog_14_method_42_code 116 = .ok (.getfield 79, 3) by decide +kernel) ?_
        refine xv_b E [.iconst 5, .iload_n 1, .imul, .iload_n 2, .iadd] (pc' := 124) (lv' := [(0, .inr (.inr (some a0))), (1, .inl v1), (2, .inl v2)]) (st' := [.inl (((5 : Int32) * v1) + v2), .inr (.inr o_45), .inl v_43]) (by decide +kernel) rfl rfl ?_
        obtain ⟨v_47, h48, h⟩ := bd h
        refine xa_i E h48 (show decode prog_14_method_42_code 124 = .ok (.iaload, 1) by decide +kernel) ?_
        refine xv_b E [.isub, .sipush 150] (pc' := 129) (lv' := [(0, .inr (.inr (some a0))), (1, .inl v1), (2, .inl v2)]) (st' := [.inl (150 : Int32), .inl (v_43 - v_47)]) (by decide +kernel) rfl rfl ?_
        by_cases q53 : (v_43 - v_47) < (150 : Int32)
        · rw [if_pos q53] at h
          refine xv_icmp_lt E 143 (show decode prog_14_method_42_code 129 = .ok (.if_icmp .lt (14), 3) by decide +kernel) rfl (fun _ => ?_) (fun z => absurd q53 z)
          exact xv_w (sb224_143 E B a0 v1 v2 M h hN) rfl
        · rw [if_neg q53] at h
          refine xv_icmp_lt E 143 (show decode prog_14_method_42_code 129 = .ok (.if_icmp .lt (14), 3) by decide +kernel) rfl (fun z => absurd z q53) (fun _ => ?_)
          refine xv_b E [.aload_n 0] (pc' := 133) (lv' := [(0, .inr (.inr (some a0))), (1, .inl v1), (2, .inl v2)]) (st' := [.inr (.inr (some a0))]) (by decide +kernel) rfl rfl ?_
          obtain ⟨o_49, h50, h⟩ := bd h
          refine xg_r E 12 27 h50 mw887 (show decode prog_14_method_42_code 133 = .ok (.getfield 76, 3) by decide +kernel) ?_
          refine xv_b E [.iconst 5, .iload_n 1, .imul, .iload_n 2, .iadd, .iconst 0] (pc' := 142) (lv' := [(0, .inr (.inr (some a0))), (1, .inl v1), (2, .inl v2)]) (st' := [.inl (0 : Int32), .inl (((5 : Int32) * v1) + v2), .inr (.inr o_49)]) (by decide +kernel) rfl rfl ?_
          obtain ⟨M51, h52, h⟩ := bd h
          refine xs_z E h52 (show decode prog_14_method_42_code 142 = .ok (.bastore, 1) by decide +kernel) ?_
          exact xv_w (sb224_143 E B a0 v1 v2 M51 h hN) rfl
theorem sb224_252 (E : xE G p (xRm 7 (h_sz M' - z0) (h_sl M' - y0)) s m args c prog_14_method_42_code "ZonedFabricModel" z0 y0 (h_sz M') (h_sl M') 5) (B : xB ym224 none meth) (a0 : Nat) (v1 : Int32) (v2 : Int32) (M : hM) {res : xRes} (h : b224_252 a0 v1 v2 M = some res) (hN : xN (pg224 p l e s m args below meth c G z0 y0 r M') r M' res) : xV G p l e (xRm 7 (h_sz M' - z0) (h_sl M' - y0)) s m args below meth c z0 y0 (h_sz M') (h_sl M') 5 (MQ below (xQc G r M') args s (h_sz M' - z0) (h_sl M' - y0) (xFr G)) 252 [(0, .inr (.inr (some a0))), (1, .inl v1), (2, .inl v2)] [] M := by
  unfold b224_252 at h
  refine xv_b E [.iinc 2 1] (pc' := 255) (lv' := [(2, .inl (v2 + (1 : Int32))), (0, .inr (.inr (some a0))), (1, .inl v1)]) (st' := []) (by decide +kernel) rfl rfl ?_
  refine xv_goto E 151 (show decode prog_14_method_42_code 255 = .ok (.goto (-104), 3) by decide +kernel) rfl ?_
  obtain rfl := Option.some.inj h
  exact xv_w hN rfl
theorem sb224_151 (E : xE G p (xRm 7 (h_sz M' - z0) (h_sl M' - y0)) s m args c prog_14_method_42_code "ZonedFabricModel" z0 y0 (h_sz M') (h_sl M') 5) (B : xB ym224 none meth) (a0 : Nat) (v1 : Int32) (v2 : Int32) (M : hM) {res : xRes} (h : b224_151 a0 v1 v2 M = some res) (hN : xN (pg224 p l e s m args below meth c G z0 y0 r M') r M' res) : xV G p l e (xRm 7 (h_sz M' - z0) (h_sl M' - y0)) s m args below meth c z0 y0 (h_sz M') (h_sl M') 5 (MQ below (xQc G r M') args s (h_sz M' - z0) (h_sl M' - y0) (xFr G)) 151 [(0, .inr (.inr (some a0))), (1, .inl v1), (2, .inl v2)] [] M := by
  unfold b224_151 at h
  refine xv_b E [.iload_n 2, .bipush 8] (pc' := 154) (lv' := [(0, .inr (.inr (some a0))), (1, .inl v1), (2, .inl v2)]) (st' := [.inl (8 : Int32), .inl v2]) (by decide +kernel) rfl rfl ?_
  by_cases q105 : (8 : Int32) ≤ v2
  · rw [if_pos q105] at h
    refine xv_icmp_ge E 258 (show decode prog_14_method_42_code 154 = .ok (.if_icmp .ge (104), 3) by decide +kernel) rfl (fun _ => ?_) (fun z => absurd q105 z)
    refine xv_b E [.aload_n 0, .iload_n 1] (pc' := 260) (lv' := [(0, .inr (.inr (some a0))), (1, .inl v1), (2, .inl v2)]) (st' := [.inl v1, .inr (.inr (some a0))]) (by decide +kernel) rfl rfl ?_
    obtain ⟨b_59, h60, h⟩ := bd h
    obtain ⟨eh60, th60⟩ := g_o_some h60
    obtain ⟨q_57, h58, h⟩ := bd h
    refine xv_cvo E eh60 12 (as := [.inl v1]) (t223 G l (c_V_some h58)) cd223 mw1151 mw1152 mw1153 (show decode prog_14_method_42_code 260 = .ok (.invokevirtual 306, 3) by decide +kernel) th60 rfl rfl (Nat.le_of_ble_eq_true rfl) ⟨Nat.le_of_ble_eq_true rfl, Nat.le_of_ble_eq_true rfl⟩ ?_
    obtain rfl := Option.some.inj h
    obtain ⟨rfl, rfl⟩ := Prod.mk.inj (show ((none : Option aV), q_57) = (r, M') from hN)
    exact xv_rv E B.1 B.2.1 (show decode prog_14_method_42_code 263 = .ok (.return_, 1) by decide +kernel) rfl rfl
  · rw [if_neg q105] at h
    refine xv_icmp_ge E 258 (show decode prog_14_method_42_code 154 = .ok (.if_icmp .ge (104), 3) by decide +kernel) rfl (fun z => absurd z q105) (fun _ => ?_)
    refine xv_b E [.aload_n 0, .iload_n 1, .iload_n 2] (pc' := 160) (lv' := [(0, .inr (.inr (some a0))), (1, .inl v1), (2, .inl v2)]) (st' := [.inl v2, .inl v1, .inr (.inr (some a0))]) (by decide +kernel) rfl rfl ?_
    obtain ⟨b_63, h64, h⟩ := bd h
    obtain ⟨eh64, th64⟩ := g_o_some h64
    obtain ⟨q_61, h62, h⟩ := bd h
    refine xv_cvo E eh64 12 (as := [.inl v1, .inl v2]) (t175 G l (c_I_some h62)) cd175 mw1134 mw1135 mw1136 (show decode prog_14_method_42_code 160 = .ok (.invokevirtual 288, 3) by decide +kernel) th64 rfl rfl (Nat.le_of_ble_eq_true rfl) ⟨Nat.le_of_ble_eq_true rfl, Nat.le_of_ble_eq_true rfl⟩ ?_
    refine xv_b E [.istore_n 3, .aload_n 0, .iload_n 3] (pc' := 166) (lv' := [(3, .inl q_61.1), (0, .inr (.inr (some a0))), (1, .inl v1), (2, .inl v2)]) (st' := [.inl q_61.1, .inr (.inr (some a0))]) (by decide +kernel) rfl rfl ?_
    obtain ⟨b_67, h68, h⟩ := bd h
    obtain ⟨eh68, th68⟩ := g_o_some h68
    obtain ⟨q_65, h66, h⟩ := bd h
    refine xv_cvo E eh68 12 (as := [.inl q_61.1]) (t177 G l (c_I_some h66)) cd177 mw963 mw964 mw965 (show decode prog_14_method_42_code 166 = .ok (.invokevirtual 213, 3) by decide +kernel) th68 rfl rfl (Nat.le_of_ble_eq_true rfl) ⟨Nat.le_of_ble_eq_true rfl, Nat.le_of_ble_eq_true rfl⟩ ?_
    by_cases q104 : q_65.1 = 0
    · rw [if_pos q104] at h
      refine xv_if_eq E 252 (show decode prog_14_method_42_code 169 = .ok (.ifCond .eq (83), 3) by decide +kernel) rfl (fun _ => ?_) (fun z => absurd q104 z)
      exact xv_w (sb224_252 E B a0 v1 v2 q_65.2 h hN) rfl
    · rw [if_neg q104] at h
      refine xv_if_eq E 252 (show decode prog_14_method_42_code 169 = .ok (.ifCond .eq (83), 3) by decide +kernel) rfl (fun z => absurd z q104) (fun _ => ?_)
      refine xv_b E [.aload_n 0, .iload_n 3] (pc' := 174) (lv' := [(3, .inl q_61.1), (0, .inr (.inr (some a0))), (1, .inl v1), (2, .inl v2)]) (st' := [.inl q_61.1, .inr (.inr (some a0))]) (by decide +kernel) rfl rfl ?_
      obtain ⟨b_71, h72, h⟩ := bd h
      obtain ⟨eh72, th72⟩ := g_o_some h72
      obtain ⟨q_69, h70, h⟩ := bd h
      refine xv_cvo E eh72 12 (as := [.inl q_61.1]) (t179 G l (c_I_some h70)) cd179 mw1154 mw1155 mw1156 (show decode prog_14_method_42_code 174 = .ok (.invokevirtual 303, 3) by decide +kernel) th72 rfl rfl (Nat.le_of_ble_eq_true rfl) ⟨Nat.le_of_ble_eq_true rfl, Nat.le_of_ble_eq_true rfl⟩ ?_
      refine xv_b E [.iconst (-1)] (pc' := 178) (lv' := [(3, .inl q_61.1), (0, .inr (.inr (some a0))), (1, .inl v1), (2, .inl v2)]) (st' := [.inl (-1 : Int32), .inl q_69.1]) (by decide +kernel) rfl rfl ?_
      by_cases q103 : q_69.1 = (-1 : Int32)
      · rw [if_pos q103] at h
        refine xv_icmp_ne E 252 (show decode prog_14_method_42_code 178 = .ok (.if_icmp .ne (74), 3) by decide +kernel) rfl (fun z => absurd q103 z) (fun _ => ?_)
        refine xv_b E [.aload_n 0] (pc' := 182) (lv' := [(3, .inl q_61.1), (0, .inr (.inr (some a0))), (1, .inl v1), (2, .inl v2)]) (st' := [.inr (.inr (some a0))]) (by decide +kernel) rfl rfl ?_
        obtain ⟨o_73, h74, h⟩ := bd h
        refine xg_r E 12 23 h74 mw883 (show decode prog_14_method_42_code 182 = .ok (.getfield 64, 3) by decide +kernel) ?_
        refine xv_b E [.iload_n 3] (pc' := 186) (lv' := [(3, .inl q_61.1), (0, .inr (.inr (some a0))), (1, .inl v1), (2, .inl v2)]) (st' := [.inl q_61.1, .inr (.inr o_73)]) (by decide +kernel) rfl rfl ?_
        obtain ⟨v_75, h76, h⟩ := bd h
        refine xa_i E h76 (show decode prog_14_method_42_code 186 = .ok (.iaload, 1) by decide +kernel) ?_
        refine xv_b E [.iconst (-1)] (pc' := 188) (lv' := [(3, .inl q_61.1), (0, .inr (.inr (some a0))), (1, .inl v1), (2, .inl v2)]) (st' := [.inl (-1 : Int32), .inl v_75]) (by decide +kernel) rfl rfl ?_
        by_cases q102 : v_75 = (-1 : Int32)
        · rw [if_pos q102] at h
          refine xv_icmp_ne E 252 (show decode prog_14_method_42_code 188 = .ok (.if_icmp .ne (64), 3) by decide +kernel) rfl (fun z => absurd q102 z) (fun _ => ?_)
          refine xv_b E [.aload_n 0] (pc' := 192) (lv' := [(3, .inl q_61.1), (0, .inr (.inr (some a0))), (1, .inl v1), (2, .inl v2)]) (st' := [.inr (.inr (some a0))]) (by decide +kernel) rfl rfl ?_
          obtain ⟨v_77, h78, h⟩ := bd h
          refine xg_i E 12 3 h78 mw1047 (show decode prog_14_method_42_code 192 = .ok (.getfield 276, 3) by decide +kernel) ?_
          refine xv_b E [.aload_n 0] (pc' := 196) (lv' := [(3, .inl q_61.1), (0, .inr (.inr (some a0))), (1, .inl v1), (2, .inl v2)]) (st' := [.inr (.inr (some a0)), .inl v_77]) (by decide +kernel) rfl rfl ?_
          obtain ⟨o_79, h80, h⟩ := bd h
          refine xg_r E 12 24 h80 mw884 (show decode prog_14_method_42_code 196 = .ok (.getfield 67, 3) by decide +kernel) ?_
          refine xv_b E [.iload_n 3] (pc' := 200) (lv' := [(3, .inl q_61.1), (0, .inr (.inr (some a0))), (1, .inl v1), (2, .inl v2)]) (st' := [.inl q_61.1, .inr (.inr o_79), .inl v_77]) (by decide +kernel) rfl rfl ?_
          obtain ⟨v_81, h82, h⟩ := bd h
          refine xa_i E h82 (show decode prog_14_method_42_code 200 = .ok (.iaload, 1) by decide +kernel) ?_
          refine xv_b E [.isub, .bipush 10] (pc' := 204) (lv' := [(3, .inl q_61.1), (0, .inr (.inr (some a0))), (1, .inl v1), (2, .inl v2)]) (st' := [.inl (10 : Int32), .inl (v_77 - v_81)]) (by decide +kernel) rfl rfl ?_
          by_cases q101 : (10 : Int32) < (v_77 - v_81)
          · rw [if_pos q101] at h
            refine xv_icmp_gt E 210 (show decode prog_14_method_42_code 204 = .ok (.if_icmp .gt (6), 3) by decide +kernel) rfl (fun _ => ?_) (fun z => absurd q101 z)
            refine xv_b E [.aload_n 0] (pc' := 211) (lv' := [(3, .inl q_61.1), (0, .inr (.inr (some a0))), (1, .inl v1), (2, .inl v2)]) (st' := [.inr (.inr (some a0))]) (by decide +kernel) rfl rfl ?_
            obtain ⟨o_83, h84, h⟩ := bd h
            refine xg_r E 12 24 h84 mw884 (show decode prog_14_method_42_code 211 = .ok (.getfield 67, 3) by decide +kernel) ?_
            refine xv_b E [.iload_n 3, .aload_n 0] (pc' := 216) (lv' := [(3, .inl q_61.1), (0, .inr (.inr (some a0))), (1, .inl v1), (2, .inl v2)]) (st' := [.inr (.inr (some a0)), .inl q_61.1, .inr (.inr o_83)]) (by decide +kernel) rfl rfl ?_
            obtain ⟨v_85, h86, h⟩ := bd h
            refine xg_i E 12 3 h86 mw1047 (show decode prog_14_method_42_code 216 = .ok (.getfield 276, 3) by decide +kernel) ?_
            obtain ⟨M87, h88, h⟩ := bd h
            refine xs_i E h88 (show decode prog_14_method_42_code 219 = .ok (.iastore, 1) by decide +kernel) ?_
            refine xv_b E [.aload_n 0, .iconst 1] (pc' := 222) (lv' := [(3, .inl q_61.1), (0, .inr (.inr (some a0))), (1, .inl v1), (2, .inl v2)]) (st' := [.inl (1 : Int32), .inr (.inr (some a0))]) (by decide +kernel) rfl rfl ?_
            refine xv_ldcw E (16777213 : Int32) mw1036 (show decode prog_14_method_42_code 222 = .ok (.ldc_w 271, 3) by decide +kernel) ?_
            refine xv_ldcw E (16777213 : Int32) mw1036 (show decode prog_14_method_42_code 225 = .ok (.ldc_w 271, 3) by decide +kernel) ?_
            refine xv_b E [.iconst 0, .iconst 0, .iconst 0] (pc' := 231) (lv' := [(3, .inl q_61.1), (0, .inr (.inr (some a0))), (1, .inl v1), (2, .inl v2)]) (st' := [.inl (0 : Int32), .inl (0 : Int32), .inl (0 : Int32), .inl (16777213 : Int32), .inl (16777213 : Int32), .inl (1 : Int32), .inr (.inr (some a0))]) (by decide +kernel) rfl rfl ?_
            obtain ⟨b_91, h92, h⟩ := bd h
            obtain ⟨eh92, th92⟩ := g_o_some h92
            obtain ⟨q_89, h90, h⟩ := bd h
            refine xv_cvo E eh92 12 (as := [.inl (1 : Int32), .inl (16777213 : Int32), .inl (16777213 : Int32), .inl (0 : Int32), .inl (0 : Int32), .inl (0 : Int32)]) (t168 G l (c_I_some h90)) cd168 mw1033 mw1034 mw1035 (show decode prog_14_method_42_code 231 = .ok (.invokevirtual 272, 3) by decide +kernel) th92 rfl rfl (Nat.le_of_ble_eq_true rfl) ⟨Nat.le_of_ble_eq_true rfl, Nat.le_of_ble_eq_true rfl⟩ ?_
            refine xv_b E [.istore 4, .aload_n 0, .iload 4, .iload_n 1, .i2l, .iconst 1] (pc' := 242) (lv' := [(4, .inl q_89.1), (3, .inl q_61.1), (0, .inr (.inr (some a0))), (1, .inl v1), (2, .inl v2)]) (st' := [.inl (1 : Int32), .inr (.inl (Int32.toInt64 v1)), .inl q_89.1, .inr (.inr (some a0))]) (by decide +kernel) rfl rfl ?_
            obtain ⟨b_95, h96, h⟩ := bd h
            obtain ⟨eh96, th96⟩ := g_o_some h96
            obtain ⟨q_93, h94, h⟩ := bd h
            refine xv_cvo E eh96 12 (as := [.inl q_89.1, .inr (.inl (Int32.toInt64 v1)), .inl (1 : Int32)]) (t167 G l (c_V_some h94)) cd167 mw932 mw933 mw934 (show decode prog_14_method_42_code 242 = .ok (.invokevirtual 190, 3) by decide +kernel) th96 rfl rfl (Nat.le_of_ble_eq_true rfl) ⟨Nat.le_of_ble_eq_true rfl, Nat.le_of_ble_eq_true rfl⟩ ?_
            refine xv_b E [.aload_n 0, .iload_n 3, .iload 4] (pc' := 249) (lv' := [(4, .inl q_89.1), (3, .inl q_61.1), (0, .inr (.inr (some a0))), (1, .inl v1), (2, .inl v2)]) (st' := [.inl q_89.1, .inl q_61.1, .inr (.inr (some a0))]) (by decide +kernel) rfl rfl ?_
            obtain ⟨b_99, h100, h⟩ := bd h
            obtain ⟨eh100, th100⟩ := g_o_some h100
            obtain ⟨q_97, h98, h⟩ := bd h
            refine xv_cvo E eh100 12 (as := [.inl q_61.1, .inl q_89.1]) (t183 G l (c_V_some h98)) cd183 mw1043 mw1044 mw1045 (show decode prog_14_method_42_code 249 = .ok (.invokevirtual 301, 3) by decide +kernel) th100 rfl rfl (Nat.le_of_ble_eq_true rfl) ⟨Nat.le_of_ble_eq_true rfl, Nat.le_of_ble_eq_true rfl⟩ ?_
            exact xv_w (sb224_252 E B a0 v1 v2 q_97 h hN) rfl
          · rw [if_neg q101] at h
            refine xv_icmp_gt E 210 (show decode prog_14_method_42_code 204 = .ok (.if_icmp .gt (6), 3) by decide +kernel) rfl (fun z => absurd z q101) (fun _ => ?_)
            refine xv_goto E 252 (show decode prog_14_method_42_code 207 = .ok (.goto (45), 3) by decide +kernel) rfl ?_
            exact xv_w (sb224_252 E B a0 v1 v2 q_69.2 h hN) rfl
        · rw [if_neg q102] at h
          refine xv_icmp_ne E 252 (show decode prog_14_method_42_code 188 = .ok (.if_icmp .ne (64), 3) by decide +kernel) rfl (fun _ => ?_) (fun z => absurd z q102)
          exact xv_w (sb224_252 E B a0 v1 v2 q_69.2 h hN) rfl
      · rw [if_neg q103] at h
        refine xv_icmp_ne E 252 (show decode prog_14_method_42_code 178 = .ok (.if_icmp .ne (74), 3) by decide +kernel) rfl (fun _ => ?_) (fun z => absurd z q103)
        exact xv_w (sb224_252 E B a0 v1 v2 q_69.2 h hN) rfl
end
theorem t224 (G : gX) (l : Launch) {as : List aV} {M : hM} {r : Option aV} {M' : hM} (h : f224 as M = some (r, M')) : xM G l ym224 prog_14_method_42_code 5 none 7 as M r M' := by
  unfold f224 at h
  split at h
  · have hle : ∀ h as M res, k224 h as M = some res → h_sz M ≤ r_sz res ∧ h_sl M ≤ r_sl res := by
      intro h as M res hb
      unfold k224 at hb
      by_cases e0 : h = 2
      · rw [if_pos e0] at hb
        split at hb
        · exact lb224_2 G l _ _ _ M hb
        · cases hb
      · rw [if_neg e0] at hb
        by_cases e1 : h = 85
        · rw [if_pos e1] at hb
          split at hb
          · exact lb224_85 G l _ _ _ M hb
          · cases hb
        · rw [if_neg e1] at hb
          by_cases e2 : h = 151
          · rw [if_pos e2] at hb
            split at hb
            · exact lb224_151 G l _ _ _ M hb
            · cases hb
          · rw [if_neg e2] at hb
            cases hb
    obtain ⟨res, hx, hres⟩ := x_go_ok h
    refine xM_of (by decide) (Nat.le_of_ble_eq_true rfl) ?_ ?_
    · have e1 := lb224_0 G l _ _ M hx
      have e2 := x_go_le hle hres
      omega
    · intro p e s m args below meth c E B
      refine sb224_0 E B _ _ M hx (hres _ ?_)
      intro h as M res hb hN
      unfold k224 at hb
      unfold pg224
      by_cases e0 : h = 2
      · rw [if_pos e0] at hb ⊢
        split at hb
        · exact sb224_2 E B _ _ _ M hb hN
        · cases hb
      · rw [if_neg e0] at hb ⊢
        by_cases e1 : h = 85
        · rw [if_pos e1] at hb ⊢
          split at hb
          · exact sb224_85 E B _ _ _ M hb hN
          · cases hb
        · rw [if_neg e1] at hb ⊢
          by_cases e2 : h = 151
          · rw [if_pos e2] at hb ⊢
            split at hb
            · exact sb224_151 E B _ _ _ M hb hN
            · cases hb
          · rw [if_neg e2] at hb ⊢
            cases hb
  · cases h
/-! ZFModel.wayOn(IIII)I -/
def ym225 : MethodName := ⟨"ZonedFabricModel", "wayOn", "(IIII)I"⟩
theorem cd225 : xCd ym225 prog_14_method_46_code 9 (some FieldType.int) 4 := ⟨mw1157, mw864, by decide, by decide, by decide +kernel⟩
def b225_57  (M : hM) : Option xRes :=
  some (.inl (some (.inl (2 : Int32)), M))
def b225_152  (M : hM) : Option xRes :=
  some (.inl (some (.inl (3 : Int32)), M))
def b225_182 (si0 : Int32) (M : hM) : Option xRes :=
  some (.inl (some (.inl si0), M))
def b225_207 (si0 : Int32) (M : hM) : Option xRes :=
  some (.inl (some (.inl si0), M))
def b225_183 (a0 : Nat) (v1 : Int32) (v7 : Int32) (M : hM) : Option xRes :=
  Option.bind (g_o M 12 (some a0)) fun b_86 =>
  Option.bind (c_I (f201 [.inr (.inr (some b_86)), .inl v1, .inl v7] M)) fun q_84 =>
  if q_84.1 = (-1 : Int32) then
    (b225_207 (3 : Int32) q_84.2)
  else
    (b225_207 ((16 : Int32) + q_84.1) q_84.2)
def b225_59 (a0 : Nat) (v1 : Int32) (v4 : Int32) (v5 : Int32) (M : hM) : Option xRes :=
  Option.bind (g_r M 12 26 (some a0)) fun o_29 =>
  Option.bind (al_i M 20 o_29 v1) fun v_31 =>
  if (v4 >>> ((16 : Int32) &&& 31)) = v_31 then
    (Option.bind (g_o M 12 (some a0)) fun b_35 =>
    Option.bind (c_I (f200 [.inr (.inr (some b_35)), .inl v1] M)) fun q_33 =>
    if q_33.1 = 0 then
      (if (7 : Int32) < ((v4 >>> ((8 : Int32) &&& 31)) &&& (255 : Int32)) then
        (b225_152  q_33.2)
      else
        (Option.bind (g_o q_33.2 12 (some a0)) fun b_39 =>
        Option.bind (c_I (f175 [.inr (.inr (some b_39)), .inl v1, .inl ((v4 >>> ((8 : Int32) &&& 31)) &&& (255 : Int32))] q_33.2)) fun q_37 =>
        Option.bind (g_o q_37.2 12 (some a0)) fun b_43 =>
        Option.bind (c_I (f177 [.inr (.inr (some b_43)), .inl q_37.1] q_37.2)) fun q_41 =>
        if q_41.1 = 0 then
          (b225_152  q_41.2)
        else
          (Option.bind (g_o q_41.2 12 (some a0)) fun b_47 =>
          Option.bind (c_I (f175 [.inr (.inr (some b_47)), .inl v1, .inl ((v4 >>> ((8 : Int32) &&& 31)) &&& (255 : Int32))] q_41.2)) fun q_45 =>
          Option.bind (g_o q_45.2 12 (some a0)) fun b_51 =>
          Option.bind (c_I (f179 [.inr (.inr (some b_51)), .inl q_45.1] q_45.2)) fun q_49 =>
          if q_49.1 = (-1 : Int32) then
            (b225_152  q_49.2)
          else
            (Option.bind (g_o q_49.2 12 (some a0)) fun b_55 =>
            Option.bind (c_I (f175 [.inr (.inr (some b_55)), .inl v1, .inl ((v4 >>> ((8 : Int32) &&& 31)) &&& (255 : Int32))] q_49.2)) fun q_53 =>
            Option.bind (g_o q_53.2 12 (some a0)) fun b_59 =>
            Option.bind (c_I (f179 [.inr (.inr (some b_59)), .inl q_53.1] q_53.2)) fun q_57 =>
            Option.bind (g_o q_57.2 12 (some a0)) fun b_63 =>
            Option.bind (c_I (f189 [.inr (.inr (some b_63)), .inl v4] q_57.2)) fun q_61 =>
            if q_57.1 = q_61.1 then
              (Option.bind (g_o q_61.2 12 (some a0)) fun b_67 =>
              Option.bind (c_I (f189 [.inr (.inr (some b_67)), .inl v5] q_61.2)) fun q_65 =>
              Option.bind (g_o q_65.2 12 (some a0)) fun b_71 =>
              Option.bind (c_I (f189 [.inr (.inr (some b_71)), .inl v4] q_65.2)) fun q_69 =>
              Option.bind (g_o q_69.2 12 (some a0)) fun b_75 =>
              Option.bind (c_I (f188 [.inr (.inr (some b_75)), .inl q_65.1, .inl q_69.1] q_69.2)) fun q_73 =>
              if q_73.1 = 0 then
                (b225_182 (2 : Int32) q_73.2)
              else
                (b225_182 ((16 : Int32) + ((v4 >>> ((8 : Int32) &&& 31)) &&& (255 : Int32))) q_73.2))
            else
              (b225_152  q_61.2)))))
    else
      (b225_183 a0 v1 (v4 >>> ((16 : Int32) &&& 31)) q_33.2))
  else
    (b225_183 a0 v1 (v4 >>> ((16 : Int32) &&& 31)) M)
def b225_0 (a0 : Nat) (v1 : Int32) (v2 : Int32) (v3 : Int32) (v4 : Int32) (M : hM) : Option xRes :=
  Option.bind (g_o M 12 (some a0)) fun b_3 =>
  Option.bind (c_I (f166 [.inr (.inr (some b_3)), .inl v3, .inl (4 : Int32), .inl (3 : Int32)] M)) fun q_1 =>
  Option.bind (g_o q_1.2 12 (some a0)) fun b_7 =>
  Option.bind (c_I (f179 [.inr (.inr (some b_7)), .inl v2] q_1.2)) fun q_5 =>
  if q_5.1 = (-1 : Int32) then
    (b225_59 a0 v1 v4 q_1.1 q_5.2)
  else
    (Option.bind (g_r q_5.2 12 25 (some a0)) fun o_9 =>
    Option.bind (al_i q_5.2 20 o_9 v2) fun v_11 =>
    if v_11 = 0 then
      (b225_57  q_5.2)
    else
      (Option.bind (g_r q_5.2 12 25 (some a0)) fun o_13 =>
      Option.bind (al_i q_5.2 20 o_13 v2) fun v_15 =>
      if q_1.1 = v_15 then
        (Option.bind (g_o q_5.2 12 (some a0)) fun b_19 =>
        Option.bind (c_I (f189 [.inr (.inr (some b_19)), .inl v4] q_5.2)) fun q_17 =>
        Option.bind (g_o q_17.2 12 (some a0)) fun b_23 =>
        Option.bind (c_I (f188 [.inr (.inr (some b_23)), .inl q_5.1, .inl q_17.1] q_17.2)) fun q_21 =>
        if q_21.1 = 0 then
          (b225_57  q_21.2)
        else
          (b225_59 a0 v1 v4 q_1.1 q_21.2))
      else
        (b225_57  q_5.2)))
def f225 (as : List aV) (M : hM) : xO := match as with
  | [.inr (.inr (some a0)), .inl v1, .inl v2, .inl v3, .inl v4] => x_out (b225_0 a0 v1 v2 v3 v4 M)
  | _ => none
theorem lb225_57 (G : gX) (l : Launch)  (M : hM) {res : xRes} (h : b225_57  M = some res) : h_sz M ≤ r_sz res ∧ h_sl M ≤ r_sl res := by
  unfold b225_57 at h
  obtain rfl := Option.some.inj h
  show h_sz M ≤ h_sz M ∧ h_sl M ≤ h_sl M
  omega
theorem lb225_152 (G : gX) (l : Launch)  (M : hM) {res : xRes} (h : b225_152  M = some res) : h_sz M ≤ r_sz res ∧ h_sl M ≤ r_sl res := by
  unfold b225_152 at h
  obtain rfl := Option.some.inj h
  show h_sz M ≤ h_sz M ∧ h_sl M ≤ h_sl M
  omega
theorem lb225_182 (G : gX) (l : Launch) (si0 : Int32) (M : hM) {res : xRes} (h : b225_182 si0 M = some res) : h_sz M ≤ r_sz res ∧ h_sl M ≤ r_sl res := by
  unfold b225_182 at h
  obtain rfl := Option.some.inj h
  show h_sz M ≤ h_sz M ∧ h_sl M ≤ h_sl M
  omega
theorem lb225_207 (G : gX) (l : Launch) (si0 : Int32) (M : hM) {res : xRes} (h : b225_207 si0 M = some res) : h_sz M ≤ r_sz res ∧ h_sl M ≤ r_sl res := by
  unfold b225_207 at h
  obtain rfl := Option.some.inj h
  show h_sz M ≤ h_sz M ∧ h_sl M ≤ h_sl M
  omega
theorem lb225_183 (G : gX) (l : Launch) (a0 : Nat) (v1 : Int32) (v7 : Int32) (M : hM) {res : xRes} (h : b225_183 a0 v1 v7 M = some res) : h_sz M ≤ r_sz res ∧ h_sl M ≤ r_sl res := by
  unfold b225_183 at h
  obtain ⟨b_86, h87, h⟩ := bd h
  obtain ⟨q_84, h85, h⟩ := bd h
  have eh85 := (t201 G l (c_I_some h85)).1
  by_cases q88 : q_84.1 = (-1 : Int32)
  · rw [if_pos q88] at h
    have e := lb225_207 G l (3 : Int32) q_84.2 h
    omega
  · rw [if_neg q88] at h
    have e := lb225_207 G l ((16 : Int32) + q_84.1) q_84.2 h
    omega
theorem lb225_59 (G : gX) (l : Launch) (a0 : Nat) (v1 : Int32) (v4 : Int32) (v5 : Int32) (M : hM) {res : xRes} (h : b225_59 a0 v1 v4 v5 M = some res) : h_sz M ≤ r_sz res ∧ h_sl M ≤ r_sl res := by
  unfold b225_59 at h
  obtain ⟨o_29, h30, h⟩ := bd h
  obtain ⟨v_31, h32, h⟩ := bd h
  by_cases q83 : (v4 >>> ((16 : Int32) &&& 31)) = v_31
  · rw [if_pos q83] at h
    obtain ⟨b_35, h36, h⟩ := bd h
    obtain ⟨q_33, h34, h⟩ := bd h
    have eh34 := (t200 G l (c_I_some h34)).1
    by_cases q82 : q_33.1 = 0
    · rw [if_pos q82] at h
      by_cases q81 : (7 : Int32) < ((v4 >>> ((8 : Int32) &&& 31)) &&& (255 : Int32))
      · rw [if_pos q81] at h
        have e := lb225_152 G l  q_33.2 h
        omega
      · rw [if_neg q81] at h
        obtain ⟨b_39, h40, h⟩ := bd h
        obtain ⟨q_37, h38, h⟩ := bd h
        have eh38 := (t175 G l (c_I_some h38)).1
        obtain ⟨b_43, h44, h⟩ := bd h
        obtain ⟨q_41, h42, h⟩ := bd h
        have eh42 := (t177 G l (c_I_some h42)).1
        by_cases q80 : q_41.1 = 0
        · rw [if_pos q80] at h
          have e := lb225_152 G l  q_41.2 h
          omega
        · rw [if_neg q80] at h
          obtain ⟨b_47, h48, h⟩ := bd h
          obtain ⟨q_45, h46, h⟩ := bd h
          have eh46 := (t175 G l (c_I_some h46)).1
          obtain ⟨b_51, h52, h⟩ := bd h
          obtain ⟨q_49, h50, h⟩ := bd h
          have eh50 := (t179 G l (c_I_some h50)).1
          by_cases q79 : q_49.1 = (-1 : Int32)
          · rw [if_pos q79] at h
            have e := lb225_152 G l  q_49.2 h
            omega
          · rw [if_neg q79] at h
            obtain ⟨b_55, h56, h⟩ := bd h
            obtain ⟨q_53, h54, h⟩ := bd h
            have eh54 := (t175 G l (c_I_some h54)).1
            obtain ⟨b_59, h60, h⟩ := bd h
            obtain ⟨q_57, h58, h⟩ := bd h
            have eh58 := (t179 G l (c_I_some h58)).1
            obtain ⟨b_63, h64, h⟩ := bd h
            obtain ⟨q_61, h62, h⟩ := bd h
            have eh62 := (t189 G l (c_I_some h62)).1
            by_cases q78 : q_57.1 = q_61.1
            · rw [if_pos q78] at h
              obtain ⟨b_67, h68, h⟩ := bd h
              obtain ⟨q_65, h66, h⟩ := bd h
              have eh66 := (t189 G l (c_I_some h66)).1
              obtain ⟨b_71, h72, h⟩ := bd h
              obtain ⟨q_69, h70, h⟩ := bd h
              have eh70 := (t189 G l (c_I_some h70)).1
              obtain ⟨b_75, h76, h⟩ := bd h
              obtain ⟨q_73, h74, h⟩ := bd h
              have eh74 := (t188 G l (c_I_some h74)).1
              by_cases q77 : q_73.1 = 0
              · rw [if_pos q77] at h
                have e := lb225_182 G l (2 : Int32) q_73.2 h
                omega
              · rw [if_neg q77] at h
                have e := lb225_182 G l ((16 : Int32) + ((v4 >>> ((8 : Int32) &&& 31)) &&& (255 : Int32))) q_73.2 h
                omega
            · rw [if_neg q78] at h
              have e := lb225_152 G l  q_61.2 h
              omega
    · rw [if_neg q82] at h
      have e := lb225_183 G l a0 v1 (v4 >>> ((16 : Int32) &&& 31)) q_33.2 h
      omega
  · rw [if_neg q83] at h
    have e := lb225_183 G l a0 v1 (v4 >>> ((16 : Int32) &&& 31)) M h
    omega
theorem lb225_0 (G : gX) (l : Launch) (a0 : Nat) (v1 : Int32) (v2 : Int32) (v3 : Int32) (v4 : Int32) (M : hM) {res : xRes} (h : b225_0 a0 v1 v2 v3 v4 M = some res) : h_sz M ≤ r_sz res ∧ h_sl M ≤ r_sl res := by
  unfold b225_0 at h
  obtain ⟨b_3, h4, h⟩ := bd h
  obtain ⟨q_1, h2, h⟩ := bd h
  have eh2 := (t166 G l (c_I_some h2)).1
  obtain ⟨b_7, h8, h⟩ := bd h
  obtain ⟨q_5, h6, h⟩ := bd h
  have eh6 := (t179 G l (c_I_some h6)).1
  by_cases q28 : q_5.1 = (-1 : Int32)
  · rw [if_pos q28] at h
    have e := lb225_59 G l a0 v1 v4 q_1.1 q_5.2 h
    omega
  · rw [if_neg q28] at h
    obtain ⟨o_9, h10, h⟩ := bd h
    obtain ⟨v_11, h12, h⟩ := bd h
    by_cases q27 : v_11 = 0
    · rw [if_pos q27] at h
      have e := lb225_57 G l  q_5.2 h
      omega
    · rw [if_neg q27] at h
      obtain ⟨o_13, h14, h⟩ := bd h
      obtain ⟨v_15, h16, h⟩ := bd h
      by_cases q26 : q_1.1 = v_15
      · rw [if_pos q26] at h
        obtain ⟨b_19, h20, h⟩ := bd h
        obtain ⟨q_17, h18, h⟩ := bd h
        have eh18 := (t189 G l (c_I_some h18)).1
        obtain ⟨b_23, h24, h⟩ := bd h
        obtain ⟨q_21, h22, h⟩ := bd h
        have eh22 := (t188 G l (c_I_some h22)).1
        by_cases q25 : q_21.1 = 0
        · rw [if_pos q25] at h
          have e := lb225_57 G l  q_21.2 h
          omega
        · rw [if_neg q25] at h
          have e := lb225_59 G l a0 v1 v4 q_1.1 q_21.2 h
          omega
      · rw [if_neg q26] at h
        have e := lb225_57 G l  q_5.2 h
        omega
section
variable {p : Program} {l : Launch} {e : Env} {s : State} {m : MethodId} {args : Array Value} {below : List Frame} {meth : Method} {c : Code} {G : gX} {z0 y0 : Nat} {r : Option aV} {M' : hM}
theorem sb225_57 (E : xE G p (xRm 7 (h_sz M' - z0) (h_sl M' - y0)) s m args c prog_14_method_46_code "ZonedFabricModel" z0 y0 (h_sz M') (h_sl M') 9) (B : xB ym225 (some FieldType.int) meth)  (M : hM) {res : xRes} (h : b225_57  M = some res) (hN : xN (fun _ _ _ => False) r M' res) : xV G p l e (xRm 7 (h_sz M' - z0) (h_sl M' - y0)) s m args below meth c z0 y0 (h_sz M') (h_sl M') 9 (MQ below (xQc G r M') args s (h_sz M' - z0) (h_sl M' - y0) (xFr G)) 57 [] [] M := by
  unfold b225_57 at h
  refine xv_b E [.iconst 2] (pc' := 58) (lv' := []) (st' := [.inl (2 : Int32)]) (by decide +kernel) rfl rfl ?_
  obtain rfl := Option.some.inj h
  obtain ⟨rfl, rfl⟩ := Prod.mk.inj (show ((some (.inl (2 : Int32)) : Option aV), M) = (r, M') from hN)
  exact xv_ri E B.1 rfl B.2.1 (show decode prog_14_method_46_code 58 = .ok (.ireturn, 1) by decide +kernel) rfl rfl
theorem sb225_152 (E : xE G p (xRm 7 (h_sz M' - z0) (h_sl M' - y0)) s m args c prog_14_method_46_code "ZonedFabricModel" z0 y0 (h_sz M') (h_sl M') 9) (B : xB ym225 (some FieldType.int) meth)  (M : hM) {res : xRes} (h : b225_152  M = some res) (hN : xN (fun _ _ _ => False) r M' res) : xV G p l e (xRm 7 (h_sz M' - z0) (h_sl M' - y0)) s m args below meth c z0 y0 (h_sz M') (h_sl M') 9 (MQ below (xQc G r M') args s (h_sz M' - z0) (h_sl M' - y0) (xFr G)) 152 [] [] M := by
  unfold b225_152 at h
  refine xv_b E [.iconst 3] (pc' := 153) (lv' := []) (st' := [.inl (3 : Int32)]) (by decide +kernel) rfl rfl ?_
  obtain rfl := Option.some.inj h
  obtain ⟨rfl, rfl⟩ := Prod.mk.inj (show ((some (.inl (3 : Int32)) : Option aV), M) = (r, M') from hN)
  exact xv_ri E B.1 rfl B.2.1 (show decode prog_14_method_46_code 153 = .ok (.ireturn, 1) by decide +kernel) rfl rfl
theorem sb225_182 (E : xE G p (xRm 7 (h_sz M' - z0) (h_sl M' - y0)) s m args c prog_14_method_46_code "ZonedFabricModel" z0 y0 (h_sz M') (h_sl M') 9) (B : xB ym225 (some FieldType.int) meth) (si0 : Int32) (M : hM) {res : xRes} (h : b225_182 si0 M = some res) (hN : xN (fun _ _ _ => False) r M' res) : xV G p l e (xRm 7 (h_sz M' - z0) (h_sl M' - y0)) s m args below meth c z0 y0 (h_sz M') (h_sl M') 9 (MQ below (xQc G r M') args s (h_sz M' - z0) (h_sl M' - y0) (xFr G)) 182 [] [.inl si0] M := by
  unfold b225_182 at h
  obtain rfl := Option.some.inj h
  obtain ⟨rfl, rfl⟩ := Prod.mk.inj (show ((some (.inl si0) : Option aV), M) = (r, M') from hN)
  exact xv_ri E B.1 rfl B.2.1 (show decode prog_14_method_46_code 182 = .ok (.ireturn, 1) by decide +kernel) rfl rfl
theorem sb225_207 (E : xE G p (xRm 7 (h_sz M' - z0) (h_sl M' - y0)) s m args c prog_14_method_46_code "ZonedFabricModel" z0 y0 (h_sz M') (h_sl M') 9) (B : xB ym225 (some FieldType.int) meth) (si0 : Int32) (M : hM) {res : xRes} (h : b225_207 si0 M = some res) (hN : xN (fun _ _ _ => False) r M' res) : xV G p l e (xRm 7 (h_sz M' - z0) (h_sl M' - y0)) s m args below meth c z0 y0 (h_sz M') (h_sl M') 9 (MQ below (xQc G r M') args s (h_sz M' - z0) (h_sl M' - y0) (xFr G)) 207 [] [.inl si0] M := by
  unfold b225_207 at h
  obtain rfl := Option.some.inj h
  obtain ⟨rfl, rfl⟩ := Prod.mk.inj (show ((some (.inl si0) : Option aV), M) = (r, M') from hN)
  exact xv_ri E B.1 rfl B.2.1 (show decode prog_14_method_46_code 207 = .ok (.ireturn, 1) by decide +kernel) rfl rfl
theorem sb225_183 (E : xE G p (xRm 7 (h_sz M' - z0) (h_sl M' - y0)) s m args c prog_14_method_46_code "ZonedFabricModel" z0 y0 (h_sz M') (h_sl M') 9) (B : xB ym225 (some FieldType.int) meth) (a0 : Nat) (v1 : Int32) (v7 : Int32) (M : hM) {res : xRes} (h : b225_183 a0 v1 v7 M = some res) (hN : xN (fun _ _ _ => False) r M' res) : xV G p l e (xRm 7 (h_sz M' - z0) (h_sl M' - y0)) s m args below meth c z0 y0 (h_sz M') (h_sl M') 9 (MQ below (xQc G r M') args s (h_sz M' - z0) (h_sl M' - y0) (xFr G)) 183 [(0, .inr (.inr (some a0))), (1, .inl v1), (7, .inl v7)] [] M := by
  unfold b225_183 at h
  refine xv_b E [.aload_n 0, .iload_n 1, .iload 7] (pc' := 187) (lv' := [(0, .inr (.inr (some a0))), (1, .inl v1), (7, .inl v7)]) (st' := [.inl v7, .inl v1, .inr (.inr (some a0))]) (by decide +kernel) rfl rfl ?_
  obtain ⟨b_86, h87, h⟩ := bd h
  obtain ⟨eh87, th87⟩ := g_o_some h87
  obtain ⟨q_84, h85, h⟩ := bd h
  refine xv_cvo E eh87 12 (as := [.inl v1, .inl v7]) (t201 G l (c_I_some h85)) cd201 mw1161 mw1162 mw1163 (show decode prog_14_method_46_code 187 = .ok (.invokevirtual 339, 3) by decide +kernel) th87 rfl rfl (Nat.le_of_ble_eq_true rfl) ⟨Nat.le_of_ble_eq_true rfl, Nat.le_of_ble_eq_true rfl⟩ ?_
  refine xv_b E [.istore 8, .iload 8, .iconst (-1)] (pc' := 195) (lv' := [(8, .inl q_84.1), (0, .inr (.inr (some a0))), (1, .inl v1), (7, .inl v7)]) (st' := [.inl (-1 : Int32), .inl q_84.1]) (by decide +kernel) rfl rfl ?_
  by_cases q88 : q_84.1 = (-1 : Int32)
  · rw [if_pos q88] at h
    refine xv_icmp_ne E 202 (show decode prog_14_method_46_code 195 = .ok (.if_icmp .ne (7), 3) by decide +kernel) rfl (fun z => absurd q88 z) (fun _ => ?_)
    refine xv_b E [.iconst 3] (pc' := 199) (lv' := [(8, .inl q_84.1), (0, .inr (.inr (some a0))), (1, .inl v1), (7, .inl v7)]) (st' := [.inl (3 : Int32)]) (by decide +kernel) rfl rfl ?_
    refine xv_goto E 207 (show decode prog_14_method_46_code 199 = .ok (.goto (8), 3) by decide +kernel) rfl ?_
    exact xv_w (sb225_207 E B (3 : Int32) q_84.2 h hN) rfl
  · rw [if_neg q88] at h
    refine xv_icmp_ne E 202 (show decode prog_14_method_46_code 195 = .ok (.if_icmp .ne (7), 3) by decide +kernel) rfl (fun _ => ?_) (fun z => absurd z q88)
    refine xv_b E [.bipush 16, .iload 8, .iadd] (pc' := 207) (lv' := [(8, .inl q_84.1), (0, .inr (.inr (some a0))), (1, .inl v1), (7, .inl v7)]) (st' := [.inl ((16 : Int32) + q_84.1)]) (by decide +kernel) rfl rfl ?_
    exact xv_w (sb225_207 E B ((16 : Int32) + q_84.1) q_84.2 h hN) rfl
theorem sb225_59 (E : xE G p (xRm 7 (h_sz M' - z0) (h_sl M' - y0)) s m args c prog_14_method_46_code "ZonedFabricModel" z0 y0 (h_sz M') (h_sl M') 9) (B : xB ym225 (some FieldType.int) meth) (a0 : Nat) (v1 : Int32) (v4 : Int32) (v5 : Int32) (M : hM) {res : xRes} (h : b225_59 a0 v1 v4 v5 M = some res) (hN : xN (fun _ _ _ => False) r M' res) : xV G p l e (xRm 7 (h_sz M' - z0) (h_sl M' - y0)) s m args below meth c z0 y0 (h_sz M') (h_sl M') 9 (MQ below (xQc G r M') args s (h_sz M' - z0) (h_sl M' - y0) (xFr G)) 59 [(0, .inr (.inr (some a0))), (1, .inl v1), (4, .inl v4), (5, .inl v5)] [] M := by
  unfold b225_59 at h
  refine xv_b E [.iload 4, .bipush 16, .ishr, .istore 7, .iload 7, .aload_n 0] (pc' := 69) (lv' := [(7, .inl (v4 >>> ((16 : Int32) &&& 31))), (0, .inr (.inr (some a0))), (1, .inl v1), (4, .inl v4), (5, .inl v5)]) (st' := [.inr (.inr (some a0)), .inl (v4 >>> ((16 : Int32) &&& 31))]) (by decide +kernel) rfl rfl ?_
  obtain ⟨o_29, h30, h⟩ := bd h
  refine xg_r E 12 26 h30 mw886 (show decode prog_14_method_46_code 69 = .ok (.getfield 73, 3) by decide +kernel) ?_
  refine xv_b E [.iload_n 1] (pc' := 73) (lv' := [(7, .inl (v4 >>> ((16 : Int32) &&& 31))), (0, .inr (.inr (some a0))), (1, .inl v1), (4, .inl v4), (5, .inl v5)]) (st' := [.inl v1, .inr (.inr o_29), .inl (v4 >>> ((16 : Int32) &&& 31))]) (by decide +kernel) rfl rfl ?_
  obtain ⟨v_31, h32, h⟩ := bd h
  refine xa_i E h32 (show decode prog_14_method_46_code 73 = .ok (.iaload, 1) by decide +kernel) ?_
  by_cases q83 : (v4 >>> ((16 : Int32) &&& 31)) = v_31
  · rw [if_pos q83] at h
    refine xv_icmp_ne E 183 (show decode prog_14_method_46_code 74 = .ok (.if_icmp .ne (109), 3) by decide +kernel) rfl (fun z => absurd q83 z) (fun _ => ?_)
    refine xv_b E [.aload_n 0, .iload_n 1] (pc' := 79) (lv' := [(7, .inl (v4 >>> ((16 : Int32) &&& 31))), (0, .inr (.inr (some a0))), (1, .inl v1), (4, .inl v4), (5, .inl v5)]) (st' := [.inl v1, .inr (.inr (some a0))]) (by decide +kernel) rfl rfl ?_
    obtain ⟨b_35, h36, h⟩ := bd h
    obtain ⟨eh36, th36⟩ := g_o_some h36
    obtain ⟨q_33, h34, h⟩ := bd h
    refine xv_cvo E eh36 12 (as := [.inl v1]) (t200 G l (c_I_some h34)) cd200 mw1148 mw1149 mw1150 (show decode prog_14_method_46_code 79 = .ok (.invokevirtual 297, 3) by decide +kernel) th36 rfl rfl (Nat.le_of_ble_eq_true rfl) ⟨Nat.le_of_ble_eq_true rfl, Nat.le_of_ble_eq_true rfl⟩ ?_
    by_cases q82 : q_33.1 = 0
    · rw [if_pos q82] at h
      refine xv_if_ne E 183 (show decode prog_14_method_46_code 82 = .ok (.ifCond .ne (101), 3) by decide +kernel) rfl (fun z => absurd q82 z) (fun _ => ?_)
      refine xv_b E [.iload 4, .bipush 8, .ishr, .sipush 255, .iand, .istore 8, .iload 8, .bipush 7] (pc' := 100) (lv' := [(8, .inl ((v4 >>> ((8 : Int32) &&& 31)) &&& (255 : Int32))), (7, .inl (v4 >>> ((16 : Int32) &&& 31))), (0, .inr (.inr (some a0))), (1, .inl v1), (4, .inl v4), (5, .inl v5)]) (st' := [.inl (7 : Int32), .inl ((v4 >>> ((8 : Int32) &&& 31)) &&& (255 : Int32))]) (by decide +kernel) rfl rfl ?_
      by_cases q81 : (7 : Int32) < ((v4 >>> ((8 : Int32) &&& 31)) &&& (255 : Int32))
      · rw [if_pos q81] at h
        refine xv_icmp_gt E 152 (show decode prog_14_method_46_code 100 = .ok (.if_icmp .gt (52), 3) by decide +kernel) rfl (fun _ => ?_) (fun z => absurd q81 z)
        exact xv_w (sb225_152 E B  q_33.2 h hN) rfl
      · rw [if_neg q81] at h
        refine xv_icmp_gt E 152 (show decode prog_14_method_46_code 100 = .ok (.if_icmp .gt (52), 3) by decide +kernel) rfl (fun z => absurd z q81) (fun _ => ?_)
        refine xv_b E [.aload_n 0, .aload_n 0, .iload_n 1, .iload 8] (pc' := 108) (lv' := [(8, .inl ((v4 >>> ((8 : Int32) &&& 31)) &&& (255 : Int32))), (7, .inl (v4 >>> ((16 : Int32) &&& 31))), (0, .inr (.inr (some a0))), (1, .inl v1), (4, .inl v4), (5, .inl v5)]) (st' := [.inl ((v4 >>> ((8 : Int32) &&& 31)) &&& (255 : Int32)), .inl v1, .inr (.inr (some a0)), .inr (.inr (some a0))]) (by decide +kernel) rfl rfl ?_
        obtain ⟨b_39, h40, h⟩ := bd h
        obtain ⟨eh40, th40⟩ := g_o_some h40
        obtain ⟨q_37, h38, h⟩ := bd h
        refine xv_cvo E eh40 12 (as := [.inl v1, .inl ((v4 >>> ((8 : Int32) &&& 31)) &&& (255 : Int32))]) (t175 G l (c_I_some h38)) cd175 mw1134 mw1135 mw1136 (show decode prog_14_method_46_code 108 = .ok (.invokevirtual 288, 3) by decide +kernel) th40 rfl rfl (Nat.le_of_ble_eq_true rfl) ⟨Nat.le_of_ble_eq_true rfl, Nat.le_of_ble_eq_true rfl⟩ ?_
        obtain ⟨b_43, h44, h⟩ := bd h
        obtain ⟨eh44, th44⟩ := g_o_some h44
        obtain ⟨q_41, h42, h⟩ := bd h
        refine xv_cvo E eh44 12 (as := [.inl q_37.1]) (t177 G l (c_I_some h42)) cd177 mw963 mw964 mw965 (show decode prog_14_method_46_code 111 = .ok (.invokevirtual 213, 3) by decide +kernel) th44 rfl rfl (Nat.le_of_ble_eq_true rfl) ⟨Nat.le_of_ble_eq_true rfl, Nat.le_of_ble_eq_true rfl⟩ ?_
        by_cases q80 : q_41.1 = 0
        · rw [if_pos q80] at h
          refine xv_if_eq E 152 (show decode prog_14_method_46_code 114 = .ok (.ifCond .eq (38), 3) by decide +kernel) rfl (fun _ => ?_) (fun z => absurd q80 z)
          exact xv_w (sb225_152 E B  q_41.2 h hN) rfl
        · rw [if_neg q80] at h
          refine xv_if_eq E 152 (show decode prog_14_method_46_code 114 = .ok (.ifCond .eq (38), 3) by decide +kernel) rfl (fun z => absurd z q80) (fun _ => ?_)
          refine xv_b E [.aload_n 0, .aload_n 0, .iload_n 1, .iload 8] (pc' := 122) (lv' := [(8, .inl ((v4 >>> ((8 : Int32) &&& 31)) &&& (255 : Int32))), (7, .inl (v4 >>> ((16 : Int32) &&& 31))), (0, .inr (.inr (some a0))), (1, .inl v1), (4, .inl v4), (5, .inl v5)]) (st' := [.inl ((v4 >>> ((8 : Int32) &&& 31)) &&& (255 : Int32)), .inl v1, .inr (.inr (some a0)), .inr (.inr (some a0))]) (by decide +kernel) rfl rfl ?_
          obtain ⟨b_47, h48, h⟩ := bd h
          obtain ⟨eh48, th48⟩ := g_o_some h48
          obtain ⟨q_45, h46, h⟩ := bd h
          refine xv_cvo E eh48 12 (as := [.inl v1, .inl ((v4 >>> ((8 : Int32) &&& 31)) &&& (255 : Int32))]) (t175 G l (c_I_some h46)) cd175 mw1134 mw1135 mw1136 (show decode prog_14_method_46_code 122 = .ok (.invokevirtual 288, 3) by decide +kernel) th48 rfl rfl (Nat.le_of_ble_eq_true rfl) ⟨Nat.le_of_ble_eq_true rfl, Nat.le_of_ble_eq_true rfl⟩ ?_
          obtain ⟨b_51, h52, h⟩ := bd h
          obtain ⟨eh52, th52⟩ := g_o_some h52
          obtain ⟨q_49, h50, h⟩ := bd h
          refine xv_cvo E eh52 12 (as := [.inl q_45.1]) (t179 G l (c_I_some h50)) cd179 mw1154 mw1155 mw1156 (show decode prog_14_method_46_code 125 = .ok (.invokevirtual 303, 3) by decide +kernel) th52 rfl rfl (Nat.le_of_ble_eq_true rfl) ⟨Nat.le_of_ble_eq_true rfl, Nat.le_of_ble_eq_true rfl⟩ ?_
          refine xv_b E [.iconst (-1)] (pc' := 129) (lv' := [(8, .inl ((v4 >>> ((8 : Int32) &&& 31)) &&& (255 : Int32))), (7, .inl (v4 >>> ((16 : Int32) &&& 31))), (0, .inr (.inr (some a0))), (1, .inl v1), (4, .inl v4), (5, .inl v5)]) (st' := [.inl (-1 : Int32), .inl q_49.1]) (by decide +kernel) rfl rfl ?_
          by_cases q79 : q_49.1 = (-1 : Int32)
          · rw [if_pos q79] at h
            refine xv_icmp_eq E 152 (show decode prog_14_method_46_code 129 = .ok (.if_icmp .eq (23), 3) by decide +kernel) rfl (fun _ => ?_) (fun z => absurd q79 z)
            exact xv_w (sb225_152 E B  q_49.2 h hN) rfl
          · rw [if_neg q79] at h
            refine xv_icmp_eq E 152 (show decode prog_14_method_46_code 129 = .ok (.if_icmp .eq (23), 3) by decide +kernel) rfl (fun z => absurd z q79) (fun _ => ?_)
            refine xv_b E [.aload_n 0, .aload_n 0, .iload_n 1, .iload 8] (pc' := 137) (lv' := [(8, .inl ((v4 >>> ((8 : Int32) &&& 31)) &&& (255 : Int32))), (7, .inl (v4 >>> ((16 : Int32) &&& 31))), (0, .inr (.inr (some a0))), (1, .inl v1), (4, .inl v4), (5, .inl v5)]) (st' := [.inl ((v4 >>> ((8 : Int32) &&& 31)) &&& (255 : Int32)), .inl v1, .inr (.inr (some a0)), .inr (.inr (some a0))]) (by decide +kernel) rfl rfl ?_
            obtain ⟨b_55, h56, h⟩ := bd h
            obtain ⟨eh56, th56⟩ := g_o_some h56
            obtain ⟨q_53, h54, h⟩ := bd h
            refine xv_cvo E eh56 12 (as := [.inl v1, .inl ((v4 >>> ((8 : Int32) &&& 31)) &&& (255 : Int32))]) (t175 G l (c_I_some h54)) cd175 mw1134 mw1135 mw1136 (show decode prog_14_method_46_code 137 = .ok (.invokevirtual 288, 3) by decide +kernel) th56 rfl rfl (Nat.le_of_ble_eq_true rfl) ⟨Nat.le_of_ble_eq_true rfl, Nat.le_of_ble_eq_true rfl⟩ ?_
            obtain ⟨b_59, h60, h⟩ := bd h
            obtain ⟨eh60, th60⟩ := g_o_some h60
            obtain ⟨q_57, h58, h⟩ := bd h
            refine xv_cvo E eh60 12 (as := [.inl q_53.1]) (t179 G l (c_I_some h58)) cd179 mw1154 mw1155 mw1156 (show decode prog_14_method_46_code 140 = .ok (.invokevirtual 303, 3) by decide +kernel) th60 rfl rfl (Nat.le_of_ble_eq_true rfl) ⟨Nat.le_of_ble_eq_true rfl, Nat.le_of_ble_eq_true rfl⟩ ?_
            refine xv_b E [.aload_n 0, .iload 4] (pc' := 146) (lv' := [(8, .inl ((v4 >>> ((8 : Int32) &&& 31)) &&& (255 : Int32))), (7, .inl (v4 >>> ((16 : Int32) &&& 31))), (0, .inr (.inr (some a0))), (1, .inl v1), (4, .inl v4), (5, .inl v5)]) (st' := [.inl v4, .inr (.inr (some a0)), .inl q_57.1]) (by decide +kernel) rfl rfl ?_
            obtain ⟨b_63, h64, h⟩ := bd h
            obtain ⟨eh64, th64⟩ := g_o_some h64
            obtain ⟨q_61, h62, h⟩ := bd h
            refine xv_cvo E eh64 12 (as := [.inl v4]) (t189 G l (c_I_some h62)) cd189 mw1074 mw1075 mw1076 (show decode prog_14_method_46_code 146 = .ok (.invokevirtual 309, 3) by decide +kernel) th64 rfl rfl (Nat.le_of_ble_eq_true rfl) ⟨Nat.le_of_ble_eq_true rfl, Nat.le_of_ble_eq_true rfl⟩ ?_
            by_cases q78 : q_57.1 = q_61.1
            · rw [if_pos q78] at h
              refine xv_icmp_eq E 154 (show decode prog_14_method_46_code 149 = .ok (.if_icmp .eq (5), 3) by decide +kernel) rfl (fun _ => ?_) (fun z => absurd q78 z)
              refine xv_b E [.aload_n 0, .aload_n 0, .iload 5] (pc' := 158) (lv' := [(8, .inl ((v4 >>> ((8 : Int32) &&& 31)) &&& (255 : Int32))), (7, .inl (v4 >>> ((16 : Int32) &&& 31))), (0, .inr (.inr (some a0))), (1, .inl v1), (4, .inl v4), (5, .inl v5)]) (st' := [.inl v5, .inr (.inr (some a0)), .inr (.inr (some a0))]) (by decide +kernel) rfl rfl ?_
              obtain ⟨b_67, h68, h⟩ := bd h
              obtain ⟨eh68, th68⟩ := g_o_some h68
              obtain ⟨q_65, h66, h⟩ := bd h
              refine xv_cvo E eh68 12 (as := [.inl v5]) (t189 G l (c_I_some h66)) cd189 mw1074 mw1075 mw1076 (show decode prog_14_method_46_code 158 = .ok (.invokevirtual 309, 3) by decide +kernel) th68 rfl rfl (Nat.le_of_ble_eq_true rfl) ⟨Nat.le_of_ble_eq_true rfl, Nat.le_of_ble_eq_true rfl⟩ ?_
              refine xv_b E [.aload_n 0, .iload 4] (pc' := 164) (lv' := [(8, .inl ((v4 >>> ((8 : Int32) &&& 31)) &&& (255 : Int32))), (7, .inl (v4 >>> ((16 : Int32) &&& 31))), (0, .inr (.inr (some a0))), (1, .inl v1), (4, .inl v4), (5, .inl v5)]) (st' := [.inl v4, .inr (.inr (some a0)), .inl q_65.1, .inr (.inr (some a0))]) (by decide +kernel) rfl rfl ?_
              obtain ⟨b_71, h72, h⟩ := bd h
              obtain ⟨eh72, th72⟩ := g_o_some h72
              obtain ⟨q_69, h70, h⟩ := bd h
              refine xv_cvo E eh72 12 (as := [.inl v4]) (t189 G l (c_I_some h70)) cd189 mw1074 mw1075 mw1076 (show decode prog_14_method_46_code 164 = .ok (.invokevirtual 309, 3) by decide +kernel) th72 rfl rfl (Nat.le_of_ble_eq_true rfl) ⟨Nat.le_of_ble_eq_true rfl, Nat.le_of_ble_eq_true rfl⟩ ?_
              obtain ⟨b_75, h76, h⟩ := bd h
              obtain ⟨eh76, th76⟩ := g_o_some h76
              obtain ⟨q_73, h74, h⟩ := bd h
              refine xv_cvo E eh76 12 (as := [.inl q_65.1, .inl q_69.1]) (t188 G l (c_I_some h74)) cd188 mw1158 mw1159 mw1160 (show decode prog_14_method_46_code 167 = .ok (.invokevirtual 336, 3) by decide +kernel) th76 rfl rfl (Nat.le_of_ble_eq_true rfl) ⟨Nat.le_of_ble_eq_true rfl, Nat.le_of_ble_eq_true rfl⟩ ?_
              by_cases q77 : q_73.1 = 0
              · rw [if_pos q77] at h
                refine xv_if_eq E 181 (show decode prog_14_method_46_code 170 = .ok (.ifCond .eq (11), 3) by decide +kernel) rfl (fun _ => ?_) (fun z => absurd q77 z)
                refine xv_b E [.iconst 2] (pc' := 182) (lv' := [(8, .inl ((v4 >>> ((8 : Int32) &&& 31)) &&& (255 : Int32))), (7, .inl (v4 >>> ((16 : Int32) &&& 31))), (0, .inr (.inr (some a0))), (1, .inl v1), (4, .inl v4), (5, .inl v5)]) (st' := [.inl (2 : Int32)]) (by decide +kernel) rfl rfl ?_
                exact xv_w (sb225_182 E B (2 : Int32) q_73.2 h hN) rfl
              · rw [if_neg q77] at h
                refine xv_if_eq E 181 (show decode prog_14_method_46_code 170 = .ok (.ifCond .eq (11), 3) by decide +kernel) rfl (fun z => absurd z q77) (fun _ => ?_)
                refine xv_b E [.bipush 16, .iload 8, .iadd] (pc' := 178) (lv' := [(8, .inl ((v4 >>> ((8 : Int32) &&& 31)) &&& (255 : Int32))), (7, .inl (v4 >>> ((16 : Int32) &&& 31))), (0, .inr (.inr (some a0))), (1, .inl v1), (4, .inl v4), (5, .inl v5)]) (st' := [.inl ((16 : Int32) + ((v4 >>> ((8 : Int32) &&& 31)) &&& (255 : Int32)))]) (by decide +kernel) rfl rfl ?_
                refine xv_goto E 182 (show decode prog_14_method_46_code 178 = .ok (.goto (4), 3) by decide +kernel) rfl ?_
                exact xv_w (sb225_182 E B ((16 : Int32) + ((v4 >>> ((8 : Int32) &&& 31)) &&& (255 : Int32))) q_73.2 h hN) rfl
            · rw [if_neg q78] at h
              refine xv_icmp_eq E 154 (show decode prog_14_method_46_code 149 = .ok (.if_icmp .eq (5), 3) by decide +kernel) rfl (fun z => absurd z q78) (fun _ => ?_)
              exact xv_w (sb225_152 E B  q_61.2 h hN) rfl
    · rw [if_neg q82] at h
      refine xv_if_ne E 183 (show decode prog_14_method_46_code 82 = .ok (.ifCond .ne (101), 3) by decide +kernel) rfl (fun _ => ?_) (fun z => absurd z q82)
      exact xv_w (sb225_183 E B a0 v1 (v4 >>> ((16 : Int32) &&& 31)) q_33.2 h hN) rfl
  · rw [if_neg q83] at h
    refine xv_icmp_ne E 183 (show decode prog_14_method_46_code 74 = .ok (.if_icmp .ne (109), 3) by decide +kernel) rfl (fun _ => ?_) (fun z => absurd z q83)
    exact xv_w (sb225_183 E B a0 v1 (v4 >>> ((16 : Int32) &&& 31)) M h hN) rfl
theorem sb225_0 (E : xE G p (xRm 7 (h_sz M' - z0) (h_sl M' - y0)) s m args c prog_14_method_46_code "ZonedFabricModel" z0 y0 (h_sz M') (h_sl M') 9) (B : xB ym225 (some FieldType.int) meth) (a0 : Nat) (v1 : Int32) (v2 : Int32) (v3 : Int32) (v4 : Int32) (M : hM) {res : xRes} (h : b225_0 a0 v1 v2 v3 v4 M = some res) (hN : xN (fun _ _ _ => False) r M' res) : xV G p l e (xRm 7 (h_sz M' - z0) (h_sl M' - y0)) s m args below meth c z0 y0 (h_sz M') (h_sl M') 9 (MQ below (xQc G r M') args s (h_sz M' - z0) (h_sl M' - y0) (xFr G)) 0 [(0, .inr (.inr (some a0))), (1, .inl v1), (2, .inl v2), (3, .inl v3), (4, .inl v4)] [] M := by
  unfold b225_0 at h
  refine xv_b E [.aload_n 0, .iload_n 3, .iconst 4, .iconst 3] (pc' := 4) (lv' := [(0, .inr (.inr (some a0))), (1, .inl v1), (2, .inl v2), (3, .inl v3), (4, .inl v4)]) (st' := [.inl (3 : Int32), .inl (4 : Int32), .inl v3, .inr (.inr (some a0))]) (by decide +kernel) rfl rfl ?_
  obtain ⟨b_3, h4, h⟩ := bd h
  obtain ⟨eh4, th4⟩ := g_o_some h4
  obtain ⟨q_1, h2, h⟩ := bd h
  refine xv_cvo E eh4 12 (as := [.inl v3, .inl (4 : Int32), .inl (3 : Int32)]) (t166 G l (c_I_some h2)) cd166 mw947 mw948 mw949 (show decode prog_14_method_46_code 4 = .ok (.invokevirtual 198, 3) by decide +kernel) th4 rfl rfl (Nat.le_of_ble_eq_true rfl) ⟨Nat.le_of_ble_eq_true rfl, Nat.le_of_ble_eq_true rfl⟩ ?_
  refine xv_b E [.istore 5, .aload_n 0, .iload_n 2] (pc' := 11) (lv' := [(5, .inl q_1.1), (0, .inr (.inr (some a0))), (1, .inl v1), (2, .inl v2), (3, .inl v3), (4, .inl v4)]) (st' := [.inl v2, .inr (.inr (some a0))]) (by decide +kernel) rfl rfl ?_
  obtain ⟨b_7, h8, h⟩ := bd h
  obtain ⟨eh8, th8⟩ := g_o_some h8
  obtain ⟨q_5, h6, h⟩ := bd h
  refine xv_cvo E eh8 12 (as := [.inl v2]) (t179 G l (c_I_some h6)) cd179 mw1154 mw1155 mw1156 (show decode prog_14_method_46_code 11 = .ok (.invokevirtual 303, 3) by decide +kernel) th8 rfl rfl (Nat.le_of_ble_eq_true rfl) ⟨Nat.le_of_ble_eq_true rfl, Nat.le_of_ble_eq_true rfl⟩ ?_
  refine xv_b E [.istore 6, .iload 6, .iconst (-1)] (pc' := 19) (lv' := [(6, .inl q_5.1), (5, .inl q_1.1), (0, .inr (.inr (some a0))), (1, .inl v1), (2, .inl v2), (3, .inl v3), (4, .inl v4)]) (st' := [.inl (-1 : Int32), .inl q_5.1]) (by decide +kernel) rfl rfl ?_
  by_cases q28 : q_5.1 = (-1 : Int32)
  · rw [if_pos q28] at h
    refine xv_icmp_eq E 59 (show decode prog_14_method_46_code 19 = .ok (.if_icmp .eq (40), 3) by decide +kernel) rfl (fun _ => ?_) (fun z => absurd q28 z)
    exact xv_w (sb225_59 E B a0 v1 v4 q_1.1 q_5.2 h hN) rfl
  · rw [if_neg q28] at h
    refine xv_icmp_eq E 59 (show decode prog_14_method_46_code 19 = .ok (.if_icmp .eq (40), 3) by decide +kernel) rfl (fun z => absurd z q28) (fun _ => ?_)
    refine xv_b E [.aload_n 0] (pc' := 23) (lv' := [(6, .inl q_5.1), (5, .inl q_1.1), (0, .inr (.inr (some a0))), (1, .inl v1), (2, .inl v2), (3, .inl v3), (4, .inl v4)]) (st' := [.inr (.inr (some a0))]) (by decide +kernel) rfl rfl ?_
    obtain ⟨o_9, h10, h⟩ := bd h
    refine xg_r E 12 25 h10 mw885 (show decode prog_14_method_46_code 23 = .ok (.getfield 70, 3) by decide +kernel) ?_
    refine xv_b E [.iload_n 2] (pc' := 27) (lv' := [(6, .inl q_5.1), (5, .inl q_1.1), (0, .inr (.inr (some a0))), (1, .inl v1), (2, .inl v2), (3, .inl v3), (4, .inl v4)]) (st' := [.inl v2, .inr (.inr o_9)]) (by decide +kernel) rfl rfl ?_
    obtain ⟨v_11, h12, h⟩ := bd h
    refine xa_i E h12 (show decode prog_14_method_46_code 27 = .ok (.iaload, 1) by decide +kernel) ?_
    by_cases q27 : v_11 = 0
    · rw [if_pos q27] at h
      refine xv_if_eq E 57 (show decode prog_14_method_46_code 28 = .ok (.ifCond .eq (29), 3) by decide +kernel) rfl (fun _ => ?_) (fun z => absurd q27 z)
      exact xv_w (sb225_57 E B  q_5.2 h hN) rfl
    · rw [if_neg q27] at h
      refine xv_if_eq E 57 (show decode prog_14_method_46_code 28 = .ok (.ifCond .eq (29), 3) by decide +kernel) rfl (fun z => absurd z q27) (fun _ => ?_)
      refine xv_b E [.iload 5, .aload_n 0] (pc' := 34) (lv' := [(6, .inl q_5.1), (5, .inl q_1.1), (0, .inr (.inr (some a0))), (1, .inl v1), (2, .inl v2), (3, .inl v3), (4, .inl v4)]) (st' := [.inr (.inr (some a0)), .inl q_1.1]) (by decide +kernel) rfl rfl ?_
      obtain ⟨o_13, h14, h⟩ := bd h
      refine xg_r E 12 25 h14 mw885 (show decode prog_14_method_46_code 34 = .ok (.getfield 70, 3) by decide +kernel) ?_
      refine xv_b E [.iload_n 2] (pc' := 38) (lv' := [(6, .inl q_5.1), (5, .inl q_1.1), (0, .inr (.inr (some a0))), (1, .inl v1), (2, .inl v2), (3, .inl v3), (4, .inl v4)]) (st' := [.inl v2, .inr (.inr o_13), .inl q_1.1]) (by decide +kernel) rfl rfl ?_
      obtain ⟨v_15, h16, h⟩ := bd h
      refine xa_i E h16 (show decode prog_14_method_46_code 38 = .ok (.iaload, 1) by decide +kernel) ?_
      by_cases q26 : q_1.1 = v_15
      · rw [if_pos q26] at h
        refine xv_icmp_ne E 57 (show decode prog_14_method_46_code 39 = .ok (.if_icmp .ne (18), 3) by decide +kernel) rfl (fun z => absurd q26 z) (fun _ => ?_)
        refine xv_b E [.aload_n 0, .iload 6, .aload_n 0, .iload 4] (pc' := 48) (lv' := [(6, .inl q_5.1), (5, .inl q_1.1), (0, .inr (.inr (some a0))), (1, .inl v1), (2, .inl v2), (3, .inl v3), (4, .inl v4)]) (st' := [.inl v4, .inr (.inr (some a0)), .inl q_5.1, .inr (.inr (some a0))]) (by decide +kernel) rfl rfl ?_
        obtain ⟨b_19, h20, h⟩ := bd h
        obtain ⟨eh20, th20⟩ := g_o_some h20
        obtain ⟨q_17, h18, h⟩ := bd h
        refine xv_cvo E eh20 12 (as := [.inl v4]) (t189 G l (c_I_some h18)) cd189 mw1074 mw1075 mw1076 (show decode prog_14_method_46_code 48 = .ok (.invokevirtual 309, 3) by decide +kernel) th20 rfl rfl (Nat.le_of_ble_eq_true rfl) ⟨Nat.le_of_ble_eq_true rfl, Nat.le_of_ble_eq_true rfl⟩ ?_
        obtain ⟨b_23, h24, h⟩ := bd h
        obtain ⟨eh24, th24⟩ := g_o_some h24
        obtain ⟨q_21, h22, h⟩ := bd h
        refine xv_cvo E eh24 12 (as := [.inl q_5.1, .inl q_17.1]) (t188 G l (c_I_some h22)) cd188 mw1158 mw1159 mw1160 (show decode prog_14_method_46_code 51 = .ok (.invokevirtual 336, 3) by decide +kernel) th24 rfl rfl (Nat.le_of_ble_eq_true rfl) ⟨Nat.le_of_ble_eq_true rfl, Nat.le_of_ble_eq_true rfl⟩ ?_
        by_cases q25 : q_21.1 = 0
        · rw [if_pos q25] at h
          refine xv_if_ne E 59 (show decode prog_14_method_46_code 54 = .ok (.ifCond .ne (5), 3) by decide +kernel) rfl (fun z => absurd q25 z) (fun _ => ?_)
          exact xv_w (sb225_57 E B  q_21.2 h hN) rfl
        · rw [if_neg q25] at h
          refine xv_if_ne E 59 (show decode prog_14_method_46_code 54 = .ok (.ifCond .ne (5), 3) by decide +kernel) rfl (fun _ => ?_) (fun z => absurd z q25)
          exact xv_w (sb225_59 E B a0 v1 v4 q_1.1 q_21.2 h hN) rfl
      · rw [if_neg q26] at h
        refine xv_icmp_ne E 57 (show decode prog_14_method_46_code 39 = .ok (.if_icmp .ne (18), 3) by decide +kernel) rfl (fun _ => ?_) (fun z => absurd z q26)
        exact xv_w (sb225_57 E B  q_5.2 h hN) rfl
end
theorem t225 (G : gX) (l : Launch) {as : List aV} {M : hM} {r : Option aV} {M' : hM} (h : f225 as M = some (r, M')) : xM G l ym225 prog_14_method_46_code 9 (some FieldType.int) 7 as M r M' := by
  unfold f225 at h
  split at h
  · have h := x_out_ok h
    refine xM_of (by decide) (Nat.le_of_ble_eq_true rfl) (lb225_0 G l _ _ _ _ _ M h) ?_
    intro p e s m args below meth c E B
    exact sb225_0 E B _ _ _ _ _ M h rfl
  · cases h
/-! ZFModel.passes(IIII)V -/
def ym226 : MethodName := ⟨"ZonedFabricModel", "passes", "(IIII)V"⟩
theorem cd226 : xCd ym226 prog_14_method_47_code 7 none 4 := ⟨mw1164, mw864, by decide, by decide, by decide +kernel⟩
def b226_138  (M : hM) : Option xRes :=
  some (.inl (none, M))
def b226_139 (a0 : Nat) (v2 : Int32) (M : hM) : Option xRes :=
  Option.bind (g_r M 12 21 (some a0)) fun o_76 =>
  Option.bind (al_i M 20 o_76 v2) fun v_78 =>
  Option.bind (as_i M 20 o_76 v2 (v_78 + (1 : Int32))) fun M80 =>
  Option.bind (g_r M80 12 21 (some a0)) fun o_82 =>
  Option.bind (al_i M80 20 o_82 v2) fun v_84 =>
  if (25 : Int32) ≤ v_84 then
    (Option.bind (g_r M80 12 4 (some a0)) fun o_86 =>
    Option.bind (al_i M80 20 o_86 (4 : Int32)) fun v_88 =>
    Option.bind (as_i M80 20 o_86 (4 : Int32) (v_88 + (1 : Int32))) fun M90 =>
    Option.bind (g_o M90 12 (some a0)) fun b_94 =>
    Option.bind (c_I (f185 [.inr (.inr (some b_94)), .inl v2] M90)) fun q_92 =>
    Option.bind (g_o q_92.2 12 (some a0)) fun b_98 =>
    Option.bind (c_V (f171 [.inr (.inr (some b_98)), .inl q_92.1] q_92.2)) fun q_96 =>
    some (.inl (none, q_96)))
  else
    (some (.inl (none, M80)))
def b226_0 (a0 : Nat) (v1 : Int32) (v2 : Int32) (v3 : Int32) (v4 : Int32) (M : hM) : Option xRes :=
  Option.bind (g_o M 12 (some a0)) fun b_3 =>
  Option.bind (c_I (f225 [.inr (.inr (some b_3)), .inl v1, .inl v2, .inl v3, .inl v4] M)) fun q_1 =>
  if (16 : Int32) ≤ q_1.1 then
    (Option.bind (g_o q_1.2 12 (some a0)) fun b_7 =>
    Option.bind (c_I (f175 [.inr (.inr (some b_7)), .inl v1, .inl (q_1.1 - (16 : Int32))] q_1.2)) fun q_5 =>
    Option.bind (g_r q_5.2 12 19 (some a0)) fun o_9 =>
    Option.bind (al_i q_5.2 20 o_9 q_5.1) fun v_11 =>
    if v_11 = 0 then
      (Option.bind (g_o q_5.2 12 (some a0)) fun b_15 =>
      Option.bind (c_I (f181 [.inr (.inr (some b_15)), .inl q_5.1] q_5.2)) fun q_13 =>
      if q_13.1 = 0 then
        (b226_139 a0 v2 q_13.2)
      else
        (Option.bind (g_o q_13.2 12 (some a0)) fun b_19 =>
        Option.bind (c_I (f185 [.inr (.inr (some b_19)), .inl v2] q_13.2)) fun q_17 =>
        Option.bind (g_o q_17.2 12 (some a0)) fun b_23 =>
        Option.bind (c_V (f182 [.inr (.inr (some b_23)), .inl q_5.1, .inl v3] q_17.2)) fun q_21 =>
        Option.bind (g_r q_21 12 4 (some a0)) fun o_25 =>
        Option.bind (al_i q_21 20 o_25 (7 : Int32)) fun v_27 =>
        Option.bind (as_i q_21 20 o_25 (7 : Int32) (v_27 + (1 : Int32))) fun M29 =>
        Option.bind (g_o M29 12 (some a0)) fun b_33 =>
        Option.bind (c_I (f179 [.inr (.inr (some b_33)), .inl q_5.1] M29)) fun q_31 =>
        if q_31.1 = (-1 : Int32) then
          (b226_138  q_31.2)
        else
          (Option.bind (g_o q_31.2 12 (some a0)) fun b_37 =>
          Option.bind (c_I (f166 [.inr (.inr (some b_37)), .inl v3, .inl (4 : Int32), .inl (3 : Int32)] q_31.2)) fun q_35 =>
          Option.bind (g_o q_35.2 12 (some a0)) fun b_41 =>
          Option.bind (c_I (f189 [.inr (.inr (some b_41)), .inl q_35.1] q_35.2)) fun q_39 =>
          Option.bind (g_o q_39.2 12 (some a0)) fun b_45 =>
          Option.bind (c_I (f179 [.inr (.inr (some b_45)), .inl q_5.1] q_39.2)) fun q_43 =>
          Option.bind (g_o q_43.2 12 (some a0)) fun b_49 =>
          Option.bind (c_I (f188 [.inr (.inr (some b_49)), .inl q_39.1, .inl q_43.1] q_43.2)) fun q_47 =>
          if q_47.1 = 0 then
            (Option.bind (g_r q_47.2 12 5 (some a0)) fun o_51 =>
            Option.bind (al_i q_47.2 20 o_51 (0 : Int32)) fun v_53 =>
            Option.bind (as_i q_47.2 20 o_51 (0 : Int32) (v_53 + (1 : Int32))) fun M55 =>
            b226_138  M55)
          else
            (b226_138  q_47.2))))
    else
      (b226_139 a0 v2 q_5.2))
  else
    (Option.bind (g_r q_1.2 12 4 (some a0)) fun o_61 =>
    Option.bind (al_i q_1.2 20 o_61 q_1.1) fun v_63 =>
    Option.bind (as_i q_1.2 20 o_61 q_1.1 (v_63 + (1 : Int32))) fun M65 =>
    Option.bind (g_o M65 12 (some a0)) fun b_69 =>
    Option.bind (c_I (f185 [.inr (.inr (some b_69)), .inl v2] M65)) fun q_67 =>
    Option.bind (g_o q_67.2 12 (some a0)) fun b_73 =>
    Option.bind (c_V (f171 [.inr (.inr (some b_73)), .inl q_67.1] q_67.2)) fun q_71 =>
    some (.inl (none, q_71)))
def f226 (as : List aV) (M : hM) : xO := match as with
  | [.inr (.inr (some a0)), .inl v1, .inl v2, .inl v3, .inl v4] => x_out (b226_0 a0 v1 v2 v3 v4 M)
  | _ => none
theorem lb226_138 (G : gX) (l : Launch)  (M : hM) {res : xRes} (h : b226_138  M = some res) : h_sz M ≤ r_sz res ∧ h_sl M ≤ r_sl res := by
  unfold b226_138 at h
  obtain rfl := Option.some.inj h
  show h_sz M ≤ h_sz M ∧ h_sl M ≤ h_sl M
  omega
theorem lb226_139 (G : gX) (l : Launch) (a0 : Nat) (v2 : Int32) (M : hM) {res : xRes} (h : b226_139 a0 v2 M = some res) : h_sz M ≤ r_sz res ∧ h_sl M ≤ r_sl res := by
  unfold b226_139 at h
  obtain ⟨o_76, h77, h⟩ := bd h
  obtain ⟨v_78, h79, h⟩ := bd h
  obtain ⟨M80, h81, h⟩ := bd h
  have eh81 := as_i_sz h81
  obtain ⟨o_82, h83, h⟩ := bd h
  obtain ⟨v_84, h85, h⟩ := bd h
  by_cases q100 : (25 : Int32) ≤ v_84
  · rw [if_pos q100] at h
    obtain ⟨o_86, h87, h⟩ := bd h
    obtain ⟨v_88, h89, h⟩ := bd h
    obtain ⟨M90, h91, h⟩ := bd h
    have eh91 := as_i_sz h91
    obtain ⟨b_94, h95, h⟩ := bd h
    obtain ⟨q_92, h93, h⟩ := bd h
    have eh93 := (t185 G l (c_I_some h93)).1
    obtain ⟨b_98, h99, h⟩ := bd h
    obtain ⟨q_96, h97, h⟩ := bd h
    have eh97 := (t171 G l (c_V_some h97)).1
    obtain rfl := Option.some.inj h
    show h_sz M ≤ h_sz q_96 ∧ h_sl M ≤ h_sl q_96
    omega
  · rw [if_neg q100] at h
    obtain rfl := Option.some.inj h
    show h_sz M ≤ h_sz M80 ∧ h_sl M ≤ h_sl M80
    omega
theorem lb226_0 (G : gX) (l : Launch) (a0 : Nat) (v1 : Int32) (v2 : Int32) (v3 : Int32) (v4 : Int32) (M : hM) {res : xRes} (h : b226_0 a0 v1 v2 v3 v4 M = some res) : h_sz M ≤ r_sz res ∧ h_sl M ≤ r_sl res := by
  unfold b226_0 at h
  obtain ⟨b_3, h4, h⟩ := bd h
  obtain ⟨q_1, h2, h⟩ := bd h
  have eh2 := (t225 G l (c_I_some h2)).1
  by_cases q75 : (16 : Int32) ≤ q_1.1
  · rw [if_pos q75] at h
    obtain ⟨b_7, h8, h⟩ := bd h
    obtain ⟨q_5, h6, h⟩ := bd h
    have eh6 := (t175 G l (c_I_some h6)).1
    obtain ⟨o_9, h10, h⟩ := bd h
    obtain ⟨v_11, h12, h⟩ := bd h
    by_cases q60 : v_11 = 0
    · rw [if_pos q60] at h
      obtain ⟨b_15, h16, h⟩ := bd h
      obtain ⟨q_13, h14, h⟩ := bd h
      have eh14 := (t181 G l (c_I_some h14)).1
      by_cases q59 : q_13.1 = 0
      · rw [if_pos q59] at h
        have e := lb226_139 G l a0 v2 q_13.2 h
        omega
      · rw [if_neg q59] at h
        obtain ⟨b_19, h20, h⟩ := bd h
        obtain ⟨q_17, h18, h⟩ := bd h
        have eh18 := (t185 G l (c_I_some h18)).1
        obtain ⟨b_23, h24, h⟩ := bd h
        obtain ⟨q_21, h22, h⟩ := bd h
        have eh22 := (t182 G l (c_V_some h22)).1
        obtain ⟨o_25, h26, h⟩ := bd h
        obtain ⟨v_27, h28, h⟩ := bd h
        obtain ⟨M29, h30, h⟩ := bd h
        have eh30 := as_i_sz h30
        obtain ⟨b_33, h34, h⟩ := bd h
        obtain ⟨q_31, h32, h⟩ := bd h
        have eh32 := (t179 G l (c_I_some h32)).1
        by_cases q58 : q_31.1 = (-1 : Int32)
        · rw [if_pos q58] at h
          have e := lb226_138 G l  q_31.2 h
          omega
        · rw [if_neg q58] at h
          obtain ⟨b_37, h38, h⟩ := bd h
          obtain ⟨q_35, h36, h⟩ := bd h
          have eh36 := (t166 G l (c_I_some h36)).1
          obtain ⟨b_41, h42, h⟩ := bd h
          obtain ⟨q_39, h40, h⟩ := bd h
          have eh40 := (t189 G l (c_I_some h40)).1
          obtain ⟨b_45, h46, h⟩ := bd h
          obtain ⟨q_43, h44, h⟩ := bd h
          have eh44 := (t179 G l (c_I_some h44)).1
          obtain ⟨b_49, h50, h⟩ := bd h
          obtain ⟨q_47, h48, h⟩ := bd h
          have eh48 := (t188 G l (c_I_some h48)).1
          by_cases q57 : q_47.1 = 0
          · rw [if_pos q57] at h
            obtain ⟨o_51, h52, h⟩ := bd h
            obtain ⟨v_53, h54, h⟩ := bd h
            obtain ⟨M55, h56, h⟩ := bd h
            have eh56 := as_i_sz h56
            have e := lb226_138 G l  M55 h
            omega
          · rw [if_neg q57] at h
            have e := lb226_138 G l  q_47.2 h
            omega
    · rw [if_neg q60] at h
      have e := lb226_139 G l a0 v2 q_5.2 h
      omega
  · rw [if_neg q75] at h
    obtain ⟨o_61, h62, h⟩ := bd h
    obtain ⟨v_63, h64, h⟩ := bd h
    obtain ⟨M65, h66, h⟩ := bd h
    have eh66 := as_i_sz h66
    obtain ⟨b_69, h70, h⟩ := bd h
    obtain ⟨q_67, h68, h⟩ := bd h
    have eh68 := (t185 G l (c_I_some h68)).1
    obtain ⟨b_73, h74, h⟩ := bd h
    obtain ⟨q_71, h72, h⟩ := bd h
    have eh72 := (t171 G l (c_V_some h72)).1
    obtain rfl := Option.some.inj h
    show h_sz M ≤ h_sz q_71 ∧ h_sl M ≤ h_sl q_71
    omega
section
variable {p : Program} {l : Launch} {e : Env} {s : State} {m : MethodId} {args : Array Value} {below : List Frame} {meth : Method} {c : Code} {G : gX} {z0 y0 : Nat} {r : Option aV} {M' : hM}
theorem sb226_138 (E : xE G p (xRm 8 (h_sz M' - z0) (h_sl M' - y0)) s m args c prog_14_method_47_code "ZonedFabricModel" z0 y0 (h_sz M') (h_sl M') 7) (B : xB ym226 none meth)  (M : hM) {res : xRes} (h : b226_138  M = some res) (hN : xN (fun _ _ _ => False) r M' res) : xV G p l e (xRm 8 (h_sz M' - z0) (h_sl M' - y0)) s m args below meth c z0 y0 (h_sz M') (h_sl M') 7 (MQ below (xQc G r M') args s (h_sz M' - z0) (h_sl M' - y0) (xFr G)) 138 [] [] M := by
  unfold b226_138 at h
  obtain rfl := Option.some.inj h
  obtain ⟨rfl, rfl⟩ := Prod.mk.inj (show ((none : Option aV), M) = (r, M') from hN)
  exact xv_rv E B.1 B.2.1 (show decode prog_14_method_47_code 138 = .ok (.return_, 1) by decide +kernel) rfl rfl
theorem sb226_139 (E : xE G p (xRm 8 (h_sz M' - z0) (h_sl M' - y0)) s m args c prog_14_method_47_code "ZonedFabricModel" z0 y0 (h_sz M') (h_sl M') 7) (B : xB ym226 none meth) (a0 : Nat) (v2 : Int32) (M : hM) {res : xRes} (h : b226_139 a0 v2 M = some res) (hN : xN (fun _ _ _ => False) r M' res) : xV G p l e (xRm 8 (h_sz M' - z0) (h_sl M' - y0)) s m args below meth c z0 y0 (h_sz M') (h_sl M') 7 (MQ below (xQc G r M') args s (h_sz M' - z0) (h_sl M' - y0) (xFr G)) 139 [(0, .inr (.inr (some a0))), (2, .inl v2)] [] M := by
  unfold b226_139 at h
  refine xv_b E [.aload_n 0] (pc' := 140) (lv' := [(0, .inr (.inr (some a0))), (2, .inl v2)]) (st' := [.inr (.inr (some a0))]) (by decide +kernel) rfl rfl ?_
  obtain ⟨o_76, h77, h⟩ := bd h
  refine xg_r E 12 21 h77 mw881 (show decode prog_14_method_47_code 140 = .ok (.getfield 58, 3) by decide +kernel) ?_
  refine xv_b E [.iload_n 2, .dup2] (pc' := 145) (lv' := [(0, .inr (.inr (some a0))), (2, .inl v2)]) (st' := [.inl v2, .inr (.inr o_76), .inl v2, .inr (.inr o_76)]) (by decide +kernel) rfl rfl ?_
  obtain ⟨v_78, h79, h⟩ := bd h
  refine xa_i E h79 (show decode prog_14_method_47_code 145 = .ok (.iaload, 1) by decide +kernel) ?_
  refine xv_b E [.iconst 1, .iadd] (pc' := 148) (lv' := [(0, .inr (.inr (some a0))), (2, .inl v2)]) (st' := [.inl (v_78 + (1 : Int32)), .inl v2, .inr (.inr o_76)]) (by decide +kernel) rfl rfl ?_
  obtain ⟨M80, h81, h⟩ := bd h
  refine xs_i E h81 (show decode prog_14_method_47_code 148 = .ok (.iastore, 1) by decide +kernel) ?_
  refine xv_b E [.aload_n 0] (pc' := 150) (lv' := [(0, .inr (.inr (some a0))), (2, .inl v2)]) (st' := [.inr (.inr (some a0))]) (by decide +kernel) rfl rfl ?_
  obtain ⟨o_82, h83, h⟩ := bd h
  refine xg_r E 12 21 h83 mw881 (show decode prog_14_method_47_code 150 = .ok (.getfield 58, 3) by decide +kernel) ?_
  refine xv_b E [.iload_n 2] (pc' := 154) (lv' := [(0, .inr (.inr (some a0))), (2, .inl v2)]) (st' := [.inl v2, .inr (.inr o_82)]) (by decide +kernel) rfl rfl ?_
  obtain ⟨v_84, h85, h⟩ := bd h
  refine xa_i E h85 (show decode prog_14_method_47_code 154 = .ok (.iaload, 1) by decide +kernel) ?_
  refine xv_b E [.bipush 25] (pc' := 157) (lv' := [(0, .inr (.inr (some a0))), (2, .inl v2)]) (st' := [.inl (25 : Int32), .inl v_84]) (by decide +kernel) rfl rfl ?_
  by_cases q100 : (25 : Int32) ≤ v_84
  · rw [if_pos q100] at h
    refine xv_icmp_ge E 161 (show decode prog_14_method_47_code 157 = .ok (.if_icmp .ge (4), 3) by decide +kernel) rfl (fun _ => ?_) (fun z => absurd q100 z)
    refine xv_b E [.aload_n 0] (pc' := 162) (lv' := [(0, .inr (.inr (some a0))), (2, .inl v2)]) (st' := [.inr (.inr (some a0))]) (by decide +kernel) rfl rfl ?_
    obtain ⟨o_86, h87, h⟩ := bd h
    refine xg_r E 12 4 h87 mw865 (show decode prog_14_method_47_code 162 = .ok (.getfield 7, 3) by decide +kernel) ?_
    refine xv_b E [.iconst 4, .dup2] (pc' := 167) (lv' := [(0, .inr (.inr (some a0))), (2, .inl v2)]) (st' := [.inl (4 : Int32), .inr (.inr o_86), .inl (4 : Int32), .inr (.inr o_86)]) (by decide +kernel) rfl rfl ?_
    obtain ⟨v_88, h89, h⟩ := bd h
    refine xa_i E h89 (show decode prog_14_method_47_code 167 = .ok (.iaload, 1) by decide +kernel) ?_
    refine xv_b E [.iconst 1, .iadd] (pc' := 170) (lv' := [(0, .inr (.inr (some a0))), (2, .inl v2)]) (st' := [.inl (v_88 + (1 : Int32)), .inl (4 : Int32), .inr (.inr o_86)]) (by decide +kernel) rfl rfl ?_
    obtain ⟨M90, h91, h⟩ := bd h
    refine xs_i E h91 (show decode prog_14_method_47_code 170 = .ok (.iastore, 1) by decide +kernel) ?_
    refine xv_b E [.aload_n 0, .aload_n 0, .iload_n 2] (pc' := 174) (lv' := [(0, .inr (.inr (some a0))), (2, .inl v2)]) (st' := [.inl v2, .inr (.inr (some a0)), .inr (.inr (some a0))]) (by decide +kernel) rfl rfl ?_
    obtain ⟨b_94, h95, h⟩ := bd h
    obtain ⟨eh95, th95⟩ := g_o_some h95
    obtain ⟨q_92, h93, h⟩ := bd h
    refine xv_cvo E eh95 12 (as := [.inl v2]) (t185 G l (c_I_some h93)) cd185 mw1121 mw1122 mw1123 (show decode prog_14_method_47_code 174 = .ok (.invokevirtual 325, 3) by decide +kernel) th95 rfl rfl (Nat.le_of_ble_eq_true rfl) ⟨Nat.le_of_ble_eq_true rfl, Nat.le_of_ble_eq_true rfl⟩ ?_
    obtain ⟨b_98, h99, h⟩ := bd h
    obtain ⟨eh99, th99⟩ := g_o_some h99
    obtain ⟨q_96, h97, h⟩ := bd h
    refine xv_cvo E eh99 12 (as := [.inl q_92.1]) (t171 G l (c_V_some h97)) cd171 mw975 mw976 mw977 (show decode prog_14_method_47_code 177 = .ok (.invokevirtual 224, 3) by decide +kernel) th99 rfl rfl (Nat.le_of_ble_eq_true rfl) ⟨Nat.le_of_ble_eq_true rfl, Nat.le_of_ble_eq_true rfl⟩ ?_
    obtain rfl := Option.some.inj h
    obtain ⟨rfl, rfl⟩ := Prod.mk.inj (show ((none : Option aV), q_96) = (r, M') from hN)
    exact xv_rv E B.1 B.2.1 (show decode prog_14_method_47_code 180 = .ok (.return_, 1) by decide +kernel) rfl rfl
  · rw [if_neg q100] at h
    refine xv_icmp_ge E 161 (show decode prog_14_method_47_code 157 = .ok (.if_icmp .ge (4), 3) by decide +kernel) rfl (fun z => absurd z q100) (fun _ => ?_)
    obtain rfl := Option.some.inj h
    obtain ⟨rfl, rfl⟩ := Prod.mk.inj (show ((none : Option aV), M80) = (r, M') from hN)
    exact xv_rv E B.1 B.2.1 (show decode prog_14_method_47_code 160 = .ok (.return_, 1) by decide +kernel) rfl rfl
theorem sb226_0 (E : xE G p (xRm 8 (h_sz M' - z0) (h_sl M' - y0)) s m args c prog_14_method_47_code "ZonedFabricModel" z0 y0 (h_sz M') (h_sl M') 7) (B : xB ym226 none meth) (a0 : Nat) (v1 : Int32) (v2 : Int32) (v3 : Int32) (v4 : Int32) (M : hM) {res : xRes} (h : b226_0 a0 v1 v2 v3 v4 M = some res) (hN : xN (fun _ _ _ => False) r M' res) : xV G p l e (xRm 8 (h_sz M' - z0) (h_sl M' - y0)) s m args below meth c z0 y0 (h_sz M') (h_sl M') 7 (MQ below (xQc G r M') args s (h_sz M' - z0) (h_sl M' - y0) (xFr G)) 0 [(0, .inr (.inr (some a0))), (1, .inl v1), (2, .inl v2), (3, .inl v3), (4, .inl v4)] [] M := by
  unfold b226_0 at h
  refine xv_b E [.aload_n 0, .iload_n 1, .iload_n 2, .iload_n 3, .iload 4] (pc' := 6) (lv' := [(0, .inr (.inr (some a0))), (1, .inl v1), (2, .inl v2), (3, .inl v3), (4, .inl v4)]) (st' := [.inl v4, .inl v3, .inl v2, .inl v1, .inr (.inr (some a0))]) (by decide +kernel) rfl rfl ?_
  obtain ⟨b_3, h4, h⟩ := bd h
  obtain ⟨eh4, th4⟩ := g_o_some h4
  obtain ⟨q_1, h2, h⟩ := bd h
  refine xv_cvo E eh4 12 (as := [.inl v1, .inl v2, .inl v3, .inl v4]) (t225 G l (c_I_some h2)) cd225 mw1165 mw1166 mw1167 (show decode prog_14_method_47_code 6 = .ok (.invokevirtual 342, 3) by decide +kernel) th4 rfl rfl (Nat.le_of_ble_eq_true rfl) ⟨Nat.le_of_ble_eq_true rfl, Nat.le_of_ble_eq_true rfl⟩ ?_
  refine xv_b E [.istore 5, .iload 5, .bipush 16] (pc' := 15) (lv' := [(5, .inl q_1.1), (0, .inr (.inr (some a0))), (1, .inl v1), (2, .inl v2), (3, .inl v3), (4, .inl v4)]) (st' := [.inl (16 : Int32), .inl q_1.1]) (by decide +kernel) rfl rfl ?_
  by_cases q75 : (16 : Int32) ≤ q_1.1
  · rw [if_pos q75] at h
    refine xv_icmp_ge E 39 (show decode prog_14_method_47_code 15 = .ok (.if_icmp .ge (24), 3) by decide +kernel) rfl (fun _ => ?_) (fun z => absurd q75 z)
    refine xv_b E [.aload_n 0, .iload_n 1, .iload 5, .bipush 16, .isub] (pc' := 46) (lv' := [(5, .inl q_1.1), (0, .inr (.inr (some a0))), (1, .inl v1), (2, .inl v2), (3, .inl v3), (4, .inl v4)]) (st' := [.inl (q_1.1 - (16 : Int32)), .inl v1, .inr (.inr (some a0))]) (by decide +kernel) rfl rfl ?_
    obtain ⟨b_7, h8, h⟩ := bd h
    obtain ⟨eh8, th8⟩ := g_o_some h8
    obtain ⟨q_5, h6, h⟩ := bd h
    refine xv_cvo E eh8 12 (as := [.inl v1, .inl (q_1.1 - (16 : Int32))]) (t175 G l (c_I_some h6)) cd175 mw1134 mw1135 mw1136 (show decode prog_14_method_47_code 46 = .ok (.invokevirtual 288, 3) by decide +kernel) th8 rfl rfl (Nat.le_of_ble_eq_true rfl) ⟨Nat.le_of_ble_eq_true rfl, Nat.le_of_ble_eq_true rfl⟩ ?_
    refine xv_b E [.istore 6, .aload_n 0] (pc' := 52) (lv' := [(6, .inl q_5.1), (5, .inl q_1.1), (0, .inr (.inr (some a0))), (1, .inl v1), (2, .inl v2), (3, .inl v3), (4, .inl v4)]) (st' := [.inr (.inr (some a0))]) (by decide +kernel) rfl rfl ?_
    obtain ⟨o_9, h10, h⟩ := bd h
    refine xg_r E 12 19 h10 mw879 (show decode prog_14_method_47_code 52 = .ok (.getfield 52, 3) by decide +kernel) ?_
    refine xv_b E [.iload 6] (pc' := 57) (lv' := [(6, .inl q_5.1), (5, .inl q_1.1), (0, .inr (.inr (some a0))), (1, .inl v1), (2, .inl v2), (3, .inl v3), (4, .inl v4)]) (st' := [.inl q_5.1, .inr (.inr o_9)]) (by decide +kernel) rfl rfl ?_
    obtain ⟨v_11, h12, h⟩ := bd h
    refine xa_i E h12 (show decode prog_14_method_47_code 57 = .ok (.iaload, 1) by decide +kernel) ?_
    by_cases q60 : v_11 = 0
    · rw [if_pos q60] at h
      refine xv_if_ne E 139 (show decode prog_14_method_47_code 58 = .ok (.ifCond .ne (81), 3) by decide +kernel) rfl (fun z => absurd q60 z) (fun _ => ?_)
      refine xv_b E [.aload_n 0, .iload 6] (pc' := 64) (lv' := [(6, .inl q_5.1), (5, .inl q_1.1), (0, .inr (.inr (some a0))), (1, .inl v1), (2, .inl v2), (3, .inl v3), (4, .inl v4)]) (st' := [.inl q_5.1, .inr (.inr (some a0))]) (by decide +kernel) rfl rfl ?_
      obtain ⟨b_15, h16, h⟩ := bd h
      obtain ⟨eh16, th16⟩ := g_o_some h16
      obtain ⟨q_13, h14, h⟩ := bd h
      refine xv_cvo E eh16 12 (as := [.inl q_5.1]) (t181 G l (c_I_some h14)) cd181 mw979 mw980 mw981 (show decode prog_14_method_47_code 64 = .ok (.invokevirtual 227, 3) by decide +kernel) th16 rfl rfl (Nat.le_of_ble_eq_true rfl) ⟨Nat.le_of_ble_eq_true rfl, Nat.le_of_ble_eq_true rfl⟩ ?_
      by_cases q59 : q_13.1 = 0
      · rw [if_pos q59] at h
        refine xv_if_eq E 139 (show decode prog_14_method_47_code 67 = .ok (.ifCond .eq (72), 3) by decide +kernel) rfl (fun _ => ?_) (fun z => absurd q59 z)
        exact xv_w (sb226_139 E B a0 v2 q_13.2 h hN) rfl
      · rw [if_neg q59] at h
        refine xv_if_eq E 139 (show decode prog_14_method_47_code 67 = .ok (.ifCond .eq (72), 3) by decide +kernel) rfl (fun z => absurd z q59) (fun _ => ?_)
        refine xv_b E [.aload_n 0, .iload_n 2] (pc' := 72) (lv' := [(6, .inl q_5.1), (5, .inl q_1.1), (0, .inr (.inr (some a0))), (1, .inl v1), (2, .inl v2), (3, .inl v3), (4, .inl v4)]) (st' := [.inl v2, .inr (.inr (some a0))]) (by decide +kernel) rfl rfl ?_
        obtain ⟨b_19, h20, h⟩ := bd h
        obtain ⟨eh20, th20⟩ := g_o_some h20
        obtain ⟨q_17, h18, h⟩ := bd h
        refine xv_cvo E eh20 12 (as := [.inl v2]) (t185 G l (c_I_some h18)) cd185 mw1121 mw1122 mw1123 (show decode prog_14_method_47_code 72 = .ok (.invokevirtual 325, 3) by decide +kernel) th20 rfl rfl (Nat.le_of_ble_eq_true rfl) ⟨Nat.le_of_ble_eq_true rfl, Nat.le_of_ble_eq_true rfl⟩ ?_
        refine xv_b E [.pop, .aload_n 0, .iload 6, .iload_n 3] (pc' := 80) (lv' := [(6, .inl q_5.1), (5, .inl q_1.1), (0, .inr (.inr (some a0))), (1, .inl v1), (2, .inl v2), (3, .inl v3), (4, .inl v4)]) (st' := [.inl v3, .inl q_5.1, .inr (.inr (some a0))]) (by decide +kernel) rfl rfl ?_
        obtain ⟨b_23, h24, h⟩ := bd h
        obtain ⟨eh24, th24⟩ := g_o_some h24
        obtain ⟨q_21, h22, h⟩ := bd h
        refine xv_cvo E eh24 12 (as := [.inl q_5.1, .inl v3]) (t182 G l (c_V_some h22)) cd182 mw982 mw983 mw984 (show decode prog_14_method_47_code 80 = .ok (.invokevirtual 230, 3) by decide +kernel) th24 rfl rfl (Nat.le_of_ble_eq_true rfl) ⟨Nat.le_of_ble_eq_true rfl, Nat.le_of_ble_eq_true rfl⟩ ?_
        refine xv_b E [.aload_n 0] (pc' := 84) (lv' := [(6, .inl q_5.1), (5, .inl q_1.1), (0, .inr (.inr (some a0))), (1, .inl v1), (2, .inl v2), (3, .inl v3), (4, .inl v4)]) (st' := [.inr (.inr (some a0))]) (by decide +kernel) rfl rfl ?_
        obtain ⟨o_25, h26, h⟩ := bd h
        refine xg_r E 12 4 h26 mw865 (show decode prog_14_method_47_code 84 = .ok (.getfield 7, 3) by decide +kernel) ?_
        refine xv_b E [.bipush 7, .dup2] (pc' := 90) (lv' := [(6, .inl q_5.1), (5, .inl q_1.1), (0, .inr (.inr (some a0))), (1, .inl v1), (2, .inl v2), (3, .inl v3), (4, .inl v4)]) (st' := [.inl (7 : Int32), .inr (.inr o_25), .inl (7 : Int32), .inr (.inr o_25)]) (by decide +kernel) rfl rfl ?_
        obtain ⟨v_27, h28, h⟩ := bd h
        refine xa_i E h28 (show decode prog_14_method_47_code 90 = .ok (.iaload, 1) by decide +kernel) ?_
        refine xv_b E [.iconst 1, .iadd] (pc' := 93) (lv' := [(6, .inl q_5.1), (5, .inl q_1.1), (0, .inr (.inr (some a0))), (1, .inl v1), (2, .inl v2), (3, .inl v3), (4, .inl v4)]) (st' := [.inl (v_27 + (1 : Int32)), .inl (7 : Int32), .inr (.inr o_25)]) (by decide +kernel) rfl rfl ?_
        obtain ⟨M29, h30, h⟩ := bd h
        refine xs_i E h30 (show decode prog_14_method_47_code 93 = .ok (.iastore, 1) by decide +kernel) ?_
        refine xv_b E [.aload_n 0, .iload 6] (pc' := 97) (lv' := [(6, .inl q_5.1), (5, .inl q_1.1), (0, .inr (.inr (some a0))), (1, .inl v1), (2, .inl v2), (3, .inl v3), (4, .inl v4)]) (st' := [.inl q_5.1, .inr (.inr (some a0))]) (by decide +kernel) rfl rfl ?_
        obtain ⟨b_33, h34, h⟩ := bd h
        obtain ⟨eh34, th34⟩ := g_o_some h34
        obtain ⟨q_31, h32, h⟩ := bd h
        refine xv_cvo E eh34 12 (as := [.inl q_5.1]) (t179 G l (c_I_some h32)) cd179 mw1154 mw1155 mw1156 (show decode prog_14_method_47_code 97 = .ok (.invokevirtual 303, 3) by decide +kernel) th34 rfl rfl (Nat.le_of_ble_eq_true rfl) ⟨Nat.le_of_ble_eq_true rfl, Nat.le_of_ble_eq_true rfl⟩ ?_
        refine xv_b E [.iconst (-1)] (pc' := 101) (lv' := [(6, .inl q_5.1), (5, .inl q_1.1), (0, .inr (.inr (some a0))), (1, .inl v1), (2, .inl v2), (3, .inl v3), (4, .inl v4)]) (st' := [.inl (-1 : Int32), .inl q_31.1]) (by decide +kernel) rfl rfl ?_
        by_cases q58 : q_31.1 = (-1 : Int32)
        · rw [if_pos q58] at h
          refine xv_icmp_eq E 138 (show decode prog_14_method_47_code 101 = .ok (.if_icmp .eq (37), 3) by decide +kernel) rfl (fun _ => ?_) (fun z => absurd q58 z)
          exact xv_w (sb226_138 E B  q_31.2 h hN) rfl
        · rw [if_neg q58] at h
          refine xv_icmp_eq E 138 (show decode prog_14_method_47_code 101 = .ok (.if_icmp .eq (37), 3) by decide +kernel) rfl (fun z => absurd z q58) (fun _ => ?_)
          refine xv_b E [.aload_n 0, .aload_n 0, .aload_n 0, .iload_n 3, .iconst 4, .iconst 3] (pc' := 110) (lv' := [(6, .inl q_5.1), (5, .inl q_1.1), (0, .inr (.inr (some a0))), (1, .inl v1), (2, .inl v2), (3, .inl v3), (4, .inl v4)]) (st' := [.inl (3 : Int32), .inl (4 : Int32), .inl v3, .inr (.inr (some a0)), .inr (.inr (some a0)), .inr (.inr (some a0))]) (by decide +kernel) rfl rfl ?_
          obtain ⟨b_37, h38, h⟩ := bd h
          obtain ⟨eh38, th38⟩ := g_o_some h38
          obtain ⟨q_35, h36, h⟩ := bd h
          refine xv_cvo E eh38 12 (as := [.inl v3, .inl (4 : Int32), .inl (3 : Int32)]) (t166 G l (c_I_some h36)) cd166 mw947 mw948 mw949 (show decode prog_14_method_47_code 110 = .ok (.invokevirtual 198, 3) by decide +kernel) th38 rfl rfl (Nat.le_of_ble_eq_true rfl) ⟨Nat.le_of_ble_eq_true rfl, Nat.le_of_ble_eq_true rfl⟩ ?_
          obtain ⟨b_41, h42, h⟩ := bd h
          obtain ⟨eh42, th42⟩ := g_o_some h42
          obtain ⟨q_39, h40, h⟩ := bd h
          refine xv_cvo E eh42 12 (as := [.inl q_35.1]) (t189 G l (c_I_some h40)) cd189 mw1074 mw1075 mw1076 (show decode prog_14_method_47_code 113 = .ok (.invokevirtual 309, 3) by decide +kernel) th42 rfl rfl (Nat.le_of_ble_eq_true rfl) ⟨Nat.le_of_ble_eq_true rfl, Nat.le_of_ble_eq_true rfl⟩ ?_
          refine xv_b E [.aload_n 0, .iload 6] (pc' := 119) (lv' := [(6, .inl q_5.1), (5, .inl q_1.1), (0, .inr (.inr (some a0))), (1, .inl v1), (2, .inl v2), (3, .inl v3), (4, .inl v4)]) (st' := [.inl q_5.1, .inr (.inr (some a0)), .inl q_39.1, .inr (.inr (some a0))]) (by decide +kernel) rfl rfl ?_
          obtain ⟨b_45, h46, h⟩ := bd h
          obtain ⟨eh46, th46⟩ := g_o_some h46
          obtain ⟨q_43, h44, h⟩ := bd h
          refine xv_cvo E eh46 12 (as := [.inl q_5.1]) (t179 G l (c_I_some h44)) cd179 mw1154 mw1155 mw1156 (show decode prog_14_method_47_code 119 = .ok (.invokevirtual 303, 3) by decide +kernel) th46 rfl rfl (Nat.le_of_ble_eq_true rfl) ⟨Nat.le_of_ble_eq_true rfl, Nat.le_of_ble_eq_true rfl⟩ ?_
          obtain ⟨b_49, h50, h⟩ := bd h
          obtain ⟨eh50, th50⟩ := g_o_some h50
          obtain ⟨q_47, h48, h⟩ := bd h
          refine xv_cvo E eh50 12 (as := [.inl q_39.1, .inl q_43.1]) (t188 G l (c_I_some h48)) cd188 mw1158 mw1159 mw1160 (show decode prog_14_method_47_code 122 = .ok (.invokevirtual 336, 3) by decide +kernel) th50 rfl rfl (Nat.le_of_ble_eq_true rfl) ⟨Nat.le_of_ble_eq_true rfl, Nat.le_of_ble_eq_true rfl⟩ ?_
          by_cases q57 : q_47.1 = 0
          · rw [if_pos q57] at h
            refine xv_if_ne E 138 (show decode prog_14_method_47_code 125 = .ok (.ifCond .ne (13), 3) by decide +kernel) rfl (fun z => absurd q57 z) (fun _ => ?_)
            refine xv_b E [.aload_n 0] (pc' := 129) (lv' := [(6, .inl q_5.1), (5, .inl q_1.1), (0, .inr (.inr (some a0))), (1, .inl v1), (2, .inl v2), (3, .inl v3), (4, .inl v4)]) (st' := [.inr (.inr (some a0))]) (by decide +kernel) rfl rfl ?_
            obtain ⟨o_51, h52, h⟩ := bd h
            refine xg_r E 12 5 h52 mw866 (show decode prog_14_method_47_code 129 = .ok (.getfield 13, 3) by decide +kernel) ?_
            refine xv_b E [.iconst 0, .dup2] (pc' := 134) (lv' := [(6, .inl q_5.1), (5, .inl q_1.1), (0, .inr (.inr (some a0))), (1, .inl v1), (2, .inl v2), (3, .inl v3), (4, .inl v4)]) (st' := [.inl (0 : Int32), .inr (.inr o_51), .inl (0 : Int32), .inr (.inr o_51)]) (by decide +kernel) rfl rfl ?_
            obtain ⟨v_53, h54, h⟩ := bd h
            refine xa_i E h54 (show decode prog_14_method_47_code 134 = .ok (.iaload, 1) by decide +kernel) ?_
            refine xv_b E [.iconst 1, .iadd] (pc' := 137) (lv' := [(6, .inl q_5.1), (5, .inl q_1.1), (0, .inr (.inr (some a0))), (1, .inl v1), (2, .inl v2), (3, .inl v3), (4, .inl v4)]) (st' := [.inl (v_53 + (1 : Int32)), .inl (0 : Int32), .inr (.inr o_51)]) (by decide +kernel) rfl rfl ?_
            obtain ⟨M55, h56, h⟩ := bd h
            refine xs_i E h56 (show decode prog_14_method_47_code 137 = .ok (.iastore, 1) by decide +kernel) ?_
            exact xv_w (sb226_138 E B  M55 h hN) rfl
          · rw [if_neg q57] at h
            refine xv_if_ne E 138 (show decode prog_14_method_47_code 125 = .ok (.ifCond .ne (13), 3) by decide +kernel) rfl (fun _ => ?_) (fun z => absurd z q57)
            exact xv_w (sb226_138 E B  q_47.2 h hN) rfl
    · rw [if_neg q60] at h
      refine xv_if_ne E 139 (show decode prog_14_method_47_code 58 = .ok (.ifCond .ne (81), 3) by decide +kernel) rfl (fun _ => ?_) (fun z => absurd z q60)
      exact xv_w (sb226_139 E B a0 v2 q_5.2 h hN) rfl
  · rw [if_neg q75] at h
    refine xv_icmp_ge E 39 (show decode prog_14_method_47_code 15 = .ok (.if_icmp .ge (24), 3) by decide +kernel) rfl (fun z => absurd z q75) (fun _ => ?_)
    refine xv_b E [.aload_n 0] (pc' := 19) (lv' := [(5, .inl q_1.1), (0, .inr (.inr (some a0))), (1, .inl v1), (2, .inl v2), (3, .inl v3), (4, .inl v4)]) (st' := [.inr (.inr (some a0))]) (by decide +kernel) rfl rfl ?_
    obtain ⟨o_61, h62, h⟩ := bd h
    refine xg_r E 12 4 h62 mw865 (show decode prog_14_method_47_code 19 = .ok (.getfield 7, 3) by decide +kernel) ?_
    refine xv_b E [.iload 5, .dup2] (pc' := 25) (lv' := [(5, .inl q_1.1), (0, .inr (.inr (some a0))), (1, .inl v1), (2, .inl v2), (3, .inl v3), (4, .inl v4)]) (st' := [.inl q_1.1, .inr (.inr o_61), .inl q_1.1, .inr (.inr o_61)]) (by decide +kernel) rfl rfl ?_
    obtain ⟨v_63, h64, h⟩ := bd h
    refine xa_i E h64 (show decode prog_14_method_47_code 25 = .ok (.iaload, 1) by decide +kernel) ?_
    refine xv_b E [.iconst 1, .iadd] (pc' := 28) (lv' := [(5, .inl q_1.1), (0, .inr (.inr (some a0))), (1, .inl v1), (2, .inl v2), (3, .inl v3), (4, .inl v4)]) (st' := [.inl (v_63 + (1 : Int32)), .inl q_1.1, .inr (.inr o_61)]) (by decide +kernel) rfl rfl ?_
    obtain ⟨M65, h66, h⟩ := bd h
    refine xs_i E h66 (show decode prog_14_method_47_code 28 = .ok (.iastore, 1) by decide +kernel) ?_
    refine xv_b E [.aload_n 0, .aload_n 0, .iload_n 2] (pc' := 32) (lv' := [(5, .inl q_1.1), (0, .inr (.inr (some a0))), (1, .inl v1), (2, .inl v2), (3, .inl v3), (4, .inl v4)]) (st' := [.inl v2, .inr (.inr (some a0)), .inr (.inr (some a0))]) (by decide +kernel) rfl rfl ?_
    obtain ⟨b_69, h70, h⟩ := bd h
    obtain ⟨eh70, th70⟩ := g_o_some h70
    obtain ⟨q_67, h68, h⟩ := bd h
    refine xv_cvo E eh70 12 (as := [.inl v2]) (t185 G l (c_I_some h68)) cd185 mw1121 mw1122 mw1123 (show decode prog_14_method_47_code 32 = .ok (.invokevirtual 325, 3) by decide +kernel) th70 rfl rfl (Nat.le_of_ble_eq_true rfl) ⟨Nat.le_of_ble_eq_true rfl, Nat.le_of_ble_eq_true rfl⟩ ?_
    obtain ⟨b_73, h74, h⟩ := bd h
    obtain ⟨eh74, th74⟩ := g_o_some h74
    obtain ⟨q_71, h72, h⟩ := bd h
    refine xv_cvo E eh74 12 (as := [.inl q_67.1]) (t171 G l (c_V_some h72)) cd171 mw975 mw976 mw977 (show decode prog_14_method_47_code 35 = .ok (.invokevirtual 224, 3) by decide +kernel) th74 rfl rfl (Nat.le_of_ble_eq_true rfl) ⟨Nat.le_of_ble_eq_true rfl, Nat.le_of_ble_eq_true rfl⟩ ?_
    obtain rfl := Option.some.inj h
    obtain ⟨rfl, rfl⟩ := Prod.mk.inj (show ((none : Option aV), q_71) = (r, M') from hN)
    exact xv_rv E B.1 B.2.1 (show decode prog_14_method_47_code 38 = .ok (.return_, 1) by decide +kernel) rfl rfl
end
theorem t226 (G : gX) (l : Launch) {as : List aV} {M : hM} {r : Option aV} {M' : hM} (h : f226 as M = some (r, M')) : xM G l ym226 prog_14_method_47_code 7 none 8 as M r M' := by
  unfold f226 at h
  split at h
  · have h := x_out_ok h
    refine xM_of (by decide) (Nat.le_of_ble_eq_true rfl) (lb226_0 G l _ _ _ _ _ M h) ?_
    intro p e s m args below meth c E B
    exact sb226_0 E B _ _ _ _ _ M h rfl
  · cases h
/-! ZFModel.addressOf(II)I -/
def ym227 : MethodName := ⟨"ZonedFabricModel", "addressOf", "(II)I"⟩
theorem cd227 : xCd ym227 prog_14_method_49_code 6 (some FieldType.int) 2 := ⟨mw1168, mw864, by decide, by decide, by decide +kernel⟩
def b227_0 (a0 : Nat) (v1 : Int32) (v2 : Int32) (M : hM) : Option xRes :=
  Option.bind (g_o M 12 (some a0)) fun b_3 =>
  Option.bind (c_V (f195 [.inr (.inr (some b_3)), .inl v1] M)) fun q_1 =>
  some (.inr (7, [.inr (.inr (some a0)), .inl v1, .inl v2, .inl (0 : Int32)], q_1))
def b227_132 (a0 : Nat) (v1 : Int32) (v2 : Int32) (v3 : Int32) (M : hM) : Option xRes :=
  some (.inr (7, [.inr (.inr (some a0)), .inl v1, .inl v2, .inl (v3 + (1 : Int32))], M))
def b227_7 (a0 : Nat) (v1 : Int32) (v2 : Int32) (v3 : Int32) (M : hM) : Option xRes :=
  Option.bind (g_i M 12 0 (some a0)) fun v_5 =>
  if v_5 ≤ v3 then
    (some (.inl (some (.inl (0 : Int32)), M)))
  else
    (Option.bind (g_r M 12 27 (some a0)) fun o_7 =>
    Option.bind (al_i M 22 o_7 (((5 : Int32) * v1) + v3)) fun v_9 =>
    if v_9 = 0 then
      (b227_132 a0 v1 v2 v3 M)
    else
      (Option.bind (g_o M 12 (some a0)) fun b_13 =>
      Option.bind (c_I (f197 [.inr (.inr (some b_13)), .inl v1, .inl v3] M)) fun q_11 =>
      if q_11.1 = 0 then
        (b227_132 a0 v1 v2 v3 q_11.2)
      else
        (Option.bind (g_o q_11.2 12 (some a0)) fun b_17 =>
        Option.bind (c_I (f199 [.inr (.inr (some b_17)), .inl v1, .inl v3] q_11.2)) fun q_15 =>
        if q_15.1 = 0 then
          (Option.bind (g_o q_15.2 12 (some a0)) fun b_21 =>
          Option.bind (c_I (f192 [.inr (.inr (some b_21)), .inl v1, .inl v3] q_15.2)) fun q_19 =>
          some (.inr (60, [.inr (.inr (some a0)), .inl v1, .inl v2, .inl v3, .inl q_19.1, .inl (0 : Int32)], q_19.2)))
        else
          (b227_132 a0 v1 v2 v3 q_15.2))))
def b227_60 (a0 : Nat) (v1 : Int32) (v2 : Int32) (v3 : Int32) (v4 : Int32) (v5 : Int32) (M : hM) : Option xRes :=
  Option.bind (g_o M 12 (some a0)) fun b_29 =>
  Option.bind (c_I (f190 [.inr (.inr (some b_29)), .inl v1, .inl v3, .inl (v4 - (1 : Int32))] M)) fun q_27 =>
  if q_27.1 ≤ v5 then
    (b227_132 a0 v1 v2 v3 q_27.2)
  else
    (Option.bind (g_o q_27.2 12 (some a0)) fun b_33 =>
    Option.bind (c_I (f190 [.inr (.inr (some b_33)), .inl v1, .inl v3, .inl (v4 + ((2 : Int32) * v5))] q_27.2)) fun q_31 =>
    if q_31.1 = v2 then
      (Option.bind (g_o q_31.2 12 (some a0)) fun b_37 =>
      Option.bind (c_I (f190 [.inr (.inr (some b_37)), .inl v1, .inl v3, .inl (4 : Int32)] q_31.2)) fun q_35 =>
      Option.bind (g_o q_35.2 12 (some a0)) fun b_41 =>
      Option.bind (c_I (f190 [.inr (.inr (some b_41)), .inl v1, .inl v3, .inl ((v4 + ((2 : Int32) * v5)) + (1 : Int32))] q_35.2)) fun q_39 =>
      some (.inl (some (.inl (((q_35.1 <<< ((16 : Int32) &&& 31)) ||| (q_39.1 <<< ((8 : Int32) &&& 31))) ||| (v2 + (1 : Int32)))), q_39.2)))
    else
      (some (.inr (60, [.inr (.inr (some a0)), .inl v1, .inl v2, .inl v3, .inl v4, .inl (v5 + (1 : Int32))], q_31.2))))
def k227 (h : Nat) (as : List aV) (M : hM) : Option xRes :=
  if h = 7 then (match as with | [.inr (.inr (some a0)), .inl v1, .inl v2, .inl v3] => b227_7 a0 v1 v2 v3 M | _ => none) else
  if h = 60 then (match as with | [.inr (.inr (some a0)), .inl v1, .inl v2, .inl v3, .inl v4, .inl v5] => b227_60 a0 v1 v2 v3 v4 v5 M | _ => none) else
  none
def f227 (as : List aV) (M : hM) : xO := match as with
  | [.inr (.inr (some a0)), .inl v1, .inl v2] => x_go k227 (b227_0 a0 v1 v2 M)
  | _ => none
theorem lb227_0 (G : gX) (l : Launch) (a0 : Nat) (v1 : Int32) (v2 : Int32) (M : hM) {res : xRes} (h : b227_0 a0 v1 v2 M = some res) : h_sz M ≤ r_sz res ∧ h_sl M ≤ r_sl res := by
  unfold b227_0 at h
  obtain ⟨b_3, h4, h⟩ := bd h
  obtain ⟨q_1, h2, h⟩ := bd h
  have eh2 := (t195 G l (c_V_some h2)).1
  obtain rfl := Option.some.inj h
  show h_sz M ≤ h_sz q_1 ∧ h_sl M ≤ h_sl q_1
  omega
theorem lb227_132 (G : gX) (l : Launch) (a0 : Nat) (v1 : Int32) (v2 : Int32) (v3 : Int32) (M : hM) {res : xRes} (h : b227_132 a0 v1 v2 v3 M = some res) : h_sz M ≤ r_sz res ∧ h_sl M ≤ r_sl res := by
  unfold b227_132 at h
  obtain rfl := Option.some.inj h
  show h_sz M ≤ h_sz M ∧ h_sl M ≤ h_sl M
  omega
theorem lb227_7 (G : gX) (l : Launch) (a0 : Nat) (v1 : Int32) (v2 : Int32) (v3 : Int32) (M : hM) {res : xRes} (h : b227_7 a0 v1 v2 v3 M = some res) : h_sz M ≤ r_sz res ∧ h_sl M ≤ r_sl res := by
  unfold b227_7 at h
  obtain ⟨v_5, h6, h⟩ := bd h
  by_cases q26 : v_5 ≤ v3
  · rw [if_pos q26] at h
    obtain rfl := Option.some.inj h
    show h_sz M ≤ h_sz M ∧ h_sl M ≤ h_sl M
    omega
  · rw [if_neg q26] at h
    obtain ⟨o_7, h8, h⟩ := bd h
    obtain ⟨v_9, h10, h⟩ := bd h
    by_cases q25 : v_9 = 0
    · rw [if_pos q25] at h
      have e := lb227_132 G l a0 v1 v2 v3 M h
      omega
    · rw [if_neg q25] at h
      obtain ⟨b_13, h14, h⟩ := bd h
      obtain ⟨q_11, h12, h⟩ := bd h
      have eh12 := (t197 G l (c_I_some h12)).1
      by_cases q24 : q_11.1 = 0
      · rw [if_pos q24] at h
        have e := lb227_132 G l a0 v1 v2 v3 q_11.2 h
        omega
      · rw [if_neg q24] at h
        obtain ⟨b_17, h18, h⟩ := bd h
        obtain ⟨q_15, h16, h⟩ := bd h
        have eh16 := (t199 G l (c_I_some h16)).1
        by_cases q23 : q_15.1 = 0
        · rw [if_pos q23] at h
          obtain ⟨b_21, h22, h⟩ := bd h
          obtain ⟨q_19, h20, h⟩ := bd h
          have eh20 := (t192 G l (c_I_some h20)).1
          obtain rfl := Option.some.inj h
          show h_sz M ≤ h_sz q_19.2 ∧ h_sl M ≤ h_sl q_19.2
          omega
        · rw [if_neg q23] at h
          have e := lb227_132 G l a0 v1 v2 v3 q_15.2 h
          omega
theorem lb227_60 (G : gX) (l : Launch) (a0 : Nat) (v1 : Int32) (v2 : Int32) (v3 : Int32) (v4 : Int32) (v5 : Int32) (M : hM) {res : xRes} (h : b227_60 a0 v1 v2 v3 v4 v5 M = some res) : h_sz M ≤ r_sz res ∧ h_sl M ≤ r_sl res := by
  unfold b227_60 at h
  obtain ⟨b_29, h30, h⟩ := bd h
  obtain ⟨q_27, h28, h⟩ := bd h
  have eh28 := (t190 G l (c_I_some h28)).1
  by_cases q44 : q_27.1 ≤ v5
  · rw [if_pos q44] at h
    have e := lb227_132 G l a0 v1 v2 v3 q_27.2 h
    omega
  · rw [if_neg q44] at h
    obtain ⟨b_33, h34, h⟩ := bd h
    obtain ⟨q_31, h32, h⟩ := bd h
    have eh32 := (t190 G l (c_I_some h32)).1
    by_cases q43 : q_31.1 = v2
    · rw [if_pos q43] at h
      obtain ⟨b_37, h38, h⟩ := bd h
      obtain ⟨q_35, h36, h⟩ := bd h
      have eh36 := (t190 G l (c_I_some h36)).1
      obtain ⟨b_41, h42, h⟩ := bd h
      obtain ⟨q_39, h40, h⟩ := bd h
      have eh40 := (t190 G l (c_I_some h40)).1
      obtain rfl := Option.some.inj h
      show h_sz M ≤ h_sz q_39.2 ∧ h_sl M ≤ h_sl q_39.2
      omega
    · rw [if_neg q43] at h
      obtain rfl := Option.some.inj h
      show h_sz M ≤ h_sz q_31.2 ∧ h_sl M ≤ h_sl q_31.2
      omega
section
variable {p : Program} {l : Launch} {e : Env} {s : State} {m : MethodId} {args : Array Value} {below : List Frame} {meth : Method} {c : Code} {G : gX} {z0 y0 : Nat} {r : Option aV} {M' : hM}
def pg227 (p : Program) (l : Launch) (e : Env) (s : State) (m : MethodId) (args : Array Value) (below : List Frame) (meth : Method) (c : Code) (G : gX) (z0 y0 : Nat) (r : Option aV) (M' : hM) (h : Nat) (as : List aV) (M : hM) : Prop :=
  if h = 7 then (match as with | [.inr (.inr (some a0)), .inl v1, .inl v2, .inl v3] => xV G p l e (xRm 6 (h_sz M' - z0) (h_sl M' - y0)) s m args below meth c z0 y0 (h_sz M') (h_sl M') 6 (MQ below (xQc G r M') args s (h_sz M' - z0) (h_sl M' - y0) (xFr G)) 7 [(0, .inr (.inr (some a0))), (1, .inl v1), (2, .inl v2), (3, .inl v3)] [] M | _ => False) else
  if h = 60 then (match as with | [.inr (.inr (some a0)), .inl v1, .inl v2, .inl v3, .inl v4, .inl v5] => xV G p l e (xRm 6 (h_sz M' - z0) (h_sl M' - y0)) s m args below meth c z0 y0 (h_sz M') (h_sl M') 6 (MQ below (xQc G r M') args s (h_sz M' - z0) (h_sl M' - y0) (xFr G)) 60 [(0, .inr (.inr (some a0))), (1, .inl v1), (2, .inl v2), (3, .inl v3), (4, .inl v4), (5, .inl v5)] [] M | _ => False) else
  False
theorem sb227_0 (E : xE G p (xRm 6 (h_sz M' - z0) (h_sl M' - y0)) s m args c prog_14_method_49_code "ZonedFabricModel" z0 y0 (h_sz M') (h_sl M') 6) (B : xB ym227 (some FieldType.int) meth) (a0 : Nat) (v1 : Int32) (v2 : Int32) (M : hM) {res : xRes} (h : b227_0 a0 v1 v2 M = some res) (hN : xN (pg227 p l e s m args below meth c G z0 y0 r M') r M' res) : xV G p l e (xRm 6 (h_sz M' - z0) (h_sl M' - y0)) s m args below meth c z0 y0 (h_sz M') (h_sl M') 6 (MQ below (xQc G r M') args s (h_sz M' - z0) (h_sl M' - y0) (xFr G)) 0 [(0, .inr (.inr (some a0))), (1, .inl v1), (2, .inl v2)] [] M := by
  unfold b227_0 at h
  refine xv_b E [.aload_n 0, .iload_n 1] (pc' := 2) (lv' := [(0, .inr (.inr (some a0))), (1, .inl v1), (2, .inl v2)]) (st' := [.inl v1, .inr (.inr (some a0))]) (by decide +kernel) rfl rfl ?_
  obtain ⟨b_3, h4, h⟩ := bd h
  obtain ⟨eh4, th4⟩ := g_o_some h4
  obtain ⟨q_1, h2, h⟩ := bd h
  refine xv_cvo E eh4 12 (as := [.inl v1]) (t195 G l (c_V_some h2)) cd195 mw1025 mw1026 mw1027 (show decode prog_14_method_49_code 2 = .ok (.invokevirtual 266, 3) by decide +kernel) th4 rfl rfl (Nat.le_of_ble_eq_true rfl) ⟨Nat.le_of_ble_eq_true rfl, Nat.le_of_ble_eq_true rfl⟩ ?_
  refine xv_b E [.iconst 0, .istore_n 3] (pc' := 7) (lv' := [(3, .inl (0 : Int32)), (0, .inr (.inr (some a0))), (1, .inl v1), (2, .inl v2)]) (st' := []) (by decide +kernel) rfl rfl ?_
  obtain rfl := Option.some.inj h
  exact xv_w hN rfl
theorem sb227_132 (E : xE G p (xRm 6 (h_sz M' - z0) (h_sl M' - y0)) s m args c prog_14_method_49_code "ZonedFabricModel" z0 y0 (h_sz M') (h_sl M') 6) (B : xB ym227 (some FieldType.int) meth) (a0 : Nat) (v1 : Int32) (v2 : Int32) (v3 : Int32) (M : hM) {res : xRes} (h : b227_132 a0 v1 v2 v3 M = some res) (hN : xN (pg227 p l e s m args below meth c G z0 y0 r M') r M' res) : xV G p l e (xRm 6 (h_sz M' - z0) (h_sl M' - y0)) s m args below meth c z0 y0 (h_sz M') (h_sl M') 6 (MQ below (xQc G r M') args s (h_sz M' - z0) (h_sl M' - y0) (xFr G)) 132 [(0, .inr (.inr (some a0))), (1, .inl v1), (2, .inl v2), (3, .inl v3)] [] M := by
  unfold b227_132 at h
  refine xv_b E [.iinc 3 1] (pc' := 135) (lv' := [(3, .inl (v3 + (1 : Int32))), (0, .inr (.inr (some a0))), (1, .inl v1), (2, .inl v2)]) (st' := []) (by decide +kernel) rfl rfl ?_
  refine xv_goto E 7 (show decode prog_14_method_49_code 135 = .ok (.goto (-128), 3) by decide +kernel) rfl ?_
  obtain rfl := Option.some.inj h
  exact xv_w hN rfl
theorem sb227_7 (E : xE G p (xRm 6 (h_sz M' - z0) (h_sl M' - y0)) s m args c prog_14_method_49_code "ZonedFabricModel" z0 y0 (h_sz M') (h_sl M') 6) (B : xB ym227 (some FieldType.int) meth) (a0 : Nat) (v1 : Int32) (v2 : Int32) (v3 : Int32) (M : hM) {res : xRes} (h : b227_7 a0 v1 v2 v3 M = some res) (hN : xN (pg227 p l e s m args below meth c G z0 y0 r M') r M' res) : xV G p l e (xRm 6 (h_sz M' - z0) (h_sl M' - y0)) s m args below meth c z0 y0 (h_sz M') (h_sl M') 6 (MQ below (xQc G r M') args s (h_sz M' - z0) (h_sl M' - y0) (xFr G)) 7 [(0, .inr (.inr (some a0))), (1, .inl v1), (2, .inl v2), (3, .inl v3)] [] M := by
  unfold b227_7 at h
  refine xv_b E [.iload_n 3, .aload_n 0] (pc' := 9) (lv' := [(0, .inr (.inr (some a0))), (1, .inl v1), (2, .inl v2), (3, .inl v3)]) (st' := [.inr (.inr (some a0)), .inl v3]) (by decide +kernel) rfl rfl ?_
  obtain ⟨v_5, h6, h⟩ := bd h
  refine xg_i E 12 0 h6 mw921 (show decode prog_14_method_49_code 9 = .ok (.getfield 173, 3) by decide +kernel) ?_
  by_cases q26 : v_5 ≤ v3
  · rw [if_pos q26] at h
    refine xv_icmp_ge E 138 (show decode prog_14_method_49_code 12 = .ok (.if_icmp .ge (126), 3) by decide +kernel) rfl (fun _ => ?_) (fun z => absurd q26 z)
    refine xv_b E [.iconst 0] (pc' := 139) (lv' := [(0, .inr (.inr (some a0))), (1, .inl v1), (2, .inl v2), (3, .inl v3)]) (st' := [.inl (0 : Int32)]) (by decide +kernel) rfl rfl ?_
    obtain rfl := Option.some.inj h
    obtain ⟨rfl, rfl⟩ := Prod.mk.inj (show ((some (.inl (0 : Int32)) : Option aV), M) = (r, M') from hN)
    exact xv_ri E B.1 rfl B.2.1 (show decode prog_14_method_49_code 139 = .ok (.ireturn, 1) by decide +kernel) rfl rfl
  · rw [if_neg q26] at h
    refine xv_icmp_ge E 138 (show decode prog_14_method_49_code 12 = .ok (.if_icmp .ge (126), 3) by decide +kernel) rfl (fun z => absurd z q26) (fun _ => ?_)
    refine xv_b E [.aload_n 0] (pc' := 16) (lv' := [(0, .inr (.inr (some a0))), (1, .inl v1), (2, .inl v2), (3, .inl v3)]) (st' := [.inr (.inr (some a0))]) (by decide +kernel) rfl rfl ?_
    obtain ⟨o_7, h8, h⟩ := bd h
    refine xg_r E 12 27 h8 mw887 (show decode prog_14_method_49_code 16 = .ok (.getfield 76, 3) by decide +kernel) ?_
    refine xv_b E [.iconst 5, .iload_n 1, .imul, .iload_n 3, .iadd] (pc' := 24) (lv' := [(0, .inr (.inr (some a0))), (1, .inl v1), (2, .inl v2), (3, .inl v3)]) (st' := [.inl (((5 : Int32) * v1) + v3), .inr (.inr o_7)]) (by decide +kernel) rfl rfl ?_
    obtain ⟨v_9, h10, h⟩ := bd h
    refine xa_z E h10 (show decode prog_14_method_49_code 24 = .ok (.baload, 1) by decide +kernel) ?_
    by_cases q25 : v_9 = 0
    · rw [if_pos q25] at h
      refine xv_if_eq E 132 (show decode prog_14_method_49_code 25 = .ok (.ifCond .eq (107), 3) by decide +kernel) rfl (fun _ => ?_) (fun z => absurd q25 z)
      exact xv_w (sb227_132 E B a0 v1 v2 v3 M h hN) rfl
    · rw [if_neg q25] at h
      refine xv_if_eq E 132 (show decode prog_14_method_49_code 25 = .ok (.ifCond .eq (107), 3) by decide +kernel) rfl (fun z => absurd z q25) (fun _ => ?_)
      refine xv_b E [.aload_n 0, .iload_n 1, .iload_n 3] (pc' := 31) (lv' := [(0, .inr (.inr (some a0))), (1, .inl v1), (2, .inl v2), (3, .inl v3)]) (st' := [.inl v3, .inl v1, .inr (.inr (some a0))]) (by decide +kernel) rfl rfl ?_
      obtain ⟨b_13, h14, h⟩ := bd h
      obtain ⟨eh14, th14⟩ := g_o_some h14
      obtain ⟨q_11, h12, h⟩ := bd h
      refine xv_cvo E eh14 12 (as := [.inl v1, .inl v3]) (t197 G l (c_I_some h12)) cd197 mw1021 mw1022 mw1023 (show decode prog_14_method_49_code 31 = .ok (.invokevirtual 263, 3) by decide +kernel) th14 rfl rfl (Nat.le_of_ble_eq_true rfl) ⟨Nat.le_of_ble_eq_true rfl, Nat.le_of_ble_eq_true rfl⟩ ?_
      by_cases q24 : q_11.1 = 0
      · rw [if_pos q24] at h
        refine xv_if_eq E 132 (show decode prog_14_method_49_code 34 = .ok (.ifCond .eq (98), 3) by decide +kernel) rfl (fun _ => ?_) (fun z => absurd q24 z)
        exact xv_w (sb227_132 E B a0 v1 v2 v3 q_11.2 h hN) rfl
      · rw [if_neg q24] at h
        refine xv_if_eq E 132 (show decode prog_14_method_49_code 34 = .ok (.ifCond .eq (98), 3) by decide +kernel) rfl (fun z => absurd z q24) (fun _ => ?_)
        refine xv_b E [.aload_n 0, .iload_n 1, .iload_n 3] (pc' := 40) (lv' := [(0, .inr (.inr (some a0))), (1, .inl v1), (2, .inl v2), (3, .inl v3)]) (st' := [.inl v3, .inl v1, .inr (.inr (some a0))]) (by decide +kernel) rfl rfl ?_
        obtain ⟨b_17, h18, h⟩ := bd h
        obtain ⟨eh18, th18⟩ := g_o_some h18
        obtain ⟨q_15, h16, h⟩ := bd h
        refine xv_cvo E eh18 12 (as := [.inl v1, .inl v3]) (t199 G l (c_I_some h16)) cd199 mw1028 mw1029 mw1030 (show decode prog_14_method_49_code 40 = .ok (.invokevirtual 268, 3) by decide +kernel) th18 rfl rfl (Nat.le_of_ble_eq_true rfl) ⟨Nat.le_of_ble_eq_true rfl, Nat.le_of_ble_eq_true rfl⟩ ?_
        by_cases q23 : q_15.1 = 0
        · rw [if_pos q23] at h
          refine xv_if_eq E 49 (show decode prog_14_method_49_code 43 = .ok (.ifCond .eq (6), 3) by decide +kernel) rfl (fun _ => ?_) (fun z => absurd q23 z)
          refine xv_b E [.aload_n 0, .iload_n 1, .iload_n 3] (pc' := 52) (lv' := [(0, .inr (.inr (some a0))), (1, .inl v1), (2, .inl v2), (3, .inl v3)]) (st' := [.inl v3, .inl v1, .inr (.inr (some a0))]) (by decide +kernel) rfl rfl ?_
          obtain ⟨b_21, h22, h⟩ := bd h
          obtain ⟨eh22, th22⟩ := g_o_some h22
          obtain ⟨q_19, h20, h⟩ := bd h
          refine xv_cvo E eh22 12 (as := [.inl v1, .inl v3]) (t192 G l (c_I_some h20)) cd192 mw1169 mw1170 mw1171 (show decode prog_14_method_49_code 52 = .ok (.invokevirtual 349, 3) by decide +kernel) th22 rfl rfl (Nat.le_of_ble_eq_true rfl) ⟨Nat.le_of_ble_eq_true rfl, Nat.le_of_ble_eq_true rfl⟩ ?_
          refine xv_b E [.istore 4, .iconst 0, .istore 5] (pc' := 60) (lv' := [(5, .inl (0 : Int32)), (4, .inl q_19.1), (0, .inr (.inr (some a0))), (1, .inl v1), (2, .inl v2), (3, .inl v3)]) (st' := []) (by decide +kernel) rfl rfl ?_
          obtain rfl := Option.some.inj h
          exact xv_w hN rfl
        · rw [if_neg q23] at h
          refine xv_if_eq E 49 (show decode prog_14_method_49_code 43 = .ok (.ifCond .eq (6), 3) by decide +kernel) rfl (fun z => absurd z q23) (fun _ => ?_)
          refine xv_goto E 132 (show decode prog_14_method_49_code 46 = .ok (.goto (86), 3) by decide +kernel) rfl ?_
          exact xv_w (sb227_132 E B a0 v1 v2 v3 q_15.2 h hN) rfl
theorem sb227_60 (E : xE G p (xRm 6 (h_sz M' - z0) (h_sl M' - y0)) s m args c prog_14_method_49_code "ZonedFabricModel" z0 y0 (h_sz M') (h_sl M') 6) (B : xB ym227 (some FieldType.int) meth) (a0 : Nat) (v1 : Int32) (v2 : Int32) (v3 : Int32) (v4 : Int32) (v5 : Int32) (M : hM) {res : xRes} (h : b227_60 a0 v1 v2 v3 v4 v5 M = some res) (hN : xN (pg227 p l e s m args below meth c G z0 y0 r M') r M' res) : xV G p l e (xRm 6 (h_sz M' - z0) (h_sl M' - y0)) s m args below meth c z0 y0 (h_sz M') (h_sl M') 6 (MQ below (xQc G r M') args s (h_sz M' - z0) (h_sl M' - y0) (xFr G)) 60 [(0, .inr (.inr (some a0))), (1, .inl v1), (2, .inl v2), (3, .inl v3), (4, .inl v4), (5, .inl v5)] [] M := by
  unfold b227_60 at h
  refine xv_b E [.iload 5, .aload_n 0, .iload_n 1, .iload_n 3, .iload 4, .iconst 1, .isub] (pc' := 69) (lv' := [(0, .inr (.inr (some a0))), (1, .inl v1), (2, .inl v2), (3, .inl v3), (4, .inl v4), (5, .inl v5)]) (st' := [.inl (v4 - (1 : Int32)), .inl v3, .inl v1, .inr (.inr (some a0)), .inl v5]) (by decide +kernel) rfl rfl ?_
  obtain ⟨b_29, h30, h⟩ := bd h
  obtain ⟨eh30, th30⟩ := g_o_some h30
  obtain ⟨q_27, h28, h⟩ := bd h
  refine xv_cvo E eh30 12 (as := [.inl v1, .inl v3, .inl (v4 - (1 : Int32))]) (t190 G l (c_I_some h28)) cd190 mw996 mw997 mw998 (show decode prog_14_method_49_code 69 = .ok (.invokevirtual 241, 3) by decide +kernel) th30 rfl rfl (Nat.le_of_ble_eq_true rfl) ⟨Nat.le_of_ble_eq_true rfl, Nat.le_of_ble_eq_true rfl⟩ ?_
  by_cases q44 : q_27.1 ≤ v5
  · rw [if_pos q44] at h
    refine xv_icmp_ge E 132 (show decode prog_14_method_49_code 72 = .ok (.if_icmp .ge (60), 3) by decide +kernel) rfl (fun _ => ?_) (fun z => absurd q44 z)
    exact xv_w (sb227_132 E B a0 v1 v2 v3 q_27.2 h hN) rfl
  · rw [if_neg q44] at h
    refine xv_icmp_ge E 132 (show decode prog_14_method_49_code 72 = .ok (.if_icmp .ge (60), 3) by decide +kernel) rfl (fun z => absurd z q44) (fun _ => ?_)
    refine xv_b E [.aload_n 0, .iload_n 1, .iload_n 3, .iload 4, .iconst 2, .iload 5, .imul, .iadd] (pc' := 85) (lv' := [(0, .inr (.inr (some a0))), (1, .inl v1), (2, .inl v2), (3, .inl v3), (4, .inl v4), (5, .inl v5)]) (st' := [.inl (v4 + ((2 : Int32) * v5)), .inl v3, .inl v1, .inr (.inr (some a0))]) (by decide +kernel) rfl rfl ?_
    obtain ⟨b_33, h34, h⟩ := bd h
    obtain ⟨eh34, th34⟩ := g_o_some h34
    obtain ⟨q_31, h32, h⟩ := bd h
    refine xv_cvo E eh34 12 (as := [.inl v1, .inl v3, .inl (v4 + ((2 : Int32) * v5))]) (t190 G l (c_I_some h32)) cd190 mw996 mw997 mw998 (show decode prog_14_method_49_code 85 = .ok (.invokevirtual 241, 3) by decide +kernel) th34 rfl rfl (Nat.le_of_ble_eq_true rfl) ⟨Nat.le_of_ble_eq_true rfl, Nat.le_of_ble_eq_true rfl⟩ ?_
    refine xv_b E [.iload_n 2] (pc' := 89) (lv' := [(0, .inr (.inr (some a0))), (1, .inl v1), (2, .inl v2), (3, .inl v3), (4, .inl v4), (5, .inl v5)]) (st' := [.inl v2, .inl q_31.1]) (by decide +kernel) rfl rfl ?_
    by_cases q43 : q_31.1 = v2
    · rw [if_pos q43] at h
      refine xv_icmp_ne E 126 (show decode prog_14_method_49_code 89 = .ok (.if_icmp .ne (37), 3) by decide +kernel) rfl (fun z => absurd q43 z) (fun _ => ?_)
      refine xv_b E [.aload_n 0, .iload_n 1, .iload_n 3, .iconst 4] (pc' := 96) (lv' := [(0, .inr (.inr (some a0))), (1, .inl v1), (2, .inl v2), (3, .inl v3), (4, .inl v4), (5, .inl v5)]) (st' := [.inl (4 : Int32), .inl v3, .inl v1, .inr (.inr (some a0))]) (by decide +kernel) rfl rfl ?_
      obtain ⟨b_37, h38, h⟩ := bd h
      obtain ⟨eh38, th38⟩ := g_o_some h38
      obtain ⟨q_35, h36, h⟩ := bd h
      refine xv_cvo E eh38 12 (as := [.inl v1, .inl v3, .inl (4 : Int32)]) (t190 G l (c_I_some h36)) cd190 mw996 mw997 mw998 (show decode prog_14_method_49_code 96 = .ok (.invokevirtual 241, 3) by decide +kernel) th38 rfl rfl (Nat.le_of_ble_eq_true rfl) ⟨Nat.le_of_ble_eq_true rfl, Nat.le_of_ble_eq_true rfl⟩ ?_
      refine xv_b E [.bipush 16, .ishl, .aload_n 0, .iload_n 1, .iload_n 3, .iload 4, .iconst 2, .iload 5, .imul, .iadd, .iconst 1, .iadd] (pc' := 114) (lv' := [(0, .inr (.inr (some a0))), (1, .inl v1), (2, .inl v2), (3, .inl v3), (4, .inl v4), (5, .inl v5)]) (st' := [.inl ((v4 + ((2 : Int32) * v5)) + (1 : Int32)), .inl v3, .inl v1, .inr (.inr (some a0)), .inl (q_35.1 <<< ((16 : Int32) &&& 31))]) (by decide +kernel) rfl rfl ?_
      obtain ⟨b_41, h42, h⟩ := bd h
      obtain ⟨eh42, th42⟩ := g_o_some h42
      obtain ⟨q_39, h40, h⟩ := bd h
      refine xv_cvo E eh42 12 (as := [.inl v1, .inl v3, .inl ((v4 + ((2 : Int32) * v5)) + (1 : Int32))]) (t190 G l (c_I_some h40)) cd190 mw996 mw997 mw998 (show decode prog_14_method_49_code 114 = .ok (.invokevirtual 241, 3) by decide +kernel) th42 rfl rfl (Nat.le_of_ble_eq_true rfl) ⟨Nat.le_of_ble_eq_true rfl, Nat.le_of_ble_eq_true rfl⟩ ?_
      refine xv_b E [.bipush 8, .ishl, .ior, .iload_n 2, .iconst 1, .iadd, .ior] (pc' := 125) (lv' := [(0, .inr (.inr (some a0))), (1, .inl v1), (2, .inl v2), (3, .inl v3), (4, .inl v4), (5, .inl v5)]) (st' := [.inl (((q_35.1 <<< ((16 : Int32) &&& 31)) ||| (q_39.1 <<< ((8 : Int32) &&& 31))) ||| (v2 + (1 : Int32)))]) (by decide +kernel) rfl rfl ?_
      obtain rfl := Option.some.inj h
      obtain ⟨rfl, rfl⟩ := Prod.mk.inj (show ((some (.inl (((q_35.1 <<< ((16 : Int32) &&& 31)) ||| (q_39.1 <<< ((8 : Int32) &&& 31))) ||| (v2 + (1 : Int32)))) : Option aV), q_39.2) = (r, M') from hN)
      exact xv_ri E B.1 rfl B.2.1 (show decode prog_14_method_49_code 125 = .ok (.ireturn, 1) by decide +kernel) rfl rfl
    · rw [if_neg q43] at h
      refine xv_icmp_ne E 126 (show decode prog_14_method_49_code 89 = .ok (.if_icmp .ne (37), 3) by decide +kernel) rfl (fun _ => ?_) (fun z => absurd z q43)
      refine xv_b E [.iinc 5 1] (pc' := 129) (lv' := [(5, .inl (v5 + (1 : Int32))), (0, .inr (.inr (some a0))), (1, .inl v1), (2, .inl v2), (3, .inl v3), (4, .inl v4)]) (st' := []) (by decide +kernel) rfl rfl ?_
      refine xv_goto E 60 (show decode prog_14_method_49_code 129 = .ok (.goto (-69), 3) by decide +kernel) rfl ?_
      obtain rfl := Option.some.inj h
      exact xv_w hN rfl
end
theorem t227 (G : gX) (l : Launch) {as : List aV} {M : hM} {r : Option aV} {M' : hM} (h : f227 as M = some (r, M')) : xM G l ym227 prog_14_method_49_code 6 (some FieldType.int) 6 as M r M' := by
  unfold f227 at h
  split at h
  · have hle : ∀ h as M res, k227 h as M = some res → h_sz M ≤ r_sz res ∧ h_sl M ≤ r_sl res := by
      intro h as M res hb
      unfold k227 at hb
      by_cases e0 : h = 7
      · rw [if_pos e0] at hb
        split at hb
        · exact lb227_7 G l _ _ _ _ M hb
        · cases hb
      · rw [if_neg e0] at hb
        by_cases e1 : h = 60
        · rw [if_pos e1] at hb
          split at hb
          · exact lb227_60 G l _ _ _ _ _ _ M hb
          · cases hb
        · rw [if_neg e1] at hb
          cases hb
    obtain ⟨res, hx, hres⟩ := x_go_ok h
    refine xM_of (by decide) (Nat.le_of_ble_eq_true rfl) ?_ ?_
    · have e1 := lb227_0 G l _ _ _ M hx
      have e2 := x_go_le hle hres
      omega
    · intro p e s m args below meth c E B
      refine sb227_0 E B _ _ _ M hx (hres _ ?_)
      intro h as M res hb hN
      unfold k227 at hb
      unfold pg227
      by_cases e0 : h = 7
      · rw [if_pos e0] at hb ⊢
        split at hb
        · exact sb227_7 E B _ _ _ _ M hb hN
        · cases hb
      · rw [if_neg e0] at hb ⊢
        by_cases e1 : h = 60
        · rw [if_pos e1] at hb ⊢
          split at hb
          · exact sb227_60 E B _ _ _ _ _ _ M hb hN
          · cases hb
        · rw [if_neg e1] at hb ⊢
          cases hb
  · cases h
/-! ZFModel.taken(IIII)V -/
def ym228 : MethodName := ⟨"ZonedFabricModel", "taken", "(IIII)V"⟩
theorem cd228 : xCd ym228 prog_14_method_48_code 9 none 4 := ⟨mw1172, mw864, by decide, by decide, by decide +kernel⟩
def b228_167  (M : hM) : Option xRes :=
  some (.inl (none, M))
def b228_164 (a0 : Nat) (v1 : Int32) (v2 : Int32) (v3 : Int32) (v7 : Int32) (si0 : Int32) (si1 : Int32) (M : hM) : Option xRes :=
  if si0 < si1 then
    (Option.bind (g_r M 12 27 (some a0)) fun o_54 =>
    Option.bind (as_z M 22 o_54 (((5 : Int32) * v1) + v7) (1 : Int32)) fun M56 =>
    Option.bind (g_r M56 12 28 (some a0)) fun o_58 =>
    Option.bind (g_i M56 12 3 (some a0)) fun v_60 =>
    Option.bind (as_i M56 20 o_58 (((5 : Int32) * v1) + v7) v_60) fun M62 =>
    Option.bind (g_r M62 12 30 (some a0)) fun o_64 =>
    Option.bind (g_r M62 12 7 (some a0)) fun o_66 =>
    Option.bind (al_i M62 20 o_66 v3) fun v_68 =>
    Option.bind (as_i M62 20 o_64 (((5 : Int32) * v1) + v7) (v_68 - (17 : Int32))) fun M70 =>
    some (.inr (218, [.inr (.inr (some a0)), .inl v1, .inl v2, .inl v3, .inl v7, .inl (0 : Int32)], M70)))
  else
    (b228_167  M)
def b228_405 (a0 : Nat) (M : hM) : Option xRes :=
  Option.bind (g_r M 12 4 (some a0)) fun o_156 =>
  Option.bind (al_i M 20 o_156 (2 : Int32)) fun v_158 =>
  Option.bind (as_i M 20 o_156 (2 : Int32) (v_158 + (1 : Int32))) fun M160 =>
  some (.inl (none, M160))
def b228_483  (M : hM) : Option xRes :=
  some (.inl (none, M))
def b228_472 (a0 : Nat) (v2 : Int32) (v8 : Int32) (sl0 : Int64) (si1 : Int32) (sr2 : Option Nat) (M : hM) : Option xRes :=
  Option.bind (g_o M 12 sr2) fun b_164 =>
  Option.bind (c_V (f167 [.inr (.inr (some b_164)), .inl si1, .inr (.inl sl0), .inl (3 : Int32)] M)) fun q_162 =>
  Option.bind (g_o q_162 12 (some a0)) fun b_168 =>
  Option.bind (c_V (f183 [.inr (.inr (some b_168)), .inl v2, .inl v8] q_162)) fun q_166 =>
  b228_483  q_166
def b228_360 (a0 : Nat) (v1 : Int32) (v2 : Int32) (v3 : Int32) (v4 : Int32) (v5 : Int32) (v6 : Int32) (v7 : Int32) (M : hM) : Option xRes :=
  if v5 = (5 : Int32) then
    (if v4 = (16777212 : Int32) then
      (if v6 = (-1 : Int32) then
        (b228_483  M)
      else
        (Option.bind (g_r M 12 25 (some a0)) fun o_118 =>
        Option.bind (al_i M 20 o_118 v2) fun v_120 =>
        if v_120 = 0 then
          (b228_405 a0 M)
        else
          (Option.bind (g_o M 12 (some a0)) fun b_124 =>
          Option.bind (c_I (f166 [.inr (.inr (some b_124)), .inl v3, .inl (4 : Int32), .inl (3 : Int32)] M)) fun q_122 =>
          Option.bind (g_r q_122.2 12 25 (some a0)) fun o_126 =>
          Option.bind (al_i q_122.2 20 o_126 v2) fun v_128 =>
          if q_122.1 = v_128 then
            (Option.bind (g_r q_122.2 12 25 (some a0)) fun o_130 =>
            Option.bind (al_i q_122.2 20 o_130 v2) fun v_132 =>
            Option.bind (g_o q_122.2 12 (some a0)) fun b_136 =>
            Option.bind (c_I (f168 [.inr (.inr (some b_136)), .inl (6 : Int32), .inl v_132, .inl (16777212 : Int32), .inl (0 : Int32), .inl (0 : Int32), .inl (0 : Int32)] q_122.2)) fun q_134 =>
            Option.bind (g_o q_134.2 12 (some a0)) fun b_140 =>
            Option.bind (c_V (f167 [.inr (.inr (some b_140)), .inl q_134.1, .inr (.inl (Int32.toInt64 v7)), .inl (1 : Int32)] q_134.2)) fun q_138 =>
            Option.bind (g_o q_138 12 (some a0)) fun b_144 =>
            Option.bind (c_I (f188 [.inr (.inr (some b_144)), .inl v6, .inl v7] q_138)) fun q_142 =>
            if q_142.1 = 0 then
              (b228_472 a0 v2 q_134.1 (0 : Int64) q_134.1 (some a0) q_142.2)
            else
              (Option.bind (g_o q_142.2 12 (some a0)) fun b_148 =>
              Option.bind (c_I (f227 [.inr (.inr (some b_148)), .inl v1, .inl v7] q_142.2)) fun q_146 =>
              b228_472 a0 v2 q_134.1 (Int32.toInt64 q_146.1) q_134.1 (some a0) q_146.2))
          else
            (b228_405 a0 q_122.2))))
    else
      (b228_483  M))
  else
    (b228_483  M)
def b228_276 (a0 : Nat) (v1 : Int32) (v2 : Int32) (v3 : Int32) (v4 : Int32) (v5 : Int32) (v6 : Int32) (v7 : Int32) (M : hM) : Option xRes :=
  if v5 = (3 : Int32) then
    (if v4 = (16777214 : Int32) then
      (if v6 = (-1 : Int32) then
        (b228_360 a0 v1 v2 v3 v4 v5 v6 v7 M)
      else
        (Option.bind (g_o M 12 (some a0)) fun b_92 =>
        Option.bind (c_I (f200 [.inr (.inr (some b_92)), .inl v1] M)) fun q_90 =>
        if q_90.1 = 0 then
          (Option.bind (g_r q_90.2 12 25 (some a0)) fun o_94 =>
          Option.bind (g_r q_90.2 12 26 (some a0)) fun o_96 =>
          Option.bind (al_i q_90.2 20 o_96 v1) fun v_98 =>
          Option.bind (as_i q_90.2 20 o_94 v2 (((v_98 <<< ((16 : Int32) &&& 31)) ||| ((v2 - ((8 : Int32) * v1)) <<< ((8 : Int32) &&& 31))) ||| (v6 + (1 : Int32)))) fun M100 =>
          Option.bind (g_r M100 12 25 (some a0)) fun o_102 =>
          Option.bind (al_i M100 20 o_102 v2) fun v_104 =>
          Option.bind (g_o M100 12 (some a0)) fun b_108 =>
          Option.bind (c_I (f168 [.inr (.inr (some b_108)), .inl (4 : Int32), .inl v_104, .inl (16777214 : Int32), .inl (0 : Int32), .inl (0 : Int32), .inl (0 : Int32)] M100)) fun q_106 =>
          Option.bind (g_o q_106.2 12 (some a0)) fun b_112 =>
          Option.bind (c_V (f183 [.inr (.inr (some b_112)), .inl v2, .inl q_106.1] q_106.2)) fun q_110 =>
          b228_483  q_110)
        else
          (some (.inl (none, q_90.2)))))
    else
      (b228_360 a0 v1 v2 v3 v4 v5 v6 v7 M))
  else
    (b228_360 a0 v1 v2 v3 v4 v5 v6 v7 M)
def b228_105 (a0 : Nat) (v1 : Int32) (v2 : Int32) (v3 : Int32) (v4 : Int32) (v5 : Int32) (v6 : Int32) (v7 : Int32) (M : hM) : Option xRes :=
  if v5 = (2 : Int32) then
    (if v4 = (16777213 : Int32) then
      (if v6 = (-1 : Int32) then
        (if v7 = v1 then
          (b228_167  M)
        else
          (Option.bind (g_o M 12 (some a0)) fun b_39 =>
          Option.bind (c_I (f166 [.inr (.inr (some b_39)), .inl v3, .inl (14 : Int32), .inl (3 : Int32)] M)) fun q_37 =>
          Option.bind (g_r q_37.2 12 27 (some a0)) fun o_41 =>
          Option.bind (al_i q_37.2 22 o_41 (((5 : Int32) * v1) + v7)) fun v_43 =>
          if v_43 = 0 then
            (b228_164 a0 v1 v2 v3 v7 (0 : Int32) q_37.1 q_37.2)
          else
            (Option.bind (g_o q_37.2 12 (some a0)) fun b_47 =>
            Option.bind (c_I (f191 [.inr (.inr (some b_47)), .inl v1, .inl v7] q_37.2)) fun q_45 =>
            b228_164 a0 v1 v2 v3 v7 q_45.1 q_37.1 q_45.2)))
      else
        (b228_276 a0 v1 v2 v3 v4 v5 v6 v7 M))
    else
      (b228_276 a0 v1 v2 v3 v4 v5 v6 v7 M))
  else
    (b228_276 a0 v1 v2 v3 v4 v5 v6 v7 M)
def b228_0 (a0 : Nat) (v1 : Int32) (v2 : Int32) (v3 : Int32) (v4 : Int32) (M : hM) : Option xRes :=
  Option.bind (g_o M 12 (some a0)) fun b_3 =>
  Option.bind (c_I (f165 [.inr (.inr (some b_3)), .inl v3, .inl (0 : Int32)] M)) fun q_1 =>
  Option.bind (g_o q_1.2 12 (some a0)) fun b_7 =>
  Option.bind (c_I (f179 [.inr (.inr (some b_7)), .inl v2] q_1.2)) fun q_5 =>
  Option.bind (g_o q_5.2 12 (some a0)) fun b_11 =>
  Option.bind (c_I (f165 [.inr (.inr (some b_11)), .inl v3, .inl (13 : Int32)] q_5.2)) fun q_9 =>
  if q_1.1 = (1 : Int32) then
    (if v4 = (16777213 : Int32) then
      (if q_5.1 = (-1 : Int32) then
        (Option.bind (g_r q_9.2 12 23 (some a0)) fun o_13 =>
        Option.bind (as_i q_9.2 20 o_13 v2 q_9.1) fun M15 =>
        some (.inr (55, [.inr (.inr (some a0)), .inl v1, .inl v2, .inl (0 : Int32)], M15)))
      else
        (b228_105 a0 v1 v2 v3 v4 q_1.1 q_5.1 q_9.1 q_9.2))
    else
      (b228_105 a0 v1 v2 v3 v4 q_1.1 q_5.1 q_9.1 q_9.2))
  else
    (b228_105 a0 v1 v2 v3 v4 q_1.1 q_5.1 q_9.1 q_9.2)
def b228_96 (a0 : Nat) (v1 : Int32) (v2 : Int32) (v8 : Int32) (M : hM) : Option xRes :=
  some (.inr (55, [.inr (.inr (some a0)), .inl v1, .inl v2, .inl (v8 + (1 : Int32))], M))
def b228_55 (a0 : Nat) (v1 : Int32) (v2 : Int32) (v8 : Int32) (M : hM) : Option xRes :=
  Option.bind (g_i M 12 0 (some a0)) fun v_20 =>
  if v_20 ≤ v8 then
    (b228_483  M)
  else
    (if v8 = v1 then
      (b228_96 a0 v1 v2 v8 M)
    else
      (Option.bind (g_r M 12 27 (some a0)) fun o_22 =>
      Option.bind (al_i M 22 o_22 (((5 : Int32) * v1) + v8)) fun v_24 =>
      if v_24 = 0 then
        (b228_96 a0 v1 v2 v8 M)
      else
        (Option.bind (g_o M 12 (some a0)) fun b_28 =>
        Option.bind (c_I (f202 [.inr (.inr (some b_28)), .inl v1, .inl v8] M)) fun q_26 =>
        Option.bind (g_o q_26.2 12 (some a0)) fun b_32 =>
        Option.bind (c_V (f183 [.inr (.inr (some b_32)), .inl v2, .inl q_26.1] q_26.2)) fun q_30 =>
        b228_96 a0 v1 v2 v8 q_30)))
def b228_218 (a0 : Nat) (v1 : Int32) (v2 : Int32) (v3 : Int32) (v7 : Int32) (v8 : Int32) (M : hM) : Option xRes :=
  Option.bind (g_r M 12 7 (some a0)) fun o_73 =>
  Option.bind (al_i M 20 o_73 v3) fun v_75 =>
  if (v_75 - (17 : Int32)) ≤ v8 then
    (Option.bind (g_o M 12 (some a0)) fun b_79 =>
    Option.bind (c_V (f222 [.inr (.inr (some b_79)), .inl v1, .inl v7, .inl v2] M)) fun q_77 =>
    b228_483  q_77)
  else
    (Option.bind (g_r M 12 29 (some a0)) fun o_81 =>
    Option.bind (g_o M 12 (some a0)) fun b_85 =>
    Option.bind (c_I (f165 [.inr (.inr (some b_85)), .inl v3, .inl ((13 : Int32) + v8)] M)) fun q_83 =>
    Option.bind (as_i q_83.2 20 o_81 (((64 : Int32) * (((5 : Int32) * v1) + v7)) + v8) q_83.1) fun M87 =>
    some (.inr (218, [.inr (.inr (some a0)), .inl v1, .inl v2, .inl v3, .inl v7, .inl (v8 + (1 : Int32))], M87)))
def k228 (h : Nat) (as : List aV) (M : hM) : Option xRes :=
  if h = 55 then (match as with | [.inr (.inr (some a0)), .inl v1, .inl v2, .inl v8] => b228_55 a0 v1 v2 v8 M | _ => none) else
  if h = 218 then (match as with | [.inr (.inr (some a0)), .inl v1, .inl v2, .inl v3, .inl v7, .inl v8] => b228_218 a0 v1 v2 v3 v7 v8 M | _ => none) else
  none
def f228 (as : List aV) (M : hM) : xO := match as with
  | [.inr (.inr (some a0)), .inl v1, .inl v2, .inl v3, .inl v4] => x_go k228 (b228_0 a0 v1 v2 v3 v4 M)
  | _ => none
theorem lb228_167 (G : gX) (l : Launch)  (M : hM) {res : xRes} (h : b228_167  M = some res) : h_sz M ≤ r_sz res ∧ h_sl M ≤ r_sl res := by
  unfold b228_167 at h
  obtain rfl := Option.some.inj h
  show h_sz M ≤ h_sz M ∧ h_sl M ≤ h_sl M
  omega
theorem lb228_164 (G : gX) (l : Launch) (a0 : Nat) (v1 : Int32) (v2 : Int32) (v3 : Int32) (v7 : Int32) (si0 : Int32) (si1 : Int32) (M : hM) {res : xRes} (h : b228_164 a0 v1 v2 v3 v7 si0 si1 M = some res) : h_sz M ≤ r_sz res ∧ h_sl M ≤ r_sl res := by
  unfold b228_164 at h
  by_cases q72 : si0 < si1
  · rw [if_pos q72] at h
    obtain ⟨o_54, h55, h⟩ := bd h
    obtain ⟨M56, h57, h⟩ := bd h
    have eh57 := as_z_sz h57
    obtain ⟨o_58, h59, h⟩ := bd h
    obtain ⟨v_60, h61, h⟩ := bd h
    obtain ⟨M62, h63, h⟩ := bd h
    have eh63 := as_i_sz h63
    obtain ⟨o_64, h65, h⟩ := bd h
    obtain ⟨o_66, h67, h⟩ := bd h
    obtain ⟨v_68, h69, h⟩ := bd h
    obtain ⟨M70, h71, h⟩ := bd h
    have eh71 := as_i_sz h71
    obtain rfl := Option.some.inj h
    show h_sz M ≤ h_sz M70 ∧ h_sl M ≤ h_sl M70
    omega
  · rw [if_neg q72] at h
    have e := lb228_167 G l  M h
    omega
theorem lb228_405 (G : gX) (l : Launch) (a0 : Nat) (M : hM) {res : xRes} (h : b228_405 a0 M = some res) : h_sz M ≤ r_sz res ∧ h_sl M ≤ r_sl res := by
  unfold b228_405 at h
  obtain ⟨o_156, h157, h⟩ := bd h
  obtain ⟨v_158, h159, h⟩ := bd h
  obtain ⟨M160, h161, h⟩ := bd h
  have eh161 := as_i_sz h161
  obtain rfl := Option.some.inj h
  show h_sz M ≤ h_sz M160 ∧ h_sl M ≤ h_sl M160
  omega
theorem lb228_483 (G : gX) (l : Launch)  (M : hM) {res : xRes} (h : b228_483  M = some res) : h_sz M ≤ r_sz res ∧ h_sl M ≤ r_sl res := by
  unfold b228_483 at h
  obtain rfl := Option.some.inj h
  show h_sz M ≤ h_sz M ∧ h_sl M ≤ h_sl M
  omega
theorem lb228_472 (G : gX) (l : Launch) (a0 : Nat) (v2 : Int32) (v8 : Int32) (sl0 : Int64) (si1 : Int32) (sr2 : Option Nat) (M : hM) {res : xRes} (h : b228_472 a0 v2 v8 sl0 si1 sr2 M = some res) : h_sz M ≤ r_sz res ∧ h_sl M ≤ r_sl res := by
  unfold b228_472 at h
  obtain ⟨b_164, h165, h⟩ := bd h
  obtain ⟨q_162, h163, h⟩ := bd h
  have eh163 := (t167 G l (c_V_some h163)).1
  obtain ⟨b_168, h169, h⟩ := bd h
  obtain ⟨q_166, h167, h⟩ := bd h
  have eh167 := (t183 G l (c_V_some h167)).1
  have e := lb228_483 G l  q_166 h
  omega
theorem lb228_360 (G : gX) (l : Launch) (a0 : Nat) (v1 : Int32) (v2 : Int32) (v3 : Int32) (v4 : Int32) (v5 : Int32) (v6 : Int32) (v7 : Int32) (M : hM) {res : xRes} (h : b228_360 a0 v1 v2 v3 v4 v5 v6 v7 M = some res) : h_sz M ≤ r_sz res ∧ h_sl M ≤ r_sl res := by
  unfold b228_360 at h
  by_cases q155 : v5 = (5 : Int32)
  · rw [if_pos q155] at h
    by_cases q154 : v4 = (16777212 : Int32)
    · rw [if_pos q154] at h
      by_cases q153 : v6 = (-1 : Int32)
      · rw [if_pos q153] at h
        have e := lb228_483 G l  M h
        omega
      · rw [if_neg q153] at h
        obtain ⟨o_118, h119, h⟩ := bd h
        obtain ⟨v_120, h121, h⟩ := bd h
        by_cases q152 : v_120 = 0
        · rw [if_pos q152] at h
          have e := lb228_405 G l a0 M h
          omega
        · rw [if_neg q152] at h
          obtain ⟨b_124, h125, h⟩ := bd h
          obtain ⟨q_122, h123, h⟩ := bd h
          have eh123 := (t166 G l (c_I_some h123)).1
          obtain ⟨o_126, h127, h⟩ := bd h
          obtain ⟨v_128, h129, h⟩ := bd h
          by_cases q151 : q_122.1 = v_128
          · rw [if_pos q151] at h
            obtain ⟨o_130, h131, h⟩ := bd h
            obtain ⟨v_132, h133, h⟩ := bd h
            obtain ⟨b_136, h137, h⟩ := bd h
            obtain ⟨q_134, h135, h⟩ := bd h
            have eh135 := (t168 G l (c_I_some h135)).1
            obtain ⟨b_140, h141, h⟩ := bd h
            obtain ⟨q_138, h139, h⟩ := bd h
            have eh139 := (t167 G l (c_V_some h139)).1
            obtain ⟨b_144, h145, h⟩ := bd h
            obtain ⟨q_142, h143, h⟩ := bd h
            have eh143 := (t188 G l (c_I_some h143)).1
            by_cases q150 : q_142.1 = 0
            · rw [if_pos q150] at h
              have e := lb228_472 G l a0 v2 q_134.1 (0 : Int64) q_134.1 (some a0) q_142.2 h
              omega
            · rw [if_neg q150] at h
              obtain ⟨b_148, h149, h⟩ := bd h
              obtain ⟨q_146, h147, h⟩ := bd h
              have eh147 := (t227 G l (c_I_some h147)).1
              have e := lb228_472 G l a0 v2 q_134.1 (Int32.toInt64 q_146.1) q_134.1 (some a0) q_146.2 h
              omega
          · rw [if_neg q151] at h
            have e := lb228_405 G l a0 q_122.2 h
            omega
    · rw [if_neg q154] at h
      have e := lb228_483 G l  M h
      omega
  · rw [if_neg q155] at h
    have e := lb228_483 G l  M h
    omega
theorem lb228_276 (G : gX) (l : Launch) (a0 : Nat) (v1 : Int32) (v2 : Int32) (v3 : Int32) (v4 : Int32) (v5 : Int32) (v6 : Int32) (v7 : Int32) (M : hM) {res : xRes} (h : b228_276 a0 v1 v2 v3 v4 v5 v6 v7 M = some res) : h_sz M ≤ r_sz res ∧ h_sl M ≤ r_sl res := by
  unfold b228_276 at h
  by_cases q117 : v5 = (3 : Int32)
  · rw [if_pos q117] at h
    by_cases q116 : v4 = (16777214 : Int32)
    · rw [if_pos q116] at h
      by_cases q115 : v6 = (-1 : Int32)
      · rw [if_pos q115] at h
        have e := lb228_360 G l a0 v1 v2 v3 v4 v5 v6 v7 M h
        omega
      · rw [if_neg q115] at h
        obtain ⟨b_92, h93, h⟩ := bd h
        obtain ⟨q_90, h91, h⟩ := bd h
        have eh91 := (t200 G l (c_I_some h91)).1
        by_cases q114 : q_90.1 = 0
        · rw [if_pos q114] at h
          obtain ⟨o_94, h95, h⟩ := bd h
          obtain ⟨o_96, h97, h⟩ := bd h
          obtain ⟨v_98, h99, h⟩ := bd h
          obtain ⟨M100, h101, h⟩ := bd h
          have eh101 := as_i_sz h101
          obtain ⟨o_102, h103, h⟩ := bd h
          obtain ⟨v_104, h105, h⟩ := bd h
          obtain ⟨b_108, h109, h⟩ := bd h
          obtain ⟨q_106, h107, h⟩ := bd h
          have eh107 := (t168 G l (c_I_some h107)).1
          obtain ⟨b_112, h113, h⟩ := bd h
          obtain ⟨q_110, h111, h⟩ := bd h
          have eh111 := (t183 G l (c_V_some h111)).1
          have e := lb228_483 G l  q_110 h
          omega
        · rw [if_neg q114] at h
          obtain rfl := Option.some.inj h
          show h_sz M ≤ h_sz q_90.2 ∧ h_sl M ≤ h_sl q_90.2
          omega
    · rw [if_neg q116] at h
      have e := lb228_360 G l a0 v1 v2 v3 v4 v5 v6 v7 M h
      omega
  · rw [if_neg q117] at h
    have e := lb228_360 G l a0 v1 v2 v3 v4 v5 v6 v7 M h
    omega
theorem lb228_105 (G : gX) (l : Launch) (a0 : Nat) (v1 : Int32) (v2 : Int32) (v3 : Int32) (v4 : Int32) (v5 : Int32) (v6 : Int32) (v7 : Int32) (M : hM) {res : xRes} (h : b228_105 a0 v1 v2 v3 v4 v5 v6 v7 M = some res) : h_sz M ≤ r_sz res ∧ h_sl M ≤ r_sl res := by
  unfold b228_105 at h
  by_cases q53 : v5 = (2 : Int32)
  · rw [if_pos q53] at h
    by_cases q52 : v4 = (16777213 : Int32)
    · rw [if_pos q52] at h
      by_cases q51 : v6 = (-1 : Int32)
      · rw [if_pos q51] at h
        by_cases q50 : v7 = v1
        · rw [if_pos q50] at h
          have e := lb228_167 G l  M h
          omega
        · rw [if_neg q50] at h
          obtain ⟨b_39, h40, h⟩ := bd h
          obtain ⟨q_37, h38, h⟩ := bd h
          have eh38 := (t166 G l (c_I_some h38)).1
          obtain ⟨o_41, h42, h⟩ := bd h
          obtain ⟨v_43, h44, h⟩ := bd h
          by_cases q49 : v_43 = 0
          · rw [if_pos q49] at h
            have e := lb228_164 G l a0 v1 v2 v3 v7 (0 : Int32) q_37.1 q_37.2 h
            omega
          · rw [if_neg q49] at h
            obtain ⟨b_47, h48, h⟩ := bd h
            obtain ⟨q_45, h46, h⟩ := bd h
            have eh46 := (t191 G l (c_I_some h46)).1
            have e := lb228_164 G l a0 v1 v2 v3 v7 q_45.1 q_37.1 q_45.2 h
            omega
      · rw [if_neg q51] at h
        have e := lb228_276 G l a0 v1 v2 v3 v4 v5 v6 v7 M h
        omega
    · rw [if_neg q52] at h
      have e := lb228_276 G l a0 v1 v2 v3 v4 v5 v6 v7 M h
      omega
  · rw [if_neg q53] at h
    have e := lb228_276 G l a0 v1 v2 v3 v4 v5 v6 v7 M h
    omega
theorem lb228_0 (G : gX) (l : Launch) (a0 : Nat) (v1 : Int32) (v2 : Int32) (v3 : Int32) (v4 : Int32) (M : hM) {res : xRes} (h : b228_0 a0 v1 v2 v3 v4 M = some res) : h_sz M ≤ r_sz res ∧ h_sl M ≤ r_sl res := by
  unfold b228_0 at h
  obtain ⟨b_3, h4, h⟩ := bd h
  obtain ⟨q_1, h2, h⟩ := bd h
  have eh2 := (t165 G l (c_I_some h2)).1
  obtain ⟨b_7, h8, h⟩ := bd h
  obtain ⟨q_5, h6, h⟩ := bd h
  have eh6 := (t179 G l (c_I_some h6)).1
  obtain ⟨b_11, h12, h⟩ := bd h
  obtain ⟨q_9, h10, h⟩ := bd h
  have eh10 := (t165 G l (c_I_some h10)).1
  by_cases q19 : q_1.1 = (1 : Int32)
  · rw [if_pos q19] at h
    by_cases q18 : v4 = (16777213 : Int32)
    · rw [if_pos q18] at h
      by_cases q17 : q_5.1 = (-1 : Int32)
      · rw [if_pos q17] at h
        obtain ⟨o_13, h14, h⟩ := bd h
        obtain ⟨M15, h16, h⟩ := bd h
        have eh16 := as_i_sz h16
        obtain rfl := Option.some.inj h
        show h_sz M ≤ h_sz M15 ∧ h_sl M ≤ h_sl M15
        omega
      · rw [if_neg q17] at h
        have e := lb228_105 G l a0 v1 v2 v3 v4 q_1.1 q_5.1 q_9.1 q_9.2 h
        omega
    · rw [if_neg q18] at h
      have e := lb228_105 G l a0 v1 v2 v3 v4 q_1.1 q_5.1 q_9.1 q_9.2 h
      omega
  · rw [if_neg q19] at h
    have e := lb228_105 G l a0 v1 v2 v3 v4 q_1.1 q_5.1 q_9.1 q_9.2 h
    omega
theorem lb228_96 (G : gX) (l : Launch) (a0 : Nat) (v1 : Int32) (v2 : Int32) (v8 : Int32) (M : hM) {res : xRes} (h : b228_96 a0 v1 v2 v8 M = some res) : h_sz M ≤ r_sz res ∧ h_sl M ≤ r_sl res := by
  unfold b228_96 at h
  obtain rfl := Option.some.inj h
  show h_sz M ≤ h_sz M ∧ h_sl M ≤ h_sl M
  omega
theorem lb228_55 (G : gX) (l : Launch) (a0 : Nat) (v1 : Int32) (v2 : Int32) (v8 : Int32) (M : hM) {res : xRes} (h : b228_55 a0 v1 v2 v8 M = some res) : h_sz M ≤ r_sz res ∧ h_sl M ≤ r_sl res := by
  unfold b228_55 at h
  obtain ⟨v_20, h21, h⟩ := bd h
  by_cases q36 : v_20 ≤ v8
  · rw [if_pos q36] at h
    have e := lb228_483 G l  M h
    omega
  · rw [if_neg q36] at h
    by_cases q35 : v8 = v1
    · rw [if_pos q35] at h
      have e := lb228_96 G l a0 v1 v2 v8 M h
      omega
    · rw [if_neg q35] at h
      obtain ⟨o_22, h23, h⟩ := bd h
      obtain ⟨v_24, h25, h⟩ := bd h
      by_cases q34 : v_24 = 0
      · rw [if_pos q34] at h
        have e := lb228_96 G l a0 v1 v2 v8 M h
        omega
      · rw [if_neg q34] at h
        obtain ⟨b_28, h29, h⟩ := bd h
        obtain ⟨q_26, h27, h⟩ := bd h
        have eh27 := (t202 G l (c_I_some h27)).1
        obtain ⟨b_32, h33, h⟩ := bd h
        obtain ⟨q_30, h31, h⟩ := bd h
        have eh31 := (t183 G l (c_V_some h31)).1
        have e := lb228_96 G l a0 v1 v2 v8 q_30 h
        omega
theorem lb228_218 (G : gX) (l : Launch) (a0 : Nat) (v1 : Int32) (v2 : Int32) (v3 : Int32) (v7 : Int32) (v8 : Int32) (M : hM) {res : xRes} (h : b228_218 a0 v1 v2 v3 v7 v8 M = some res) : h_sz M ≤ r_sz res ∧ h_sl M ≤ r_sl res := by
  unfold b228_218 at h
  obtain ⟨o_73, h74, h⟩ := bd h
  obtain ⟨v_75, h76, h⟩ := bd h
  by_cases q89 : (v_75 - (17 : Int32)) ≤ v8
  · rw [if_pos q89] at h
    obtain ⟨b_79, h80, h⟩ := bd h
    obtain ⟨q_77, h78, h⟩ := bd h
    have eh78 := (t222 G l (c_V_some h78)).1
    have e := lb228_483 G l  q_77 h
    omega
  · rw [if_neg q89] at h
    obtain ⟨o_81, h82, h⟩ := bd h
    obtain ⟨b_85, h86, h⟩ := bd h
    obtain ⟨q_83, h84, h⟩ := bd h
    have eh84 := (t165 G l (c_I_some h84)).1
    obtain ⟨M87, h88, h⟩ := bd h
    have eh88 := as_i_sz h88
    obtain rfl := Option.some.inj h
    show h_sz M ≤ h_sz M87 ∧ h_sl M ≤ h_sl M87
    omega
section
variable {p : Program} {l : Launch} {e : Env} {s : State} {m : MethodId} {args : Array Value} {below : List Frame} {meth : Method} {c : Code} {G : gX} {z0 y0 : Nat} {r : Option aV} {M' : hM}
def pg228 (p : Program) (l : Launch) (e : Env) (s : State) (m : MethodId) (args : Array Value) (below : List Frame) (meth : Method) (c : Code) (G : gX) (z0 y0 : Nat) (r : Option aV) (M' : hM) (h : Nat) (as : List aV) (M : hM) : Prop :=
  if h = 55 then (match as with | [.inr (.inr (some a0)), .inl v1, .inl v2, .inl v8] => xV G p l e (xRm 7 (h_sz M' - z0) (h_sl M' - y0)) s m args below meth c z0 y0 (h_sz M') (h_sl M') 9 (MQ below (xQc G r M') args s (h_sz M' - z0) (h_sl M' - y0) (xFr G)) 55 [(0, .inr (.inr (some a0))), (1, .inl v1), (2, .inl v2), (8, .inl v8)] [] M | _ => False) else
  if h = 218 then (match as with | [.inr (.inr (some a0)), .inl v1, .inl v2, .inl v3, .inl v7, .inl v8] => xV G p l e (xRm 7 (h_sz M' - z0) (h_sl M' - y0)) s m args below meth c z0 y0 (h_sz M') (h_sl M') 9 (MQ below (xQc G r M') args s (h_sz M' - z0) (h_sl M' - y0) (xFr G)) 218 [(0, .inr (.inr (some a0))), (1, .inl v1), (2, .inl v2), (3, .inl v3), (7, .inl v7), (8, .inl v8)] [] M | _ => False) else
  False
theorem sb228_167 (E : xE G p (xRm 7 (h_sz M' - z0) (h_sl M' - y0)) s m args c prog_14_method_48_code "ZonedFabricModel" z0 y0 (h_sz M') (h_sl M') 9) (B : xB ym228 none meth)  (M : hM) {res : xRes} (h : b228_167  M = some res) (hN : xN (pg228 p l e s m args below meth c G z0 y0 r M') r M' res) : xV G p l e (xRm 7 (h_sz M' - z0) (h_sl M' - y0)) s m args below meth c z0 y0 (h_sz M') (h_sl M') 9 (MQ below (xQc G r M') args s (h_sz M' - z0) (h_sl M' - y0) (xFr G)) 167 [] [] M := by
  unfold b228_167 at h
  obtain rfl := Option.some.inj h
  obtain ⟨rfl, rfl⟩ := Prod.mk.inj (show ((none : Option aV), M) = (r, M') from hN)
  exact xv_rv E B.1 B.2.1 (show decode prog_14_method_48_code 167 = .ok (.return_, 1) by decide +kernel) rfl rfl
theorem sb228_164 (E : xE G p (xRm 7 (h_sz M' - z0) (h_sl M' - y0)) s m args c prog_14_method_48_code "ZonedFabricModel" z0 y0 (h_sz M') (h_sl M') 9) (B : xB ym228 none meth) (a0 : Nat) (v1 : Int32) (v2 : Int32) (v3 : Int32) (v7 : Int32) (si0 : Int32) (si1 : Int32) (M : hM) {res : xRes} (h : b228_164 a0 v1 v2 v3 v7 si0 si1 M = some res) (hN : xN (pg228 p l e s m args below meth c G z0 y0 r M') r M' res) : xV G p l e (xRm 7 (h_sz M' - z0) (h_sl M' - y0)) s m args below meth c z0 y0 (h_sz M') (h_sl M') 9 (MQ below (xQc G r M') args s (h_sz M' - z0) (h_sl M' - y0) (xFr G)) 164 [(0, .inr (.inr (some a0))), (1, .inl v1), (2, .inl v2), (3, .inl v3), (7, .inl v7)] [.inl si0, .inl si1] M := by
  unfold b228_164 at h
  by_cases q72 : si0 < si1
  · rw [if_pos q72] at h
    refine xv_icmp_gt E 168 (show decode prog_14_method_48_code 164 = .ok (.if_icmp .gt (4), 3) by decide +kernel) rfl (fun _ => ?_) (fun z => absurd q72 z)
    refine xv_b E [.aload_n 0] (pc' := 169) (lv' := [(0, .inr (.inr (some a0))), (1, .inl v1), (2, .inl v2), (3, .inl v3), (7, .inl v7)]) (st' := [.inr (.inr (some a0))]) (by decide +kernel) rfl rfl ?_
    obtain ⟨o_54, h55, h⟩ := bd h
    refine xg_r E 12 27 h55 mw887 (show decode prog_14_method_48_code 169 = .ok (.getfield 76, 3) by decide +kernel) ?_
    refine xv_b E [.iconst 5, .iload_n 1, .imul, .iload 7, .iadd, .iconst 1] (pc' := 179) (lv' := [(0, .inr (.inr (some a0))), (1, .inl v1), (2, .inl v2), (3, .inl v3), (7, .inl v7)]) (st' := [.inl (1 : Int32), .inl (((5 : Int32) * v1) + v7), .inr (.inr o_54)]) (by decide +kernel) rfl rfl ?_
    obtain ⟨M56, h57, h⟩ := bd h
    refine xs_z E h57 (show decode prog_14_method_48_code 179 = .ok (.bastore, 1) by decide +kernel) ?_
    refine xv_b E [.aload_n 0] (pc' := 181) (lv' := [(0, .inr (.inr (some a0))), (1, .inl v1), (2, .inl v2), (3, .inl v3), (7, .inl v7)]) (st' := [.inr (.inr (some a0))]) (by decide +kernel) rfl rfl ?_
    obtain ⟨o_58, h59, h⟩ := bd h
    refine xg_r E 12 28 h59 mw888 (show decode prog_14_method_48_code 181 = .ok (.getfield 79, 3) by decide +kernel) ?_
    refine xv_b E [.iconst 5, .iload_n 1, .imul, .iload 7, .iadd, .aload_n 0] (pc' := 191) (lv' := [(0, .inr (.inr (some a0))), (1, .inl v1), (2, .inl v2), (3, .inl v3), (7, .inl v7)]) (st' := [.inr (.inr (some a0)), .inl (((5 : Int32) * v1) + v7), .inr (.inr o_58)]) (by decide +kernel) rfl rfl ?_
    obtain ⟨v_60, h61, h⟩ := bd h
    refine xg_i E 12 3 h61 mw1047 (show decode prog_14_method_48_code 191 = .ok (.getfield 276, 3) by decide +kernel) ?_
    obtain ⟨M62, h63, h⟩ := bd h
    refine xs_i E h63 (show decode prog_14_method_48_code 194 = .ok (.iastore, 1) by decide +kernel) ?_
    refine xv_b E [.aload_n 0] (pc' := 196) (lv' := [(0, .inr (.inr (some a0))), (1, .inl v1), (2, .inl v2), (3, .inl v3), (7, .inl v7)]) (st' := [.inr (.inr (some a0))]) (by decide +kernel) rfl rfl ?_
    obtain ⟨o_64, h65, h⟩ := bd h
    refine xg_r E 12 30 h65 mw890 (show decode prog_14_method_48_code 196 = .ok (.getfield 85, 3) by decide +kernel) ?_
    refine xv_b E [.iconst 5, .iload_n 1, .imul, .iload 7, .iadd, .aload_n 0] (pc' := 206) (lv' := [(0, .inr (.inr (some a0))), (1, .inl v1), (2, .inl v2), (3, .inl v3), (7, .inl v7)]) (st' := [.inr (.inr (some a0)), .inl (((5 : Int32) * v1) + v7), .inr (.inr o_64)]) (by decide +kernel) rfl rfl ?_
    obtain ⟨o_66, h67, h⟩ := bd h
    refine xg_r E 12 7 h67 mw868 (show decode prog_14_method_48_code 206 = .ok (.getfield 21, 3) by decide +kernel) ?_
    refine xv_b E [.iload_n 3] (pc' := 210) (lv' := [(0, .inr (.inr (some a0))), (1, .inl v1), (2, .inl v2), (3, .inl v3), (7, .inl v7)]) (st' := [.inl v3, .inr (.inr o_66), .inl (((5 : Int32) * v1) + v7), .inr (.inr o_64)]) (by decide +kernel) rfl rfl ?_
    obtain ⟨v_68, h69, h⟩ := bd h
    refine xa_i E h69 (show decode prog_14_method_48_code 210 = .ok (.iaload, 1) by decide +kernel) ?_
    refine xv_b E [.bipush 17, .isub] (pc' := 214) (lv' := [(0, .inr (.inr (some a0))), (1, .inl v1), (2, .inl v2), (3, .inl v3), (7, .inl v7)]) (st' := [.inl (v_68 - (17 : Int32)), .inl (((5 : Int32) * v1) + v7), .inr (.inr o_64)]) (by decide +kernel) rfl rfl ?_
    obtain ⟨M70, h71, h⟩ := bd h
    refine xs_i E h71 (show decode prog_14_method_48_code 214 = .ok (.iastore, 1) by decide +kernel) ?_
    refine xv_b E [.iconst 0, .istore 8] (pc' := 218) (lv' := [(8, .inl (0 : Int32)), (0, .inr (.inr (some a0))), (1, .inl v1), (2, .inl v2), (3, .inl v3), (7, .inl v7)]) (st' := []) (by decide +kernel) rfl rfl ?_
    obtain rfl := Option.some.inj h
    exact xv_w hN rfl
  · rw [if_neg q72] at h
    refine xv_icmp_gt E 168 (show decode prog_14_method_48_code 164 = .ok (.if_icmp .gt (4), 3) by decide +kernel) rfl (fun z => absurd z q72) (fun _ => ?_)
    exact xv_w (sb228_167 E B  M h hN) rfl
theorem sb228_405 (E : xE G p (xRm 7 (h_sz M' - z0) (h_sl M' - y0)) s m args c prog_14_method_48_code "ZonedFabricModel" z0 y0 (h_sz M') (h_sl M') 9) (B : xB ym228 none meth) (a0 : Nat) (M : hM) {res : xRes} (h : b228_405 a0 M = some res) (hN : xN (pg228 p l e s m args below meth c G z0 y0 r M') r M' res) : xV G p l e (xRm 7 (h_sz M' - z0) (h_sl M' - y0)) s m args below meth c z0 y0 (h_sz M') (h_sl M') 9 (MQ below (xQc G r M') args s (h_sz M' - z0) (h_sl M' - y0) (xFr G)) 405 [(0, .inr (.inr (some a0)))] [] M := by
  unfold b228_405 at h
  refine xv_b E [.aload_n 0] (pc' := 406) (lv' := [(0, .inr (.inr (some a0)))]) (st' := [.inr (.inr (some a0))]) (by decide +kernel) rfl rfl ?_
  obtain ⟨o_156, h157, h⟩ := bd h
  refine xg_r E 12 4 h157 mw865 (show decode prog_14_method_48_code 406 = .ok (.getfield 7, 3) by decide +kernel) ?_
  refine xv_b E [.iconst 2, .dup2] (pc' := 411) (lv' := [(0, .inr (.inr (some a0)))]) (st' := [.inl (2 : Int32), .inr (.inr o_156), .inl (2 : Int32), .inr (.inr o_156)]) (by decide +kernel) rfl rfl ?_
  obtain ⟨v_158, h159, h⟩ := bd h
  refine xa_i E h159 (show decode prog_14_method_48_code 411 = .ok (.iaload, 1) by decide +kernel) ?_
  refine xv_b E [.iconst 1, .iadd] (pc' := 414) (lv' := [(0, .inr (.inr (some a0)))]) (st' := [.inl (v_158 + (1 : Int32)), .inl (2 : Int32), .inr (.inr o_156)]) (by decide +kernel) rfl rfl ?_
  obtain ⟨M160, h161, h⟩ := bd h
  refine xs_i E h161 (show decode prog_14_method_48_code 414 = .ok (.iastore, 1) by decide +kernel) ?_
  obtain rfl := Option.some.inj h
  obtain ⟨rfl, rfl⟩ := Prod.mk.inj (show ((none : Option aV), M160) = (r, M') from hN)
  exact xv_rv E B.1 B.2.1 (show decode prog_14_method_48_code 415 = .ok (.return_, 1) by decide +kernel) rfl rfl
theorem sb228_483 (E : xE G p (xRm 7 (h_sz M' - z0) (h_sl M' - y0)) s m args c prog_14_method_48_code "ZonedFabricModel" z0 y0 (h_sz M') (h_sl M') 9) (B : xB ym228 none meth)  (M : hM) {res : xRes} (h : b228_483  M = some res) (hN : xN (pg228 p l e s m args below meth c G z0 y0 r M') r M' res) : xV G p l e (xRm 7 (h_sz M' - z0) (h_sl M' - y0)) s m args below meth c z0 y0 (h_sz M') (h_sl M') 9 (MQ below (xQc G r M') args s (h_sz M' - z0) (h_sl M' - y0) (xFr G)) 483 [] [] M := by
  unfold b228_483 at h
  obtain rfl := Option.some.inj h
  obtain ⟨rfl, rfl⟩ := Prod.mk.inj (show ((none : Option aV), M) = (r, M') from hN)
  exact xv_rv E B.1 B.2.1 (show decode prog_14_method_48_code 483 = .ok (.return_, 1) by decide +kernel) rfl rfl
theorem sb228_472 (E : xE G p (xRm 7 (h_sz M' - z0) (h_sl M' - y0)) s m args c prog_14_method_48_code "ZonedFabricModel" z0 y0 (h_sz M') (h_sl M') 9) (B : xB ym228 none meth) (a0 : Nat) (v2 : Int32) (v8 : Int32) (sl0 : Int64) (si1 : Int32) (sr2 : Option Nat) (M : hM) {res : xRes} (h : b228_472 a0 v2 v8 sl0 si1 sr2 M = some res) (hN : xN (pg228 p l e s m args below meth c G z0 y0 r M') r M' res) : xV G p l e (xRm 7 (h_sz M' - z0) (h_sl M' - y0)) s m args below meth c z0 y0 (h_sz M') (h_sl M') 9 (MQ below (xQc G r M') args s (h_sz M' - z0) (h_sl M' - y0) (xFr G)) 472 [(0, .inr (.inr (some a0))), (2, .inl v2), (8, .inl v8)] [.inr (.inl sl0), .inl si1, .inr (.inr sr2)] M := by
  unfold b228_472 at h
  refine xv_b E [.iconst 3] (pc' := 473) (lv' := [(0, .inr (.inr (some a0))), (2, .inl v2), (8, .inl v8)]) (st' := [.inl (3 : Int32), .inr (.inl sl0), .inl si1, .inr (.inr sr2)]) (by decide +kernel) rfl rfl ?_
  obtain ⟨b_164, h165, h⟩ := bd h
  obtain ⟨eh165, th165⟩ := g_o_some h165
  obtain ⟨q_162, h163, h⟩ := bd h
  refine xv_cvo E eh165 12 (as := [.inl si1, .inr (.inl sl0), .inl (3 : Int32)]) (t167 G l (c_V_some h163)) cd167 mw932 mw933 mw934 (show decode prog_14_method_48_code 473 = .ok (.invokevirtual 190, 3) by decide +kernel) th165 rfl rfl (Nat.le_of_ble_eq_true rfl) ⟨Nat.le_of_ble_eq_true rfl, Nat.le_of_ble_eq_true rfl⟩ ?_
  refine xv_b E [.aload_n 0, .iload_n 2, .iload 8] (pc' := 480) (lv' := [(0, .inr (.inr (some a0))), (2, .inl v2), (8, .inl v8)]) (st' := [.inl v8, .inl v2, .inr (.inr (some a0))]) (by decide +kernel) rfl rfl ?_
  obtain ⟨b_168, h169, h⟩ := bd h
  obtain ⟨eh169, th169⟩ := g_o_some h169
  obtain ⟨q_166, h167, h⟩ := bd h
  refine xv_cvo E eh169 12 (as := [.inl v2, .inl v8]) (t183 G l (c_V_some h167)) cd183 mw1043 mw1044 mw1045 (show decode prog_14_method_48_code 480 = .ok (.invokevirtual 301, 3) by decide +kernel) th169 rfl rfl (Nat.le_of_ble_eq_true rfl) ⟨Nat.le_of_ble_eq_true rfl, Nat.le_of_ble_eq_true rfl⟩ ?_
  exact xv_w (sb228_483 E B  q_166 h hN) rfl
theorem sb228_360 (E : xE G p (xRm 7 (h_sz M' - z0) (h_sl M' - y0)) s m args c prog_14_method_48_code "ZonedFabricModel" z0 y0 (h_sz M') (h_sl M') 9) (B : xB ym228 none meth) (a0 : Nat) (v1 : Int32) (v2 : Int32) (v3 : Int32) (v4 : Int32) (v5 : Int32) (v6 : Int32) (v7 : Int32) (M : hM) {res : xRes} (h : b228_360 a0 v1 v2 v3 v4 v5 v6 v7 M = some res) (hN : xN (pg228 p l e s m args below meth c G z0 y0 r M') r M' res) : xV G p l e (xRm 7 (h_sz M' - z0) (h_sl M' - y0)) s m args below meth c z0 y0 (h_sz M') (h_sl M') 9 (MQ below (xQc G r M') args s (h_sz M' - z0) (h_sl M' - y0) (xFr G)) 360 [(0, .inr (.inr (some a0))), (1, .inl v1), (2, .inl v2), (3, .inl v3), (4, .inl v4), (5, .inl v5), (6, .inl v6), (7, .inl v7)] [] M := by
  unfold b228_360 at h
  refine xv_b E [.iload 5, .iconst 5] (pc' := 363) (lv' := [(0, .inr (.inr (some a0))), (1, .inl v1), (2, .inl v2), (3, .inl v3), (4, .inl v4), (5, .inl v5), (6, .inl v6), (7, .inl v7)]) (st' := [.inl (5 : Int32), .inl v5]) (by decide +kernel) rfl rfl ?_
  by_cases q155 : v5 = (5 : Int32)
  · rw [if_pos q155] at h
    refine xv_icmp_ne E 483 (show decode prog_14_method_48_code 363 = .ok (.if_icmp .ne (120), 3) by decide +kernel) rfl (fun z => absurd q155 z) (fun _ => ?_)
    refine xv_b E [.iload 4] (pc' := 368) (lv' := [(0, .inr (.inr (some a0))), (1, .inl v1), (2, .inl v2), (3, .inl v3), (4, .inl v4), (5, .inl v5), (6, .inl v6), (7, .inl v7)]) (st' := [.inl v4]) (by decide +kernel) rfl rfl ?_
    refine xv_ldcw E (16777212 : Int32) mw1039 (show decode prog_14_method_48_code 368 = .ok (.ldc_w 328, 3) by decide +kernel) ?_
    by_cases q154 : v4 = (16777212 : Int32)
    · rw [if_pos q154] at h
      refine xv_icmp_ne E 483 (show decode prog_14_method_48_code 371 = .ok (.if_icmp .ne (112), 3) by decide +kernel) rfl (fun z => absurd q154 z) (fun _ => ?_)
      refine xv_b E [.iload 6, .iconst (-1)] (pc' := 377) (lv' := [(0, .inr (.inr (some a0))), (1, .inl v1), (2, .inl v2), (3, .inl v3), (4, .inl v4), (5, .inl v5), (6, .inl v6), (7, .inl v7)]) (st' := [.inl (-1 : Int32), .inl v6]) (by decide +kernel) rfl rfl ?_
      by_cases q153 : v6 = (-1 : Int32)
      · rw [if_pos q153] at h
        refine xv_icmp_eq E 483 (show decode prog_14_method_48_code 377 = .ok (.if_icmp .eq (106), 3) by decide +kernel) rfl (fun _ => ?_) (fun z => absurd q153 z)
        exact xv_w (sb228_483 E B  M h hN) rfl
      · rw [if_neg q153] at h
        refine xv_icmp_eq E 483 (show decode prog_14_method_48_code 377 = .ok (.if_icmp .eq (106), 3) by decide +kernel) rfl (fun z => absurd z q153) (fun _ => ?_)
        refine xv_b E [.aload_n 0] (pc' := 381) (lv' := [(0, .inr (.inr (some a0))), (1, .inl v1), (2, .inl v2), (3, .inl v3), (4, .inl v4), (5, .inl v5), (6, .inl v6), (7, .inl v7)]) (st' := [.inr (.inr (some a0))]) (by decide +kernel) rfl rfl ?_
        obtain ⟨o_118, h119, h⟩ := bd h
        refine xg_r E 12 25 h119 mw885 (show decode prog_14_method_48_code 381 = .ok (.getfield 70, 3) by decide +kernel) ?_
        refine xv_b E [.iload_n 2] (pc' := 385) (lv' := [(0, .inr (.inr (some a0))), (1, .inl v1), (2, .inl v2), (3, .inl v3), (4, .inl v4), (5, .inl v5), (6, .inl v6), (7, .inl v7)]) (st' := [.inl v2, .inr (.inr o_118)]) (by decide +kernel) rfl rfl ?_
        obtain ⟨v_120, h121, h⟩ := bd h
        refine xa_i E h121 (show decode prog_14_method_48_code 385 = .ok (.iaload, 1) by decide +kernel) ?_
        by_cases q152 : v_120 = 0
        · rw [if_pos q152] at h
          refine xv_if_eq E 405 (show decode prog_14_method_48_code 386 = .ok (.ifCond .eq (19), 3) by decide +kernel) rfl (fun _ => ?_) (fun z => absurd q152 z)
          exact xv_w (sb228_405 E B a0 M h hN) rfl
        · rw [if_neg q152] at h
          refine xv_if_eq E 405 (show decode prog_14_method_48_code 386 = .ok (.ifCond .eq (19), 3) by decide +kernel) rfl (fun z => absurd z q152) (fun _ => ?_)
          refine xv_b E [.aload_n 0, .iload_n 3, .iconst 4, .iconst 3] (pc' := 393) (lv' := [(0, .inr (.inr (some a0))), (1, .inl v1), (2, .inl v2), (3, .inl v3), (4, .inl v4), (5, .inl v5), (6, .inl v6), (7, .inl v7)]) (st' := [.inl (3 : Int32), .inl (4 : Int32), .inl v3, .inr (.inr (some a0))]) (by decide +kernel) rfl rfl ?_
          obtain ⟨b_124, h125, h⟩ := bd h
          obtain ⟨eh125, th125⟩ := g_o_some h125
          obtain ⟨q_122, h123, h⟩ := bd h
          refine xv_cvo E eh125 12 (as := [.inl v3, .inl (4 : Int32), .inl (3 : Int32)]) (t166 G l (c_I_some h123)) cd166 mw947 mw948 mw949 (show decode prog_14_method_48_code 393 = .ok (.invokevirtual 198, 3) by decide +kernel) th125 rfl rfl (Nat.le_of_ble_eq_true rfl) ⟨Nat.le_of_ble_eq_true rfl, Nat.le_of_ble_eq_true rfl⟩ ?_
          refine xv_b E [.aload_n 0] (pc' := 397) (lv' := [(0, .inr (.inr (some a0))), (1, .inl v1), (2, .inl v2), (3, .inl v3), (4, .inl v4), (5, .inl v5), (6, .inl v6), (7, .inl v7)]) (st' := [.inr (.inr (some a0)), .inl q_122.1]) (by decide +kernel) rfl rfl ?_
          obtain ⟨o_126, h127, h⟩ := bd h
          refine xg_r E 12 25 h127 mw885 (show decode prog_14_method_48_code 397 = .ok (.getfield 70, 3) by decide +kernel) ?_
          refine xv_b E [.iload_n 2] (pc' := 401) (lv' := [(0, .inr (.inr (some a0))), (1, .inl v1), (2, .inl v2), (3, .inl v3), (4, .inl v4), (5, .inl v5), (6, .inl v6), (7, .inl v7)]) (st' := [.inl v2, .inr (.inr o_126), .inl q_122.1]) (by decide +kernel) rfl rfl ?_
          obtain ⟨v_128, h129, h⟩ := bd h
          refine xa_i E h129 (show decode prog_14_method_48_code 401 = .ok (.iaload, 1) by decide +kernel) ?_
          by_cases q151 : q_122.1 = v_128
          · rw [if_pos q151] at h
            refine xv_icmp_eq E 416 (show decode prog_14_method_48_code 402 = .ok (.if_icmp .eq (14), 3) by decide +kernel) rfl (fun _ => ?_) (fun z => absurd q151 z)
            refine xv_b E [.aload_n 0, .bipush 6, .aload_n 0] (pc' := 420) (lv' := [(0, .inr (.inr (some a0))), (1, .inl v1), (2, .inl v2), (3, .inl v3), (4, .inl v4), (5, .inl v5), (6, .inl v6), (7, .inl v7)]) (st' := [.inr (.inr (some a0)), .inl (6 : Int32), .inr (.inr (some a0))]) (by decide +kernel) rfl rfl ?_
            obtain ⟨o_130, h131, h⟩ := bd h
            refine xg_r E 12 25 h131 mw885 (show decode prog_14_method_48_code 420 = .ok (.getfield 70, 3) by decide +kernel) ?_
            refine xv_b E [.iload_n 2] (pc' := 424) (lv' := [(0, .inr (.inr (some a0))), (1, .inl v1), (2, .inl v2), (3, .inl v3), (4, .inl v4), (5, .inl v5), (6, .inl v6), (7, .inl v7)]) (st' := [.inl v2, .inr (.inr o_130), .inl (6 : Int32), .inr (.inr (some a0))]) (by decide +kernel) rfl rfl ?_
            obtain ⟨v_132, h133, h⟩ := bd h
            refine xa_i E h133 (show decode prog_14_method_48_code 424 = .ok (.iaload, 1) by decide +kernel) ?_
            refine xv_ldcw E (16777212 : Int32) mw1039 (show decode prog_14_method_48_code 425 = .ok (.ldc_w 328, 3) by decide +kernel) ?_
            refine xv_b E [.iconst 0, .iconst 0, .iconst 0] (pc' := 431) (lv' := [(0, .inr (.inr (some a0))), (1, .inl v1), (2, .inl v2), (3, .inl v3), (4, .inl v4), (5, .inl v5), (6, .inl v6), (7, .inl v7)]) (st' := [.inl (0 : Int32), .inl (0 : Int32), .inl (0 : Int32), .inl (16777212 : Int32), .inl v_132, .inl (6 : Int32), .inr (.inr (some a0))]) (by decide +kernel) rfl rfl ?_
            obtain ⟨b_136, h137, h⟩ := bd h
            obtain ⟨eh137, th137⟩ := g_o_some h137
            obtain ⟨q_134, h135, h⟩ := bd h
            refine xv_cvo E eh137 12 (as := [.inl (6 : Int32), .inl v_132, .inl (16777212 : Int32), .inl (0 : Int32), .inl (0 : Int32), .inl (0 : Int32)]) (t168 G l (c_I_some h135)) cd168 mw1033 mw1034 mw1035 (show decode prog_14_method_48_code 431 = .ok (.invokevirtual 272, 3) by decide +kernel) th137 rfl rfl (Nat.le_of_ble_eq_true rfl) ⟨Nat.le_of_ble_eq_true rfl, Nat.le_of_ble_eq_true rfl⟩ ?_
            refine xv_b E [.istore 8, .aload_n 0, .iload 8, .iload 7, .i2l, .iconst 1] (pc' := 443) (lv' := [(8, .inl q_134.1), (0, .inr (.inr (some a0))), (1, .inl v1), (2, .inl v2), (3, .inl v3), (4, .inl v4), (5, .inl v5), (6, .inl v6), (7, .inl v7)]) (st' := [.inl (1 : Int32), .inr (.inl (Int32.toInt64 v7)), .inl q_134.1, .inr (.inr (some a0))]) (by decide +kernel) rfl rfl ?_
            obtain ⟨b_140, h141, h⟩ := bd h
            obtain ⟨eh141, th141⟩ := g_o_some h141
            obtain ⟨q_138, h139, h⟩ := bd h
            refine xv_cvo E eh141 12 (as := [.inl q_134.1, .inr (.inl (Int32.toInt64 v7)), .inl (1 : Int32)]) (t167 G l (c_V_some h139)) cd167 mw932 mw933 mw934 (show decode prog_14_method_48_code 443 = .ok (.invokevirtual 190, 3) by decide +kernel) th141 rfl rfl (Nat.le_of_ble_eq_true rfl) ⟨Nat.le_of_ble_eq_true rfl, Nat.le_of_ble_eq_true rfl⟩ ?_
            refine xv_b E [.aload_n 0, .iload 8, .aload_n 0, .iload 6, .iload 7] (pc' := 454) (lv' := [(8, .inl q_134.1), (0, .inr (.inr (some a0))), (1, .inl v1), (2, .inl v2), (3, .inl v3), (4, .inl v4), (5, .inl v5), (6, .inl v6), (7, .inl v7)]) (st' := [.inl v7, .inl v6, .inr (.inr (some a0)), .inl q_134.1, .inr (.inr (some a0))]) (by decide +kernel) rfl rfl ?_
            obtain ⟨b_144, h145, h⟩ := bd h
            obtain ⟨eh145, th145⟩ := g_o_some h145
            obtain ⟨q_142, h143, h⟩ := bd h
            refine xv_cvo E eh145 12 (as := [.inl v6, .inl v7]) (t188 G l (c_I_some h143)) cd188 mw1158 mw1159 mw1160 (show decode prog_14_method_48_code 454 = .ok (.invokevirtual 336, 3) by decide +kernel) th145 rfl rfl (Nat.le_of_ble_eq_true rfl) ⟨Nat.le_of_ble_eq_true rfl, Nat.le_of_ble_eq_true rfl⟩ ?_
            by_cases q150 : q_142.1 = 0
            · rw [if_pos q150] at h
              refine xv_if_eq E 471 (show decode prog_14_method_48_code 457 = .ok (.ifCond .eq (14), 3) by decide +kernel) rfl (fun _ => ?_) (fun z => absurd q150 z)
              refine xv_b E [.lconst 0] (pc' := 472) (lv' := [(8, .inl q_134.1), (0, .inr (.inr (some a0))), (1, .inl v1), (2, .inl v2), (3, .inl v3), (4, .inl v4), (5, .inl v5), (6, .inl v6), (7, .inl v7)]) (st' := [.inr (.inl (0 : Int64)), .inl q_134.1, .inr (.inr (some a0))]) (by decide +kernel) rfl rfl ?_
              exact xv_w (sb228_472 E B a0 v2 q_134.1 (0 : Int64) q_134.1 (some a0) q_142.2 h hN) rfl
            · rw [if_neg q150] at h
              refine xv_if_eq E 471 (show decode prog_14_method_48_code 457 = .ok (.ifCond .eq (14), 3) by decide +kernel) rfl (fun z => absurd z q150) (fun _ => ?_)
              refine xv_b E [.aload_n 0, .iload_n 1, .iload 7] (pc' := 464) (lv' := [(8, .inl q_134.1), (0, .inr (.inr (some a0))), (1, .inl v1), (2, .inl v2), (3, .inl v3), (4, .inl v4), (5, .inl v5), (6, .inl v6), (7, .inl v7)]) (st' := [.inl v7, .inl v1, .inr (.inr (some a0)), .inl q_134.1, .inr (.inr (some a0))]) (by decide +kernel) rfl rfl ?_
              obtain ⟨b_148, h149, h⟩ := bd h
              obtain ⟨eh149, th149⟩ := g_o_some h149
              obtain ⟨q_146, h147, h⟩ := bd h
              refine xv_cvo E eh149 12 (as := [.inl v1, .inl v7]) (t227 G l (c_I_some h147)) cd227 mw1173 mw1174 mw1175 (show decode prog_14_method_48_code 464 = .ok (.invokevirtual 346, 3) by decide +kernel) th149 rfl rfl (Nat.le_of_ble_eq_true rfl) ⟨Nat.le_of_ble_eq_true rfl, Nat.le_of_ble_eq_true rfl⟩ ?_
              refine xv_b E [.i2l] (pc' := 468) (lv' := [(8, .inl q_134.1), (0, .inr (.inr (some a0))), (1, .inl v1), (2, .inl v2), (3, .inl v3), (4, .inl v4), (5, .inl v5), (6, .inl v6), (7, .inl v7)]) (st' := [.inr (.inl (Int32.toInt64 q_146.1)), .inl q_134.1, .inr (.inr (some a0))]) (by decide +kernel) rfl rfl ?_
              refine xv_goto E 472 (show decode prog_14_method_48_code 468 = .ok (.goto (4), 3) by decide +kernel) rfl ?_
              exact xv_w (sb228_472 E B a0 v2 q_134.1 (Int32.toInt64 q_146.1) q_134.1 (some a0) q_146.2 h hN) rfl
          · rw [if_neg q151] at h
            refine xv_icmp_eq E 416 (show decode prog_14_method_48_code 402 = .ok (.if_icmp .eq (14), 3) by decide +kernel) rfl (fun z => absurd z q151) (fun _ => ?_)
            exact xv_w (sb228_405 E B a0 q_122.2 h hN) rfl
    · rw [if_neg q154] at h
      refine xv_icmp_ne E 483 (show decode prog_14_method_48_code 371 = .ok (.if_icmp .ne (112), 3) by decide +kernel) rfl (fun _ => ?_) (fun z => absurd z q154)
      exact xv_w (sb228_483 E B  M h hN) rfl
  · rw [if_neg q155] at h
    refine xv_icmp_ne E 483 (show decode prog_14_method_48_code 363 = .ok (.if_icmp .ne (120), 3) by decide +kernel) rfl (fun _ => ?_) (fun z => absurd z q155)
    exact xv_w (sb228_483 E B  M h hN) rfl
theorem sb228_276 (E : xE G p (xRm 7 (h_sz M' - z0) (h_sl M' - y0)) s m args c prog_14_method_48_code "ZonedFabricModel" z0 y0 (h_sz M') (h_sl M') 9) (B : xB ym228 none meth) (a0 : Nat) (v1 : Int32) (v2 : Int32) (v3 : Int32) (v4 : Int32) (v5 : Int32) (v6 : Int32) (v7 : Int32) (M : hM) {res : xRes} (h : b228_276 a0 v1 v2 v3 v4 v5 v6 v7 M = some res) (hN : xN (pg228 p l e s m args below meth c G z0 y0 r M') r M' res) : xV G p l e (xRm 7 (h_sz M' - z0) (h_sl M' - y0)) s m args below meth c z0 y0 (h_sz M') (h_sl M') 9 (MQ below (xQc G r M') args s (h_sz M' - z0) (h_sl M' - y0) (xFr G)) 276 [(0, .inr (.inr (some a0))), (1, .inl v1), (2, .inl v2), (3, .inl v3), (4, .inl v4), (5, .inl v5), (6, .inl v6), (7, .inl v7)] [] M := by
  unfold b228_276 at h
  refine xv_b E [.iload 5, .iconst 3] (pc' := 279) (lv' := [(0, .inr (.inr (some a0))), (1, .inl v1), (2, .inl v2), (3, .inl v3), (4, .inl v4), (5, .inl v5), (6, .inl v6), (7, .inl v7)]) (st' := [.inl (3 : Int32), .inl v5]) (by decide +kernel) rfl rfl ?_
  by_cases q117 : v5 = (3 : Int32)
  · rw [if_pos q117] at h
    refine xv_icmp_ne E 360 (show decode prog_14_method_48_code 279 = .ok (.if_icmp .ne (81), 3) by decide +kernel) rfl (fun z => absurd q117 z) (fun _ => ?_)
    refine xv_b E [.iload 4] (pc' := 284) (lv' := [(0, .inr (.inr (some a0))), (1, .inl v1), (2, .inl v2), (3, .inl v3), (4, .inl v4), (5, .inl v5), (6, .inl v6), (7, .inl v7)]) (st' := [.inl v4]) (by decide +kernel) rfl rfl ?_
    refine xv_ldcw E (16777214 : Int32) mw1060 (show decode prog_14_method_48_code 284 = .ok (.ldc_w 300, 3) by decide +kernel) ?_
    by_cases q116 : v4 = (16777214 : Int32)
    · rw [if_pos q116] at h
      refine xv_icmp_ne E 360 (show decode prog_14_method_48_code 287 = .ok (.if_icmp .ne (73), 3) by decide +kernel) rfl (fun z => absurd q116 z) (fun _ => ?_)
      refine xv_b E [.iload 6, .iconst (-1)] (pc' := 293) (lv' := [(0, .inr (.inr (some a0))), (1, .inl v1), (2, .inl v2), (3, .inl v3), (4, .inl v4), (5, .inl v5), (6, .inl v6), (7, .inl v7)]) (st' := [.inl (-1 : Int32), .inl v6]) (by decide +kernel) rfl rfl ?_
      by_cases q115 : v6 = (-1 : Int32)
      · rw [if_pos q115] at h
        refine xv_icmp_eq E 360 (show decode prog_14_method_48_code 293 = .ok (.if_icmp .eq (67), 3) by decide +kernel) rfl (fun _ => ?_) (fun z => absurd q115 z)
        exact xv_w (sb228_360 E B a0 v1 v2 v3 v4 v5 v6 v7 M h hN) rfl
      · rw [if_neg q115] at h
        refine xv_icmp_eq E 360 (show decode prog_14_method_48_code 293 = .ok (.if_icmp .eq (67), 3) by decide +kernel) rfl (fun z => absurd z q115) (fun _ => ?_)
        refine xv_b E [.aload_n 0, .iload_n 1] (pc' := 298) (lv' := [(0, .inr (.inr (some a0))), (1, .inl v1), (2, .inl v2), (3, .inl v3), (4, .inl v4), (5, .inl v5), (6, .inl v6), (7, .inl v7)]) (st' := [.inl v1, .inr (.inr (some a0))]) (by decide +kernel) rfl rfl ?_
        obtain ⟨b_92, h93, h⟩ := bd h
        obtain ⟨eh93, th93⟩ := g_o_some h93
        obtain ⟨q_90, h91, h⟩ := bd h
        refine xv_cvo E eh93 12 (as := [.inl v1]) (t200 G l (c_I_some h91)) cd200 mw1148 mw1149 mw1150 (show decode prog_14_method_48_code 298 = .ok (.invokevirtual 297, 3) by decide +kernel) th93 rfl rfl (Nat.le_of_ble_eq_true rfl) ⟨Nat.le_of_ble_eq_true rfl, Nat.le_of_ble_eq_true rfl⟩ ?_
        by_cases q114 : q_90.1 = 0
        · rw [if_pos q114] at h
          refine xv_if_eq E 305 (show decode prog_14_method_48_code 301 = .ok (.ifCond .eq (4), 3) by decide +kernel) rfl (fun _ => ?_) (fun z => absurd q114 z)
          refine xv_b E [.aload_n 0] (pc' := 306) (lv' := [(0, .inr (.inr (some a0))), (1, .inl v1), (2, .inl v2), (3, .inl v3), (4, .inl v4), (5, .inl v5), (6, .inl v6), (7, .inl v7)]) (st' := [.inr (.inr (some a0))]) (by decide +kernel) rfl rfl ?_
          obtain ⟨o_94, h95, h⟩ := bd h
          refine xg_r E 12 25 h95 mw885 (show decode prog_14_method_48_code 306 = .ok (.getfield 70, 3) by decide +kernel) ?_
          refine xv_b E [.iload_n 2, .aload_n 0] (pc' := 311) (lv' := [(0, .inr (.inr (some a0))), (1, .inl v1), (2, .inl v2), (3, .inl v3), (4, .inl v4), (5, .inl v5), (6, .inl v6), (7, .inl v7)]) (st' := [.inr (.inr (some a0)), .inl v2, .inr (.inr o_94)]) (by decide +kernel) rfl rfl ?_
          obtain ⟨o_96, h97, h⟩ := bd h
          refine xg_r E 12 26 h97 mw886 (show decode prog_14_method_48_code 311 = .ok (.getfield 73, 3) by decide +kernel) ?_
          refine xv_b E [.iload_n 1] (pc' := 315) (lv' := [(0, .inr (.inr (some a0))), (1, .inl v1), (2, .inl v2), (3, .inl v3), (4, .inl v4), (5, .inl v5), (6, .inl v6), (7, .inl v7)]) (st' := [.inl v1, .inr (.inr o_96), .inl v2, .inr (.inr o_94)]) (by decide +kernel) rfl rfl ?_
          obtain ⟨v_98, h99, h⟩ := bd h
          refine xa_i E h99 (show decode prog_14_method_48_code 315 = .ok (.iaload, 1) by decide +kernel) ?_
          refine xv_b E [.bipush 16, .ishl, .iload_n 2, .bipush 8, .iload_n 1, .imul, .isub, .bipush 8, .ishl, .ior, .iload 6, .iconst 1, .iadd, .ior] (pc' := 334) (lv' := [(0, .inr (.inr (some a0))), (1, .inl v1), (2, .inl v2), (3, .inl v3), (4, .inl v4), (5, .inl v5), (6, .inl v6), (7, .inl v7)]) (st' := [.inl (((v_98 <<< ((16 : Int32) &&& 31)) ||| ((v2 - ((8 : Int32) * v1)) <<< ((8 : Int32) &&& 31))) ||| (v6 + (1 : Int32))), .inl v2, .inr (.inr o_94)]) (by decide +kernel) rfl rfl ?_
          obtain ⟨M100, h101, h⟩ := bd h
          refine xs_i E h101 (show decode prog_14_method_48_code 334 = .ok (.iastore, 1) by decide +kernel) ?_
          refine xv_b E [.aload_n 0, .iload_n 2, .aload_n 0, .iconst 4, .aload_n 0] (pc' := 340) (lv' := [(0, .inr (.inr (some a0))), (1, .inl v1), (2, .inl v2), (3, .inl v3), (4, .inl v4), (5, .inl v5), (6, .inl v6), (7, .inl v7)]) (st' := [.inr (.inr (some a0)), .inl (4 : Int32), .inr (.inr (some a0)), .inl v2, .inr (.inr (some a0))]) (by decide +kernel) rfl rfl ?_
          obtain ⟨o_102, h103, h⟩ := bd h
          refine xg_r E 12 25 h103 mw885 (show decode prog_14_method_48_code 340 = .ok (.getfield 70, 3) by decide +kernel) ?_
          refine xv_b E [.iload_n 2] (pc' := 344) (lv' := [(0, .inr (.inr (some a0))), (1, .inl v1), (2, .inl v2), (3, .inl v3), (4, .inl v4), (5, .inl v5), (6, .inl v6), (7, .inl v7)]) (st' := [.inl v2, .inr (.inr o_102), .inl (4 : Int32), .inr (.inr (some a0)), .inl v2, .inr (.inr (some a0))]) (by decide +kernel) rfl rfl ?_
          obtain ⟨v_104, h105, h⟩ := bd h
          refine xa_i E h105 (show decode prog_14_method_48_code 344 = .ok (.iaload, 1) by decide +kernel) ?_
          refine xv_ldcw E (16777214 : Int32) mw1060 (show decode prog_14_method_48_code 345 = .ok (.ldc_w 300, 3) by decide +kernel) ?_
          refine xv_b E [.iconst 0, .iconst 0, .iconst 0] (pc' := 351) (lv' := [(0, .inr (.inr (some a0))), (1, .inl v1), (2, .inl v2), (3, .inl v3), (4, .inl v4), (5, .inl v5), (6, .inl v6), (7, .inl v7)]) (st' := [.inl (0 : Int32), .inl (0 : Int32), .inl (0 : Int32), .inl (16777214 : Int32), .inl v_104, .inl (4 : Int32), .inr (.inr (some a0)), .inl v2, .inr (.inr (some a0))]) (by decide +kernel) rfl rfl ?_
          obtain ⟨b_108, h109, h⟩ := bd h
          obtain ⟨eh109, th109⟩ := g_o_some h109
          obtain ⟨q_106, h107, h⟩ := bd h
          refine xv_cvo E eh109 12 (as := [.inl (4 : Int32), .inl v_104, .inl (16777214 : Int32), .inl (0 : Int32), .inl (0 : Int32), .inl (0 : Int32)]) (t168 G l (c_I_some h107)) cd168 mw1033 mw1034 mw1035 (show decode prog_14_method_48_code 351 = .ok (.invokevirtual 272, 3) by decide +kernel) th109 rfl rfl (Nat.le_of_ble_eq_true rfl) ⟨Nat.le_of_ble_eq_true rfl, Nat.le_of_ble_eq_true rfl⟩ ?_
          obtain ⟨b_112, h113, h⟩ := bd h
          obtain ⟨eh113, th113⟩ := g_o_some h113
          obtain ⟨q_110, h111, h⟩ := bd h
          refine xv_cvo E eh113 12 (as := [.inl v2, .inl q_106.1]) (t183 G l (c_V_some h111)) cd183 mw1043 mw1044 mw1045 (show decode prog_14_method_48_code 354 = .ok (.invokevirtual 301, 3) by decide +kernel) th113 rfl rfl (Nat.le_of_ble_eq_true rfl) ⟨Nat.le_of_ble_eq_true rfl, Nat.le_of_ble_eq_true rfl⟩ ?_
          refine xv_goto E 483 (show decode prog_14_method_48_code 357 = .ok (.goto (126), 3) by decide +kernel) rfl ?_
          exact xv_w (sb228_483 E B  q_110 h hN) rfl
        · rw [if_neg q114] at h
          refine xv_if_eq E 305 (show decode prog_14_method_48_code 301 = .ok (.ifCond .eq (4), 3) by decide +kernel) rfl (fun z => absurd z q114) (fun _ => ?_)
          obtain rfl := Option.some.inj h
          obtain ⟨rfl, rfl⟩ := Prod.mk.inj (show ((none : Option aV), q_90.2) = (r, M') from hN)
          exact xv_rv E B.1 B.2.1 (show decode prog_14_method_48_code 304 = .ok (.return_, 1) by decide +kernel) rfl rfl
    · rw [if_neg q116] at h
      refine xv_icmp_ne E 360 (show decode prog_14_method_48_code 287 = .ok (.if_icmp .ne (73), 3) by decide +kernel) rfl (fun _ => ?_) (fun z => absurd z q116)
      exact xv_w (sb228_360 E B a0 v1 v2 v3 v4 v5 v6 v7 M h hN) rfl
  · rw [if_neg q117] at h
    refine xv_icmp_ne E 360 (show decode prog_14_method_48_code 279 = .ok (.if_icmp .ne (81), 3) by decide +kernel) rfl (fun _ => ?_) (fun z => absurd z q117)
    exact xv_w (sb228_360 E B a0 v1 v2 v3 v4 v5 v6 v7 M h hN) rfl
theorem sb228_105 (E : xE G p (xRm 7 (h_sz M' - z0) (h_sl M' - y0)) s m args c prog_14_method_48_code "ZonedFabricModel" z0 y0 (h_sz M') (h_sl M') 9) (B : xB ym228 none meth) (a0 : Nat) (v1 : Int32) (v2 : Int32) (v3 : Int32) (v4 : Int32) (v5 : Int32) (v6 : Int32) (v7 : Int32) (M : hM) {res : xRes} (h : b228_105 a0 v1 v2 v3 v4 v5 v6 v7 M = some res) (hN : xN (pg228 p l e s m args below meth c G z0 y0 r M') r M' res) : xV G p l e (xRm 7 (h_sz M' - z0) (h_sl M' - y0)) s m args below meth c z0 y0 (h_sz M') (h_sl M') 9 (MQ below (xQc G r M') args s (h_sz M' - z0) (h_sl M' - y0) (xFr G)) 105 [(0, .inr (.inr (some a0))), (1, .inl v1), (2, .inl v2), (3, .inl v3), (4, .inl v4), (5, .inl v5), (6, .inl v6), (7, .inl v7)] [] M := by
  unfold b228_105 at h
  refine xv_b E [.iload 5, .iconst 2] (pc' := 108) (lv' := [(0, .inr (.inr (some a0))), (1, .inl v1), (2, .inl v2), (3, .inl v3), (4, .inl v4), (5, .inl v5), (6, .inl v6), (7, .inl v7)]) (st' := [.inl (2 : Int32), .inl v5]) (by decide +kernel) rfl rfl ?_
  by_cases q53 : v5 = (2 : Int32)
  · rw [if_pos q53] at h
    refine xv_icmp_ne E 276 (show decode prog_14_method_48_code 108 = .ok (.if_icmp .ne (168), 3) by decide +kernel) rfl (fun z => absurd q53 z) (fun _ => ?_)
    refine xv_b E [.iload 4] (pc' := 113) (lv' := [(0, .inr (.inr (some a0))), (1, .inl v1), (2, .inl v2), (3, .inl v3), (4, .inl v4), (5, .inl v5), (6, .inl v6), (7, .inl v7)]) (st' := [.inl v4]) (by decide +kernel) rfl rfl ?_
    refine xv_ldcw E (16777213 : Int32) mw1036 (show decode prog_14_method_48_code 113 = .ok (.ldc_w 271, 3) by decide +kernel) ?_
    by_cases q52 : v4 = (16777213 : Int32)
    · rw [if_pos q52] at h
      refine xv_icmp_ne E 276 (show decode prog_14_method_48_code 116 = .ok (.if_icmp .ne (160), 3) by decide +kernel) rfl (fun z => absurd q52 z) (fun _ => ?_)
      refine xv_b E [.iload 6, .iconst (-1)] (pc' := 122) (lv' := [(0, .inr (.inr (some a0))), (1, .inl v1), (2, .inl v2), (3, .inl v3), (4, .inl v4), (5, .inl v5), (6, .inl v6), (7, .inl v7)]) (st' := [.inl (-1 : Int32), .inl v6]) (by decide +kernel) rfl rfl ?_
      by_cases q51 : v6 = (-1 : Int32)
      · rw [if_pos q51] at h
        refine xv_icmp_ne E 276 (show decode prog_14_method_48_code 122 = .ok (.if_icmp .ne (154), 3) by decide +kernel) rfl (fun z => absurd q51 z) (fun _ => ?_)
        refine xv_b E [.iload 7, .iload_n 1] (pc' := 128) (lv' := [(0, .inr (.inr (some a0))), (1, .inl v1), (2, .inl v2), (3, .inl v3), (4, .inl v4), (5, .inl v5), (6, .inl v6), (7, .inl v7)]) (st' := [.inl v1, .inl v7]) (by decide +kernel) rfl rfl ?_
        by_cases q50 : v7 = v1
        · rw [if_pos q50] at h
          refine xv_icmp_eq E 167 (show decode prog_14_method_48_code 128 = .ok (.if_icmp .eq (39), 3) by decide +kernel) rfl (fun _ => ?_) (fun z => absurd q50 z)
          exact xv_w (sb228_167 E B  M h hN) rfl
        · rw [if_neg q50] at h
          refine xv_icmp_eq E 167 (show decode prog_14_method_48_code 128 = .ok (.if_icmp .eq (39), 3) by decide +kernel) rfl (fun z => absurd z q50) (fun _ => ?_)
          refine xv_b E [.aload_n 0, .iload_n 3, .bipush 14, .iconst 3] (pc' := 136) (lv' := [(0, .inr (.inr (some a0))), (1, .inl v1), (2, .inl v2), (3, .inl v3), (4, .inl v4), (5, .inl v5), (6, .inl v6), (7, .inl v7)]) (st' := [.inl (3 : Int32), .inl (14 : Int32), .inl v3, .inr (.inr (some a0))]) (by decide +kernel) rfl rfl ?_
          obtain ⟨b_39, h40, h⟩ := bd h
          obtain ⟨eh40, th40⟩ := g_o_some h40
          obtain ⟨q_37, h38, h⟩ := bd h
          refine xv_cvo E eh40 12 (as := [.inl v3, .inl (14 : Int32), .inl (3 : Int32)]) (t166 G l (c_I_some h38)) cd166 mw947 mw948 mw949 (show decode prog_14_method_48_code 136 = .ok (.invokevirtual 198, 3) by decide +kernel) th40 rfl rfl (Nat.le_of_ble_eq_true rfl) ⟨Nat.le_of_ble_eq_true rfl, Nat.le_of_ble_eq_true rfl⟩ ?_
          refine xv_b E [.aload_n 0] (pc' := 140) (lv' := [(0, .inr (.inr (some a0))), (1, .inl v1), (2, .inl v2), (3, .inl v3), (4, .inl v4), (5, .inl v5), (6, .inl v6), (7, .inl v7)]) (st' := [.inr (.inr (some a0)), .inl q_37.1]) (by decide +kernel) rfl rfl ?_
          obtain ⟨o_41, h42, h⟩ := bd h
          refine xg_r E 12 27 h42 mw887 (show decode prog_14_method_48_code 140 = .ok (.getfield 76, 3) by decide +kernel) ?_
          refine xv_b E [.iconst 5, .iload_n 1, .imul, .iload 7, .iadd] (pc' := 149) (lv' := [(0, .inr (.inr (some a0))), (1, .inl v1), (2, .inl v2), (3, .inl v3), (4, .inl v4), (5, .inl v5), (6, .inl v6), (7, .inl v7)]) (st' := [.inl (((5 : Int32) * v1) + v7), .inr (.inr o_41), .inl q_37.1]) (by decide +kernel) rfl rfl ?_
          obtain ⟨v_43, h44, h⟩ := bd h
          refine xa_z E h44 (show decode prog_14_method_48_code 149 = .ok (.baload, 1) by decide +kernel) ?_
          by_cases q49 : v_43 = 0
          · rw [if_pos q49] at h
            refine xv_if_eq E 163 (show decode prog_14_method_48_code 150 = .ok (.ifCond .eq (13), 3) by decide +kernel) rfl (fun _ => ?_) (fun z => absurd q49 z)
            refine xv_b E [.iconst 0] (pc' := 164) (lv' := [(0, .inr (.inr (some a0))), (1, .inl v1), (2, .inl v2), (3, .inl v3), (4, .inl v4), (5, .inl v5), (6, .inl v6), (7, .inl v7)]) (st' := [.inl (0 : Int32), .inl q_37.1]) (by decide +kernel) rfl rfl ?_
            exact xv_w (sb228_164 E B a0 v1 v2 v3 v7 (0 : Int32) q_37.1 q_37.2 h hN) rfl
          · rw [if_neg q49] at h
            refine xv_if_eq E 163 (show decode prog_14_method_48_code 150 = .ok (.ifCond .eq (13), 3) by decide +kernel) rfl (fun z => absurd z q49) (fun _ => ?_)
            refine xv_b E [.aload_n 0, .iload_n 1, .iload 7] (pc' := 157) (lv' := [(0, .inr (.inr (some a0))), (1, .inl v1), (2, .inl v2), (3, .inl v3), (4, .inl v4), (5, .inl v5), (6, .inl v6), (7, .inl v7)]) (st' := [.inl v7, .inl v1, .inr (.inr (some a0)), .inl q_37.1]) (by decide +kernel) rfl rfl ?_
            obtain ⟨b_47, h48, h⟩ := bd h
            obtain ⟨eh48, th48⟩ := g_o_some h48
            obtain ⟨q_45, h46, h⟩ := bd h
            refine xv_cvo E eh48 12 (as := [.inl v1, .inl v7]) (t191 G l (c_I_some h46)) cd191 mw1141 mw1142 mw1143 (show decode prog_14_method_48_code 157 = .ok (.invokevirtual 312, 3) by decide +kernel) th48 rfl rfl (Nat.le_of_ble_eq_true rfl) ⟨Nat.le_of_ble_eq_true rfl, Nat.le_of_ble_eq_true rfl⟩ ?_
            refine xv_goto E 164 (show decode prog_14_method_48_code 160 = .ok (.goto (4), 3) by decide +kernel) rfl ?_
            exact xv_w (sb228_164 E B a0 v1 v2 v3 v7 q_45.1 q_37.1 q_45.2 h hN) rfl
      · rw [if_neg q51] at h
        refine xv_icmp_ne E 276 (show decode prog_14_method_48_code 122 = .ok (.if_icmp .ne (154), 3) by decide +kernel) rfl (fun _ => ?_) (fun z => absurd z q51)
        exact xv_w (sb228_276 E B a0 v1 v2 v3 v4 v5 v6 v7 M h hN) rfl
    · rw [if_neg q52] at h
      refine xv_icmp_ne E 276 (show decode prog_14_method_48_code 116 = .ok (.if_icmp .ne (160), 3) by decide +kernel) rfl (fun _ => ?_) (fun z => absurd z q52)
      exact xv_w (sb228_276 E B a0 v1 v2 v3 v4 v5 v6 v7 M h hN) rfl
  · rw [if_neg q53] at h
    refine xv_icmp_ne E 276 (show decode prog_14_method_48_code 108 = .ok (.if_icmp .ne (168), 3) by decide +kernel) rfl (fun _ => ?_) (fun z => absurd z q53)
    exact xv_w (sb228_276 E B a0 v1 v2 v3 v4 v5 v6 v7 M h hN) rfl
theorem sb228_0 (E : xE G p (xRm 7 (h_sz M' - z0) (h_sl M' - y0)) s m args c prog_14_method_48_code "ZonedFabricModel" z0 y0 (h_sz M') (h_sl M') 9) (B : xB ym228 none meth) (a0 : Nat) (v1 : Int32) (v2 : Int32) (v3 : Int32) (v4 : Int32) (M : hM) {res : xRes} (h : b228_0 a0 v1 v2 v3 v4 M = some res) (hN : xN (pg228 p l e s m args below meth c G z0 y0 r M') r M' res) : xV G p l e (xRm 7 (h_sz M' - z0) (h_sl M' - y0)) s m args below meth c z0 y0 (h_sz M') (h_sl M') 9 (MQ below (xQc G r M') args s (h_sz M' - z0) (h_sl M' - y0) (xFr G)) 0 [(0, .inr (.inr (some a0))), (1, .inl v1), (2, .inl v2), (3, .inl v3), (4, .inl v4)] [] M := by
  unfold b228_0 at h
  refine xv_b E [.aload_n 0, .iload_n 3, .iconst 0] (pc' := 3) (lv' := [(0, .inr (.inr (some a0))), (1, .inl v1), (2, .inl v2), (3, .inl v3), (4, .inl v4)]) (st' := [.inl (0 : Int32), .inl v3, .inr (.inr (some a0))]) (by decide +kernel) rfl rfl ?_
  obtain ⟨b_3, h4, h⟩ := bd h
  obtain ⟨eh4, th4⟩ := g_o_some h4
  obtain ⟨q_1, h2, h⟩ := bd h
  refine xv_cvo E eh4 12 (as := [.inl v3, .inl (0 : Int32)]) (t165 G l (c_I_some h2)) cd165 mw927 mw928 mw929 (show decode prog_14_method_48_code 3 = .ok (.invokevirtual 186, 3) by decide +kernel) th4 rfl rfl (Nat.le_of_ble_eq_true rfl) ⟨Nat.le_of_ble_eq_true rfl, Nat.le_of_ble_eq_true rfl⟩ ?_
  refine xv_b E [.istore 5, .aload_n 0, .iload_n 2] (pc' := 10) (lv' := [(5, .inl q_1.1), (0, .inr (.inr (some a0))), (1, .inl v1), (2, .inl v2), (3, .inl v3), (4, .inl v4)]) (st' := [.inl v2, .inr (.inr (some a0))]) (by decide +kernel) rfl rfl ?_
  obtain ⟨b_7, h8, h⟩ := bd h
  obtain ⟨eh8, th8⟩ := g_o_some h8
  obtain ⟨q_5, h6, h⟩ := bd h
  refine xv_cvo E eh8 12 (as := [.inl v2]) (t179 G l (c_I_some h6)) cd179 mw1154 mw1155 mw1156 (show decode prog_14_method_48_code 10 = .ok (.invokevirtual 303, 3) by decide +kernel) th8 rfl rfl (Nat.le_of_ble_eq_true rfl) ⟨Nat.le_of_ble_eq_true rfl, Nat.le_of_ble_eq_true rfl⟩ ?_
  refine xv_b E [.istore 6, .aload_n 0, .iload_n 3, .bipush 13] (pc' := 19) (lv' := [(6, .inl q_5.1), (5, .inl q_1.1), (0, .inr (.inr (some a0))), (1, .inl v1), (2, .inl v2), (3, .inl v3), (4, .inl v4)]) (st' := [.inl (13 : Int32), .inl v3, .inr (.inr (some a0))]) (by decide +kernel) rfl rfl ?_
  obtain ⟨b_11, h12, h⟩ := bd h
  obtain ⟨eh12, th12⟩ := g_o_some h12
  obtain ⟨q_9, h10, h⟩ := bd h
  refine xv_cvo E eh12 12 (as := [.inl v3, .inl (13 : Int32)]) (t165 G l (c_I_some h10)) cd165 mw927 mw928 mw929 (show decode prog_14_method_48_code 19 = .ok (.invokevirtual 186, 3) by decide +kernel) th12 rfl rfl (Nat.le_of_ble_eq_true rfl) ⟨Nat.le_of_ble_eq_true rfl, Nat.le_of_ble_eq_true rfl⟩ ?_
  refine xv_b E [.istore 7, .iload 5, .iconst 1] (pc' := 27) (lv' := [(7, .inl q_9.1), (6, .inl q_5.1), (5, .inl q_1.1), (0, .inr (.inr (some a0))), (1, .inl v1), (2, .inl v2), (3, .inl v3), (4, .inl v4)]) (st' := [.inl (1 : Int32), .inl q_1.1]) (by decide +kernel) rfl rfl ?_
  by_cases q19 : q_1.1 = (1 : Int32)
  · rw [if_pos q19] at h
    refine xv_icmp_ne E 105 (show decode prog_14_method_48_code 27 = .ok (.if_icmp .ne (78), 3) by decide +kernel) rfl (fun z => absurd q19 z) (fun _ => ?_)
    refine xv_b E [.iload 4] (pc' := 32) (lv' := [(7, .inl q_9.1), (6, .inl q_5.1), (5, .inl q_1.1), (0, .inr (.inr (some a0))), (1, .inl v1), (2, .inl v2), (3, .inl v3), (4, .inl v4)]) (st' := [.inl v4]) (by decide +kernel) rfl rfl ?_
    refine xv_ldcw E (16777213 : Int32) mw1036 (show decode prog_14_method_48_code 32 = .ok (.ldc_w 271, 3) by decide +kernel) ?_
    by_cases q18 : v4 = (16777213 : Int32)
    · rw [if_pos q18] at h
      refine xv_icmp_ne E 105 (show decode prog_14_method_48_code 35 = .ok (.if_icmp .ne (70), 3) by decide +kernel) rfl (fun z => absurd q18 z) (fun _ => ?_)
      refine xv_b E [.iload 6, .iconst (-1)] (pc' := 41) (lv' := [(7, .inl q_9.1), (6, .inl q_5.1), (5, .inl q_1.1), (0, .inr (.inr (some a0))), (1, .inl v1), (2, .inl v2), (3, .inl v3), (4, .inl v4)]) (st' := [.inl (-1 : Int32), .inl q_5.1]) (by decide +kernel) rfl rfl ?_
      by_cases q17 : q_5.1 = (-1 : Int32)
      · rw [if_pos q17] at h
        refine xv_icmp_ne E 105 (show decode prog_14_method_48_code 41 = .ok (.if_icmp .ne (64), 3) by decide +kernel) rfl (fun z => absurd q17 z) (fun _ => ?_)
        refine xv_b E [.aload_n 0] (pc' := 45) (lv' := [(7, .inl q_9.1), (6, .inl q_5.1), (5, .inl q_1.1), (0, .inr (.inr (some a0))), (1, .inl v1), (2, .inl v2), (3, .inl v3), (4, .inl v4)]) (st' := [.inr (.inr (some a0))]) (by decide +kernel) rfl rfl ?_
        obtain ⟨o_13, h14, h⟩ := bd h
        refine xg_r E 12 23 h14 mw883 (show decode prog_14_method_48_code 45 = .ok (.getfield 64, 3) by decide +kernel) ?_
        refine xv_b E [.iload_n 2, .iload 7] (pc' := 51) (lv' := [(7, .inl q_9.1), (6, .inl q_5.1), (5, .inl q_1.1), (0, .inr (.inr (some a0))), (1, .inl v1), (2, .inl v2), (3, .inl v3), (4, .inl v4)]) (st' := [.inl q_9.1, .inl v2, .inr (.inr o_13)]) (by decide +kernel) rfl rfl ?_
        obtain ⟨M15, h16, h⟩ := bd h
        refine xs_i E h16 (show decode prog_14_method_48_code 51 = .ok (.iastore, 1) by decide +kernel) ?_
        refine xv_b E [.iconst 0, .istore 8] (pc' := 55) (lv' := [(8, .inl (0 : Int32)), (7, .inl q_9.1), (6, .inl q_5.1), (5, .inl q_1.1), (0, .inr (.inr (some a0))), (1, .inl v1), (2, .inl v2), (3, .inl v3), (4, .inl v4)]) (st' := []) (by decide +kernel) rfl rfl ?_
        obtain rfl := Option.some.inj h
        exact xv_w hN rfl
      · rw [if_neg q17] at h
        refine xv_icmp_ne E 105 (show decode prog_14_method_48_code 41 = .ok (.if_icmp .ne (64), 3) by decide +kernel) rfl (fun _ => ?_) (fun z => absurd z q17)
        exact xv_w (sb228_105 E B a0 v1 v2 v3 v4 q_1.1 q_5.1 q_9.1 q_9.2 h hN) rfl
    · rw [if_neg q18] at h
      refine xv_icmp_ne E 105 (show decode prog_14_method_48_code 35 = .ok (.if_icmp .ne (70), 3) by decide +kernel) rfl (fun _ => ?_) (fun z => absurd z q18)
      exact xv_w (sb228_105 E B a0 v1 v2 v3 v4 q_1.1 q_5.1 q_9.1 q_9.2 h hN) rfl
  · rw [if_neg q19] at h
    refine xv_icmp_ne E 105 (show decode prog_14_method_48_code 27 = .ok (.if_icmp .ne (78), 3) by decide +kernel) rfl (fun _ => ?_) (fun z => absurd z q19)
    exact xv_w (sb228_105 E B a0 v1 v2 v3 v4 q_1.1 q_5.1 q_9.1 q_9.2 h hN) rfl
theorem sb228_96 (E : xE G p (xRm 7 (h_sz M' - z0) (h_sl M' - y0)) s m args c prog_14_method_48_code "ZonedFabricModel" z0 y0 (h_sz M') (h_sl M') 9) (B : xB ym228 none meth) (a0 : Nat) (v1 : Int32) (v2 : Int32) (v8 : Int32) (M : hM) {res : xRes} (h : b228_96 a0 v1 v2 v8 M = some res) (hN : xN (pg228 p l e s m args below meth c G z0 y0 r M') r M' res) : xV G p l e (xRm 7 (h_sz M' - z0) (h_sl M' - y0)) s m args below meth c z0 y0 (h_sz M') (h_sl M') 9 (MQ below (xQc G r M') args s (h_sz M' - z0) (h_sl M' - y0) (xFr G)) 96 [(0, .inr (.inr (some a0))), (1, .inl v1), (2, .inl v2), (8, .inl v8)] [] M := by
  unfold b228_96 at h
  refine xv_b E [.iinc 8 1] (pc' := 99) (lv' := [(8, .inl (v8 + (1 : Int32))), (0, .inr (.inr (some a0))), (1, .inl v1), (2, .inl v2)]) (st' := []) (by decide +kernel) rfl rfl ?_
  refine xv_goto E 55 (show decode prog_14_method_48_code 99 = .ok (.goto (-44), 3) by decide +kernel) rfl ?_
  obtain rfl := Option.some.inj h
  exact xv_w hN rfl
theorem sb228_55 (E : xE G p (xRm 7 (h_sz M' - z0) (h_sl M' - y0)) s m args c prog_14_method_48_code "ZonedFabricModel" z0 y0 (h_sz M') (h_sl M') 9) (B : xB ym228 none meth) (a0 : Nat) (v1 : Int32) (v2 : Int32) (v8 : Int32) (M : hM) {res : xRes} (h : b228_55 a0 v1 v2 v8 M = some res) (hN : xN (pg228 p l e s m args below meth c G z0 y0 r M') r M' res) : xV G p l e (xRm 7 (h_sz M' - z0) (h_sl M' - y0)) s m args below meth c z0 y0 (h_sz M') (h_sl M') 9 (MQ below (xQc G r M') args s (h_sz M' - z0) (h_sl M' - y0) (xFr G)) 55 [(0, .inr (.inr (some a0))), (1, .inl v1), (2, .inl v2), (8, .inl v8)] [] M := by
  unfold b228_55 at h
  refine xv_b E [.iload 8, .aload_n 0] (pc' := 58) (lv' := [(0, .inr (.inr (some a0))), (1, .inl v1), (2, .inl v2), (8, .inl v8)]) (st' := [.inr (.inr (some a0)), .inl v8]) (by decide +kernel) rfl rfl ?_
  obtain ⟨v_20, h21, h⟩ := bd h
  refine xg_i E 12 0 h21 mw921 (show decode prog_14_method_48_code 58 = .ok (.getfield 173, 3) by decide +kernel) ?_
  by_cases q36 : v_20 ≤ v8
  · rw [if_pos q36] at h
    refine xv_icmp_ge E 102 (show decode prog_14_method_48_code 61 = .ok (.if_icmp .ge (41), 3) by decide +kernel) rfl (fun _ => ?_) (fun z => absurd q36 z)
    refine xv_goto E 483 (show decode prog_14_method_48_code 102 = .ok (.goto (381), 3) by decide +kernel) rfl ?_
    exact xv_w (sb228_483 E B  M h hN) rfl
  · rw [if_neg q36] at h
    refine xv_icmp_ge E 102 (show decode prog_14_method_48_code 61 = .ok (.if_icmp .ge (41), 3) by decide +kernel) rfl (fun z => absurd z q36) (fun _ => ?_)
    refine xv_b E [.iload 8, .iload_n 1] (pc' := 67) (lv' := [(0, .inr (.inr (some a0))), (1, .inl v1), (2, .inl v2), (8, .inl v8)]) (st' := [.inl v1, .inl v8]) (by decide +kernel) rfl rfl ?_
    by_cases q35 : v8 = v1
    · rw [if_pos q35] at h
      refine xv_icmp_eq E 96 (show decode prog_14_method_48_code 67 = .ok (.if_icmp .eq (29), 3) by decide +kernel) rfl (fun _ => ?_) (fun z => absurd q35 z)
      exact xv_w (sb228_96 E B a0 v1 v2 v8 M h hN) rfl
    · rw [if_neg q35] at h
      refine xv_icmp_eq E 96 (show decode prog_14_method_48_code 67 = .ok (.if_icmp .eq (29), 3) by decide +kernel) rfl (fun z => absurd z q35) (fun _ => ?_)
      refine xv_b E [.aload_n 0] (pc' := 71) (lv' := [(0, .inr (.inr (some a0))), (1, .inl v1), (2, .inl v2), (8, .inl v8)]) (st' := [.inr (.inr (some a0))]) (by decide +kernel) rfl rfl ?_
      obtain ⟨o_22, h23, h⟩ := bd h
      refine xg_r E 12 27 h23 mw887 (show decode prog_14_method_48_code 71 = .ok (.getfield 76, 3) by decide +kernel) ?_
      refine xv_b E [.iconst 5, .iload_n 1, .imul, .iload 8, .iadd] (pc' := 80) (lv' := [(0, .inr (.inr (some a0))), (1, .inl v1), (2, .inl v2), (8, .inl v8)]) (st' := [.inl (((5 : Int32) * v1) + v8), .inr (.inr o_22)]) (by decide +kernel) rfl rfl ?_
      obtain ⟨v_24, h25, h⟩ := bd h
      refine xa_z E h25 (show decode prog_14_method_48_code 80 = .ok (.baload, 1) by decide +kernel) ?_
      by_cases q34 : v_24 = 0
      · rw [if_pos q34] at h
        refine xv_if_eq E 96 (show decode prog_14_method_48_code 81 = .ok (.ifCond .eq (15), 3) by decide +kernel) rfl (fun _ => ?_) (fun z => absurd q34 z)
        exact xv_w (sb228_96 E B a0 v1 v2 v8 M h hN) rfl
      · rw [if_neg q34] at h
        refine xv_if_eq E 96 (show decode prog_14_method_48_code 81 = .ok (.ifCond .eq (15), 3) by decide +kernel) rfl (fun z => absurd z q34) (fun _ => ?_)
        refine xv_b E [.aload_n 0, .iload_n 2, .aload_n 0, .iload_n 1, .iload 8] (pc' := 90) (lv' := [(0, .inr (.inr (some a0))), (1, .inl v1), (2, .inl v2), (8, .inl v8)]) (st' := [.inl v8, .inl v1, .inr (.inr (some a0)), .inl v2, .inr (.inr (some a0))]) (by decide +kernel) rfl rfl ?_
        obtain ⟨b_28, h29, h⟩ := bd h
        obtain ⟨eh29, th29⟩ := g_o_some h29
        obtain ⟨q_26, h27, h⟩ := bd h
        refine xv_cvo E eh29 12 (as := [.inl v1, .inl v8]) (t202 G l (c_I_some h27)) cd202 mw1137 mw1138 mw1139 (show decode prog_14_method_48_code 90 = .ok (.invokevirtual 319, 3) by decide +kernel) th29 rfl rfl (Nat.le_of_ble_eq_true rfl) ⟨Nat.le_of_ble_eq_true rfl, Nat.le_of_ble_eq_true rfl⟩ ?_
        obtain ⟨b_32, h33, h⟩ := bd h
        obtain ⟨eh33, th33⟩ := g_o_some h33
        obtain ⟨q_30, h31, h⟩ := bd h
        refine xv_cvo E eh33 12 (as := [.inl v2, .inl q_26.1]) (t183 G l (c_V_some h31)) cd183 mw1043 mw1044 mw1045 (show decode prog_14_method_48_code 93 = .ok (.invokevirtual 301, 3) by decide +kernel) th33 rfl rfl (Nat.le_of_ble_eq_true rfl) ⟨Nat.le_of_ble_eq_true rfl, Nat.le_of_ble_eq_true rfl⟩ ?_
        exact xv_w (sb228_96 E B a0 v1 v2 v8 q_30 h hN) rfl
theorem sb228_218 (E : xE G p (xRm 7 (h_sz M' - z0) (h_sl M' - y0)) s m args c prog_14_method_48_code "ZonedFabricModel" z0 y0 (h_sz M') (h_sl M') 9) (B : xB ym228 none meth) (a0 : Nat) (v1 : Int32) (v2 : Int32) (v3 : Int32) (v7 : Int32) (v8 : Int32) (M : hM) {res : xRes} (h : b228_218 a0 v1 v2 v3 v7 v8 M = some res) (hN : xN (pg228 p l e s m args below meth c G z0 y0 r M') r M' res) : xV G p l e (xRm 7 (h_sz M' - z0) (h_sl M' - y0)) s m args below meth c z0 y0 (h_sz M') (h_sl M') 9 (MQ below (xQc G r M') args s (h_sz M' - z0) (h_sl M' - y0) (xFr G)) 218 [(0, .inr (.inr (some a0))), (1, .inl v1), (2, .inl v2), (3, .inl v3), (7, .inl v7), (8, .inl v8)] [] M := by
  unfold b228_218 at h
  refine xv_b E [.iload 8, .aload_n 0] (pc' := 221) (lv' := [(0, .inr (.inr (some a0))), (1, .inl v1), (2, .inl v2), (3, .inl v3), (7, .inl v7), (8, .inl v8)]) (st' := [.inr (.inr (some a0)), .inl v8]) (by decide +kernel) rfl rfl ?_
  obtain ⟨o_73, h74, h⟩ := bd h
  refine xg_r E 12 7 h74 mw868 (show decode prog_14_method_48_code 221 = .ok (.getfield 21, 3) by decide +kernel) ?_
  refine xv_b E [.iload_n 3] (pc' := 225) (lv' := [(0, .inr (.inr (some a0))), (1, .inl v1), (2, .inl v2), (3, .inl v3), (7, .inl v7), (8, .inl v8)]) (st' := [.inl v3, .inr (.inr o_73), .inl v8]) (by decide +kernel) rfl rfl ?_
  obtain ⟨v_75, h76, h⟩ := bd h
  refine xa_i E h76 (show decode prog_14_method_48_code 225 = .ok (.iaload, 1) by decide +kernel) ?_
  refine xv_b E [.bipush 17, .isub] (pc' := 229) (lv' := [(0, .inr (.inr (some a0))), (1, .inl v1), (2, .inl v2), (3, .inl v3), (7, .inl v7), (8, .inl v8)]) (st' := [.inl (v_75 - (17 : Int32)), .inl v8]) (by decide +kernel) rfl rfl ?_
  by_cases q89 : (v_75 - (17 : Int32)) ≤ v8
  · rw [if_pos q89] at h
    refine xv_icmp_ge E 265 (show decode prog_14_method_48_code 229 = .ok (.if_icmp .ge (36), 3) by decide +kernel) rfl (fun _ => ?_) (fun z => absurd q89 z)
    refine xv_b E [.aload_n 0, .iload_n 1, .iload 7, .iload_n 2] (pc' := 270) (lv' := [(0, .inr (.inr (some a0))), (1, .inl v1), (2, .inl v2), (3, .inl v3), (7, .inl v7), (8, .inl v8)]) (st' := [.inl v2, .inl v7, .inl v1, .inr (.inr (some a0))]) (by decide +kernel) rfl rfl ?_
    obtain ⟨b_79, h80, h⟩ := bd h
    obtain ⟨eh80, th80⟩ := g_o_some h80
    obtain ⟨q_77, h78, h⟩ := bd h
    refine xv_cvo E eh80 12 (as := [.inl v1, .inl v7, .inl v2]) (t222 G l (c_V_some h78)) cd222 mw1144 mw1145 mw1146 (show decode prog_14_method_48_code 270 = .ok (.invokevirtual 315, 3) by decide +kernel) th80 rfl rfl (Nat.le_of_ble_eq_true rfl) ⟨Nat.le_of_ble_eq_true rfl, Nat.le_of_ble_eq_true rfl⟩ ?_
    refine xv_goto E 483 (show decode prog_14_method_48_code 273 = .ok (.goto (210), 3) by decide +kernel) rfl ?_
    exact xv_w (sb228_483 E B  q_77 h hN) rfl
  · rw [if_neg q89] at h
    refine xv_icmp_ge E 265 (show decode prog_14_method_48_code 229 = .ok (.if_icmp .ge (36), 3) by decide +kernel) rfl (fun z => absurd z q89) (fun _ => ?_)
    refine xv_b E [.aload_n 0] (pc' := 233) (lv' := [(0, .inr (.inr (some a0))), (1, .inl v1), (2, .inl v2), (3, .inl v3), (7, .inl v7), (8, .inl v8)]) (st' := [.inr (.inr (some a0))]) (by decide +kernel) rfl rfl ?_
    obtain ⟨o_81, h82, h⟩ := bd h
    refine xg_r E 12 29 h82 mw889 (show decode prog_14_method_48_code 233 = .ok (.getfield 82, 3) by decide +kernel) ?_
    refine xv_b E [.bipush 64, .iconst 5, .iload_n 1, .imul, .iload 7, .iadd, .imul, .iload 8, .iadd, .aload_n 0, .iload_n 3, .bipush 13, .iload 8, .iadd] (pc' := 255) (lv' := [(0, .inr (.inr (some a0))), (1, .inl v1), (2, .inl v2), (3, .inl v3), (7, .inl v7), (8, .inl v8)]) (st' := [.inl ((13 : Int32) + v8), .inl v3, .inr (.inr (some a0)), .inl (((64 : Int32) * (((5 : Int32) * v1) + v7)) + v8), .inr (.inr o_81)]) (by decide +kernel) rfl rfl ?_
    obtain ⟨b_85, h86, h⟩ := bd h
    obtain ⟨eh86, th86⟩ := g_o_some h86
    obtain ⟨q_83, h84, h⟩ := bd h
    refine xv_cvo E eh86 12 (as := [.inl v3, .inl ((13 : Int32) + v8)]) (t165 G l (c_I_some h84)) cd165 mw927 mw928 mw929 (show decode prog_14_method_48_code 255 = .ok (.invokevirtual 186, 3) by decide +kernel) th86 rfl rfl (Nat.le_of_ble_eq_true rfl) ⟨Nat.le_of_ble_eq_true rfl, Nat.le_of_ble_eq_true rfl⟩ ?_
    obtain ⟨M87, h88, h⟩ := bd h
    refine xs_i E h88 (show decode prog_14_method_48_code 258 = .ok (.iastore, 1) by decide +kernel) ?_
    refine xv_b E [.iinc 8 1] (pc' := 262) (lv' := [(8, .inl (v8 + (1 : Int32))), (0, .inr (.inr (some a0))), (1, .inl v1), (2, .inl v2), (3, .inl v3), (7, .inl v7)]) (st' := []) (by decide +kernel) rfl rfl ?_
    refine xv_goto E 218 (show decode prog_14_method_48_code 262 = .ok (.goto (-44), 3) by decide +kernel) rfl ?_
    obtain rfl := Option.some.inj h
    exact xv_w hN rfl
end
theorem t228 (G : gX) (l : Launch) {as : List aV} {M : hM} {r : Option aV} {M' : hM} (h : f228 as M = some (r, M')) : xM G l ym228 prog_14_method_48_code 9 none 7 as M r M' := by
  unfold f228 at h
  split at h
  · have hle : ∀ h as M res, k228 h as M = some res → h_sz M ≤ r_sz res ∧ h_sl M ≤ r_sl res := by
      intro h as M res hb
      unfold k228 at hb
      by_cases e0 : h = 55
      · rw [if_pos e0] at hb
        split at hb
        · exact lb228_55 G l _ _ _ _ M hb
        · cases hb
      · rw [if_neg e0] at hb
        by_cases e1 : h = 218
        · rw [if_pos e1] at hb
          split at hb
          · exact lb228_218 G l _ _ _ _ _ _ M hb
          · cases hb
        · rw [if_neg e1] at hb
          cases hb
    obtain ⟨res, hx, hres⟩ := x_go_ok h
    refine xM_of (by decide) (Nat.le_of_ble_eq_true rfl) ?_ ?_
    · have e1 := lb228_0 G l _ _ _ _ _ M hx
      have e2 := x_go_le hle hres
      omega
    · intro p e s m args below meth c E B
      refine sb228_0 E B _ _ _ _ _ M hx (hres _ ?_)
      intro h as M res hb hN
      unfold k228 at hb
      unfold pg228
      by_cases e0 : h = 55
      · rw [if_pos e0] at hb ⊢
        split at hb
        · exact sb228_55 E B _ _ _ _ M hb hN
        · cases hb
      · rw [if_neg e0] at hb ⊢
        by_cases e1 : h = 218
        · rw [if_pos e1] at hb ⊢
          split at hb
          · exact sb228_218 E B _ _ _ _ _ _ M hb hN
          · cases hb
        · rw [if_neg e1] at hb ⊢
          cases hb
  · cases h
