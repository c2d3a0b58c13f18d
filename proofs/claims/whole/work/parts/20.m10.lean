theorem mw943 : Cond.code ⟨"ZonedFabricModel", "hasForm", "(II)Z"⟩ prog_14_method_10_code 4 (some FieldType.boolean) ∈ xTs := xTs_in (tk7 (List.mem_of_getElem? (i := 111) (by decide +kernel))) rfl
theorem mw944 : Cond.methodLink "ZonedFabricModel" 206 ⟨"ZonedFabricModel", "isRecord", "(II)Z"⟩ ∈ xTs := xTs_in (tk7 (List.mem_of_getElem? (i := 112) (by decide +kernel))) rfl
theorem mw945 : Cond.instanceMethod ⟨"ZonedFabricModel", "isRecord", "(II)Z"⟩ ∈ xTs := xTs_in (tk7 (List.mem_of_getElem? (i := 114) (by decide +kernel))) rfl
theorem mw946 : Cond.selects "ZonedFabricModel" ⟨"ZonedFabricModel", "isRecord", "(II)Z"⟩ ⟨"ZonedFabricModel", "isRecord", "(II)Z"⟩ ∈ xTs := xTs_in (List.mem_append_left _ (List.mem_of_getElem? (i := 99) (by decide +kernel))) rfl
theorem mw947 : Cond.methodLink "ZonedFabricModel" 198 ⟨"ZonedFabricModel", "number", "(III)I"⟩ ∈ xTs := xTs_in (tk7 (List.mem_of_getElem? (i := 100) (by decide +kernel))) rfl
theorem mw948 : Cond.instanceMethod ⟨"ZonedFabricModel", "number", "(III)I"⟩ ∈ xTs := xTs_in (tk7 (List.mem_of_getElem? (i := 102) (by decide +kernel))) rfl
theorem mw949 : Cond.selects "ZonedFabricModel" ⟨"ZonedFabricModel", "number", "(III)I"⟩ ⟨"ZonedFabricModel", "number", "(III)I"⟩ ∈ xTs := xTs_in (List.mem_append_left _ (List.mem_of_getElem? (i := 96) (by decide +kernel))) rfl
theorem mw950 : Cond.code ⟨"ZonedFabricModel", "isTrue", "(I)Z"⟩ prog_14_method_9_code 3 (some FieldType.boolean) ∈ xTs := xTs_in (tk7 (List.mem_of_getElem? (i := 107) (by decide +kernel))) rfl
theorem mw951 : Cond.methodLink "ZonedFabricModel" 202 ⟨"ZonedFabricModel", "hasForm", "(II)Z"⟩ ∈ xTs := xTs_in (tk7 (List.mem_of_getElem? (i := 108) (by decide +kernel))) rfl
theorem mw952 : Cond.instanceMethod ⟨"ZonedFabricModel", "hasForm", "(II)Z"⟩ ∈ xTs := xTs_in (tk7 (List.mem_of_getElem? (i := 110) (by decide +kernel))) rfl
theorem mw953 : Cond.selects "ZonedFabricModel" ⟨"ZonedFabricModel", "hasForm", "(II)Z"⟩ ⟨"ZonedFabricModel", "hasForm", "(II)Z"⟩ ∈ xTs := xTs_in (List.mem_append_left _ (List.mem_of_getElem? (i := 98) (by decide +kernel))) rfl
theorem mw954 : Cond.code ⟨"ZonedFabricModel", "side", "(II)I"⟩ prog_14_method_12_code 3 (some FieldType.int) ∈ xTs := xTs_in (tk6 (List.mem_of_getElem? (i := 162) (by decide +kernel))) rfl
theorem mw955 : Cond.code ⟨"ZonedFabricModel", "nodeSide", "(I)I"⟩ prog_14_method_13_code 2 (some FieldType.int) ∈ xTs := xTs_in (tk6 (List.mem_of_getElem? (i := 154) (by decide +kernel))) rfl
theorem mw956 : Cond.code ⟨"ZonedFabricModel", "isUp", "(I)Z"⟩ prog_14_method_14_code 2 (some FieldType.boolean) ∈ xTs := xTs_in (tk7 (List.mem_of_getElem? (i := 54) (by decide +kernel))) rfl
theorem mw957 : Cond.code ⟨"ZonedFabricModel", "other", "(I)I"⟩ prog_14_method_15_code 3 (some FieldType.int) ∈ xTs := xTs_in (tk6 (List.mem_of_getElem? (i := 218) (by decide +kernel))) rfl
theorem mw958 : Cond.code ⟨"ZonedFabricModel", "nodeAt", "(I)I"⟩ prog_14_method_16_code 2 (some FieldType.int) ∈ xTs := xTs_in (tk7 (List.mem_of_getElem? (i := 58) (by decide +kernel))) rfl
theorem mw959 : Cond.methodLink "ZonedFabricModel" 209 ⟨"ZonedFabricModel", "other", "(I)I"⟩ ∈ xTs := xTs_in (tk6 (List.mem_of_getElem? (i := 215) (by decide +kernel))) rfl
theorem mw960 : Cond.instanceMethod ⟨"ZonedFabricModel", "other", "(I)I"⟩ ∈ xTs := xTs_in (tk6 (List.mem_of_getElem? (i := 217) (by decide +kernel))) rfl
theorem mw961 : Cond.selects "ZonedFabricModel" ⟨"ZonedFabricModel", "other", "(I)I"⟩ ⟨"ZonedFabricModel", "other", "(I)I"⟩ ∈ xTs := xTs_in (List.mem_append_left _ (List.mem_of_getElem? (i := 66) (by decide +kernel))) rfl
theorem mw962 : Cond.code ⟨"ZonedFabricModel", "credits", "(I)I"⟩ prog_14_method_17_code 3 (some FieldType.int) ∈ xTs := xTs_in (tk7 (List.mem_of_getElem? (i := 91) (by decide +kernel))) rfl
theorem mw963 : Cond.methodLink "ZonedFabricModel" 213 ⟨"ZonedFabricModel", "isUp", "(I)Z"⟩ ∈ xTs := xTs_in (tk7 (List.mem_of_getElem? (i := 51) (by decide +kernel))) rfl
theorem mw964 : Cond.instanceMethod ⟨"ZonedFabricModel", "isUp", "(I)Z"⟩ ∈ xTs := xTs_in (tk7 (List.mem_of_getElem? (i := 53) (by decide +kernel))) rfl
theorem mw965 : Cond.selects "ZonedFabricModel" ⟨"ZonedFabricModel", "isUp", "(I)Z"⟩ ⟨"ZonedFabricModel", "isUp", "(I)Z"⟩ ∈ xTs := xTs_in (List.mem_append_left _ (List.mem_of_getElem? (i := 84) (by decide +kernel))) rfl
theorem mw966 : Cond.code ⟨"ZonedFabricModel", "can", "(I)Z"⟩ prog_14_method_18_code 2 (some FieldType.boolean) ∈ xTs := xTs_in (tk7 (List.mem_of_getElem? (i := 87) (by decide +kernel))) rfl
theorem mw967 : Cond.methodLink "ZonedFabricModel" 217 ⟨"ZonedFabricModel", "credits", "(I)I"⟩ ∈ xTs := xTs_in (tk7 (List.mem_of_getElem? (i := 88) (by decide +kernel))) rfl
theorem mw968 : Cond.instanceMethod ⟨"ZonedFabricModel", "credits", "(I)I"⟩ ∈ xTs := xTs_in (tk7 (List.mem_of_getElem? (i := 90) (by decide +kernel))) rfl
theorem mw969 : Cond.selects "ZonedFabricModel" ⟨"ZonedFabricModel", "credits", "(I)I"⟩ ⟨"ZonedFabricModel", "credits", "(I)I"⟩ ∈ xTs := xTs_in (List.mem_append_left _ (List.mem_of_getElem? (i := 93) (by decide +kernel))) rfl
theorem mw970 : Cond.code ⟨"ZonedFabricModel", "sends", "(II)V"⟩ prog_14_method_19_code 3 none ∈ xTs := xTs_in (tk7 (List.mem_of_getElem? (i := 95) (by decide +kernel))) rfl
theorem mw971 : Cond.code ⟨"ZonedFabricModel", "queues", "(II)V"⟩ prog_14_method_20_code 3 none ∈ xTs := xTs_in (tk7 (List.mem_of_getElem? (i := 37) (by decide +kernel))) rfl
theorem mw972 : Cond.methodLink "ZonedFabricModel" 220 ⟨"ZonedFabricModel", "closes", "(I)V"⟩ ∈ xTs := xTs_in (tk7 (List.mem_of_getElem? (i := 38) (by decide +kernel))) rfl
theorem mw973 : Cond.instanceMethod ⟨"ZonedFabricModel", "closes", "(I)V"⟩ ∈ xTs := xTs_in (tk7 (List.mem_of_getElem? (i := 40) (by decide +kernel))) rfl
theorem mw974 : Cond.selects "ZonedFabricModel" ⟨"ZonedFabricModel", "closes", "(I)V"⟩ ⟨"ZonedFabricModel", "closes", "(I)V"⟩ ∈ xTs := xTs_in (List.mem_append_left _ (List.mem_of_getElem? (i := 81) (by decide +kernel))) rfl
theorem mw975 : Cond.methodLink "ZonedFabricModel" 224 ⟨"ZonedFabricModel", "drops", "(I)V"⟩ ∈ xTs := xTs_in (tk6 (List.mem_of_getElem? (i := 167) (by decide +kernel))) rfl
theorem mw976 : Cond.instanceMethod ⟨"ZonedFabricModel", "drops", "(I)V"⟩ ∈ xTs := xTs_in (tk6 (List.mem_of_getElem? (i := 169) (by decide +kernel))) rfl
theorem mw977 : Cond.selects "ZonedFabricModel" ⟨"ZonedFabricModel", "drops", "(I)V"⟩ ⟨"ZonedFabricModel", "drops", "(I)V"⟩ ∈ xTs := xTs_in (List.mem_append_left _ (List.mem_of_getElem? (i := 61) (by decide +kernel))) rfl
theorem mw978 : Cond.code ⟨"ZonedFabricModel", "sendsQueued", "(I)V"⟩ prog_14_method_21_code 3 none ∈ xTs := xTs_in (tk7 (List.mem_of_getElem? (i := 83) (by decide +kernel))) rfl
theorem mw979 : Cond.methodLink "ZonedFabricModel" 227 ⟨"ZonedFabricModel", "can", "(I)Z"⟩ ∈ xTs := xTs_in (tk7 (List.mem_of_getElem? (i := 84) (by decide +kernel))) rfl
theorem mw980 : Cond.instanceMethod ⟨"ZonedFabricModel", "can", "(I)Z"⟩ ∈ xTs := xTs_in (tk7 (List.mem_of_getElem? (i := 86) (by decide +kernel))) rfl
theorem mw981 : Cond.selects "ZonedFabricModel" ⟨"ZonedFabricModel", "can", "(I)Z"⟩ ⟨"ZonedFabricModel", "can", "(I)Z"⟩ ∈ xTs := xTs_in (List.mem_append_left _ (List.mem_of_getElem? (i := 92) (by decide +kernel))) rfl
theorem mw982 : Cond.methodLink "ZonedFabricModel" 230 ⟨"ZonedFabricModel", "sends", "(II)V"⟩ ∈ xTs := xTs_in (tk7 (List.mem_of_getElem? (i := 92) (by decide +kernel))) rfl
theorem mw983 : Cond.instanceMethod ⟨"ZonedFabricModel", "sends", "(II)V"⟩ ∈ xTs := xTs_in (tk7 (List.mem_of_getElem? (i := 94) (by decide +kernel))) rfl
theorem mw984 : Cond.selects "ZonedFabricModel" ⟨"ZonedFabricModel", "sends", "(II)V"⟩ ⟨"ZonedFabricModel", "sends", "(II)V"⟩ ∈ xTs := xTs_in (List.mem_append_left _ (List.mem_of_getElem? (i := 94) (by decide +kernel))) rfl
theorem mw985 : Cond.code ⟨"ZonedFabricModel", "leaves", "(I)I"⟩ prog_14_method_22_code 4 (some FieldType.int) ∈ xTs := xTs_in (tk7 (List.mem_of_getElem? (i := 119) (by decide +kernel))) rfl
theorem mw986 : Cond.code ⟨"ZonedFabricModel", "forgets", "(I)V"⟩ prog_14_method_24_code 3 none ∈ xTs := xTs_in (tk6 (List.mem_of_getElem? (i := 174) (by decide +kernel))) rfl
theorem mw987 : Cond.code ⟨"ZonedFabricModel", "empties", "(I)V"⟩ prog_14_method_23_code 3 none ∈ xTs := xTs_in (tk6 (List.mem_of_getElem? (i := 166) (by decide +kernel))) rfl
theorem mw988 : Cond.methodLink "ZonedFabricModel" 234 ⟨"ZonedFabricModel", "forgets", "(I)V"⟩ ∈ xTs := xTs_in (tk6 (List.mem_of_getElem? (i := 171) (by decide +kernel))) rfl
theorem mw989 : Cond.instanceMethod ⟨"ZonedFabricModel", "forgets", "(I)V"⟩ ∈ xTs := xTs_in (tk6 (List.mem_of_getElem? (i := 173) (by decide +kernel))) rfl
theorem mw990 : Cond.selects "ZonedFabricModel" ⟨"ZonedFabricModel", "forgets", "(I)V"⟩ ⟨"ZonedFabricModel", "forgets", "(I)V"⟩ ∈ xTs := xTs_in (List.mem_append_left _ (List.mem_of_getElem? (i := 62) (by decide +kernel))) rfl
/-! ZFModel.hasForm(II)Z -/
def ym173 : MethodName := ⟨"ZonedFabricModel", "hasForm", "(II)Z"⟩
theorem cd173 : xCd ym173 prog_14_method_10_code 4 (some FieldType.boolean) 2 := ⟨mw943, mw864, by decide, by decide, by decide +kernel⟩
def b173_94 (si0 : Int32) (M : hM) : Option xRes :=
  if si0 = 0 ∨ si0 = 1 then
    (some (.inl (some (.inl si0), M)))
  else
    none
def b173_93  (M : hM) : Option xRes :=
  b173_94 (0 : Int32) M
def b173_120 (si0 : Int32) (M : hM) : Option xRes :=
  if si0 = 0 ∨ si0 = 1 then
    (some (.inl (some (.inl si0), M)))
  else
    none
def b173_119  (M : hM) : Option xRes :=
  b173_120 (0 : Int32) M
def b173_163 (si0 : Int32) (M : hM) : Option xRes :=
  if si0 = 0 ∨ si0 = 1 then
    (some (.inl (some (.inl si0), M)))
  else
    none
def b173_158  (M : hM) : Option xRes :=
  b173_163 (1 : Int32) M
def b173_162  (M : hM) : Option xRes :=
  b173_163 (0 : Int32) M
def b173_185 (si0 : Int32) (M : hM) : Option xRes :=
  if si0 = 0 ∨ si0 = 1 then
    (some (.inl (some (.inl si0), M)))
  else
    none
def b173_184  (M : hM) : Option xRes :=
  b173_185 (0 : Int32) M
def b173_196 (si0 : Int32) (M : hM) : Option xRes :=
  if si0 = 0 ∨ si0 = 1 then
    (some (.inl (some (.inl si0), M)))
  else
    none
def b173_208 (si0 : Int32) (M : hM) : Option xRes :=
  if si0 = 0 ∨ si0 = 1 then
    (some (.inl (some (.inl si0), M)))
  else
    none
def b173_224 (si0 : Int32) (M : hM) : Option xRes :=
  if si0 = 0 ∨ si0 = 1 then
    (some (.inl (some (.inl si0), M)))
  else
    none
def b173_223  (M : hM) : Option xRes :=
  b173_224 (0 : Int32) M
def b173_0 (a0 : Nat) (v1 : Int32) (v2 : Int32) (M : hM) : Option xRes :=
  Option.bind (g_o M 12 (some a0)) fun b_3 =>
  Option.bind (c_I (f165 [.inr (.inr (some b_3)), .inl v1, .inl (13 : Int32)] M)) fun q_1 =>
  Option.bind (g_o q_1.2 12 (some a0)) fun b_7 =>
  Option.bind (c_I (f165 [.inr (.inr (some b_7)), .inl v1, .inl (0 : Int32)] q_1.2)) fun q_5 =>
  if q_5.1 = 1 then
    (if v2 = (1 : Int32) then
      (Option.bind (g_i q_5.2 12 0 (some a0)) fun v_10 =>
      if v_10 ≤ q_1.1 then
        (b173_93  q_5.2)
      else
        (b173_94 (1 : Int32) q_5.2))
    else
      (b173_93  q_5.2))
  else
    (if q_5.1 = 2 then
      (Option.bind (g_o q_5.2 12 (some a0)) fun b_17 =>
      Option.bind (c_I (f172 [.inr (.inr (some b_17)), .inl v1, .inl v2] q_5.2)) fun q_15 =>
      if q_15.1 = 0 ∨ q_15.1 = 1 then
        (some (.inl (some (.inl q_15.1), q_15.2)))
      else
        none)
    else
      (if q_5.1 = 3 then
        (if v2 = (1 : Int32) then
          (Option.bind (g_i q_5.2 12 1 (some a0)) fun v_21 =>
          if v_21 ≤ q_1.1 then
            (b173_119  q_5.2)
          else
            (b173_120 (1 : Int32) q_5.2))
        else
          (b173_119  q_5.2))
      else
        (if q_5.1 = 4 then
          (some (.inl (some (.inl (1 : Int32)), q_5.2)))
        else
          (if q_5.1 = 5 then
            (if v2 = (1 : Int32) then
              (Option.bind (g_i q_5.2 12 1 (some a0)) fun v_27 =>
              if v_27 ≤ q_1.1 then
                (b173_119  q_5.2)
              else
                (b173_120 (1 : Int32) q_5.2))
            else
              (b173_119  q_5.2))
          else
            (if q_5.1 = 6 then
              (if v2 = (4 : Int32) then
                (Option.bind (g_i q_5.2 12 1 (some a0)) fun v_32 =>
                if v_32 ≤ q_1.1 then
                  (b173_162  q_5.2)
                else
                  (Option.bind (g_o q_5.2 12 (some a0)) fun b_36 =>
                  Option.bind (c_I (f166 [.inr (.inr (some b_36)), .inl v1, .inl (14 : Int32), .inl (3 : Int32)] q_5.2)) fun q_34 =>
                  if q_34.1 = 0 then
                    (b173_158  q_34.2)
                  else
                    (Option.bind (g_o q_34.2 12 (some a0)) fun b_40 =>
                    Option.bind (c_I (f165 [.inr (.inr (some b_40)), .inl v1, .inl (16 : Int32)] q_34.2)) fun q_38 =>
                    if q_38.1 = (q_1.1 + (1 : Int32)) then
                      (b173_158  q_38.2)
                    else
                      (b173_162  q_38.2))))
              else
                (b173_162  q_5.2))
            else
              (if q_5.1 = 7 then
                (if v2 = (1 : Int32) then
                  (Option.bind (g_i q_5.2 12 1 (some a0)) fun v_47 =>
                  if v_47 ≤ q_1.1 then
                    (b173_119  q_5.2)
                  else
                    (b173_120 (1 : Int32) q_5.2))
                else
                  (b173_119  q_5.2))
              else
                (if q_5.1 = 8 then
                  (some (.inl (some (.inl (1 : Int32)), q_5.2)))
                else
                  (if q_5.1 = 9 then
                    (if v2 = (4 : Int32) then
                      (Option.bind (g_o q_5.2 12 (some a0)) fun b_55 =>
                      Option.bind (c_I (f165 [.inr (.inr (some b_55)), .inl v1, .inl (14 : Int32)] q_5.2)) fun q_53 =>
                      if (2 : Int32) ≤ q_53.1 then
                        (b173_184  q_53.2)
                      else
                        (b173_185 (1 : Int32) q_53.2))
                    else
                      (b173_184  q_5.2))
                  else
                    (if q_5.1 = 10 then
                      (if v2 = (1 : Int32) then
                        (b173_196 (1 : Int32) q_5.2)
                      else
                        (b173_196 (0 : Int32) q_5.2))
                    else
                      (if q_5.1 = 11 then
                        (if v2 = (8 : Int32) then
                          (b173_208 (1 : Int32) q_5.2)
                        else
                          (b173_208 (0 : Int32) q_5.2))
                      else
                        (if q_5.1 = 12 then
                          (if v2 = (1 : Int32) then
                            (if (2 : Int32) ≤ q_1.1 then
                              (b173_223  q_5.2)
                            else
                              (b173_224 (1 : Int32) q_5.2))
                          else
                            (b173_223  q_5.2))
                        else
                          (some (.inl (some (.inl (1 : Int32)), q_5.2))))))))))))))
def f173 (as : List aV) (M : hM) : xO := match as with
  | [.inr (.inr (some a0)), .inl v1, .inl v2] => x_out (b173_0 a0 v1 v2 M)
  | _ => none
theorem lb173_94 (G : gX) (l : Launch) (si0 : Int32) (M : hM) {res : xRes} (h : b173_94 si0 M = some res) : h_sz M ≤ r_sz res ∧ h_sl M ≤ r_sl res := by
  unfold b173_94 at h
  by_cases q66 : si0 = 0 ∨ si0 = 1
  · rw [if_pos q66] at h
    obtain rfl := Option.some.inj h
    show h_sz M ≤ h_sz M ∧ h_sl M ≤ h_sl M
    omega
  · rw [if_neg q66] at h
    cases h
theorem lb173_93 (G : gX) (l : Launch)  (M : hM) {res : xRes} (h : b173_93  M = some res) : h_sz M ≤ r_sz res ∧ h_sl M ≤ r_sl res := by
  unfold b173_93 at h
  have e := lb173_94 G l (0 : Int32) M h
  omega
theorem lb173_120 (G : gX) (l : Launch) (si0 : Int32) (M : hM) {res : xRes} (h : b173_120 si0 M = some res) : h_sz M ≤ r_sz res ∧ h_sl M ≤ r_sl res := by
  unfold b173_120 at h
  by_cases q67 : si0 = 0 ∨ si0 = 1
  · rw [if_pos q67] at h
    obtain rfl := Option.some.inj h
    show h_sz M ≤ h_sz M ∧ h_sl M ≤ h_sl M
    omega
  · rw [if_neg q67] at h
    cases h
theorem lb173_119 (G : gX) (l : Launch)  (M : hM) {res : xRes} (h : b173_119  M = some res) : h_sz M ≤ r_sz res ∧ h_sl M ≤ r_sl res := by
  unfold b173_119 at h
  have e := lb173_120 G l (0 : Int32) M h
  omega
theorem lb173_163 (G : gX) (l : Launch) (si0 : Int32) (M : hM) {res : xRes} (h : b173_163 si0 M = some res) : h_sz M ≤ r_sz res ∧ h_sl M ≤ r_sl res := by
  unfold b173_163 at h
  by_cases q68 : si0 = 0 ∨ si0 = 1
  · rw [if_pos q68] at h
    obtain rfl := Option.some.inj h
    show h_sz M ≤ h_sz M ∧ h_sl M ≤ h_sl M
    omega
  · rw [if_neg q68] at h
    cases h
theorem lb173_158 (G : gX) (l : Launch)  (M : hM) {res : xRes} (h : b173_158  M = some res) : h_sz M ≤ r_sz res ∧ h_sl M ≤ r_sl res := by
  unfold b173_158 at h
  have e := lb173_163 G l (1 : Int32) M h
  omega
theorem lb173_162 (G : gX) (l : Launch)  (M : hM) {res : xRes} (h : b173_162  M = some res) : h_sz M ≤ r_sz res ∧ h_sl M ≤ r_sl res := by
  unfold b173_162 at h
  have e := lb173_163 G l (0 : Int32) M h
  omega
theorem lb173_185 (G : gX) (l : Launch) (si0 : Int32) (M : hM) {res : xRes} (h : b173_185 si0 M = some res) : h_sz M ≤ r_sz res ∧ h_sl M ≤ r_sl res := by
  unfold b173_185 at h
  by_cases q69 : si0 = 0 ∨ si0 = 1
  · rw [if_pos q69] at h
    obtain rfl := Option.some.inj h
    show h_sz M ≤ h_sz M ∧ h_sl M ≤ h_sl M
    omega
  · rw [if_neg q69] at h
    cases h
theorem lb173_184 (G : gX) (l : Launch)  (M : hM) {res : xRes} (h : b173_184  M = some res) : h_sz M ≤ r_sz res ∧ h_sl M ≤ r_sl res := by
  unfold b173_184 at h
  have e := lb173_185 G l (0 : Int32) M h
  omega
theorem lb173_196 (G : gX) (l : Launch) (si0 : Int32) (M : hM) {res : xRes} (h : b173_196 si0 M = some res) : h_sz M ≤ r_sz res ∧ h_sl M ≤ r_sl res := by
  unfold b173_196 at h
  by_cases q70 : si0 = 0 ∨ si0 = 1
  · rw [if_pos q70] at h
    obtain rfl := Option.some.inj h
    show h_sz M ≤ h_sz M ∧ h_sl M ≤ h_sl M
    omega
  · rw [if_neg q70] at h
    cases h
theorem lb173_208 (G : gX) (l : Launch) (si0 : Int32) (M : hM) {res : xRes} (h : b173_208 si0 M = some res) : h_sz M ≤ r_sz res ∧ h_sl M ≤ r_sl res := by
  unfold b173_208 at h
  by_cases q71 : si0 = 0 ∨ si0 = 1
  · rw [if_pos q71] at h
    obtain rfl := Option.some.inj h
    show h_sz M ≤ h_sz M ∧ h_sl M ≤ h_sl M
    omega
  · rw [if_neg q71] at h
    cases h
theorem lb173_224 (G : gX) (l : Launch) (si0 : Int32) (M : hM) {res : xRes} (h : b173_224 si0 M = some res) : h_sz M ≤ r_sz res ∧ h_sl M ≤ r_sl res := by
  unfold b173_224 at h
  by_cases q72 : si0 = 0 ∨ si0 = 1
  · rw [if_pos q72] at h
    obtain rfl := Option.some.inj h
    show h_sz M ≤ h_sz M ∧ h_sl M ≤ h_sl M
    omega
  · rw [if_neg q72] at h
    cases h
theorem lb173_223 (G : gX) (l : Launch)  (M : hM) {res : xRes} (h : b173_223  M = some res) : h_sz M ≤ r_sz res ∧ h_sl M ≤ r_sl res := by
  unfold b173_223 at h
  have e := lb173_224 G l (0 : Int32) M h
  omega
theorem lb173_0 (G : gX) (l : Launch) (a0 : Nat) (v1 : Int32) (v2 : Int32) (M : hM) {res : xRes} (h : b173_0 a0 v1 v2 M = some res) : h_sz M ≤ r_sz res ∧ h_sl M ≤ r_sl res := by
  unfold b173_0 at h
  obtain ⟨b_3, h4, h⟩ := bd h
  obtain ⟨q_1, h2, h⟩ := bd h
  have eh2 := (t165 G l (c_I_some h2)).1
  obtain ⟨b_7, h8, h⟩ := bd h
  obtain ⟨q_5, h6, h⟩ := bd h
  have eh6 := (t165 G l (c_I_some h6)).1
  by_cases q9 : q_5.1 = 1
  · rw [if_pos q9] at h
    by_cases q13 : v2 = (1 : Int32)
    · rw [if_pos q13] at h
      obtain ⟨v_10, h11, h⟩ := bd h
      by_cases q12 : v_10 ≤ q_1.1
      · rw [if_pos q12] at h
        have e := lb173_93 G l  q_5.2 h
        omega
      · rw [if_neg q12] at h
        have e := lb173_94 G l (1 : Int32) q_5.2 h
        omega
    · rw [if_neg q13] at h
      have e := lb173_93 G l  q_5.2 h
      omega
  · rw [if_neg q9] at h
    by_cases q14 : q_5.1 = 2
    · rw [if_pos q14] at h
      obtain ⟨b_17, h18, h⟩ := bd h
      obtain ⟨q_15, h16, h⟩ := bd h
      have eh16 := (t172 G l (c_I_some h16)).1
      by_cases q19 : q_15.1 = 0 ∨ q_15.1 = 1
      · rw [if_pos q19] at h
        obtain rfl := Option.some.inj h
        show h_sz M ≤ h_sz q_15.2 ∧ h_sl M ≤ h_sl q_15.2
        omega
      · rw [if_neg q19] at h
        cases h
    · rw [if_neg q14] at h
      by_cases q20 : q_5.1 = 3
      · rw [if_pos q20] at h
        by_cases q24 : v2 = (1 : Int32)
        · rw [if_pos q24] at h
          obtain ⟨v_21, h22, h⟩ := bd h
          by_cases q23 : v_21 ≤ q_1.1
          · rw [if_pos q23] at h
            have e := lb173_119 G l  q_5.2 h
            omega
          · rw [if_neg q23] at h
            have e := lb173_120 G l (1 : Int32) q_5.2 h
            omega
        · rw [if_neg q24] at h
          have e := lb173_119 G l  q_5.2 h
          omega
      · rw [if_neg q20] at h
        by_cases q25 : q_5.1 = 4
        · rw [if_pos q25] at h
          obtain rfl := Option.some.inj h
          show h_sz M ≤ h_sz q_5.2 ∧ h_sl M ≤ h_sl q_5.2
          omega
        · rw [if_neg q25] at h
          by_cases q26 : q_5.1 = 5
          · rw [if_pos q26] at h
            by_cases q30 : v2 = (1 : Int32)
            · rw [if_pos q30] at h
              obtain ⟨v_27, h28, h⟩ := bd h
              by_cases q29 : v_27 ≤ q_1.1
              · rw [if_pos q29] at h
                have e := lb173_119 G l  q_5.2 h
                omega
              · rw [if_neg q29] at h
                have e := lb173_120 G l (1 : Int32) q_5.2 h
                omega
            · rw [if_neg q30] at h
              have e := lb173_119 G l  q_5.2 h
              omega
          · rw [if_neg q26] at h
            by_cases q31 : q_5.1 = 6
            · rw [if_pos q31] at h
              by_cases q45 : v2 = (4 : Int32)
              · rw [if_pos q45] at h
                obtain ⟨v_32, h33, h⟩ := bd h
                by_cases q44 : v_32 ≤ q_1.1
                · rw [if_pos q44] at h
                  have e := lb173_162 G l  q_5.2 h
                  omega
                · rw [if_neg q44] at h
                  obtain ⟨b_36, h37, h⟩ := bd h
                  obtain ⟨q_34, h35, h⟩ := bd h
                  have eh35 := (t166 G l (c_I_some h35)).1
                  by_cases q43 : q_34.1 = 0
                  · rw [if_pos q43] at h
                    have e := lb173_158 G l  q_34.2 h
                    omega
                  · rw [if_neg q43] at h
                    obtain ⟨b_40, h41, h⟩ := bd h
                    obtain ⟨q_38, h39, h⟩ := bd h
                    have eh39 := (t165 G l (c_I_some h39)).1
                    by_cases q42 : q_38.1 = (q_1.1 + (1 : Int32))
                    · rw [if_pos q42] at h
                      have e := lb173_158 G l  q_38.2 h
                      omega
                    · rw [if_neg q42] at h
                      have e := lb173_162 G l  q_38.2 h
                      omega
              · rw [if_neg q45] at h
                have e := lb173_162 G l  q_5.2 h
                omega
            · rw [if_neg q31] at h
              by_cases q46 : q_5.1 = 7
              · rw [if_pos q46] at h
                by_cases q50 : v2 = (1 : Int32)
                · rw [if_pos q50] at h
                  obtain ⟨v_47, h48, h⟩ := bd h
                  by_cases q49 : v_47 ≤ q_1.1
                  · rw [if_pos q49] at h
                    have e := lb173_119 G l  q_5.2 h
                    omega
                  · rw [if_neg q49] at h
                    have e := lb173_120 G l (1 : Int32) q_5.2 h
                    omega
                · rw [if_neg q50] at h
                  have e := lb173_119 G l  q_5.2 h
                  omega
              · rw [if_neg q46] at h
                by_cases q51 : q_5.1 = 8
                · rw [if_pos q51] at h
                  obtain rfl := Option.some.inj h
                  show h_sz M ≤ h_sz q_5.2 ∧ h_sl M ≤ h_sl q_5.2
                  omega
                · rw [if_neg q51] at h
                  by_cases q52 : q_5.1 = 9
                  · rw [if_pos q52] at h
                    by_cases q58 : v2 = (4 : Int32)
                    · rw [if_pos q58] at h
                      obtain ⟨b_55, h56, h⟩ := bd h
                      obtain ⟨q_53, h54, h⟩ := bd h
                      have eh54 := (t165 G l (c_I_some h54)).1
                      by_cases q57 : (2 : Int32) ≤ q_53.1
                      · rw [if_pos q57] at h
                        have e := lb173_184 G l  q_53.2 h
                        omega
                      · rw [if_neg q57] at h
                        have e := lb173_185 G l (1 : Int32) q_53.2 h
                        omega
                    · rw [if_neg q58] at h
                      have e := lb173_184 G l  q_5.2 h
                      omega
                  · rw [if_neg q52] at h
                    by_cases q59 : q_5.1 = 10
                    · rw [if_pos q59] at h
                      by_cases q60 : v2 = (1 : Int32)
                      · rw [if_pos q60] at h
                        have e := lb173_196 G l (1 : Int32) q_5.2 h
                        omega
                      · rw [if_neg q60] at h
                        have e := lb173_196 G l (0 : Int32) q_5.2 h
                        omega
                    · rw [if_neg q59] at h
                      by_cases q61 : q_5.1 = 11
                      · rw [if_pos q61] at h
                        by_cases q62 : v2 = (8 : Int32)
                        · rw [if_pos q62] at h
                          have e := lb173_208 G l (1 : Int32) q_5.2 h
                          omega
                        · rw [if_neg q62] at h
                          have e := lb173_208 G l (0 : Int32) q_5.2 h
                          omega
                      · rw [if_neg q61] at h
                        by_cases q63 : q_5.1 = 12
                        · rw [if_pos q63] at h
                          by_cases q65 : v2 = (1 : Int32)
                          · rw [if_pos q65] at h
                            by_cases q64 : (2 : Int32) ≤ q_1.1
                            · rw [if_pos q64] at h
                              have e := lb173_223 G l  q_5.2 h
                              omega
                            · rw [if_neg q64] at h
                              have e := lb173_224 G l (1 : Int32) q_5.2 h
                              omega
                          · rw [if_neg q65] at h
                            have e := lb173_223 G l  q_5.2 h
                            omega
                        · rw [if_neg q63] at h
                          obtain rfl := Option.some.inj h
                          show h_sz M ≤ h_sz q_5.2 ∧ h_sl M ≤ h_sl q_5.2
                          omega
section
variable {p : Program} {l : Launch} {e : Env} {s : State} {m : MethodId} {args : Array Value} {below : List Frame} {meth : Method} {c : Code} {G : gX} {z0 y0 : Nat} {r : Option aV} {M' : hM}
theorem sb173_94 (E : xE G p (xRm 2 (h_sz M' - z0) (h_sl M' - y0)) s m args c prog_14_method_10_code "ZonedFabricModel" z0 y0 (h_sz M') (h_sl M') 4) (B : xB ym173 (some FieldType.boolean) meth) (si0 : Int32) (M : hM) {res : xRes} (h : b173_94 si0 M = some res) (hN : xN (fun _ _ _ => False) r M' res) : xV G p l e (xRm 2 (h_sz M' - z0) (h_sl M' - y0)) s m args below meth c z0 y0 (h_sz M') (h_sl M') 4 (MQ below (xQc G r M') args s (h_sz M' - z0) (h_sl M' - y0) (xFr G)) 94 [] [.inl si0] M := by
  unfold b173_94 at h
  by_cases q66 : si0 = 0 ∨ si0 = 1
  · rw [if_pos q66] at h
    obtain rfl := Option.some.inj h
    obtain ⟨rfl, rfl⟩ := Prod.mk.inj (show ((some (.inl si0) : Option aV), M) = (r, M') from hN)
    exact xv_ri E B.1 (by rcases q66 with z | z <;> rw [z] <;> rfl) B.2.1 (show decode prog_14_method_10_code 94 = .ok (.ireturn, 1) by decide +kernel) rfl rfl
  · rw [if_neg q66] at h
    cases h
theorem sb173_93 (E : xE G p (xRm 2 (h_sz M' - z0) (h_sl M' - y0)) s m args c prog_14_method_10_code "ZonedFabricModel" z0 y0 (h_sz M') (h_sl M') 4) (B : xB ym173 (some FieldType.boolean) meth)  (M : hM) {res : xRes} (h : b173_93  M = some res) (hN : xN (fun _ _ _ => False) r M' res) : xV G p l e (xRm 2 (h_sz M' - z0) (h_sl M' - y0)) s m args below meth c z0 y0 (h_sz M') (h_sl M') 4 (MQ below (xQc G r M') args s (h_sz M' - z0) (h_sl M' - y0) (xFr G)) 93 [] [] M := by
  unfold b173_93 at h
  refine xv_b E [.iconst 0] (pc' := 94) (lv' := []) (st' := [.inl (0 : Int32)]) (by decide +kernel) rfl rfl ?_
  exact xv_w (sb173_94 E B (0 : Int32) M h hN) rfl
theorem sb173_120 (E : xE G p (xRm 2 (h_sz M' - z0) (h_sl M' - y0)) s m args c prog_14_method_10_code "ZonedFabricModel" z0 y0 (h_sz M') (h_sl M') 4) (B : xB ym173 (some FieldType.boolean) meth) (si0 : Int32) (M : hM) {res : xRes} (h : b173_120 si0 M = some res) (hN : xN (fun _ _ _ => False) r M' res) : xV G p l e (xRm 2 (h_sz M' - z0) (h_sl M' - y0)) s m args below meth c z0 y0 (h_sz M') (h_sl M') 4 (MQ below (xQc G r M') args s (h_sz M' - z0) (h_sl M' - y0) (xFr G)) 120 [] [.inl si0] M := by
  unfold b173_120 at h
  by_cases q67 : si0 = 0 ∨ si0 = 1
  · rw [if_pos q67] at h
    obtain rfl := Option.some.inj h
    obtain ⟨rfl, rfl⟩ := Prod.mk.inj (show ((some (.inl si0) : Option aV), M) = (r, M') from hN)
    exact xv_ri E B.1 (by rcases q67 with z | z <;> rw [z] <;> rfl) B.2.1 (show decode prog_14_method_10_code 120 = .ok (.ireturn, 1) by decide +kernel) rfl rfl
  · rw [if_neg q67] at h
    cases h
theorem sb173_119 (E : xE G p (xRm 2 (h_sz M' - z0) (h_sl M' - y0)) s m args c prog_14_method_10_code "ZonedFabricModel" z0 y0 (h_sz M') (h_sl M') 4) (B : xB ym173 (some FieldType.boolean) meth)  (M : hM) {res : xRes} (h : b173_119  M = some res) (hN : xN (fun _ _ _ => False) r M' res) : xV G p l e (xRm 2 (h_sz M' - z0) (h_sl M' - y0)) s m args below meth c z0 y0 (h_sz M') (h_sl M') 4 (MQ below (xQc G r M') args s (h_sz M' - z0) (h_sl M' - y0) (xFr G)) 119 [] [] M := by
  unfold b173_119 at h
  refine xv_b E [.iconst 0] (pc' := 120) (lv' := []) (st' := [.inl (0 : Int32)]) (by decide +kernel) rfl rfl ?_
  exact xv_w (sb173_120 E B (0 : Int32) M h hN) rfl
theorem sb173_163 (E : xE G p (xRm 2 (h_sz M' - z0) (h_sl M' - y0)) s m args c prog_14_method_10_code "ZonedFabricModel" z0 y0 (h_sz M') (h_sl M') 4) (B : xB ym173 (some FieldType.boolean) meth) (si0 : Int32) (M : hM) {res : xRes} (h : b173_163 si0 M = some res) (hN : xN (fun _ _ _ => False) r M' res) : xV G p l e (xRm 2 (h_sz M' - z0) (h_sl M' - y0)) s m args below meth c z0 y0 (h_sz M') (h_sl M') 4 (MQ below (xQc G r M') args s (h_sz M' - z0) (h_sl M' - y0) (xFr G)) 163 [] [.inl si0] M := by
  unfold b173_163 at h
  by_cases q68 : si0 = 0 ∨ si0 = 1
  · rw [if_pos q68] at h
    obtain rfl := Option.some.inj h
    obtain ⟨rfl, rfl⟩ := Prod.mk.inj (show ((some (.inl si0) : Option aV), M) = (r, M') from hN)
    exact xv_ri E B.1 (by rcases q68 with z | z <;> rw [z] <;> rfl) B.2.1 (show decode prog_14_method_10_code 163 = .ok (.ireturn, 1) by decide +kernel) rfl rfl
  · rw [if_neg q68] at h
    cases h
theorem sb173_158 (E : xE G p (xRm 2 (h_sz M' - z0) (h_sl M' - y0)) s m args c prog_14_method_10_code "ZonedFabricModel" z0 y0 (h_sz M') (h_sl M') 4) (B : xB ym173 (some FieldType.boolean) meth)  (M : hM) {res : xRes} (h : b173_158  M = some res) (hN : xN (fun _ _ _ => False) r M' res) : xV G p l e (xRm 2 (h_sz M' - z0) (h_sl M' - y0)) s m args below meth c z0 y0 (h_sz M') (h_sl M') 4 (MQ below (xQc G r M') args s (h_sz M' - z0) (h_sl M' - y0) (xFr G)) 158 [] [] M := by
  unfold b173_158 at h
  refine xv_b E [.iconst 1] (pc' := 159) (lv' := []) (st' := [.inl (1 : Int32)]) (by decide +kernel) rfl rfl ?_
  refine xv_goto E 163 (show decode prog_14_method_10_code 159 = .ok (.goto (4), 3) by decide +kernel) rfl ?_
  exact xv_w (sb173_163 E B (1 : Int32) M h hN) rfl
theorem sb173_162 (E : xE G p (xRm 2 (h_sz M' - z0) (h_sl M' - y0)) s m args c prog_14_method_10_code "ZonedFabricModel" z0 y0 (h_sz M') (h_sl M') 4) (B : xB ym173 (some FieldType.boolean) meth)  (M : hM) {res : xRes} (h : b173_162  M = some res) (hN : xN (fun _ _ _ => False) r M' res) : xV G p l e (xRm 2 (h_sz M' - z0) (h_sl M' - y0)) s m args below meth c z0 y0 (h_sz M') (h_sl M') 4 (MQ below (xQc G r M') args s (h_sz M' - z0) (h_sl M' - y0) (xFr G)) 162 [] [] M := by
  unfold b173_162 at h
  refine xv_b E [.iconst 0] (pc' := 163) (lv' := []) (st' := [.inl (0 : Int32)]) (by decide +kernel) rfl rfl ?_
  exact xv_w (sb173_163 E B (0 : Int32) M h hN) rfl
theorem sb173_185 (E : xE G p (xRm 2 (h_sz M' - z0) (h_sl M' - y0)) s m args c prog_14_method_10_code "ZonedFabricModel" z0 y0 (h_sz M') (h_sl M') 4) (B : xB ym173 (some FieldType.boolean) meth) (si0 : Int32) (M : hM) {res : xRes} (h : b173_185 si0 M = some res) (hN : xN (fun _ _ _ => False) r M' res) : xV G p l e (xRm 2 (h_sz M' - z0) (h_sl M' - y0)) s m args below meth c z0 y0 (h_sz M') (h_sl M') 4 (MQ below (xQc G r M') args s (h_sz M' - z0) (h_sl M' - y0) (xFr G)) 185 [] [.inl si0] M := by
  unfold b173_185 at h
  by_cases q69 : si0 = 0 ∨ si0 = 1
  · rw [if_pos q69] at h
    obtain rfl := Option.some.inj h
    obtain ⟨rfl, rfl⟩ := Prod.mk.inj (show ((some (.inl si0) : Option aV), M) = (r, M') from hN)
    exact xv_ri E B.1 (by rcases q69 with z | z <;> rw [z] <;> rfl) B.2.1 (show decode prog_14_method_10_code 185 = .ok (.ireturn, 1) by decide +kernel) rfl rfl
  · rw [if_neg q69] at h
    cases h
theorem sb173_184 (E : xE G p (xRm 2 (h_sz M' - z0) (h_sl M' - y0)) s m args c prog_14_method_10_code "ZonedFabricModel" z0 y0 (h_sz M') (h_sl M') 4) (B : xB ym173 (some FieldType.boolean) meth)  (M : hM) {res : xRes} (h : b173_184  M = some res) (hN : xN (fun _ _ _ => False) r M' res) : xV G p l e (xRm 2 (h_sz M' - z0) (h_sl M' - y0)) s m args below meth c z0 y0 (h_sz M') (h_sl M') 4 (MQ below (xQc G r M') args s (h_sz M' - z0) (h_sl M' - y0) (xFr G)) 184 [] [] M := by
  unfold b173_184 at h
  refine xv_b E [.iconst 0] (pc' := 185) (lv' := []) (st' := [.inl (0 : Int32)]) (by decide +kernel) rfl rfl ?_
  exact xv_w (sb173_185 E B (0 : Int32) M h hN) rfl
theorem sb173_196 (E : xE G p (xRm 2 (h_sz M' - z0) (h_sl M' - y0)) s m args c prog_14_method_10_code "ZonedFabricModel" z0 y0 (h_sz M') (h_sl M') 4) (B : xB ym173 (some FieldType.boolean) meth) (si0 : Int32) (M : hM) {res : xRes} (h : b173_196 si0 M = some res) (hN : xN (fun _ _ _ => False) r M' res) : xV G p l e (xRm 2 (h_sz M' - z0) (h_sl M' - y0)) s m args below meth c z0 y0 (h_sz M') (h_sl M') 4 (MQ below (xQc G r M') args s (h_sz M' - z0) (h_sl M' - y0) (xFr G)) 196 [] [.inl si0] M := by
  unfold b173_196 at h
  by_cases q70 : si0 = 0 ∨ si0 = 1
  · rw [if_pos q70] at h
    obtain rfl := Option.some.inj h
    obtain ⟨rfl, rfl⟩ := Prod.mk.inj (show ((some (.inl si0) : Option aV), M) = (r, M') from hN)
    exact xv_ri E B.1 (by rcases q70 with z | z <;> rw [z] <;> rfl) B.2.1 (show decode prog_14_method_10_code 196 = .ok (.ireturn, 1) by decide +kernel) rfl rfl
  · rw [if_neg q70] at h
    cases h
theorem sb173_208 (E : xE G p (xRm 2 (h_sz M' - z0) (h_sl M' - y0)) s m args c prog_14_method_10_code "ZonedFabricModel" z0 y0 (h_sz M') (h_sl M') 4) (B : xB ym173 (some FieldType.boolean) meth) (si0 : Int32) (M : hM) {res : xRes} (h : b173_208 si0 M = some res) (hN : xN (fun _ _ _ => False) r M' res) : xV G p l e (xRm 2 (h_sz M' - z0) (h_sl M' - y0)) s m args below meth c z0 y0 (h_sz M') (h_sl M') 4 (MQ below (xQc G r M') args s (h_sz M' - z0) (h_sl M' - y0) (xFr G)) 208 [] [.inl si0] M := by
  unfold b173_208 at h
  by_cases q71 : si0 = 0 ∨ si0 = 1
  · rw [if_pos q71] at h
    obtain rfl := Option.some.inj h
    obtain ⟨rfl, rfl⟩ := Prod.mk.inj (show ((some (.inl si0) : Option aV), M) = (r, M') from hN)
    exact xv_ri E B.1 (by rcases q71 with z | z <;> rw [z] <;> rfl) B.2.1 (show decode prog_14_method_10_code 208 = .ok (.ireturn, 1) by decide +kernel) rfl rfl
  · rw [if_neg q71] at h
    cases h
theorem sb173_224 (E : xE G p (xRm 2 (h_sz M' - z0) (h_sl M' - y0)) s m args c prog_14_method_10_code "ZonedFabricModel" z0 y0 (h_sz M') (h_sl M') 4) (B : xB ym173 (some FieldType.boolean) meth) (si0 : Int32) (M : hM) {res : xRes} (h : b173_224 si0 M = some res) (hN : xN (fun _ _ _ => False) r M' res) : xV G p l e (xRm 2 (h_sz M' - z0) (h_sl M' - y0)) s m args below meth c z0 y0 (h_sz M') (h_sl M') 4 (MQ below (xQc G r M') args s (h_sz M' - z0) (h_sl M' - y0) (xFr G)) 224 [] [.inl si0] M := by
  unfold b173_224 at h
  by_cases q72 : si0 = 0 ∨ si0 = 1
  · rw [if_pos q72] at h
    obtain rfl := Option.some.inj h
    obtain ⟨rfl, rfl⟩ := Prod.mk.inj (show ((some (.inl si0) : Option aV), M) = (r, M') from hN)
    exact xv_ri E B.1 (by rcases q72 with z | z <;> rw [z] <;> rfl) B.2.1 (show decode prog_14_method_10_code 224 = .ok (.ireturn, 1) by decide +kernel) rfl rfl
  · rw [if_neg q72] at h
    cases h
theorem sb173_223 (E : xE G p (xRm 2 (h_sz M' - z0) (h_sl M' - y0)) s m args c prog_14_method_10_code "ZonedFabricModel" z0 y0 (h_sz M') (h_sl M') 4) (B : xB ym173 (some FieldType.boolean) meth)  (M : hM) {res : xRes} (h : b173_223  M = some res) (hN : xN (fun _ _ _ => False) r M' res) : xV G p l e (xRm 2 (h_sz M' - z0) (h_sl M' - y0)) s m args below meth c z0 y0 (h_sz M') (h_sl M') 4 (MQ below (xQc G r M') args s (h_sz M' - z0) (h_sl M' - y0) (xFr G)) 223 [] [] M := by
  unfold b173_223 at h
  refine xv_b E [.iconst 0] (pc' := 224) (lv' := []) (st' := [.inl (0 : Int32)]) (by decide +kernel) rfl rfl ?_
  exact xv_w (sb173_224 E B (0 : Int32) M h hN) rfl
theorem sb173_0 (E : xE G p (xRm 2 (h_sz M' - z0) (h_sl M' - y0)) s m args c prog_14_method_10_code "ZonedFabricModel" z0 y0 (h_sz M') (h_sl M') 4) (B : xB ym173 (some FieldType.boolean) meth) (a0 : Nat) (v1 : Int32) (v2 : Int32) (M : hM) {res : xRes} (h : b173_0 a0 v1 v2 M = some res) (hN : xN (fun _ _ _ => False) r M' res) : xV G p l e (xRm 2 (h_sz M' - z0) (h_sl M' - y0)) s m args below meth c z0 y0 (h_sz M') (h_sl M') 4 (MQ below (xQc G r M') args s (h_sz M' - z0) (h_sl M' - y0) (xFr G)) 0 [(0, .inr (.inr (some a0))), (1, .inl v1), (2, .inl v2)] [] M := by
  unfold b173_0 at h
  refine xv_b E [.aload_n 0, .iload_n 1, .bipush 13] (pc' := 4) (lv' := [(0, .inr (.inr (some a0))), (1, .inl v1), (2, .inl v2)]) (st' := [.inl (13 : Int32), .inl v1, .inr (.inr (some a0))]) (by decide +kernel) rfl rfl ?_
  obtain ⟨b_3, h4, h⟩ := bd h
  obtain ⟨eh4, th4⟩ := g_o_some h4
  obtain ⟨q_1, h2, h⟩ := bd h
  refine xv_cvo E eh4 12 (as := [.inl v1, .inl (13 : Int32)]) (t165 G l (c_I_some h2)) cd165 mw927 mw928 mw929 (show decode prog_14_method_10_code 4 = .ok (.invokevirtual 186, 3) by decide +kernel) th4 rfl rfl (Nat.le_of_ble_eq_true rfl) ⟨Nat.le_of_ble_eq_true rfl, Nat.le_of_ble_eq_true rfl⟩ ?_
  refine xv_b E [.istore_n 3, .aload_n 0, .iload_n 1, .iconst 0] (pc' := 11) (lv' := [(3, .inl q_1.1), (0, .inr (.inr (some a0))), (1, .inl v1), (2, .inl v2)]) (st' := [.inl (0 : Int32), .inl v1, .inr (.inr (some a0))]) (by decide +kernel) rfl rfl ?_
  obtain ⟨b_7, h8, h⟩ := bd h
  obtain ⟨eh8, th8⟩ := g_o_some h8
  obtain ⟨q_5, h6, h⟩ := bd h
  refine xv_cvo E eh8 12 (as := [.inl v1, .inl (0 : Int32)]) (t165 G l (c_I_some h6)) cd165 mw927 mw928 mw929 (show decode prog_14_method_10_code 11 = .ok (.invokevirtual 186, 3) by decide +kernel) th8 rfl rfl (Nat.le_of_ble_eq_true rfl) ⟨Nat.le_of_ble_eq_true rfl, Nat.le_of_ble_eq_true rfl⟩ ?_
  by_cases q9 : q_5.1 = 1
  · rw [if_pos q9] at h
    refine xv_tabIn E (off := 62) 76 (show decode prog_14_method_10_code 14 = .ok (.tableswitch (211) 1 12 #[62, 81, 88, 211, 88, 107, 88, 211, 150, 172, 183, 195], 62) by decide +kernel) (by rw [q9]; decide) (by rw [q9]; decide) (by rw [q9]; rfl) rfl ?_
    refine xv_b E [.iload_n 2, .iconst 1] (pc' := 78) (lv' := [(3, .inl q_1.1), (0, .inr (.inr (some a0))), (1, .inl v1), (2, .inl v2)]) (st' := [.inl (1 : Int32), .inl v2]) (by decide +kernel) rfl rfl ?_
    by_cases q13 : v2 = (1 : Int32)
    · rw [if_pos q13] at h
      refine xv_icmp_ne E 93 (show decode prog_14_method_10_code 78 = .ok (.if_icmp .ne (15), 3) by decide +kernel) rfl (fun z => absurd q13 z) (fun _ => ?_)
      refine xv_b E [.iload_n 3, .aload_n 0] (pc' := 83) (lv' := [(3, .inl q_1.1), (0, .inr (.inr (some a0))), (1, .inl v1), (2, .inl v2)]) (st' := [.inr (.inr (some a0)), .inl q_1.1]) (by decide +kernel) rfl rfl ?_
      obtain ⟨v_10, h11, h⟩ := bd h
      refine xg_i E 12 0 h11 mw921 (show decode prog_14_method_10_code 83 = .ok (.getfield 173, 3) by decide +kernel) ?_
      by_cases q12 : v_10 ≤ q_1.1
      · rw [if_pos q12] at h
        refine xv_icmp_ge E 93 (show decode prog_14_method_10_code 86 = .ok (.if_icmp .ge (7), 3) by decide +kernel) rfl (fun _ => ?_) (fun z => absurd q12 z)
        exact xv_w (sb173_93 E B  q_5.2 h hN) rfl
      · rw [if_neg q12] at h
        refine xv_icmp_ge E 93 (show decode prog_14_method_10_code 86 = .ok (.if_icmp .ge (7), 3) by decide +kernel) rfl (fun z => absurd z q12) (fun _ => ?_)
        refine xv_b E [.iconst 1] (pc' := 90) (lv' := [(3, .inl q_1.1), (0, .inr (.inr (some a0))), (1, .inl v1), (2, .inl v2)]) (st' := [.inl (1 : Int32)]) (by decide +kernel) rfl rfl ?_
        refine xv_goto E 94 (show decode prog_14_method_10_code 90 = .ok (.goto (4), 3) by decide +kernel) rfl ?_
        exact xv_w (sb173_94 E B (1 : Int32) q_5.2 h hN) rfl
    · rw [if_neg q13] at h
      refine xv_icmp_ne E 93 (show decode prog_14_method_10_code 78 = .ok (.if_icmp .ne (15), 3) by decide +kernel) rfl (fun _ => ?_) (fun z => absurd z q13)
      exact xv_w (sb173_93 E B  q_5.2 h hN) rfl
  · rw [if_neg q9] at h
    by_cases q14 : q_5.1 = 2
    · rw [if_pos q14] at h
      refine xv_tabIn E (off := 81) 95 (show decode prog_14_method_10_code 14 = .ok (.tableswitch (211) 1 12 #[62, 81, 88, 211, 88, 107, 88, 211, 150, 172, 183, 195], 62) by decide +kernel) (by rw [q14]; decide) (by rw [q14]; decide) (by rw [q14]; rfl) rfl ?_
      refine xv_b E [.aload_n 0, .iload_n 1, .iload_n 2] (pc' := 98) (lv' := [(3, .inl q_1.1), (0, .inr (.inr (some a0))), (1, .inl v1), (2, .inl v2)]) (st' := [.inl v2, .inl v1, .inr (.inr (some a0))]) (by decide +kernel) rfl rfl ?_
      obtain ⟨b_17, h18, h⟩ := bd h
      obtain ⟨eh18, th18⟩ := g_o_some h18
      obtain ⟨q_15, h16, h⟩ := bd h
      refine xv_cvo E eh18 12 (as := [.inl v1, .inl v2]) (t172 G l (c_I_some h16)) cd172 mw944 mw945 mw946 (show decode prog_14_method_10_code 98 = .ok (.invokevirtual 206, 3) by decide +kernel) th18 rfl rfl (Nat.le_of_ble_eq_true rfl) ⟨Nat.le_of_ble_eq_true rfl, Nat.le_of_ble_eq_true rfl⟩ ?_
      by_cases q19 : q_15.1 = 0 ∨ q_15.1 = 1
      · rw [if_pos q19] at h
        obtain rfl := Option.some.inj h
        obtain ⟨rfl, rfl⟩ := Prod.mk.inj (show ((some (.inl q_15.1) : Option aV), q_15.2) = (r, M') from hN)
        exact xv_ri E B.1 (by rcases q19 with z | z <;> rw [z] <;> rfl) B.2.1 (show decode prog_14_method_10_code 101 = .ok (.ireturn, 1) by decide +kernel) rfl rfl
      · rw [if_neg q19] at h
        cases h
    · rw [if_neg q14] at h
      by_cases q20 : q_5.1 = 3
      · rw [if_pos q20] at h
        refine xv_tabIn E (off := 88) 102 (show decode prog_14_method_10_code 14 = .ok (.tableswitch (211) 1 12 #[62, 81, 88, 211, 88, 107, 88, 211, 150, 172, 183, 195], 62) by decide +kernel) (by rw [q20]; decide) (by rw [q20]; decide) (by rw [q20]; rfl) rfl ?_
        refine xv_b E [.iload_n 2, .iconst 1] (pc' := 104) (lv' := [(3, .inl q_1.1), (0, .inr (.inr (some a0))), (1, .inl v1), (2, .inl v2)]) (st' := [.inl (1 : Int32), .inl v2]) (by decide +kernel) rfl rfl ?_
        by_cases q24 : v2 = (1 : Int32)
        · rw [if_pos q24] at h
          refine xv_icmp_ne E 119 (show decode prog_14_method_10_code 104 = .ok (.if_icmp .ne (15), 3) by decide +kernel) rfl (fun z => absurd q24 z) (fun _ => ?_)
          refine xv_b E [.iload_n 3, .aload_n 0] (pc' := 109) (lv' := [(3, .inl q_1.1), (0, .inr (.inr (some a0))), (1, .inl v1), (2, .inl v2)]) (st' := [.inr (.inr (some a0)), .inl q_1.1]) (by decide +kernel) rfl rfl ?_
          obtain ⟨v_21, h22, h⟩ := bd h
          refine xg_i E 12 1 h22 mw922 (show decode prog_14_method_10_code 109 = .ok (.getfield 177, 3) by decide +kernel) ?_
          by_cases q23 : v_21 ≤ q_1.1
          · rw [if_pos q23] at h
            refine xv_icmp_ge E 119 (show decode prog_14_method_10_code 112 = .ok (.if_icmp .ge (7), 3) by decide +kernel) rfl (fun _ => ?_) (fun z => absurd q23 z)
            exact xv_w (sb173_119 E B  q_5.2 h hN) rfl
          · rw [if_neg q23] at h
            refine xv_icmp_ge E 119 (show decode prog_14_method_10_code 112 = .ok (.if_icmp .ge (7), 3) by decide +kernel) rfl (fun z => absurd z q23) (fun _ => ?_)
            refine xv_b E [.iconst 1] (pc' := 116) (lv' := [(3, .inl q_1.1), (0, .inr (.inr (some a0))), (1, .inl v1), (2, .inl v2)]) (st' := [.inl (1 : Int32)]) (by decide +kernel) rfl rfl ?_
            refine xv_goto E 120 (show decode prog_14_method_10_code 116 = .ok (.goto (4), 3) by decide +kernel) rfl ?_
            exact xv_w (sb173_120 E B (1 : Int32) q_5.2 h hN) rfl
        · rw [if_neg q24] at h
          refine xv_icmp_ne E 119 (show decode prog_14_method_10_code 104 = .ok (.if_icmp .ne (15), 3) by decide +kernel) rfl (fun _ => ?_) (fun z => absurd z q24)
          exact xv_w (sb173_119 E B  q_5.2 h hN) rfl
      · rw [if_neg q20] at h
        by_cases q25 : q_5.1 = 4
        · rw [if_pos q25] at h
          refine xv_tabIn E (off := 211) 225 (show decode prog_14_method_10_code 14 = .ok (.tableswitch (211) 1 12 #[62, 81, 88, 211, 88, 107, 88, 211, 150, 172, 183, 195], 62) by decide +kernel) (by rw [q25]; decide) (by rw [q25]; decide) (by rw [q25]; rfl) rfl ?_
          refine xv_b E [.iconst 1] (pc' := 226) (lv' := [(3, .inl q_1.1), (0, .inr (.inr (some a0))), (1, .inl v1), (2, .inl v2)]) (st' := [.inl (1 : Int32)]) (by decide +kernel) rfl rfl ?_
          obtain rfl := Option.some.inj h
          obtain ⟨rfl, rfl⟩ := Prod.mk.inj (show ((some (.inl (1 : Int32)) : Option aV), q_5.2) = (r, M') from hN)
          exact xv_ri E B.1 rfl B.2.1 (show decode prog_14_method_10_code 226 = .ok (.ireturn, 1) by decide +kernel) rfl rfl
        · rw [if_neg q25] at h
          by_cases q26 : q_5.1 = 5
          · rw [if_pos q26] at h
            refine xv_tabIn E (off := 88) 102 (show decode prog_14_method_10_code 14 = .ok (.tableswitch (211) 1 12 #[62, 81, 88, 211, 88, 107, 88, 211, 150, 172, 183, 195], 62) by decide +kernel) (by rw [q26]; decide) (by rw [q26]; decide) (by rw [q26]; rfl) rfl ?_
            refine xv_b E [.iload_n 2, .iconst 1] (pc' := 104) (lv' := [(3, .inl q_1.1), (0, .inr (.inr (some a0))), (1, .inl v1), (2, .inl v2)]) (st' := [.inl (1 : Int32), .inl v2]) (by decide +kernel) rfl rfl ?_
            by_cases q30 : v2 = (1 : Int32)
            · rw [if_pos q30] at h
              refine xv_icmp_ne E 119 (show decode prog_14_method_10_code 104 = .ok (.if_icmp .ne (15), 3) by decide +kernel) rfl (fun z => absurd q30 z) (fun _ => ?_)
              refine xv_b E [.iload_n 3, .aload_n 0] (pc' := 109) (lv' := [(3, .inl q_1.1), (0, .inr (.inr (some a0))), (1, .inl v1), (2, .inl v2)]) (st' := [.inr (.inr (some a0)), .inl q_1.1]) (by decide +kernel) rfl rfl ?_
              obtain ⟨v_27, h28, h⟩ := bd h
              refine xg_i E 12 1 h28 mw922 (show decode prog_14_method_10_code 109 = .ok (.getfield 177, 3) by decide +kernel) ?_
              by_cases q29 : v_27 ≤ q_1.1
              · rw [if_pos q29] at h
                refine xv_icmp_ge E 119 (show decode prog_14_method_10_code 112 = .ok (.if_icmp .ge (7), 3) by decide +kernel) rfl (fun _ => ?_) (fun z => absurd q29 z)
                exact xv_w (sb173_119 E B  q_5.2 h hN) rfl
              · rw [if_neg q29] at h
                refine xv_icmp_ge E 119 (show decode prog_14_method_10_code 112 = .ok (.if_icmp .ge (7), 3) by decide +kernel) rfl (fun z => absurd z q29) (fun _ => ?_)
                refine xv_b E [.iconst 1] (pc' := 116) (lv' := [(3, .inl q_1.1), (0, .inr (.inr (some a0))), (1, .inl v1), (2, .inl v2)]) (st' := [.inl (1 : Int32)]) (by decide +kernel) rfl rfl ?_
                refine xv_goto E 120 (show decode prog_14_method_10_code 116 = .ok (.goto (4), 3) by decide +kernel) rfl ?_
                exact xv_w (sb173_120 E B (1 : Int32) q_5.2 h hN) rfl
            · rw [if_neg q30] at h
              refine xv_icmp_ne E 119 (show decode prog_14_method_10_code 104 = .ok (.if_icmp .ne (15), 3) by decide +kernel) rfl (fun _ => ?_) (fun z => absurd z q30)
              exact xv_w (sb173_119 E B  q_5.2 h hN) rfl
          · rw [if_neg q26] at h
            by_cases q31 : q_5.1 = 6
            · rw [if_pos q31] at h
              refine xv_tabIn E (off := 107) 121 (show decode prog_14_method_10_code 14 = .ok (.tableswitch (211) 1 12 #[62, 81, 88, 211, 88, 107, 88, 211, 150, 172, 183, 195], 62) by decide +kernel) (by rw [q31]; decide) (by rw [q31]; decide) (by rw [q31]; rfl) rfl ?_
              refine xv_b E [.iload_n 2, .iconst 4] (pc' := 123) (lv' := [(3, .inl q_1.1), (0, .inr (.inr (some a0))), (1, .inl v1), (2, .inl v2)]) (st' := [.inl (4 : Int32), .inl v2]) (by decide +kernel) rfl rfl ?_
              by_cases q45 : v2 = (4 : Int32)
              · rw [if_pos q45] at h
                refine xv_icmp_ne E 162 (show decode prog_14_method_10_code 123 = .ok (.if_icmp .ne (39), 3) by decide +kernel) rfl (fun z => absurd q45 z) (fun _ => ?_)
                refine xv_b E [.iload_n 3, .aload_n 0] (pc' := 128) (lv' := [(3, .inl q_1.1), (0, .inr (.inr (some a0))), (1, .inl v1), (2, .inl v2)]) (st' := [.inr (.inr (some a0)), .inl q_1.1]) (by decide +kernel) rfl rfl ?_
                obtain ⟨v_32, h33, h⟩ := bd h
                refine xg_i E 12 1 h33 mw922 (show decode prog_14_method_10_code 128 = .ok (.getfield 177, 3) by decide +kernel) ?_
                by_cases q44 : v_32 ≤ q_1.1
                · rw [if_pos q44] at h
                  refine xv_icmp_ge E 162 (show decode prog_14_method_10_code 131 = .ok (.if_icmp .ge (31), 3) by decide +kernel) rfl (fun _ => ?_) (fun z => absurd q44 z)
                  exact xv_w (sb173_162 E B  q_5.2 h hN) rfl
                · rw [if_neg q44] at h
                  refine xv_icmp_ge E 162 (show decode prog_14_method_10_code 131 = .ok (.if_icmp .ge (31), 3) by decide +kernel) rfl (fun z => absurd z q44) (fun _ => ?_)
                  refine xv_b E [.aload_n 0, .iload_n 1, .bipush 14, .iconst 3] (pc' := 139) (lv' := [(3, .inl q_1.1), (0, .inr (.inr (some a0))), (1, .inl v1), (2, .inl v2)]) (st' := [.inl (3 : Int32), .inl (14 : Int32), .inl v1, .inr (.inr (some a0))]) (by decide +kernel) rfl rfl ?_
                  obtain ⟨b_36, h37, h⟩ := bd h
                  obtain ⟨eh37, th37⟩ := g_o_some h37
                  obtain ⟨q_34, h35, h⟩ := bd h
                  refine xv_cvo E eh37 12 (as := [.inl v1, .inl (14 : Int32), .inl (3 : Int32)]) (t166 G l (c_I_some h35)) cd166 mw947 mw948 mw949 (show decode prog_14_method_10_code 139 = .ok (.invokevirtual 198, 3) by decide +kernel) th37 rfl rfl (Nat.le_of_ble_eq_true rfl) ⟨Nat.le_of_ble_eq_true rfl, Nat.le_of_ble_eq_true rfl⟩ ?_
                  by_cases q43 : q_34.1 = 0
                  · rw [if_pos q43] at h
                    refine xv_if_eq E 158 (show decode prog_14_method_10_code 142 = .ok (.ifCond .eq (16), 3) by decide +kernel) rfl (fun _ => ?_) (fun z => absurd q43 z)
                    exact xv_w (sb173_158 E B  q_34.2 h hN) rfl
                  · rw [if_neg q43] at h
                    refine xv_if_eq E 158 (show decode prog_14_method_10_code 142 = .ok (.ifCond .eq (16), 3) by decide +kernel) rfl (fun z => absurd z q43) (fun _ => ?_)
                    refine xv_b E [.aload_n 0, .iload_n 1, .bipush 16] (pc' := 149) (lv' := [(3, .inl q_1.1), (0, .inr (.inr (some a0))), (1, .inl v1), (2, .inl v2)]) (st' := [.inl (16 : Int32), .inl v1, .inr (.inr (some a0))]) (by decide +kernel) rfl rfl ?_
                    obtain ⟨b_40, h41, h⟩ := bd h
                    obtain ⟨eh41, th41⟩ := g_o_some h41
                    obtain ⟨q_38, h39, h⟩ := bd h
                    refine xv_cvo E eh41 12 (as := [.inl v1, .inl (16 : Int32)]) (t165 G l (c_I_some h39)) cd165 mw927 mw928 mw929 (show decode prog_14_method_10_code 149 = .ok (.invokevirtual 186, 3) by decide +kernel) th41 rfl rfl (Nat.le_of_ble_eq_true rfl) ⟨Nat.le_of_ble_eq_true rfl, Nat.le_of_ble_eq_true rfl⟩ ?_
                    refine xv_b E [.iload_n 3, .iconst 1, .iadd] (pc' := 155) (lv' := [(3, .inl q_1.1), (0, .inr (.inr (some a0))), (1, .inl v1), (2, .inl v2)]) (st' := [.inl (q_1.1 + (1 : Int32)), .inl q_38.1]) (by decide +kernel) rfl rfl ?_
                    by_cases q42 : q_38.1 = (q_1.1 + (1 : Int32))
                    · rw [if_pos q42] at h
                      refine xv_icmp_ne E 162 (show decode prog_14_method_10_code 155 = .ok (.if_icmp .ne (7), 3) by decide +kernel) rfl (fun z => absurd q42 z) (fun _ => ?_)
                      exact xv_w (sb173_158 E B  q_38.2 h hN) rfl
                    · rw [if_neg q42] at h
                      refine xv_icmp_ne E 162 (show decode prog_14_method_10_code 155 = .ok (.if_icmp .ne (7), 3) by decide +kernel) rfl (fun _ => ?_) (fun z => absurd z q42)
                      exact xv_w (sb173_162 E B  q_38.2 h hN) rfl
              · rw [if_neg q45] at h
                refine xv_icmp_ne E 162 (show decode prog_14_method_10_code 123 = .ok (.if_icmp .ne (39), 3) by decide +kernel) rfl (fun _ => ?_) (fun z => absurd z q45)
                exact xv_w (sb173_162 E B  q_5.2 h hN) rfl
            · rw [if_neg q31] at h
              by_cases q46 : q_5.1 = 7
              · rw [if_pos q46] at h
                refine xv_tabIn E (off := 88) 102 (show decode prog_14_method_10_code 14 = .ok (.tableswitch (211) 1 12 #[62, 81, 88, 211, 88, 107, 88, 211, 150, 172, 183, 195], 62) by decide +kernel) (by rw [q46]; decide) (by rw [q46]; decide) (by rw [q46]; rfl) rfl ?_
                refine xv_b E [.iload_n 2, .iconst 1] (pc' := 104) (lv' := [(3, .inl q_1.1), (0, .inr (.inr (some a0))), (1, .inl v1), (2, .inl v2)]) (st' := [.inl (1 : Int32), .inl v2]) (by decide +kernel) rfl rfl ?_
                by_cases q50 : v2 = (1 : Int32)
                · rw [if_pos q50] at h
                  refine xv_icmp_ne E 119 (show decode prog_14_method_10_code 104 = .ok (.if_icmp .ne (15), 3) by decide +kernel) rfl (fun z => absurd q50 z) (fun _ => ?_)
                  refine xv_b E [.iload_n 3, .aload_n 0] (pc' := 109) (lv' := [(3, .inl q_1.1), (0, .inr (.inr (some a0))), (1, .inl v1), (2, .inl v2)]) (st' := [.inr (.inr (some a0)), .inl q_1.1]) (by decide +kernel) rfl rfl ?_
                  obtain ⟨v_47, h48, h⟩ := bd h
                  refine xg_i E 12 1 h48 mw922 (show decode prog_14_method_10_code 109 = .ok (.getfield 177, 3) by decide +kernel) ?_
                  by_cases q49 : v_47 ≤ q_1.1
                  · rw [if_pos q49] at h
                    refine xv_icmp_ge E 119 (show decode prog_14_method_10_code 112 = .ok (.if_icmp .ge (7), 3) by decide +kernel) rfl (fun _ => ?_) (fun z => absurd q49 z)
                    exact xv_w (sb173_119 E B  q_5.2 h hN) rfl
                  · rw [if_neg q49] at h
                    refine xv_icmp_ge E 119 (show decode prog_14_method_10_code 112 = .ok (.if_icmp .ge (7), 3) by decide +kernel) rfl (fun z => absurd z q49) (fun _ => ?_)
                    refine xv_b E [.iconst 1] (pc' := 116) (lv' := [(3, .inl q_1.1), (0, .inr (.inr (some a0))), (1, .inl v1), (2, .inl v2)]) (st' := [.inl (1 : Int32)]) (by decide +kernel) rfl rfl ?_
                    refine xv_goto E 120 (show decode prog_14_method_10_code 116 = .ok (.goto (4), 3) by decide +kernel) rfl ?_
                    exact xv_w (sb173_120 E B (1 : Int32) q_5.2 h hN) rfl
                · rw [if_neg q50] at h
                  refine xv_icmp_ne E 119 (show decode prog_14_method_10_code 104 = .ok (.if_icmp .ne (15), 3) by decide +kernel) rfl (fun _ => ?_) (fun z => absurd z q50)
                  exact xv_w (sb173_119 E B  q_5.2 h hN) rfl
              · rw [if_neg q46] at h
                by_cases q51 : q_5.1 = 8
                · rw [if_pos q51] at h
                  refine xv_tabIn E (off := 211) 225 (show decode prog_14_method_10_code 14 = .ok (.tableswitch (211) 1 12 #[62, 81, 88, 211, 88, 107, 88, 211, 150, 172, 183, 195], 62) by decide +kernel) (by rw [q51]; decide) (by rw [q51]; decide) (by rw [q51]; rfl) rfl ?_
                  refine xv_b E [.iconst 1] (pc' := 226) (lv' := [(3, .inl q_1.1), (0, .inr (.inr (some a0))), (1, .inl v1), (2, .inl v2)]) (st' := [.inl (1 : Int32)]) (by decide +kernel) rfl rfl ?_
                  obtain rfl := Option.some.inj h
                  obtain ⟨rfl, rfl⟩ := Prod.mk.inj (show ((some (.inl (1 : Int32)) : Option aV), q_5.2) = (r, M') from hN)
                  exact xv_ri E B.1 rfl B.2.1 (show decode prog_14_method_10_code 226 = .ok (.ireturn, 1) by decide +kernel) rfl rfl
                · rw [if_neg q51] at h
                  by_cases q52 : q_5.1 = 9
                  · rw [if_pos q52] at h
                    refine xv_tabIn E (off := 150) 164 (show decode prog_14_method_10_code 14 = .ok (.tableswitch (211) 1 12 #[62, 81, 88, 211, 88, 107, 88, 211, 150, 172, 183, 195], 62) by decide +kernel) (by rw [q52]; decide) (by rw [q52]; decide) (by rw [q52]; rfl) rfl ?_
                    refine xv_b E [.iload_n 2, .iconst 4] (pc' := 166) (lv' := [(3, .inl q_1.1), (0, .inr (.inr (some a0))), (1, .inl v1), (2, .inl v2)]) (st' := [.inl (4 : Int32), .inl v2]) (by decide +kernel) rfl rfl ?_
                    by_cases q58 : v2 = (4 : Int32)
                    · rw [if_pos q58] at h
                      refine xv_icmp_ne E 184 (show decode prog_14_method_10_code 166 = .ok (.if_icmp .ne (18), 3) by decide +kernel) rfl (fun z => absurd q58 z) (fun _ => ?_)
                      refine xv_b E [.aload_n 0, .iload_n 1, .bipush 14] (pc' := 173) (lv' := [(3, .inl q_1.1), (0, .inr (.inr (some a0))), (1, .inl v1), (2, .inl v2)]) (st' := [.inl (14 : Int32), .inl v1, .inr (.inr (some a0))]) (by decide +kernel) rfl rfl ?_
                      obtain ⟨b_55, h56, h⟩ := bd h
                      obtain ⟨eh56, th56⟩ := g_o_some h56
                      obtain ⟨q_53, h54, h⟩ := bd h
                      refine xv_cvo E eh56 12 (as := [.inl v1, .inl (14 : Int32)]) (t165 G l (c_I_some h54)) cd165 mw927 mw928 mw929 (show decode prog_14_method_10_code 173 = .ok (.invokevirtual 186, 3) by decide +kernel) th56 rfl rfl (Nat.le_of_ble_eq_true rfl) ⟨Nat.le_of_ble_eq_true rfl, Nat.le_of_ble_eq_true rfl⟩ ?_
                      refine xv_b E [.iconst 2] (pc' := 177) (lv' := [(3, .inl q_1.1), (0, .inr (.inr (some a0))), (1, .inl v1), (2, .inl v2)]) (st' := [.inl (2 : Int32), .inl q_53.1]) (by decide +kernel) rfl rfl ?_
                      by_cases q57 : (2 : Int32) ≤ q_53.1
                      · rw [if_pos q57] at h
                        refine xv_icmp_ge E 184 (show decode prog_14_method_10_code 177 = .ok (.if_icmp .ge (7), 3) by decide +kernel) rfl (fun _ => ?_) (fun z => absurd q57 z)
                        exact xv_w (sb173_184 E B  q_53.2 h hN) rfl
                      · rw [if_neg q57] at h
                        refine xv_icmp_ge E 184 (show decode prog_14_method_10_code 177 = .ok (.if_icmp .ge (7), 3) by decide +kernel) rfl (fun z => absurd z q57) (fun _ => ?_)
                        refine xv_b E [.iconst 1] (pc' := 181) (lv' := [(3, .inl q_1.1), (0, .inr (.inr (some a0))), (1, .inl v1), (2, .inl v2)]) (st' := [.inl (1 : Int32)]) (by decide +kernel) rfl rfl ?_
                        refine xv_goto E 185 (show decode prog_14_method_10_code 181 = .ok (.goto (4), 3) by decide +kernel) rfl ?_
                        exact xv_w (sb173_185 E B (1 : Int32) q_53.2 h hN) rfl
                    · rw [if_neg q58] at h
                      refine xv_icmp_ne E 184 (show decode prog_14_method_10_code 166 = .ok (.if_icmp .ne (18), 3) by decide +kernel) rfl (fun _ => ?_) (fun z => absurd z q58)
                      exact xv_w (sb173_184 E B  q_5.2 h hN) rfl
                  · rw [if_neg q52] at h
                    by_cases q59 : q_5.1 = 10
                    · rw [if_pos q59] at h
                      refine xv_tabIn E (off := 172) 186 (show decode prog_14_method_10_code 14 = .ok (.tableswitch (211) 1 12 #[62, 81, 88, 211, 88, 107, 88, 211, 150, 172, 183, 195], 62) by decide +kernel) (by rw [q59]; decide) (by rw [q59]; decide) (by rw [q59]; rfl) rfl ?_
                      refine xv_b E [.iload_n 2, .iconst 1] (pc' := 188) (lv' := [(3, .inl q_1.1), (0, .inr (.inr (some a0))), (1, .inl v1), (2, .inl v2)]) (st' := [.inl (1 : Int32), .inl v2]) (by decide +kernel) rfl rfl ?_
                      by_cases q60 : v2 = (1 : Int32)
                      · rw [if_pos q60] at h
                        refine xv_icmp_ne E 195 (show decode prog_14_method_10_code 188 = .ok (.if_icmp .ne (7), 3) by decide +kernel) rfl (fun z => absurd q60 z) (fun _ => ?_)
                        refine xv_b E [.iconst 1] (pc' := 192) (lv' := [(3, .inl q_1.1), (0, .inr (.inr (some a0))), (1, .inl v1), (2, .inl v2)]) (st' := [.inl (1 : Int32)]) (by decide +kernel) rfl rfl ?_
                        refine xv_goto E 196 (show decode prog_14_method_10_code 192 = .ok (.goto (4), 3) by decide +kernel) rfl ?_
                        exact xv_w (sb173_196 E B (1 : Int32) q_5.2 h hN) rfl
                      · rw [if_neg q60] at h
                        refine xv_icmp_ne E 195 (show decode prog_14_method_10_code 188 = .ok (.if_icmp .ne (7), 3) by decide +kernel) rfl (fun _ => ?_) (fun z => absurd z q60)
                        refine xv_b E [.iconst 0] (pc' := 196) (lv' := [(3, .inl q_1.1), (0, .inr (.inr (some a0))), (1, .inl v1), (2, .inl v2)]) (st' := [.inl (0 : Int32)]) (by decide +kernel) rfl rfl ?_
                        exact xv_w (sb173_196 E B (0 : Int32) q_5.2 h hN) rfl
                    · rw [if_neg q59] at h
                      by_cases q61 : q_5.1 = 11
                      · rw [if_pos q61] at h
                        refine xv_tabIn E (off := 183) 197 (show decode prog_14_method_10_code 14 = .ok (.tableswitch (211) 1 12 #[62, 81, 88, 211, 88, 107, 88, 211, 150, 172, 183, 195], 62) by decide +kernel) (by rw [q61]; decide) (by rw [q61]; decide) (by rw [q61]; rfl) rfl ?_
                        refine xv_b E [.iload_n 2, .bipush 8] (pc' := 200) (lv' := [(3, .inl q_1.1), (0, .inr (.inr (some a0))), (1, .inl v1), (2, .inl v2)]) (st' := [.inl (8 : Int32), .inl v2]) (by decide +kernel) rfl rfl ?_
                        by_cases q62 : v2 = (8 : Int32)
                        · rw [if_pos q62] at h
                          refine xv_icmp_ne E 207 (show decode prog_14_method_10_code 200 = .ok (.if_icmp .ne (7), 3) by decide +kernel) rfl (fun z => absurd q62 z) (fun _ => ?_)
                          refine xv_b E [.iconst 1] (pc' := 204) (lv' := [(3, .inl q_1.1), (0, .inr (.inr (some a0))), (1, .inl v1), (2, .inl v2)]) (st' := [.inl (1 : Int32)]) (by decide +kernel) rfl rfl ?_
                          refine xv_goto E 208 (show decode prog_14_method_10_code 204 = .ok (.goto (4), 3) by decide +kernel) rfl ?_
                          exact xv_w (sb173_208 E B (1 : Int32) q_5.2 h hN) rfl
                        · rw [if_neg q62] at h
                          refine xv_icmp_ne E 207 (show decode prog_14_method_10_code 200 = .ok (.if_icmp .ne (7), 3) by decide +kernel) rfl (fun _ => ?_) (fun z => absurd z q62)
                          refine xv_b E [.iconst 0] (pc' := 208) (lv' := [(3, .inl q_1.1), (0, .inr (.inr (some a0))), (1, .inl v1), (2, .inl v2)]) (st' := [.inl (0 : Int32)]) (by decide +kernel) rfl rfl ?_
                          exact xv_w (sb173_208 E B (0 : Int32) q_5.2 h hN) rfl
                      · rw [if_neg q61] at h
                        by_cases q63 : q_5.1 = 12
                        · rw [if_pos q63] at h
                          refine xv_tabIn E (off := 195) 209 (show decode prog_14_method_10_code 14 = .ok (.tableswitch (211) 1 12 #[62, 81, 88, 211, 88, 107, 88, 211, 150, 172, 183, 195], 62) by decide +kernel) (by rw [q63]; decide) (by rw [q63]; decide) (by rw [q63]; rfl) rfl ?_
                          refine xv_b E [.iload_n 2, .iconst 1] (pc' := 211) (lv' := [(3, .inl q_1.1), (0, .inr (.inr (some a0))), (1, .inl v1), (2, .inl v2)]) (st' := [.inl (1 : Int32), .inl v2]) (by decide +kernel) rfl rfl ?_
                          by_cases q65 : v2 = (1 : Int32)
                          · rw [if_pos q65] at h
                            refine xv_icmp_ne E 223 (show decode prog_14_method_10_code 211 = .ok (.if_icmp .ne (12), 3) by decide +kernel) rfl (fun z => absurd q65 z) (fun _ => ?_)
                            refine xv_b E [.iload_n 3, .iconst 2] (pc' := 216) (lv' := [(3, .inl q_1.1), (0, .inr (.inr (some a0))), (1, .inl v1), (2, .inl v2)]) (st' := [.inl (2 : Int32), .inl q_1.1]) (by decide +kernel) rfl rfl ?_
                            by_cases q64 : (2 : Int32) ≤ q_1.1
                            · rw [if_pos q64] at h
                              refine xv_icmp_ge E 223 (show decode prog_14_method_10_code 216 = .ok (.if_icmp .ge (7), 3) by decide +kernel) rfl (fun _ => ?_) (fun z => absurd q64 z)
                              exact xv_w (sb173_223 E B  q_5.2 h hN) rfl
                            · rw [if_neg q64] at h
                              refine xv_icmp_ge E 223 (show decode prog_14_method_10_code 216 = .ok (.if_icmp .ge (7), 3) by decide +kernel) rfl (fun z => absurd z q64) (fun _ => ?_)
                              refine xv_b E [.iconst 1] (pc' := 220) (lv' := [(3, .inl q_1.1), (0, .inr (.inr (some a0))), (1, .inl v1), (2, .inl v2)]) (st' := [.inl (1 : Int32)]) (by decide +kernel) rfl rfl ?_
                              refine xv_goto E 224 (show decode prog_14_method_10_code 220 = .ok (.goto (4), 3) by decide +kernel) rfl ?_
                              exact xv_w (sb173_224 E B (1 : Int32) q_5.2 h hN) rfl
                          · rw [if_neg q65] at h
                            refine xv_icmp_ne E 223 (show decode prog_14_method_10_code 211 = .ok (.if_icmp .ne (12), 3) by decide +kernel) rfl (fun _ => ?_) (fun z => absurd z q65)
                            exact xv_w (sb173_223 E B  q_5.2 h hN) rfl
                        · rw [if_neg q63] at h
                          refine xv_tabOut E 225 (show decode prog_14_method_10_code 14 = .ok (.tableswitch (211) 1 12 #[62, 81, 88, 211, 88, 107, 88, 211, 150, 172, 183, 195], 62) by decide +kernel) (sw_out (lo := 1) (hi := 12) (by decide) (by decide) (fun k h1 h2 => ?_)) rfl ?_
                          · rcases (show k = 1 ∨ k = 2 ∨ k = 3 ∨ k = 4 ∨ k = 5 ∨ k = 6 ∨ k = 7 ∨ k = 8 ∨ k = 9 ∨ k = 10 ∨ k = 11 ∨ k = 12 by omega) with rfl | rfl | rfl | rfl | rfl | rfl | rfl | rfl | rfl | rfl | rfl | rfl
                            · exact q9
                            · exact q14
                            · exact q20
                            · exact q25
                            · exact q26
                            · exact q31
                            · exact q46
                            · exact q51
                            · exact q52
                            · exact q59
                            · exact q61
                            · exact q63
                          · refine xv_b E [.iconst 1] (pc' := 226) (lv' := [(3, .inl q_1.1), (0, .inr (.inr (some a0))), (1, .inl v1), (2, .inl v2)]) (st' := [.inl (1 : Int32)]) (by decide +kernel) rfl rfl ?_
                            obtain rfl := Option.some.inj h
                            obtain ⟨rfl, rfl⟩ := Prod.mk.inj (show ((some (.inl (1 : Int32)) : Option aV), q_5.2) = (r, M') from hN)
                            exact xv_ri E B.1 rfl B.2.1 (show decode prog_14_method_10_code 226 = .ok (.ireturn, 1) by decide +kernel) rfl rfl
end
theorem t173 (G : gX) (l : Launch) {as : List aV} {M : hM} {r : Option aV} {M' : hM} (h : f173 as M = some (r, M')) : xM G l ym173 prog_14_method_10_code 4 (some FieldType.boolean) 2 as M r M' := by
  unfold f173 at h
  split at h
  · have h := x_out_ok h
    refine xM_of (by decide) (Nat.le_of_ble_eq_true rfl) (lb173_0 G l _ _ _ M h) ?_
    intro p e s m args below meth c E B
    exact sb173_0 E B _ _ _ M h rfl
  · cases h
/-! ZFModel.isTrue(I)Z -/
def ym174 : MethodName := ⟨"ZonedFabricModel", "isTrue", "(I)Z"⟩
theorem cd174 : xCd ym174 prog_14_method_9_code 3 (some FieldType.boolean) 1 := ⟨mw950, mw864, by decide, by decide, by decide +kernel⟩
def b174_65 (si0 : Int32) (M : hM) : Option xRes :=
  if si0 = 0 ∨ si0 = 1 then
    (some (.inl (some (.inl si0), M)))
  else
    none
def b174_64  (M : hM) : Option xRes :=
  b174_65 (0 : Int32) M
def b174_0 (a0 : Nat) (v1 : Int32) (M : hM) : Option xRes :=
  Option.bind (g_r M 12 7 (some a0)) fun o_1 =>
  Option.bind (al_i M 20 o_1 v1) fun v_3 =>
  Option.bind (g_r M 12 7 (some a0)) fun o_5 =>
  Option.bind (al_i M 20 o_5 v1) fun v_7 =>
  Option.bind (g_o M 12 (some a0)) fun b_11 =>
  Option.bind (c_I (f166 [.inr (.inr (some b_11)), .inl v1, .inl (v_7 - (4 : Int32)), .inl (4 : Int32)] M)) fun q_9 =>
  Option.bind (g_r q_9.2 12 7 (some a0)) fun o_13 =>
  Option.bind (al_i q_9.2 20 o_13 v1) fun v_15 =>
  Option.bind (g_o q_9.2 12 (some a0)) fun b_19 =>
  Option.bind (c_I (f169 [.inr (.inr (some b_19)), .inl v1, .inl (v_15 - (4 : Int32))] q_9.2)) fun q_17 =>
  if q_9.1 = q_17.1 then
    (Option.bind (g_o q_17.2 12 (some a0)) fun b_23 =>
    Option.bind (c_I (f165 [.inr (.inr (some b_23)), .inl v1, .inl (12 : Int32)] q_17.2)) fun q_21 =>
    if q_21.1 = (v_3 - (17 : Int32)) then
      (Option.bind (g_o q_21.2 12 (some a0)) fun b_27 =>
      Option.bind (c_I (f173 [.inr (.inr (some b_27)), .inl v1, .inl (v_3 - (17 : Int32))] q_21.2)) fun q_25 =>
      if q_25.1 = 0 then
        (b174_64  q_25.2)
      else
        (b174_65 (1 : Int32) q_25.2))
    else
      (b174_64  q_21.2))
  else
    (b174_64  q_17.2)
def f174 (as : List aV) (M : hM) : xO := match as with
  | [.inr (.inr (some a0)), .inl v1] => x_out (b174_0 a0 v1 M)
  | _ => none
theorem lb174_65 (G : gX) (l : Launch) (si0 : Int32) (M : hM) {res : xRes} (h : b174_65 si0 M = some res) : h_sz M ≤ r_sz res ∧ h_sl M ≤ r_sl res := by
  unfold b174_65 at h
  by_cases q32 : si0 = 0 ∨ si0 = 1
  · rw [if_pos q32] at h
    obtain rfl := Option.some.inj h
    show h_sz M ≤ h_sz M ∧ h_sl M ≤ h_sl M
    omega
  · rw [if_neg q32] at h
    cases h
theorem lb174_64 (G : gX) (l : Launch)  (M : hM) {res : xRes} (h : b174_64  M = some res) : h_sz M ≤ r_sz res ∧ h_sl M ≤ r_sl res := by
  unfold b174_64 at h
  have e := lb174_65 G l (0 : Int32) M h
  omega
theorem lb174_0 (G : gX) (l : Launch) (a0 : Nat) (v1 : Int32) (M : hM) {res : xRes} (h : b174_0 a0 v1 M = some res) : h_sz M ≤ r_sz res ∧ h_sl M ≤ r_sl res := by
  unfold b174_0 at h
  obtain ⟨o_1, h2, h⟩ := bd h
  obtain ⟨v_3, h4, h⟩ := bd h
  obtain ⟨o_5, h6, h⟩ := bd h
  obtain ⟨v_7, h8, h⟩ := bd h
  obtain ⟨b_11, h12, h⟩ := bd h
  obtain ⟨q_9, h10, h⟩ := bd h
  have eh10 := (t166 G l (c_I_some h10)).1
  obtain ⟨o_13, h14, h⟩ := bd h
  obtain ⟨v_15, h16, h⟩ := bd h
  obtain ⟨b_19, h20, h⟩ := bd h
  obtain ⟨q_17, h18, h⟩ := bd h
  have eh18 := (t169 G l (c_I_some h18)).1
  by_cases q31 : q_9.1 = q_17.1
  · rw [if_pos q31] at h
    obtain ⟨b_23, h24, h⟩ := bd h
    obtain ⟨q_21, h22, h⟩ := bd h
    have eh22 := (t165 G l (c_I_some h22)).1
    by_cases q30 : q_21.1 = (v_3 - (17 : Int32))
    · rw [if_pos q30] at h
      obtain ⟨b_27, h28, h⟩ := bd h
      obtain ⟨q_25, h26, h⟩ := bd h
      have eh26 := (t173 G l (c_I_some h26)).1
      by_cases q29 : q_25.1 = 0
      · rw [if_pos q29] at h
        have e := lb174_64 G l  q_25.2 h
        omega
      · rw [if_neg q29] at h
        have e := lb174_65 G l (1 : Int32) q_25.2 h
        omega
    · rw [if_neg q30] at h
      have e := lb174_64 G l  q_21.2 h
      omega
  · rw [if_neg q31] at h
    have e := lb174_64 G l  q_17.2 h
    omega
section
variable {p : Program} {l : Launch} {e : Env} {s : State} {m : MethodId} {args : Array Value} {below : List Frame} {meth : Method} {c : Code} {G : gX} {z0 y0 : Nat} {r : Option aV} {M' : hM}
theorem sb174_65 (E : xE G p (xRm 3 (h_sz M' - z0) (h_sl M' - y0)) s m args c prog_14_method_9_code "ZonedFabricModel" z0 y0 (h_sz M') (h_sl M') 3) (B : xB ym174 (some FieldType.boolean) meth) (si0 : Int32) (M : hM) {res : xRes} (h : b174_65 si0 M = some res) (hN : xN (fun _ _ _ => False) r M' res) : xV G p l e (xRm 3 (h_sz M' - z0) (h_sl M' - y0)) s m args below meth c z0 y0 (h_sz M') (h_sl M') 3 (MQ below (xQc G r M') args s (h_sz M' - z0) (h_sl M' - y0) (xFr G)) 65 [] [.inl si0] M := by
  unfold b174_65 at h
  by_cases q32 : si0 = 0 ∨ si0 = 1
  · rw [if_pos q32] at h
    obtain rfl := Option.some.inj h
    obtain ⟨rfl, rfl⟩ := Prod.mk.inj (show ((some (.inl si0) : Option aV), M) = (r, M') from hN)
    exact xv_ri E B.1 (by rcases q32 with z | z <;> rw [z] <;> rfl) B.2.1 (show decode prog_14_method_9_code 65 = .ok (.ireturn, 1) by decide +kernel) rfl rfl
  · rw [if_neg q32] at h
    cases h
theorem sb174_64 (E : xE G p (xRm 3 (h_sz M' - z0) (h_sl M' - y0)) s m args c prog_14_method_9_code "ZonedFabricModel" z0 y0 (h_sz M') (h_sl M') 3) (B : xB ym174 (some FieldType.boolean) meth)  (M : hM) {res : xRes} (h : b174_64  M = some res) (hN : xN (fun _ _ _ => False) r M' res) : xV G p l e (xRm 3 (h_sz M' - z0) (h_sl M' - y0)) s m args below meth c z0 y0 (h_sz M') (h_sl M') 3 (MQ below (xQc G r M') args s (h_sz M' - z0) (h_sl M' - y0) (xFr G)) 64 [] [] M := by
  unfold b174_64 at h
  refine xv_b E [.iconst 0] (pc' := 65) (lv' := []) (st' := [.inl (0 : Int32)]) (by decide +kernel) rfl rfl ?_
  exact xv_w (sb174_65 E B (0 : Int32) M h hN) rfl
theorem sb174_0 (E : xE G p (xRm 3 (h_sz M' - z0) (h_sl M' - y0)) s m args c prog_14_method_9_code "ZonedFabricModel" z0 y0 (h_sz M') (h_sl M') 3) (B : xB ym174 (some FieldType.boolean) meth) (a0 : Nat) (v1 : Int32) (M : hM) {res : xRes} (h : b174_0 a0 v1 M = some res) (hN : xN (fun _ _ _ => False) r M' res) : xV G p l e (xRm 3 (h_sz M' - z0) (h_sl M' - y0)) s m args below meth c z0 y0 (h_sz M') (h_sl M') 3 (MQ below (xQc G r M') args s (h_sz M' - z0) (h_sl M' - y0) (xFr G)) 0 [(0, .inr (.inr (some a0))), (1, .inl v1)] [] M := by
  unfold b174_0 at h
  refine xv_b E [.aload_n 0] (pc' := 1) (lv' := [(0, .inr (.inr (some a0))), (1, .inl v1)]) (st' := [.inr (.inr (some a0))]) (by decide +kernel) rfl rfl ?_
  obtain ⟨o_1, h2, h⟩ := bd h
  refine xg_r E 12 7 h2 mw868 (show decode prog_14_method_9_code 1 = .ok (.getfield 21, 3) by decide +kernel) ?_
  refine xv_b E [.iload_n 1] (pc' := 5) (lv' := [(0, .inr (.inr (some a0))), (1, .inl v1)]) (st' := [.inl v1, .inr (.inr o_1)]) (by decide +kernel) rfl rfl ?_
  obtain ⟨v_3, h4, h⟩ := bd h
  refine xa_i E h4 (show decode prog_14_method_9_code 5 = .ok (.iaload, 1) by decide +kernel) ?_
  refine xv_b E [.bipush 17, .isub, .istore_n 2, .aload_n 0, .iload_n 1, .aload_n 0] (pc' := 13) (lv' := [(2, .inl (v_3 - (17 : Int32))), (0, .inr (.inr (some a0))), (1, .inl v1)]) (st' := [.inr (.inr (some a0)), .inl v1, .inr (.inr (some a0))]) (by decide +kernel) rfl rfl ?_
  obtain ⟨o_5, h6, h⟩ := bd h
  refine xg_r E 12 7 h6 mw868 (show decode prog_14_method_9_code 13 = .ok (.getfield 21, 3) by decide +kernel) ?_
  refine xv_b E [.iload_n 1] (pc' := 17) (lv' := [(2, .inl (v_3 - (17 : Int32))), (0, .inr (.inr (some a0))), (1, .inl v1)]) (st' := [.inl v1, .inr (.inr o_5), .inl v1, .inr (.inr (some a0))]) (by decide +kernel) rfl rfl ?_
  obtain ⟨v_7, h8, h⟩ := bd h
  refine xa_i E h8 (show decode prog_14_method_9_code 17 = .ok (.iaload, 1) by decide +kernel) ?_
  refine xv_b E [.iconst 4, .isub, .iconst 4] (pc' := 21) (lv' := [(2, .inl (v_3 - (17 : Int32))), (0, .inr (.inr (some a0))), (1, .inl v1)]) (st' := [.inl (4 : Int32), .inl (v_7 - (4 : Int32)), .inl v1, .inr (.inr (some a0))]) (by decide +kernel) rfl rfl ?_
  obtain ⟨b_11, h12, h⟩ := bd h
  obtain ⟨eh12, th12⟩ := g_o_some h12
  obtain ⟨q_9, h10, h⟩ := bd h
  refine xv_cvo E eh12 12 (as := [.inl v1, .inl (v_7 - (4 : Int32)), .inl (4 : Int32)]) (t166 G l (c_I_some h10)) cd166 mw947 mw948 mw949 (show decode prog_14_method_9_code 21 = .ok (.invokevirtual 198, 3) by decide +kernel) th12 rfl rfl (Nat.le_of_ble_eq_true rfl) ⟨Nat.le_of_ble_eq_true rfl, Nat.le_of_ble_eq_true rfl⟩ ?_
  refine xv_b E [.aload_n 0, .iload_n 1, .aload_n 0] (pc' := 27) (lv' := [(2, .inl (v_3 - (17 : Int32))), (0, .inr (.inr (some a0))), (1, .inl v1)]) (st' := [.inr (.inr (some a0)), .inl v1, .inr (.inr (some a0)), .inl q_9.1]) (by decide +kernel) rfl rfl ?_
  obtain ⟨o_13, h14, h⟩ := bd h
  refine xg_r E 12 7 h14 mw868 (show decode prog_14_method_9_code 27 = .ok (.getfield 21, 3) by decide +kernel) ?_
  refine xv_b E [.iload_n 1] (pc' := 31) (lv' := [(2, .inl (v_3 - (17 : Int32))), (0, .inr (.inr (some a0))), (1, .inl v1)]) (st' := [.inl v1, .inr (.inr o_13), .inl v1, .inr (.inr (some a0)), .inl q_9.1]) (by decide +kernel) rfl rfl ?_
  obtain ⟨v_15, h16, h⟩ := bd h
  refine xa_i E h16 (show decode prog_14_method_9_code 31 = .ok (.iaload, 1) by decide +kernel) ?_
  refine xv_b E [.iconst 4, .isub] (pc' := 34) (lv' := [(2, .inl (v_3 - (17 : Int32))), (0, .inr (.inr (some a0))), (1, .inl v1)]) (st' := [.inl (v_15 - (4 : Int32)), .inl v1, .inr (.inr (some a0)), .inl q_9.1]) (by decide +kernel) rfl rfl ?_
  obtain ⟨b_19, h20, h⟩ := bd h
  obtain ⟨eh20, th20⟩ := g_o_some h20
  obtain ⟨q_17, h18, h⟩ := bd h
  refine xv_cvo E eh20 12 (as := [.inl v1, .inl (v_15 - (4 : Int32))]) (t169 G l (c_I_some h18)) cd169 mw938 mw939 mw940 (show decode prog_14_method_9_code 34 = .ok (.invokevirtual 194, 3) by decide +kernel) th20 rfl rfl (Nat.le_of_ble_eq_true rfl) ⟨Nat.le_of_ble_eq_true rfl, Nat.le_of_ble_eq_true rfl⟩ ?_
  by_cases q31 : q_9.1 = q_17.1
  · rw [if_pos q31] at h
    refine xv_icmp_ne E 64 (show decode prog_14_method_9_code 37 = .ok (.if_icmp .ne (27), 3) by decide +kernel) rfl (fun z => absurd q31 z) (fun _ => ?_)
    refine xv_b E [.aload_n 0, .iload_n 1, .bipush 12] (pc' := 44) (lv' := [(2, .inl (v_3 - (17 : Int32))), (0, .inr (.inr (some a0))), (1, .inl v1)]) (st' := [.inl (12 : Int32), .inl v1, .inr (.inr (some a0))]) (by decide +kernel) rfl rfl ?_
    obtain ⟨b_23, h24, h⟩ := bd h
    obtain ⟨eh24, th24⟩ := g_o_some h24
    obtain ⟨q_21, h22, h⟩ := bd h
    refine xv_cvo E eh24 12 (as := [.inl v1, .inl (12 : Int32)]) (t165 G l (c_I_some h22)) cd165 mw927 mw928 mw929 (show decode prog_14_method_9_code 44 = .ok (.invokevirtual 186, 3) by decide +kernel) th24 rfl rfl (Nat.le_of_ble_eq_true rfl) ⟨Nat.le_of_ble_eq_true rfl, Nat.le_of_ble_eq_true rfl⟩ ?_
    refine xv_b E [.iload_n 2] (pc' := 48) (lv' := [(2, .inl (v_3 - (17 : Int32))), (0, .inr (.inr (some a0))), (1, .inl v1)]) (st' := [.inl (v_3 - (17 : Int32)), .inl q_21.1]) (by decide +kernel) rfl rfl ?_
    by_cases q30 : q_21.1 = (v_3 - (17 : Int32))
    · rw [if_pos q30] at h
      refine xv_icmp_ne E 64 (show decode prog_14_method_9_code 48 = .ok (.if_icmp .ne (16), 3) by decide +kernel) rfl (fun z => absurd q30 z) (fun _ => ?_)
      refine xv_b E [.aload_n 0, .iload_n 1, .iload_n 2] (pc' := 54) (lv' := [(2, .inl (v_3 - (17 : Int32))), (0, .inr (.inr (some a0))), (1, .inl v1)]) (st' := [.inl (v_3 - (17 : Int32)), .inl v1, .inr (.inr (some a0))]) (by decide +kernel) rfl rfl ?_
      obtain ⟨b_27, h28, h⟩ := bd h
      obtain ⟨eh28, th28⟩ := g_o_some h28
      obtain ⟨q_25, h26, h⟩ := bd h
      refine xv_cvo E eh28 12 (as := [.inl v1, .inl (v_3 - (17 : Int32))]) (t173 G l (c_I_some h26)) cd173 mw951 mw952 mw953 (show decode prog_14_method_9_code 54 = .ok (.invokevirtual 202, 3) by decide +kernel) th28 rfl rfl (Nat.le_of_ble_eq_true rfl) ⟨Nat.le_of_ble_eq_true rfl, Nat.le_of_ble_eq_true rfl⟩ ?_
      by_cases q29 : q_25.1 = 0
      · rw [if_pos q29] at h
        refine xv_if_eq E 64 (show decode prog_14_method_9_code 57 = .ok (.ifCond .eq (7), 3) by decide +kernel) rfl (fun _ => ?_) (fun z => absurd q29 z)
        exact xv_w (sb174_64 E B  q_25.2 h hN) rfl
      · rw [if_neg q29] at h
        refine xv_if_eq E 64 (show decode prog_14_method_9_code 57 = .ok (.ifCond .eq (7), 3) by decide +kernel) rfl (fun z => absurd z q29) (fun _ => ?_)
        refine xv_b E [.iconst 1] (pc' := 61) (lv' := [(2, .inl (v_3 - (17 : Int32))), (0, .inr (.inr (some a0))), (1, .inl v1)]) (st' := [.inl (1 : Int32)]) (by decide +kernel) rfl rfl ?_
        refine xv_goto E 65 (show decode prog_14_method_9_code 61 = .ok (.goto (4), 3) by decide +kernel) rfl ?_
        exact xv_w (sb174_65 E B (1 : Int32) q_25.2 h hN) rfl
    · rw [if_neg q30] at h
      refine xv_icmp_ne E 64 (show decode prog_14_method_9_code 48 = .ok (.if_icmp .ne (16), 3) by decide +kernel) rfl (fun _ => ?_) (fun z => absurd z q30)
      exact xv_w (sb174_64 E B  q_21.2 h hN) rfl
  · rw [if_neg q31] at h
    refine xv_icmp_ne E 64 (show decode prog_14_method_9_code 37 = .ok (.if_icmp .ne (27), 3) by decide +kernel) rfl (fun _ => ?_) (fun z => absurd z q31)
    exact xv_w (sb174_64 E B  q_17.2 h hN) rfl
end
theorem t174 (G : gX) (l : Launch) {as : List aV} {M : hM} {r : Option aV} {M' : hM} (h : f174 as M = some (r, M')) : xM G l ym174 prog_14_method_9_code 3 (some FieldType.boolean) 3 as M r M' := by
  unfold f174 at h
  split at h
  · have h := x_out_ok h
    refine xM_of (by decide) (Nat.le_of_ble_eq_true rfl) (lb174_0 G l _ _ M h) ?_
    intro p e s m args below meth c E B
    exact sb174_0 E B _ _ M h rfl
  · cases h
/-! ZFModel.side(II)I -/
def ym175 : MethodName := ⟨"ZonedFabricModel", "side", "(II)I"⟩
theorem cd175 : xCd ym175 prog_14_method_12_code 3 (some FieldType.int) 2 := ⟨mw954, mw864, by decide, by decide, by decide +kernel⟩
def b175_0 (a0 : Nat) (v1 : Int32) (v2 : Int32) (M : hM) : Option xRes :=
  some (.inl (some (.inl (((8 : Int32) * v1) + v2)), M))
def f175 (as : List aV) (M : hM) : xO := match as with
  | [.inr (.inr (some a0)), .inl v1, .inl v2] => x_out (b175_0 a0 v1 v2 M)
  | _ => none
theorem lb175_0 (G : gX) (l : Launch) (a0 : Nat) (v1 : Int32) (v2 : Int32) (M : hM) {res : xRes} (h : b175_0 a0 v1 v2 M = some res) : h_sz M ≤ r_sz res ∧ h_sl M ≤ r_sl res := by
  unfold b175_0 at h
  obtain rfl := Option.some.inj h
  show h_sz M ≤ h_sz M ∧ h_sl M ≤ h_sl M
  omega
section
variable {p : Program} {l : Launch} {e : Env} {s : State} {m : MethodId} {args : Array Value} {below : List Frame} {meth : Method} {c : Code} {G : gX} {z0 y0 : Nat} {r : Option aV} {M' : hM}
theorem sb175_0 (E : xE G p (xRm 0 (h_sz M' - z0) (h_sl M' - y0)) s m args c prog_14_method_12_code "ZonedFabricModel" z0 y0 (h_sz M') (h_sl M') 3) (B : xB ym175 (some FieldType.int) meth) (a0 : Nat) (v1 : Int32) (v2 : Int32) (M : hM) {res : xRes} (h : b175_0 a0 v1 v2 M = some res) (hN : xN (fun _ _ _ => False) r M' res) : xV G p l e (xRm 0 (h_sz M' - z0) (h_sl M' - y0)) s m args below meth c z0 y0 (h_sz M') (h_sl M') 3 (MQ below (xQc G r M') args s (h_sz M' - z0) (h_sl M' - y0) (xFr G)) 0 [(0, .inr (.inr (some a0))), (1, .inl v1), (2, .inl v2)] [] M := by
  unfold b175_0 at h
  refine xv_b E [.bipush 8, .iload_n 1, .imul, .iload_n 2, .iadd] (pc' := 6) (lv' := [(0, .inr (.inr (some a0))), (1, .inl v1), (2, .inl v2)]) (st' := [.inl (((8 : Int32) * v1) + v2)]) (by decide +kernel) rfl rfl ?_
  obtain rfl := Option.some.inj h
  obtain ⟨rfl, rfl⟩ := Prod.mk.inj (show ((some (.inl (((8 : Int32) * v1) + v2)) : Option aV), M) = (r, M') from hN)
  exact xv_ri E B.1 rfl B.2.1 (show decode prog_14_method_12_code 6 = .ok (.ireturn, 1) by decide +kernel) rfl rfl
end
theorem t175 (G : gX) (l : Launch) {as : List aV} {M : hM} {r : Option aV} {M' : hM} (h : f175 as M = some (r, M')) : xM G l ym175 prog_14_method_12_code 3 (some FieldType.int) 0 as M r M' := by
  unfold f175 at h
  split at h
  · have h := x_out_ok h
    refine xM_of (by decide) (Nat.le_of_ble_eq_true rfl) (lb175_0 G l _ _ _ M h) ?_
    intro p e s m args below meth c E B
    exact sb175_0 E B _ _ _ M h rfl
  · cases h
/-! ZFModel.nodeSide(I)I -/
def ym176 : MethodName := ⟨"ZonedFabricModel", "nodeSide", "(I)I"⟩
theorem cd176 : xCd ym176 prog_14_method_13_code 2 (some FieldType.int) 1 := ⟨mw955, mw864, by decide, by decide, by decide +kernel⟩
def b176_0 (a0 : Nat) (v1 : Int32) (M : hM) : Option xRes :=
  some (.inl (some (.inl ((40 : Int32) + v1)), M))
def f176 (as : List aV) (M : hM) : xO := match as with
  | [.inr (.inr (some a0)), .inl v1] => x_out (b176_0 a0 v1 M)
  | _ => none
theorem lb176_0 (G : gX) (l : Launch) (a0 : Nat) (v1 : Int32) (M : hM) {res : xRes} (h : b176_0 a0 v1 M = some res) : h_sz M ≤ r_sz res ∧ h_sl M ≤ r_sl res := by
  unfold b176_0 at h
  obtain rfl := Option.some.inj h
  show h_sz M ≤ h_sz M ∧ h_sl M ≤ h_sl M
  omega
section
variable {p : Program} {l : Launch} {e : Env} {s : State} {m : MethodId} {args : Array Value} {below : List Frame} {meth : Method} {c : Code} {G : gX} {z0 y0 : Nat} {r : Option aV} {M' : hM}
theorem sb176_0 (E : xE G p (xRm 0 (h_sz M' - z0) (h_sl M' - y0)) s m args c prog_14_method_13_code "ZonedFabricModel" z0 y0 (h_sz M') (h_sl M') 2) (B : xB ym176 (some FieldType.int) meth) (a0 : Nat) (v1 : Int32) (M : hM) {res : xRes} (h : b176_0 a0 v1 M = some res) (hN : xN (fun _ _ _ => False) r M' res) : xV G p l e (xRm 0 (h_sz M' - z0) (h_sl M' - y0)) s m args below meth c z0 y0 (h_sz M') (h_sl M') 2 (MQ below (xQc G r M') args s (h_sz M' - z0) (h_sl M' - y0) (xFr G)) 0 [(0, .inr (.inr (some a0))), (1, .inl v1)] [] M := by
  unfold b176_0 at h
  refine xv_b E [.bipush 40, .iload_n 1, .iadd] (pc' := 4) (lv' := [(0, .inr (.inr (some a0))), (1, .inl v1)]) (st' := [.inl ((40 : Int32) + v1)]) (by decide +kernel) rfl rfl ?_
  obtain rfl := Option.some.inj h
  obtain ⟨rfl, rfl⟩ := Prod.mk.inj (show ((some (.inl ((40 : Int32) + v1)) : Option aV), M) = (r, M') from hN)
  exact xv_ri E B.1 rfl B.2.1 (show decode prog_14_method_13_code 4 = .ok (.ireturn, 1) by decide +kernel) rfl rfl
end
theorem t176 (G : gX) (l : Launch) {as : List aV} {M : hM} {r : Option aV} {M' : hM} (h : f176 as M = some (r, M')) : xM G l ym176 prog_14_method_13_code 2 (some FieldType.int) 0 as M r M' := by
  unfold f176 at h
  split at h
  · have h := x_out_ok h
    refine xM_of (by decide) (Nat.le_of_ble_eq_true rfl) (lb176_0 G l _ _ M h) ?_
    intro p e s m args below meth c E B
    exact sb176_0 E B _ _ M h rfl
  · cases h
/-! ZFModel.isUp(I)Z -/
def ym177 : MethodName := ⟨"ZonedFabricModel", "isUp", "(I)Z"⟩
theorem cd177 : xCd ym177 prog_14_method_14_code 2 (some FieldType.boolean) 1 := ⟨mw956, mw864, by decide, by decide, by decide +kernel⟩
def b177_29 (si0 : Int32) (M : hM) : Option xRes :=
  if si0 = 0 ∨ si0 = 1 then
    (some (.inl (some (.inl si0), M)))
  else
    none
def b177_28  (M : hM) : Option xRes :=
  b177_29 (0 : Int32) M
def b177_0 (a0 : Nat) (v1 : Int32) (M : hM) : Option xRes :=
  Option.bind (g_r M 12 14 (some a0)) fun o_1 =>
  Option.bind (al_i M 20 o_1 v1) fun v_3 =>
  if v_3 = (-1 : Int32) then
    (b177_28  M)
  else
    (Option.bind (g_r M 12 12 (some a0)) fun o_5 =>
    Option.bind (g_r M 12 14 (some a0)) fun o_7 =>
    Option.bind (al_i M 20 o_7 v1) fun v_9 =>
    Option.bind (al_i M 22 o_5 v_9) fun v_11 =>
    if v_11 = 0 then
      (b177_28  M)
    else
      (b177_29 (1 : Int32) M))
def f177 (as : List aV) (M : hM) : xO := match as with
  | [.inr (.inr (some a0)), .inl v1] => x_out (b177_0 a0 v1 M)
  | _ => none
theorem lb177_29 (G : gX) (l : Launch) (si0 : Int32) (M : hM) {res : xRes} (h : b177_29 si0 M = some res) : h_sz M ≤ r_sz res ∧ h_sl M ≤ r_sl res := by
  unfold b177_29 at h
  by_cases q15 : si0 = 0 ∨ si0 = 1
  · rw [if_pos q15] at h
    obtain rfl := Option.some.inj h
    show h_sz M ≤ h_sz M ∧ h_sl M ≤ h_sl M
    omega
  · rw [if_neg q15] at h
    cases h
theorem lb177_28 (G : gX) (l : Launch)  (M : hM) {res : xRes} (h : b177_28  M = some res) : h_sz M ≤ r_sz res ∧ h_sl M ≤ r_sl res := by
  unfold b177_28 at h
  have e := lb177_29 G l (0 : Int32) M h
  omega
theorem lb177_0 (G : gX) (l : Launch) (a0 : Nat) (v1 : Int32) (M : hM) {res : xRes} (h : b177_0 a0 v1 M = some res) : h_sz M ≤ r_sz res ∧ h_sl M ≤ r_sl res := by
  unfold b177_0 at h
  obtain ⟨o_1, h2, h⟩ := bd h
  obtain ⟨v_3, h4, h⟩ := bd h
  by_cases q14 : v_3 = (-1 : Int32)
  · rw [if_pos q14] at h
    have e := lb177_28 G l  M h
    omega
  · rw [if_neg q14] at h
    obtain ⟨o_5, h6, h⟩ := bd h
    obtain ⟨o_7, h8, h⟩ := bd h
    obtain ⟨v_9, h10, h⟩ := bd h
    obtain ⟨v_11, h12, h⟩ := bd h
    by_cases q13 : v_11 = 0
    · rw [if_pos q13] at h
      have e := lb177_28 G l  M h
      omega
    · rw [if_neg q13] at h
      have e := lb177_29 G l (1 : Int32) M h
      omega
section
variable {p : Program} {l : Launch} {e : Env} {s : State} {m : MethodId} {args : Array Value} {below : List Frame} {meth : Method} {c : Code} {G : gX} {z0 y0 : Nat} {r : Option aV} {M' : hM}
theorem sb177_29 (E : xE G p (xRm 0 (h_sz M' - z0) (h_sl M' - y0)) s m args c prog_14_method_14_code "ZonedFabricModel" z0 y0 (h_sz M') (h_sl M') 2) (B : xB ym177 (some FieldType.boolean) meth) (si0 : Int32) (M : hM) {res : xRes} (h : b177_29 si0 M = some res) (hN : xN (fun _ _ _ => False) r M' res) : xV G p l e (xRm 0 (h_sz M' - z0) (h_sl M' - y0)) s m args below meth c z0 y0 (h_sz M') (h_sl M') 2 (MQ below (xQc G r M') args s (h_sz M' - z0) (h_sl M' - y0) (xFr G)) 29 [] [.inl si0] M := by
  unfold b177_29 at h
  by_cases q15 : si0 = 0 ∨ si0 = 1
  · rw [if_pos q15] at h
    obtain rfl := Option.some.inj h
    obtain ⟨rfl, rfl⟩ := Prod.mk.inj (show ((some (.inl si0) : Option aV), M) = (r, M') from hN)
    exact xv_ri E B.1 (by rcases q15 with z | z <;> rw [z] <;> rfl) B.2.1 (show decode prog_14_method_14_code 29 = .ok (.ireturn, 1) by decide +kernel) rfl rfl
  · rw [if_neg q15] at h
    cases h
theorem sb177_28 (E : xE G p (xRm 0 (h_sz M' - z0) (h_sl M' - y0)) s m args c prog_14_method_14_code "ZonedFabricModel" z0 y0 (h_sz M') (h_sl M') 2) (B : xB ym177 (some FieldType.boolean) meth)  (M : hM) {res : xRes} (h : b177_28  M = some res) (hN : xN (fun _ _ _ => False) r M' res) : xV G p l e (xRm 0 (h_sz M' - z0) (h_sl M' - y0)) s m args below meth c z0 y0 (h_sz M') (h_sl M') 2 (MQ below (xQc G r M') args s (h_sz M' - z0) (h_sl M' - y0) (xFr G)) 28 [] [] M := by
  unfold b177_28 at h
  refine xv_b E [.iconst 0] (pc' := 29) (lv' := []) (st' := [.inl (0 : Int32)]) (by decide +kernel) rfl rfl ?_
  exact xv_w (sb177_29 E B (0 : Int32) M h hN) rfl
theorem sb177_0 (E : xE G p (xRm 0 (h_sz M' - z0) (h_sl M' - y0)) s m args c prog_14_method_14_code "ZonedFabricModel" z0 y0 (h_sz M') (h_sl M') 2) (B : xB ym177 (some FieldType.boolean) meth) (a0 : Nat) (v1 : Int32) (M : hM) {res : xRes} (h : b177_0 a0 v1 M = some res) (hN : xN (fun _ _ _ => False) r M' res) : xV G p l e (xRm 0 (h_sz M' - z0) (h_sl M' - y0)) s m args below meth c z0 y0 (h_sz M') (h_sl M') 2 (MQ below (xQc G r M') args s (h_sz M' - z0) (h_sl M' - y0) (xFr G)) 0 [(0, .inr (.inr (some a0))), (1, .inl v1)] [] M := by
  unfold b177_0 at h
  refine xv_b E [.aload_n 0] (pc' := 1) (lv' := [(0, .inr (.inr (some a0))), (1, .inl v1)]) (st' := [.inr (.inr (some a0))]) (by decide +kernel) rfl rfl ?_
  obtain ⟨o_1, h2, h⟩ := bd h
  refine xg_r E 12 14 h2 mw874 (show decode prog_14_method_14_code 1 = .ok (.getfield 37, 3) by decide +kernel) ?_
  refine xv_b E [.iload_n 1] (pc' := 5) (lv' := [(0, .inr (.inr (some a0))), (1, .inl v1)]) (st' := [.inl v1, .inr (.inr o_1)]) (by decide +kernel) rfl rfl ?_
  obtain ⟨v_3, h4, h⟩ := bd h
  refine xa_i E h4 (show decode prog_14_method_14_code 5 = .ok (.iaload, 1) by decide +kernel) ?_
  refine xv_b E [.iconst (-1)] (pc' := 7) (lv' := [(0, .inr (.inr (some a0))), (1, .inl v1)]) (st' := [.inl (-1 : Int32), .inl v_3]) (by decide +kernel) rfl rfl ?_
  by_cases q14 : v_3 = (-1 : Int32)
  · rw [if_pos q14] at h
    refine xv_icmp_eq E 28 (show decode prog_14_method_14_code 7 = .ok (.if_icmp .eq (21), 3) by decide +kernel) rfl (fun _ => ?_) (fun z => absurd q14 z)
    exact xv_w (sb177_28 E B  M h hN) rfl
  · rw [if_neg q14] at h
    refine xv_icmp_eq E 28 (show decode prog_14_method_14_code 7 = .ok (.if_icmp .eq (21), 3) by decide +kernel) rfl (fun z => absurd z q14) (fun _ => ?_)
    refine xv_b E [.aload_n 0] (pc' := 11) (lv' := [(0, .inr (.inr (some a0))), (1, .inl v1)]) (st' := [.inr (.inr (some a0))]) (by decide +kernel) rfl rfl ?_
    obtain ⟨o_5, h6, h⟩ := bd h
    refine xg_r E 12 12 h6 mw873 (show decode prog_14_method_14_code 11 = .ok (.getfield 33, 3) by decide +kernel) ?_
    refine xv_b E [.aload_n 0] (pc' := 15) (lv' := [(0, .inr (.inr (some a0))), (1, .inl v1)]) (st' := [.inr (.inr (some a0)), .inr (.inr o_5)]) (by decide +kernel) rfl rfl ?_
    obtain ⟨o_7, h8, h⟩ := bd h
    refine xg_r E 12 14 h8 mw874 (show decode prog_14_method_14_code 15 = .ok (.getfield 37, 3) by decide +kernel) ?_
    refine xv_b E [.iload_n 1] (pc' := 19) (lv' := [(0, .inr (.inr (some a0))), (1, .inl v1)]) (st' := [.inl v1, .inr (.inr o_7), .inr (.inr o_5)]) (by decide +kernel) rfl rfl ?_
    obtain ⟨v_9, h10, h⟩ := bd h
    refine xa_i E h10 (show decode prog_14_method_14_code 19 = .ok (.iaload, 1) by decide +kernel) ?_
    obtain ⟨v_11, h12, h⟩ := bd h
    refine xa_z E h12 (show decode prog_14_method_14_code 20 = .ok (.baload, 1) by decide +kernel) ?_
    by_cases q13 : v_11 = 0
    · rw [if_pos q13] at h
      refine xv_if_eq E 28 (show decode prog_14_method_14_code 21 = .ok (.ifCond .eq (7), 3) by decide +kernel) rfl (fun _ => ?_) (fun z => absurd q13 z)
      exact xv_w (sb177_28 E B  M h hN) rfl
    · rw [if_neg q13] at h
      refine xv_if_eq E 28 (show decode prog_14_method_14_code 21 = .ok (.ifCond .eq (7), 3) by decide +kernel) rfl (fun z => absurd z q13) (fun _ => ?_)
      refine xv_b E [.iconst 1] (pc' := 25) (lv' := [(0, .inr (.inr (some a0))), (1, .inl v1)]) (st' := [.inl (1 : Int32)]) (by decide +kernel) rfl rfl ?_
      refine xv_goto E 29 (show decode prog_14_method_14_code 25 = .ok (.goto (4), 3) by decide +kernel) rfl ?_
      exact xv_w (sb177_29 E B (1 : Int32) M h hN) rfl
end
theorem t177 (G : gX) (l : Launch) {as : List aV} {M : hM} {r : Option aV} {M' : hM} (h : f177 as M = some (r, M')) : xM G l ym177 prog_14_method_14_code 2 (some FieldType.boolean) 0 as M r M' := by
  unfold f177 at h
  split at h
  · have h := x_out_ok h
    refine xM_of (by decide) (Nat.le_of_ble_eq_true rfl) (lb177_0 G l _ _ M h) ?_
    intro p e s m args below meth c E B
    exact sb177_0 E B _ _ M h rfl
  · cases h
/-! ZFModel.other(I)I -/
def ym178 : MethodName := ⟨"ZonedFabricModel", "other", "(I)I"⟩
theorem cd178 : xCd ym178 prog_14_method_15_code 3 (some FieldType.int) 1 := ⟨mw957, mw864, by decide, by decide, by decide +kernel⟩
def b178_40 (si0 : Int32) (M : hM) : Option xRes :=
  some (.inl (some (.inl si0), M))
def b178_0 (a0 : Nat) (v1 : Int32) (M : hM) : Option xRes :=
  Option.bind (g_r M 12 14 (some a0)) fun o_1 =>
  Option.bind (al_i M 20 o_1 v1) fun v_3 =>
  Option.bind (g_r M 12 10 (some a0)) fun o_5 =>
  Option.bind (al_i M 20 o_5 ((2 : Int32) * v_3)) fun v_7 =>
  if v_7 = v1 then
    (Option.bind (g_r M 12 10 (some a0)) fun o_13 =>
    Option.bind (al_i M 20 o_13 (((2 : Int32) * v_3) + (1 : Int32))) fun v_15 =>
    b178_40 v_15 M)
  else
    (Option.bind (g_r M 12 10 (some a0)) fun o_9 =>
    Option.bind (al_i M 20 o_9 ((2 : Int32) * v_3)) fun v_11 =>
    b178_40 v_11 M)
def f178 (as : List aV) (M : hM) : xO := match as with
  | [.inr (.inr (some a0)), .inl v1] => x_out (b178_0 a0 v1 M)
  | _ => none
theorem lb178_40 (G : gX) (l : Launch) (si0 : Int32) (M : hM) {res : xRes} (h : b178_40 si0 M = some res) : h_sz M ≤ r_sz res ∧ h_sl M ≤ r_sl res := by
  unfold b178_40 at h
  obtain rfl := Option.some.inj h
  show h_sz M ≤ h_sz M ∧ h_sl M ≤ h_sl M
  omega
theorem lb178_0 (G : gX) (l : Launch) (a0 : Nat) (v1 : Int32) (M : hM) {res : xRes} (h : b178_0 a0 v1 M = some res) : h_sz M ≤ r_sz res ∧ h_sl M ≤ r_sl res := by
  unfold b178_0 at h
  obtain ⟨o_1, h2, h⟩ := bd h
  obtain ⟨v_3, h4, h⟩ := bd h
  obtain ⟨o_5, h6, h⟩ := bd h
  obtain ⟨v_7, h8, h⟩ := bd h
  by_cases q17 : v_7 = v1
  · rw [if_pos q17] at h
    obtain ⟨o_13, h14, h⟩ := bd h
    obtain ⟨v_15, h16, h⟩ := bd h
    have e := lb178_40 G l v_15 M h
    omega
  · rw [if_neg q17] at h
    obtain ⟨o_9, h10, h⟩ := bd h
    obtain ⟨v_11, h12, h⟩ := bd h
    have e := lb178_40 G l v_11 M h
    omega
section
variable {p : Program} {l : Launch} {e : Env} {s : State} {m : MethodId} {args : Array Value} {below : List Frame} {meth : Method} {c : Code} {G : gX} {z0 y0 : Nat} {r : Option aV} {M' : hM}
theorem sb178_40 (E : xE G p (xRm 0 (h_sz M' - z0) (h_sl M' - y0)) s m args c prog_14_method_15_code "ZonedFabricModel" z0 y0 (h_sz M') (h_sl M') 3) (B : xB ym178 (some FieldType.int) meth) (si0 : Int32) (M : hM) {res : xRes} (h : b178_40 si0 M = some res) (hN : xN (fun _ _ _ => False) r M' res) : xV G p l e (xRm 0 (h_sz M' - z0) (h_sl M' - y0)) s m args below meth c z0 y0 (h_sz M') (h_sl M') 3 (MQ below (xQc G r M') args s (h_sz M' - z0) (h_sl M' - y0) (xFr G)) 40 [] [.inl si0] M := by
  unfold b178_40 at h
  obtain rfl := Option.some.inj h
  obtain ⟨rfl, rfl⟩ := Prod.mk.inj (show ((some (.inl si0) : Option aV), M) = (r, M') from hN)
  exact xv_ri E B.1 rfl B.2.1 (show decode prog_14_method_15_code 40 = .ok (.ireturn, 1) by decide +kernel) rfl rfl
theorem sb178_0 (E : xE G p (xRm 0 (h_sz M' - z0) (h_sl M' - y0)) s m args c prog_14_method_15_code "ZonedFabricModel" z0 y0 (h_sz M') (h_sl M') 3) (B : xB ym178 (some FieldType.int) meth) (a0 : Nat) (v1 : Int32) (M : hM) {res : xRes} (h : b178_0 a0 v1 M = some res) (hN : xN (fun _ _ _ => False) r M' res) : xV G p l e (xRm 0 (h_sz M' - z0) (h_sl M' - y0)) s m args below meth c z0 y0 (h_sz M') (h_sl M') 3 (MQ below (xQc G r M') args s (h_sz M' - z0) (h_sl M' - y0) (xFr G)) 0 [(0, .inr (.inr (some a0))), (1, .inl v1)] [] M := by
  unfold b178_0 at h
  refine xv_b E [.aload_n 0] (pc' := 1) (lv' := [(0, .inr (.inr (some a0))), (1, .inl v1)]) (st' := [.inr (.inr (some a0))]) (by decide +kernel) rfl rfl ?_
  obtain ⟨o_1, h2, h⟩ := bd h
  refine xg_r E 12 14 h2 mw874 (show decode prog_14_method_15_code 1 = .ok (.getfield 37, 3) by decide +kernel) ?_
  refine xv_b E [.iload_n 1] (pc' := 5) (lv' := [(0, .inr (.inr (some a0))), (1, .inl v1)]) (st' := [.inl v1, .inr (.inr o_1)]) (by decide +kernel) rfl rfl ?_
  obtain ⟨v_3, h4, h⟩ := bd h
  refine xa_i E h4 (show decode prog_14_method_15_code 5 = .ok (.iaload, 1) by decide +kernel) ?_
  refine xv_b E [.istore_n 2, .aload_n 0] (pc' := 8) (lv' := [(2, .inl v_3), (0, .inr (.inr (some a0))), (1, .inl v1)]) (st' := [.inr (.inr (some a0))]) (by decide +kernel) rfl rfl ?_
  obtain ⟨o_5, h6, h⟩ := bd h
  refine xg_r E 12 10 h6 mw870 (show decode prog_14_method_15_code 8 = .ok (.getfield 27, 3) by decide +kernel) ?_
  refine xv_b E [.iconst 2, .iload_n 2, .imul] (pc' := 14) (lv' := [(2, .inl v_3), (0, .inr (.inr (some a0))), (1, .inl v1)]) (st' := [.inl ((2 : Int32) * v_3), .inr (.inr o_5)]) (by decide +kernel) rfl rfl ?_
  obtain ⟨v_7, h8, h⟩ := bd h
  refine xa_i E h8 (show decode prog_14_method_15_code 14 = .ok (.iaload, 1) by decide +kernel) ?_
  refine xv_b E [.iload_n 1] (pc' := 16) (lv' := [(2, .inl v_3), (0, .inr (.inr (some a0))), (1, .inl v1)]) (st' := [.inl v1, .inl v_7]) (by decide +kernel) rfl rfl ?_
  by_cases q17 : v_7 = v1
  · rw [if_pos q17] at h
    refine xv_icmp_ne E 32 (show decode prog_14_method_15_code 16 = .ok (.if_icmp .ne (16), 3) by decide +kernel) rfl (fun z => absurd q17 z) (fun _ => ?_)
    refine xv_b E [.aload_n 0] (pc' := 20) (lv' := [(2, .inl v_3), (0, .inr (.inr (some a0))), (1, .inl v1)]) (st' := [.inr (.inr (some a0))]) (by decide +kernel) rfl rfl ?_
    obtain ⟨o_13, h14, h⟩ := bd h
    refine xg_r E 12 10 h14 mw870 (show decode prog_14_method_15_code 20 = .ok (.getfield 27, 3) by decide +kernel) ?_
    refine xv_b E [.iconst 2, .iload_n 2, .imul, .iconst 1, .iadd] (pc' := 28) (lv' := [(2, .inl v_3), (0, .inr (.inr (some a0))), (1, .inl v1)]) (st' := [.inl (((2 : Int32) * v_3) + (1 : Int32)), .inr (.inr o_13)]) (by decide +kernel) rfl rfl ?_
    obtain ⟨v_15, h16, h⟩ := bd h
    refine xa_i E h16 (show decode prog_14_method_15_code 28 = .ok (.iaload, 1) by decide +kernel) ?_
    refine xv_goto E 40 (show decode prog_14_method_15_code 29 = .ok (.goto (11), 3) by decide +kernel) rfl ?_
    exact xv_w (sb178_40 E B v_15 M h hN) rfl
  · rw [if_neg q17] at h
    refine xv_icmp_ne E 32 (show decode prog_14_method_15_code 16 = .ok (.if_icmp .ne (16), 3) by decide +kernel) rfl (fun _ => ?_) (fun z => absurd z q17)
    refine xv_b E [.aload_n 0] (pc' := 33) (lv' := [(2, .inl v_3), (0, .inr (.inr (some a0))), (1, .inl v1)]) (st' := [.inr (.inr (some a0))]) (by decide +kernel) rfl rfl ?_
    obtain ⟨o_9, h10, h⟩ := bd h
    refine xg_r E 12 10 h10 mw870 (show decode prog_14_method_15_code 33 = .ok (.getfield 27, 3) by decide +kernel) ?_
    refine xv_b E [.iconst 2, .iload_n 2, .imul] (pc' := 39) (lv' := [(2, .inl v_3), (0, .inr (.inr (some a0))), (1, .inl v1)]) (st' := [.inl ((2 : Int32) * v_3), .inr (.inr o_9)]) (by decide +kernel) rfl rfl ?_
    obtain ⟨v_11, h12, h⟩ := bd h
    refine xa_i E h12 (show decode prog_14_method_15_code 39 = .ok (.iaload, 1) by decide +kernel) ?_
    exact xv_w (sb178_40 E B v_11 M h hN) rfl
end
theorem t178 (G : gX) (l : Launch) {as : List aV} {M : hM} {r : Option aV} {M' : hM} (h : f178 as M = some (r, M')) : xM G l ym178 prog_14_method_15_code 3 (some FieldType.int) 0 as M r M' := by
  unfold f178 at h
  split at h
  · have h := x_out_ok h
    refine xM_of (by decide) (Nat.le_of_ble_eq_true rfl) (lb178_0 G l _ _ M h) ?_
    intro p e s m args below meth c E B
    exact sb178_0 E B _ _ M h rfl
  · cases h
/-! ZFModel.nodeAt(I)I -/
def ym179 : MethodName := ⟨"ZonedFabricModel", "nodeAt", "(I)I"⟩
theorem cd179 : xCd ym179 prog_14_method_16_code 2 (some FieldType.int) 1 := ⟨mw958, mw864, by decide, by decide, by decide +kernel⟩
def b179_32 (si0 : Int32) (M : hM) : Option xRes :=
  some (.inl (some (.inl si0), M))
def b179_31  (M : hM) : Option xRes :=
  b179_32 (-1 : Int32) M
def b179_0 (a0 : Nat) (v1 : Int32) (M : hM) : Option xRes :=
  Option.bind (g_r M 12 14 (some a0)) fun o_1 =>
  Option.bind (al_i M 20 o_1 v1) fun v_3 =>
  if v_3 = (-1 : Int32) then
    (b179_31  M)
  else
    (Option.bind (g_o M 12 (some a0)) fun b_7 =>
    Option.bind (c_I (f178 [.inr (.inr (some b_7)), .inl v1] M)) fun q_5 =>
    if q_5.1 < (40 : Int32) then
      (b179_31  q_5.2)
    else
      (Option.bind (g_o q_5.2 12 (some a0)) fun b_11 =>
      Option.bind (c_I (f178 [.inr (.inr (some b_11)), .inl v1] q_5.2)) fun q_9 =>
      b179_32 (q_9.1 - (40 : Int32)) q_9.2))
def f179 (as : List aV) (M : hM) : xO := match as with
  | [.inr (.inr (some a0)), .inl v1] => x_out (b179_0 a0 v1 M)
  | _ => none
theorem lb179_32 (G : gX) (l : Launch) (si0 : Int32) (M : hM) {res : xRes} (h : b179_32 si0 M = some res) : h_sz M ≤ r_sz res ∧ h_sl M ≤ r_sl res := by
  unfold b179_32 at h
  obtain rfl := Option.some.inj h
  show h_sz M ≤ h_sz M ∧ h_sl M ≤ h_sl M
  omega
theorem lb179_31 (G : gX) (l : Launch)  (M : hM) {res : xRes} (h : b179_31  M = some res) : h_sz M ≤ r_sz res ∧ h_sl M ≤ r_sl res := by
  unfold b179_31 at h
  have e := lb179_32 G l (-1 : Int32) M h
  omega
theorem lb179_0 (G : gX) (l : Launch) (a0 : Nat) (v1 : Int32) (M : hM) {res : xRes} (h : b179_0 a0 v1 M = some res) : h_sz M ≤ r_sz res ∧ h_sl M ≤ r_sl res := by
  unfold b179_0 at h
  obtain ⟨o_1, h2, h⟩ := bd h
  obtain ⟨v_3, h4, h⟩ := bd h
  by_cases q14 : v_3 = (-1 : Int32)
  · rw [if_pos q14] at h
    have e := lb179_31 G l  M h
    omega
  · rw [if_neg q14] at h
    obtain ⟨b_7, h8, h⟩ := bd h
    obtain ⟨q_5, h6, h⟩ := bd h
    have eh6 := (t178 G l (c_I_some h6)).1
    by_cases q13 : q_5.1 < (40 : Int32)
    · rw [if_pos q13] at h
      have e := lb179_31 G l  q_5.2 h
      omega
    · rw [if_neg q13] at h
      obtain ⟨b_11, h12, h⟩ := bd h
      obtain ⟨q_9, h10, h⟩ := bd h
      have eh10 := (t178 G l (c_I_some h10)).1
      have e := lb179_32 G l (q_9.1 - (40 : Int32)) q_9.2 h
      omega
section
variable {p : Program} {l : Launch} {e : Env} {s : State} {m : MethodId} {args : Array Value} {below : List Frame} {meth : Method} {c : Code} {G : gX} {z0 y0 : Nat} {r : Option aV} {M' : hM}
theorem sb179_32 (E : xE G p (xRm 1 (h_sz M' - z0) (h_sl M' - y0)) s m args c prog_14_method_16_code "ZonedFabricModel" z0 y0 (h_sz M') (h_sl M') 2) (B : xB ym179 (some FieldType.int) meth) (si0 : Int32) (M : hM) {res : xRes} (h : b179_32 si0 M = some res) (hN : xN (fun _ _ _ => False) r M' res) : xV G p l e (xRm 1 (h_sz M' - z0) (h_sl M' - y0)) s m args below meth c z0 y0 (h_sz M') (h_sl M') 2 (MQ below (xQc G r M') args s (h_sz M' - z0) (h_sl M' - y0) (xFr G)) 32 [] [.inl si0] M := by
  unfold b179_32 at h
  obtain rfl := Option.some.inj h
  obtain ⟨rfl, rfl⟩ := Prod.mk.inj (show ((some (.inl si0) : Option aV), M) = (r, M') from hN)
  exact xv_ri E B.1 rfl B.2.1 (show decode prog_14_method_16_code 32 = .ok (.ireturn, 1) by decide +kernel) rfl rfl
theorem sb179_31 (E : xE G p (xRm 1 (h_sz M' - z0) (h_sl M' - y0)) s m args c prog_14_method_16_code "ZonedFabricModel" z0 y0 (h_sz M') (h_sl M') 2) (B : xB ym179 (some FieldType.int) meth)  (M : hM) {res : xRes} (h : b179_31  M = some res) (hN : xN (fun _ _ _ => False) r M' res) : xV G p l e (xRm 1 (h_sz M' - z0) (h_sl M' - y0)) s m args below meth c z0 y0 (h_sz M') (h_sl M') 2 (MQ below (xQc G r M') args s (h_sz M' - z0) (h_sl M' - y0) (xFr G)) 31 [] [] M := by
  unfold b179_31 at h
  refine xv_b E [.iconst (-1)] (pc' := 32) (lv' := []) (st' := [.inl (-1 : Int32)]) (by decide +kernel) rfl rfl ?_
  exact xv_w (sb179_32 E B (-1 : Int32) M h hN) rfl
theorem sb179_0 (E : xE G p (xRm 1 (h_sz M' - z0) (h_sl M' - y0)) s m args c prog_14_method_16_code "ZonedFabricModel" z0 y0 (h_sz M') (h_sl M') 2) (B : xB ym179 (some FieldType.int) meth) (a0 : Nat) (v1 : Int32) (M : hM) {res : xRes} (h : b179_0 a0 v1 M = some res) (hN : xN (fun _ _ _ => False) r M' res) : xV G p l e (xRm 1 (h_sz M' - z0) (h_sl M' - y0)) s m args below meth c z0 y0 (h_sz M') (h_sl M') 2 (MQ below (xQc G r M') args s (h_sz M' - z0) (h_sl M' - y0) (xFr G)) 0 [(0, .inr (.inr (some a0))), (1, .inl v1)] [] M := by
  unfold b179_0 at h
  refine xv_b E [.aload_n 0] (pc' := 1) (lv' := [(0, .inr (.inr (some a0))), (1, .inl v1)]) (st' := [.inr (.inr (some a0))]) (by decide +kernel) rfl rfl ?_
  obtain ⟨o_1, h2, h⟩ := bd h
  refine xg_r E 12 14 h2 mw874 (show decode prog_14_method_16_code 1 = .ok (.getfield 37, 3) by decide +kernel) ?_
  refine xv_b E [.iload_n 1] (pc' := 5) (lv' := [(0, .inr (.inr (some a0))), (1, .inl v1)]) (st' := [.inl v1, .inr (.inr o_1)]) (by decide +kernel) rfl rfl ?_
  obtain ⟨v_3, h4, h⟩ := bd h
  refine xa_i E h4 (show decode prog_14_method_16_code 5 = .ok (.iaload, 1) by decide +kernel) ?_
  refine xv_b E [.iconst (-1)] (pc' := 7) (lv' := [(0, .inr (.inr (some a0))), (1, .inl v1)]) (st' := [.inl (-1 : Int32), .inl v_3]) (by decide +kernel) rfl rfl ?_
  by_cases q14 : v_3 = (-1 : Int32)
  · rw [if_pos q14] at h
    refine xv_icmp_eq E 31 (show decode prog_14_method_16_code 7 = .ok (.if_icmp .eq (24), 3) by decide +kernel) rfl (fun _ => ?_) (fun z => absurd q14 z)
    exact xv_w (sb179_31 E B  M h hN) rfl
  · rw [if_neg q14] at h
    refine xv_icmp_eq E 31 (show decode prog_14_method_16_code 7 = .ok (.if_icmp .eq (24), 3) by decide +kernel) rfl (fun z => absurd z q14) (fun _ => ?_)
    refine xv_b E [.aload_n 0, .iload_n 1] (pc' := 12) (lv' := [(0, .inr (.inr (some a0))), (1, .inl v1)]) (st' := [.inl v1, .inr (.inr (some a0))]) (by decide +kernel) rfl rfl ?_
    obtain ⟨b_7, h8, h⟩ := bd h
    obtain ⟨eh8, th8⟩ := g_o_some h8
    obtain ⟨q_5, h6, h⟩ := bd h
    refine xv_cvo E eh8 12 (as := [.inl v1]) (t178 G l (c_I_some h6)) cd178 mw959 mw960 mw961 (show decode prog_14_method_16_code 12 = .ok (.invokevirtual 209, 3) by decide +kernel) th8 rfl rfl (Nat.le_of_ble_eq_true rfl) ⟨Nat.le_of_ble_eq_true rfl, Nat.le_of_ble_eq_true rfl⟩ ?_
    refine xv_b E [.bipush 40] (pc' := 17) (lv' := [(0, .inr (.inr (some a0))), (1, .inl v1)]) (st' := [.inl (40 : Int32), .inl q_5.1]) (by decide +kernel) rfl rfl ?_
    by_cases q13 : q_5.1 < (40 : Int32)
    · rw [if_pos q13] at h
      refine xv_icmp_lt E 31 (show decode prog_14_method_16_code 17 = .ok (.if_icmp .lt (14), 3) by decide +kernel) rfl (fun _ => ?_) (fun z => absurd q13 z)
      exact xv_w (sb179_31 E B  q_5.2 h hN) rfl
    · rw [if_neg q13] at h
      refine xv_icmp_lt E 31 (show decode prog_14_method_16_code 17 = .ok (.if_icmp .lt (14), 3) by decide +kernel) rfl (fun z => absurd z q13) (fun _ => ?_)
      refine xv_b E [.aload_n 0, .iload_n 1] (pc' := 22) (lv' := [(0, .inr (.inr (some a0))), (1, .inl v1)]) (st' := [.inl v1, .inr (.inr (some a0))]) (by decide +kernel) rfl rfl ?_
      obtain ⟨b_11, h12, h⟩ := bd h
      obtain ⟨eh12, th12⟩ := g_o_some h12
      obtain ⟨q_9, h10, h⟩ := bd h
      refine xv_cvo E eh12 12 (as := [.inl v1]) (t178 G l (c_I_some h10)) cd178 mw959 mw960 mw961 (show decode prog_14_method_16_code 22 = .ok (.invokevirtual 209, 3) by decide +kernel) th12 rfl rfl (Nat.le_of_ble_eq_true rfl) ⟨Nat.le_of_ble_eq_true rfl, Nat.le_of_ble_eq_true rfl⟩ ?_
      refine xv_b E [.bipush 40, .isub] (pc' := 28) (lv' := [(0, .inr (.inr (some a0))), (1, .inl v1)]) (st' := [.inl (q_9.1 - (40 : Int32))]) (by decide +kernel) rfl rfl ?_
      refine xv_goto E 32 (show decode prog_14_method_16_code 28 = .ok (.goto (4), 3) by decide +kernel) rfl ?_
      exact xv_w (sb179_32 E B (q_9.1 - (40 : Int32)) q_9.2 h hN) rfl
end
theorem t179 (G : gX) (l : Launch) {as : List aV} {M : hM} {r : Option aV} {M' : hM} (h : f179 as M = some (r, M')) : xM G l ym179 prog_14_method_16_code 2 (some FieldType.int) 1 as M r M' := by
  unfold f179 at h
  split at h
  · have h := x_out_ok h
    refine xM_of (by decide) (Nat.le_of_ble_eq_true rfl) (lb179_0 G l _ _ M h) ?_
    intro p e s m args below meth c E B
    exact sb179_0 E B _ _ M h rfl
  · cases h
/-! ZFModel.credits(I)I -/
def ym180 : MethodName := ⟨"ZonedFabricModel", "credits", "(I)I"⟩
theorem cd180 : xCd ym180 prog_14_method_17_code 3 (some FieldType.int) 1 := ⟨mw962, mw864, by decide, by decide, by decide +kernel⟩
def b180_35 (a0 : Nat) (v2 : Int32) (si0 : Int32) (si1 : Int32) (M : hM) : Option xRes :=
  Option.bind (g_r M 12 17 (some a0)) fun o_17 =>
  Option.bind (al_i M 20 o_17 v2) fun v_19 =>
  Option.bind (g_r M 12 20 (some a0)) fun o_21 =>
  Option.bind (al_i M 20 o_21 v2) fun v_23 =>
  some (.inl (some (.inl (((si1 - si0) - v_19) - v_23)), M))
def b180_0 (a0 : Nat) (v1 : Int32) (M : hM) : Option xRes :=
  Option.bind (g_o M 12 (some a0)) fun b_3 =>
  Option.bind (c_I (f177 [.inr (.inr (some b_3)), .inl v1] M)) fun q_1 =>
  if q_1.1 = 0 then
    (some (.inl (some (.inl (0 : Int32)), q_1.2)))
  else
    (Option.bind (g_o q_1.2 12 (some a0)) fun b_7 =>
    Option.bind (c_I (f178 [.inr (.inr (some b_7)), .inl v1] q_1.2)) fun q_5 =>
    Option.bind (g_i q_5.2 12 2 (some a0)) fun v_9 =>
    Option.bind (g_r q_5.2 12 15 (some a0)) fun o_11 =>
    Option.bind (al_i q_5.2 20 o_11 v1) fun v_13 =>
    if v_13 = (-1 : Int32) then
      (b180_35 a0 q_5.1 (0 : Int32) v_9 q_5.2)
    else
      (b180_35 a0 q_5.1 (1 : Int32) v_9 q_5.2))
def f180 (as : List aV) (M : hM) : xO := match as with
  | [.inr (.inr (some a0)), .inl v1] => x_out (b180_0 a0 v1 M)
  | _ => none
theorem lb180_35 (G : gX) (l : Launch) (a0 : Nat) (v2 : Int32) (si0 : Int32) (si1 : Int32) (M : hM) {res : xRes} (h : b180_35 a0 v2 si0 si1 M = some res) : h_sz M ≤ r_sz res ∧ h_sl M ≤ r_sl res := by
  unfold b180_35 at h
  obtain ⟨o_17, h18, h⟩ := bd h
  obtain ⟨v_19, h20, h⟩ := bd h
  obtain ⟨o_21, h22, h⟩ := bd h
  obtain ⟨v_23, h24, h⟩ := bd h
  obtain rfl := Option.some.inj h
  show h_sz M ≤ h_sz M ∧ h_sl M ≤ h_sl M
  omega
theorem lb180_0 (G : gX) (l : Launch) (a0 : Nat) (v1 : Int32) (M : hM) {res : xRes} (h : b180_0 a0 v1 M = some res) : h_sz M ≤ r_sz res ∧ h_sl M ≤ r_sl res := by
  unfold b180_0 at h
  obtain ⟨b_3, h4, h⟩ := bd h
  obtain ⟨q_1, h2, h⟩ := bd h
  have eh2 := (t177 G l (c_I_some h2)).1
  by_cases q16 : q_1.1 = 0
  · rw [if_pos q16] at h
    obtain rfl := Option.some.inj h
    show h_sz M ≤ h_sz q_1.2 ∧ h_sl M ≤ h_sl q_1.2
    omega
  · rw [if_neg q16] at h
    obtain ⟨b_7, h8, h⟩ := bd h
    obtain ⟨q_5, h6, h⟩ := bd h
    have eh6 := (t178 G l (c_I_some h6)).1
    obtain ⟨v_9, h10, h⟩ := bd h
    obtain ⟨o_11, h12, h⟩ := bd h
    obtain ⟨v_13, h14, h⟩ := bd h
    by_cases q15 : v_13 = (-1 : Int32)
    · rw [if_pos q15] at h
      have e := lb180_35 G l a0 q_5.1 (0 : Int32) v_9 q_5.2 h
      omega
    · rw [if_neg q15] at h
      have e := lb180_35 G l a0 q_5.1 (1 : Int32) v_9 q_5.2 h
      omega
section
variable {p : Program} {l : Launch} {e : Env} {s : State} {m : MethodId} {args : Array Value} {below : List Frame} {meth : Method} {c : Code} {G : gX} {z0 y0 : Nat} {r : Option aV} {M' : hM}
theorem sb180_35 (E : xE G p (xRm 1 (h_sz M' - z0) (h_sl M' - y0)) s m args c prog_14_method_17_code "ZonedFabricModel" z0 y0 (h_sz M') (h_sl M') 3) (B : xB ym180 (some FieldType.int) meth) (a0 : Nat) (v2 : Int32) (si0 : Int32) (si1 : Int32) (M : hM) {res : xRes} (h : b180_35 a0 v2 si0 si1 M = some res) (hN : xN (fun _ _ _ => False) r M' res) : xV G p l e (xRm 1 (h_sz M' - z0) (h_sl M' - y0)) s m args below meth c z0 y0 (h_sz M') (h_sl M') 3 (MQ below (xQc G r M') args s (h_sz M' - z0) (h_sl M' - y0) (xFr G)) 35 [(0, .inr (.inr (some a0))), (2, .inl v2)] [.inl si0, .inl si1] M := by
  unfold b180_35 at h
  refine xv_b E [.isub, .aload_n 0] (pc' := 37) (lv' := [(0, .inr (.inr (some a0))), (2, .inl v2)]) (st' := [.inr (.inr (some a0)), .inl (si1 - si0)]) (by decide +kernel) rfl rfl ?_
  obtain ⟨o_17, h18, h⟩ := bd h
  refine xg_r E 12 17 h18 mw877 (show decode prog_14_method_17_code 37 = .ok (.getfield 46, 3) by decide +kernel) ?_
  refine xv_b E [.iload_n 2] (pc' := 41) (lv' := [(0, .inr (.inr (some a0))), (2, .inl v2)]) (st' := [.inl v2, .inr (.inr o_17), .inl (si1 - si0)]) (by decide +kernel) rfl rfl ?_
  obtain ⟨v_19, h20, h⟩ := bd h
  refine xa_i E h20 (show decode prog_14_method_17_code 41 = .ok (.iaload, 1) by decide +kernel) ?_
  refine xv_b E [.isub, .aload_n 0] (pc' := 44) (lv' := [(0, .inr (.inr (some a0))), (2, .inl v2)]) (st' := [.inr (.inr (some a0)), .inl ((si1 - si0) - v_19)]) (by decide +kernel) rfl rfl ?_
  obtain ⟨o_21, h22, h⟩ := bd h
  refine xg_r E 12 20 h22 mw880 (show decode prog_14_method_17_code 44 = .ok (.getfield 55, 3) by decide +kernel) ?_
  refine xv_b E [.iload_n 2] (pc' := 48) (lv' := [(0, .inr (.inr (some a0))), (2, .inl v2)]) (st' := [.inl v2, .inr (.inr o_21), .inl ((si1 - si0) - v_19)]) (by decide +kernel) rfl rfl ?_
  obtain ⟨v_23, h24, h⟩ := bd h
  refine xa_i E h24 (show decode prog_14_method_17_code 48 = .ok (.iaload, 1) by decide +kernel) ?_
  refine xv_b E [.isub] (pc' := 50) (lv' := [(0, .inr (.inr (some a0))), (2, .inl v2)]) (st' := [.inl (((si1 - si0) - v_19) - v_23)]) (by decide +kernel) rfl rfl ?_
  obtain rfl := Option.some.inj h
  obtain ⟨rfl, rfl⟩ := Prod.mk.inj (show ((some (.inl (((si1 - si0) - v_19) - v_23)) : Option aV), M) = (r, M') from hN)
  exact xv_ri E B.1 rfl B.2.1 (show decode prog_14_method_17_code 50 = .ok (.ireturn, 1) by decide +kernel) rfl rfl
theorem sb180_0 (E : xE G p (xRm 1 (h_sz M' - z0) (h_sl M' - y0)) s m args c prog_14_method_17_code "ZonedFabricModel" z0 y0 (h_sz M') (h_sl M') 3) (B : xB ym180 (some FieldType.int) meth) (a0 : Nat) (v1 : Int32) (M : hM) {res : xRes} (h : b180_0 a0 v1 M = some res) (hN : xN (fun _ _ _ => False) r M' res) : xV G p l e (xRm 1 (h_sz M' - z0) (h_sl M' - y0)) s m args below meth c z0 y0 (h_sz M') (h_sl M') 3 (MQ below (xQc G r M') args s (h_sz M' - z0) (h_sl M' - y0) (xFr G)) 0 [(0, .inr (.inr (some a0))), (1, .inl v1)] [] M := by
  unfold b180_0 at h
  refine xv_b E [.aload_n 0, .iload_n 1] (pc' := 2) (lv' := [(0, .inr (.inr (some a0))), (1, .inl v1)]) (st' := [.inl v1, .inr (.inr (some a0))]) (by decide +kernel) rfl rfl ?_
  obtain ⟨b_3, h4, h⟩ := bd h
  obtain ⟨eh4, th4⟩ := g_o_some h4
  obtain ⟨q_1, h2, h⟩ := bd h
  refine xv_cvo E eh4 12 (as := [.inl v1]) (t177 G l (c_I_some h2)) cd177 mw963 mw964 mw965 (show decode prog_14_method_17_code 2 = .ok (.invokevirtual 213, 3) by decide +kernel) th4 rfl rfl (Nat.le_of_ble_eq_true rfl) ⟨Nat.le_of_ble_eq_true rfl, Nat.le_of_ble_eq_true rfl⟩ ?_
  by_cases q16 : q_1.1 = 0
  · rw [if_pos q16] at h
    refine xv_if_ne E 10 (show decode prog_14_method_17_code 5 = .ok (.ifCond .ne (5), 3) by decide +kernel) rfl (fun z => absurd q16 z) (fun _ => ?_)
    refine xv_b E [.iconst 0] (pc' := 9) (lv' := [(0, .inr (.inr (some a0))), (1, .inl v1)]) (st' := [.inl (0 : Int32)]) (by decide +kernel) rfl rfl ?_
    obtain rfl := Option.some.inj h
    obtain ⟨rfl, rfl⟩ := Prod.mk.inj (show ((some (.inl (0 : Int32)) : Option aV), q_1.2) = (r, M') from hN)
    exact xv_ri E B.1 rfl B.2.1 (show decode prog_14_method_17_code 9 = .ok (.ireturn, 1) by decide +kernel) rfl rfl
  · rw [if_neg q16] at h
    refine xv_if_ne E 10 (show decode prog_14_method_17_code 5 = .ok (.ifCond .ne (5), 3) by decide +kernel) rfl (fun _ => ?_) (fun z => absurd z q16)
    refine xv_b E [.aload_n 0, .iload_n 1] (pc' := 12) (lv' := [(0, .inr (.inr (some a0))), (1, .inl v1)]) (st' := [.inl v1, .inr (.inr (some a0))]) (by decide +kernel) rfl rfl ?_
    obtain ⟨b_7, h8, h⟩ := bd h
    obtain ⟨eh8, th8⟩ := g_o_some h8
    obtain ⟨q_5, h6, h⟩ := bd h
    refine xv_cvo E eh8 12 (as := [.inl v1]) (t178 G l (c_I_some h6)) cd178 mw959 mw960 mw961 (show decode prog_14_method_17_code 12 = .ok (.invokevirtual 209, 3) by decide +kernel) th8 rfl rfl (Nat.le_of_ble_eq_true rfl) ⟨Nat.le_of_ble_eq_true rfl, Nat.le_of_ble_eq_true rfl⟩ ?_
    refine xv_b E [.istore_n 2, .aload_n 0] (pc' := 17) (lv' := [(2, .inl q_5.1), (0, .inr (.inr (some a0))), (1, .inl v1)]) (st' := [.inr (.inr (some a0))]) (by decide +kernel) rfl rfl ?_
    obtain ⟨v_9, h10, h⟩ := bd h
    refine xg_i E 12 2 h10 mw923 (show decode prog_14_method_17_code 17 = .ok (.getfield 180, 3) by decide +kernel) ?_
    refine xv_b E [.aload_n 0] (pc' := 21) (lv' := [(2, .inl q_5.1), (0, .inr (.inr (some a0))), (1, .inl v1)]) (st' := [.inr (.inr (some a0)), .inl v_9]) (by decide +kernel) rfl rfl ?_
    obtain ⟨o_11, h12, h⟩ := bd h
    refine xg_r E 12 15 h12 mw875 (show decode prog_14_method_17_code 21 = .ok (.getfield 40, 3) by decide +kernel) ?_
    refine xv_b E [.iload_n 1] (pc' := 25) (lv' := [(2, .inl q_5.1), (0, .inr (.inr (some a0))), (1, .inl v1)]) (st' := [.inl v1, .inr (.inr o_11), .inl v_9]) (by decide +kernel) rfl rfl ?_
    obtain ⟨v_13, h14, h⟩ := bd h
    refine xa_i E h14 (show decode prog_14_method_17_code 25 = .ok (.iaload, 1) by decide +kernel) ?_
    refine xv_b E [.iconst (-1)] (pc' := 27) (lv' := [(2, .inl q_5.1), (0, .inr (.inr (some a0))), (1, .inl v1)]) (st' := [.inl (-1 : Int32), .inl v_13, .inl v_9]) (by decide +kernel) rfl rfl ?_
    by_cases q15 : v_13 = (-1 : Int32)
    · rw [if_pos q15] at h
      refine xv_icmp_eq E 34 (show decode prog_14_method_17_code 27 = .ok (.if_icmp .eq (7), 3) by decide +kernel) rfl (fun _ => ?_) (fun z => absurd q15 z)
      refine xv_b E [.iconst 0] (pc' := 35) (lv' := [(2, .inl q_5.1), (0, .inr (.inr (some a0))), (1, .inl v1)]) (st' := [.inl (0 : Int32), .inl v_9]) (by decide +kernel) rfl rfl ?_
      exact xv_w (sb180_35 E B a0 q_5.1 (0 : Int32) v_9 q_5.2 h hN) rfl
    · rw [if_neg q15] at h
      refine xv_icmp_eq E 34 (show decode prog_14_method_17_code 27 = .ok (.if_icmp .eq (7), 3) by decide +kernel) rfl (fun z => absurd z q15) (fun _ => ?_)
      refine xv_b E [.iconst 1] (pc' := 31) (lv' := [(2, .inl q_5.1), (0, .inr (.inr (some a0))), (1, .inl v1)]) (st' := [.inl (1 : Int32), .inl v_9]) (by decide +kernel) rfl rfl ?_
      refine xv_goto E 35 (show decode prog_14_method_17_code 31 = .ok (.goto (4), 3) by decide +kernel) rfl ?_
      exact xv_w (sb180_35 E B a0 q_5.1 (1 : Int32) v_9 q_5.2 h hN) rfl
end
theorem t180 (G : gX) (l : Launch) {as : List aV} {M : hM} {r : Option aV} {M' : hM} (h : f180 as M = some (r, M')) : xM G l ym180 prog_14_method_17_code 3 (some FieldType.int) 1 as M r M' := by
  unfold f180 at h
  split at h
  · have h := x_out_ok h
    refine xM_of (by decide) (Nat.le_of_ble_eq_true rfl) (lb180_0 G l _ _ M h) ?_
    intro p e s m args below meth c E B
    exact sb180_0 E B _ _ M h rfl
  · cases h
/-! ZFModel.can(I)Z -/
def ym181 : MethodName := ⟨"ZonedFabricModel", "can", "(I)Z"⟩
theorem cd181 : xCd ym181 prog_14_method_18_code 2 (some FieldType.boolean) 1 := ⟨mw966, mw864, by decide, by decide, by decide +kernel⟩
def b181_30 (si0 : Int32) (M : hM) : Option xRes :=
  if si0 = 0 ∨ si0 = 1 then
    (some (.inl (some (.inl si0), M)))
  else
    none
def b181_29  (M : hM) : Option xRes :=
  b181_30 (0 : Int32) M
def b181_0 (a0 : Nat) (v1 : Int32) (M : hM) : Option xRes :=
  Option.bind (g_o M 12 (some a0)) fun b_3 =>
  Option.bind (c_I (f177 [.inr (.inr (some b_3)), .inl v1] M)) fun q_1 =>
  if q_1.1 = 0 then
    (b181_29  q_1.2)
  else
    (Option.bind (g_r q_1.2 12 22 (some a0)) fun o_5 =>
    Option.bind (al_i q_1.2 22 o_5 v1) fun v_7 =>
    if v_7 = 0 then
      (Option.bind (g_o q_1.2 12 (some a0)) fun b_11 =>
      Option.bind (c_I (f180 [.inr (.inr (some b_11)), .inl v1] q_1.2)) fun q_9 =>
      if q_9.1 ≤ 0 then
        (b181_29  q_9.2)
      else
        (b181_30 (1 : Int32) q_9.2))
    else
      (b181_29  q_1.2))
def f181 (as : List aV) (M : hM) : xO := match as with
  | [.inr (.inr (some a0)), .inl v1] => x_out (b181_0 a0 v1 M)
  | _ => none
theorem lb181_30 (G : gX) (l : Launch) (si0 : Int32) (M : hM) {res : xRes} (h : b181_30 si0 M = some res) : h_sz M ≤ r_sz res ∧ h_sl M ≤ r_sl res := by
  unfold b181_30 at h
  by_cases q16 : si0 = 0 ∨ si0 = 1
  · rw [if_pos q16] at h
    obtain rfl := Option.some.inj h
    show h_sz M ≤ h_sz M ∧ h_sl M ≤ h_sl M
    omega
  · rw [if_neg q16] at h
    cases h
theorem lb181_29 (G : gX) (l : Launch)  (M : hM) {res : xRes} (h : b181_29  M = some res) : h_sz M ≤ r_sz res ∧ h_sl M ≤ r_sl res := by
  unfold b181_29 at h
  have e := lb181_30 G l (0 : Int32) M h
  omega
theorem lb181_0 (G : gX) (l : Launch) (a0 : Nat) (v1 : Int32) (M : hM) {res : xRes} (h : b181_0 a0 v1 M = some res) : h_sz M ≤ r_sz res ∧ h_sl M ≤ r_sl res := by
  unfold b181_0 at h
  obtain ⟨b_3, h4, h⟩ := bd h
  obtain ⟨q_1, h2, h⟩ := bd h
  have eh2 := (t177 G l (c_I_some h2)).1
  by_cases q15 : q_1.1 = 0
  · rw [if_pos q15] at h
    have e := lb181_29 G l  q_1.2 h
    omega
  · rw [if_neg q15] at h
    obtain ⟨o_5, h6, h⟩ := bd h
    obtain ⟨v_7, h8, h⟩ := bd h
    by_cases q14 : v_7 = 0
    · rw [if_pos q14] at h
      obtain ⟨b_11, h12, h⟩ := bd h
      obtain ⟨q_9, h10, h⟩ := bd h
      have eh10 := (t180 G l (c_I_some h10)).1
      by_cases q13 : q_9.1 ≤ 0
      · rw [if_pos q13] at h
        have e := lb181_29 G l  q_9.2 h
        omega
      · rw [if_neg q13] at h
        have e := lb181_30 G l (1 : Int32) q_9.2 h
        omega
    · rw [if_neg q14] at h
      have e := lb181_29 G l  q_1.2 h
      omega
section
variable {p : Program} {l : Launch} {e : Env} {s : State} {m : MethodId} {args : Array Value} {below : List Frame} {meth : Method} {c : Code} {G : gX} {z0 y0 : Nat} {r : Option aV} {M' : hM}
theorem sb181_30 (E : xE G p (xRm 2 (h_sz M' - z0) (h_sl M' - y0)) s m args c prog_14_method_18_code "ZonedFabricModel" z0 y0 (h_sz M') (h_sl M') 2) (B : xB ym181 (some FieldType.boolean) meth) (si0 : Int32) (M : hM) {res : xRes} (h : b181_30 si0 M = some res) (hN : xN (fun _ _ _ => False) r M' res) : xV G p l e (xRm 2 (h_sz M' - z0) (h_sl M' - y0)) s m args below meth c z0 y0 (h_sz M') (h_sl M') 2 (MQ below (xQc G r M') args s (h_sz M' - z0) (h_sl M' - y0) (xFr G)) 30 [] [.inl si0] M := by
  unfold b181_30 at h
  by_cases q16 : si0 = 0 ∨ si0 = 1
  · rw [if_pos q16] at h
    obtain rfl := Option.some.inj h
    obtain ⟨rfl, rfl⟩ := Prod.mk.inj (show ((some (.inl si0) : Option aV), M) = (r, M') from hN)
    exact xv_ri E B.1 (by rcases q16 with z | z <;> rw [z] <;> rfl) B.2.1 (show decode prog_14_method_18_code 30 = .ok (.ireturn, 1) by decide +kernel) rfl rfl
  · rw [if_neg q16] at h
    cases h
theorem sb181_29 (E : xE G p (xRm 2 (h_sz M' - z0) (h_sl M' - y0)) s m args c prog_14_method_18_code "ZonedFabricModel" z0 y0 (h_sz M') (h_sl M') 2) (B : xB ym181 (some FieldType.boolean) meth)  (M : hM) {res : xRes} (h : b181_29  M = some res) (hN : xN (fun _ _ _ => False) r M' res) : xV G p l e (xRm 2 (h_sz M' - z0) (h_sl M' - y0)) s m args below meth c z0 y0 (h_sz M') (h_sl M') 2 (MQ below (xQc G r M') args s (h_sz M' - z0) (h_sl M' - y0) (xFr G)) 29 [] [] M := by
  unfold b181_29 at h
  refine xv_b E [.iconst 0] (pc' := 30) (lv' := []) (st' := [.inl (0 : Int32)]) (by decide +kernel) rfl rfl ?_
  exact xv_w (sb181_30 E B (0 : Int32) M h hN) rfl
theorem sb181_0 (E : xE G p (xRm 2 (h_sz M' - z0) (h_sl M' - y0)) s m args c prog_14_method_18_code "ZonedFabricModel" z0 y0 (h_sz M') (h_sl M') 2) (B : xB ym181 (some FieldType.boolean) meth) (a0 : Nat) (v1 : Int32) (M : hM) {res : xRes} (h : b181_0 a0 v1 M = some res) (hN : xN (fun _ _ _ => False) r M' res) : xV G p l e (xRm 2 (h_sz M' - z0) (h_sl M' - y0)) s m args below meth c z0 y0 (h_sz M') (h_sl M') 2 (MQ below (xQc G r M') args s (h_sz M' - z0) (h_sl M' - y0) (xFr G)) 0 [(0, .inr (.inr (some a0))), (1, .inl v1)] [] M := by
  unfold b181_0 at h
  refine xv_b E [.aload_n 0, .iload_n 1] (pc' := 2) (lv' := [(0, .inr (.inr (some a0))), (1, .inl v1)]) (st' := [.inl v1, .inr (.inr (some a0))]) (by decide +kernel) rfl rfl ?_
  obtain ⟨b_3, h4, h⟩ := bd h
  obtain ⟨eh4, th4⟩ := g_o_some h4
  obtain ⟨q_1, h2, h⟩ := bd h
  refine xv_cvo E eh4 12 (as := [.inl v1]) (t177 G l (c_I_some h2)) cd177 mw963 mw964 mw965 (show decode prog_14_method_18_code 2 = .ok (.invokevirtual 213, 3) by decide +kernel) th4 rfl rfl (Nat.le_of_ble_eq_true rfl) ⟨Nat.le_of_ble_eq_true rfl, Nat.le_of_ble_eq_true rfl⟩ ?_
  by_cases q15 : q_1.1 = 0
  · rw [if_pos q15] at h
    refine xv_if_eq E 29 (show decode prog_14_method_18_code 5 = .ok (.ifCond .eq (24), 3) by decide +kernel) rfl (fun _ => ?_) (fun z => absurd q15 z)
    exact xv_w (sb181_29 E B  q_1.2 h hN) rfl
  · rw [if_neg q15] at h
    refine xv_if_eq E 29 (show decode prog_14_method_18_code 5 = .ok (.ifCond .eq (24), 3) by decide +kernel) rfl (fun z => absurd z q15) (fun _ => ?_)
    refine xv_b E [.aload_n 0] (pc' := 9) (lv' := [(0, .inr (.inr (some a0))), (1, .inl v1)]) (st' := [.inr (.inr (some a0))]) (by decide +kernel) rfl rfl ?_
    obtain ⟨o_5, h6, h⟩ := bd h
    refine xg_r E 12 22 h6 mw882 (show decode prog_14_method_18_code 9 = .ok (.getfield 61, 3) by decide +kernel) ?_
    refine xv_b E [.iload_n 1] (pc' := 13) (lv' := [(0, .inr (.inr (some a0))), (1, .inl v1)]) (st' := [.inl v1, .inr (.inr o_5)]) (by decide +kernel) rfl rfl ?_
    obtain ⟨v_7, h8, h⟩ := bd h
    refine xa_z E h8 (show decode prog_14_method_18_code 13 = .ok (.baload, 1) by decide +kernel) ?_
    by_cases q14 : v_7 = 0
    · rw [if_pos q14] at h
      refine xv_if_ne E 29 (show decode prog_14_method_18_code 14 = .ok (.ifCond .ne (15), 3) by decide +kernel) rfl (fun z => absurd q14 z) (fun _ => ?_)
      refine xv_b E [.aload_n 0, .iload_n 1] (pc' := 19) (lv' := [(0, .inr (.inr (some a0))), (1, .inl v1)]) (st' := [.inl v1, .inr (.inr (some a0))]) (by decide +kernel) rfl rfl ?_
      obtain ⟨b_11, h12, h⟩ := bd h
      obtain ⟨eh12, th12⟩ := g_o_some h12
      obtain ⟨q_9, h10, h⟩ := bd h
      refine xv_cvo E eh12 12 (as := [.inl v1]) (t180 G l (c_I_some h10)) cd180 mw967 mw968 mw969 (show decode prog_14_method_18_code 19 = .ok (.invokevirtual 217, 3) by decide +kernel) th12 rfl rfl (Nat.le_of_ble_eq_true rfl) ⟨Nat.le_of_ble_eq_true rfl, Nat.le_of_ble_eq_true rfl⟩ ?_
      by_cases q13 : q_9.1 ≤ 0
      · rw [if_pos q13] at h
        refine xv_if_le E 29 (show decode prog_14_method_18_code 22 = .ok (.ifCond .le (7), 3) by decide +kernel) rfl (fun _ => ?_) (fun z => absurd q13 z)
        exact xv_w (sb181_29 E B  q_9.2 h hN) rfl
      · rw [if_neg q13] at h
        refine xv_if_le E 29 (show decode prog_14_method_18_code 22 = .ok (.ifCond .le (7), 3) by decide +kernel) rfl (fun z => absurd z q13) (fun _ => ?_)
        refine xv_b E [.iconst 1] (pc' := 26) (lv' := [(0, .inr (.inr (some a0))), (1, .inl v1)]) (st' := [.inl (1 : Int32)]) (by decide +kernel) rfl rfl ?_
        refine xv_goto E 30 (show decode prog_14_method_18_code 26 = .ok (.goto (4), 3) by decide +kernel) rfl ?_
        exact xv_w (sb181_30 E B (1 : Int32) q_9.2 h hN) rfl
    · rw [if_neg q14] at h
      refine xv_if_ne E 29 (show decode prog_14_method_18_code 14 = .ok (.ifCond .ne (15), 3) by decide +kernel) rfl (fun _ => ?_) (fun z => absurd z q14)
      exact xv_w (sb181_29 E B  q_1.2 h hN) rfl
end
theorem t181 (G : gX) (l : Launch) {as : List aV} {M : hM} {r : Option aV} {M' : hM} (h : f181 as M = some (r, M')) : xM G l ym181 prog_14_method_18_code 2 (some FieldType.boolean) 2 as M r M' := by
  unfold f181 at h
  split at h
  · have h := x_out_ok h
    refine xM_of (by decide) (Nat.le_of_ble_eq_true rfl) (lb181_0 G l _ _ M h) ?_
    intro p e s m args below meth c E B
    exact sb181_0 E B _ _ M h rfl
  · cases h
/-! ZFModel.sends(II)V -/
def ym182 : MethodName := ⟨"ZonedFabricModel", "sends", "(II)V"⟩
theorem cd182 : xCd ym182 prog_14_method_19_code 3 none 2 := ⟨mw970, mw864, by decide, by decide, by decide +kernel⟩
def b182_19 (a0 : Nat) (v1 : Int32) (v2 : Int32) (M : hM) : Option xRes :=
  Option.bind (g_r M 12 15 (some a0)) fun o_12 =>
  Option.bind (as_i M 20 o_12 v1 v2) fun M14 =>
  Option.bind (g_r M14 12 22 (some a0)) fun o_16 =>
  Option.bind (as_z M14 22 o_16 v1 (1 : Int32)) fun M18 =>
  Option.bind (g_r M18 12 4 (some a0)) fun o_20 =>
  Option.bind (al_i M18 20 o_20 (6 : Int32)) fun v_22 =>
  Option.bind (as_i M18 20 o_20 (6 : Int32) (v_22 + (1 : Int32))) fun M24 =>
  some (.inl (none, M24))
def b182_0 (a0 : Nat) (v1 : Int32) (v2 : Int32) (M : hM) : Option xRes :=
  Option.bind (g_o M 12 (some a0)) fun b_3 =>
  Option.bind (c_I (f180 [.inr (.inr (some b_3)), .inl v1] M)) fun q_1 =>
  if (1 : Int32) ≤ q_1.1 then
    (b182_19 a0 v1 v2 q_1.2)
  else
    (Option.bind (g_r q_1.2 12 5 (some a0)) fun o_5 =>
    Option.bind (al_i q_1.2 20 o_5 (1 : Int32)) fun v_7 =>
    Option.bind (as_i q_1.2 20 o_5 (1 : Int32) (v_7 + (1 : Int32))) fun M9 =>
    b182_19 a0 v1 v2 M9)
def f182 (as : List aV) (M : hM) : xO := match as with
  | [.inr (.inr (some a0)), .inl v1, .inl v2] => x_out (b182_0 a0 v1 v2 M)
  | _ => none
theorem lb182_19 (G : gX) (l : Launch) (a0 : Nat) (v1 : Int32) (v2 : Int32) (M : hM) {res : xRes} (h : b182_19 a0 v1 v2 M = some res) : h_sz M ≤ r_sz res ∧ h_sl M ≤ r_sl res := by
  unfold b182_19 at h
  obtain ⟨o_12, h13, h⟩ := bd h
  obtain ⟨M14, h15, h⟩ := bd h
  have eh15 := as_i_sz h15
  obtain ⟨o_16, h17, h⟩ := bd h
  obtain ⟨M18, h19, h⟩ := bd h
  have eh19 := as_z_sz h19
  obtain ⟨o_20, h21, h⟩ := bd h
  obtain ⟨v_22, h23, h⟩ := bd h
  obtain ⟨M24, h25, h⟩ := bd h
  have eh25 := as_i_sz h25
  obtain rfl := Option.some.inj h
  show h_sz M ≤ h_sz M24 ∧ h_sl M ≤ h_sl M24
  omega
theorem lb182_0 (G : gX) (l : Launch) (a0 : Nat) (v1 : Int32) (v2 : Int32) (M : hM) {res : xRes} (h : b182_0 a0 v1 v2 M = some res) : h_sz M ≤ r_sz res ∧ h_sl M ≤ r_sl res := by
  unfold b182_0 at h
  obtain ⟨b_3, h4, h⟩ := bd h
  obtain ⟨q_1, h2, h⟩ := bd h
  have eh2 := (t180 G l (c_I_some h2)).1
  by_cases q11 : (1 : Int32) ≤ q_1.1
  · rw [if_pos q11] at h
    have e := lb182_19 G l a0 v1 v2 q_1.2 h
    omega
  · rw [if_neg q11] at h
    obtain ⟨o_5, h6, h⟩ := bd h
    obtain ⟨v_7, h8, h⟩ := bd h
    obtain ⟨M9, h10, h⟩ := bd h
    have eh10 := as_i_sz h10
    have e := lb182_19 G l a0 v1 v2 M9 h
    omega
section
variable {p : Program} {l : Launch} {e : Env} {s : State} {m : MethodId} {args : Array Value} {below : List Frame} {meth : Method} {c : Code} {G : gX} {z0 y0 : Nat} {r : Option aV} {M' : hM}
theorem sb182_19 (E : xE G p (xRm 2 (h_sz M' - z0) (h_sl M' - y0)) s m args c prog_14_method_19_code "ZonedFabricModel" z0 y0 (h_sz M') (h_sl M') 3) (B : xB ym182 none meth) (a0 : Nat) (v1 : Int32) (v2 : Int32) (M : hM) {res : xRes} (h : b182_19 a0 v1 v2 M = some res) (hN : xN (fun _ _ _ => False) r M' res) : xV G p l e (xRm 2 (h_sz M' - z0) (h_sl M' - y0)) s m args below meth c z0 y0 (h_sz M') (h_sl M') 3 (MQ below (xQc G r M') args s (h_sz M' - z0) (h_sl M' - y0) (xFr G)) 19 [(0, .inr (.inr (some a0))), (1, .inl v1), (2, .inl v2)] [] M := by
  unfold b182_19 at h
  refine xv_b E [.aload_n 0] (pc' := 20) (lv' := [(0, .inr (.inr (some a0))), (1, .inl v1), (2, .inl v2)]) (st' := [.inr (.inr (some a0))]) (by decide +kernel) rfl rfl ?_
  obtain ⟨o_12, h13, h⟩ := bd h
  refine xg_r E 12 15 h13 mw875 (show decode prog_14_method_19_code 20 = .ok (.getfield 40, 3) by decide +kernel) ?_
  refine xv_b E [.iload_n 1, .iload_n 2] (pc' := 25) (lv' := [(0, .inr (.inr (some a0))), (1, .inl v1), (2, .inl v2)]) (st' := [.inl v2, .inl v1, .inr (.inr o_12)]) (by decide +kernel) rfl rfl ?_
  obtain ⟨M14, h15, h⟩ := bd h
  refine xs_i E h15 (show decode prog_14_method_19_code 25 = .ok (.iastore, 1) by decide +kernel) ?_
  refine xv_b E [.aload_n 0] (pc' := 27) (lv' := [(0, .inr (.inr (some a0))), (1, .inl v1), (2, .inl v2)]) (st' := [.inr (.inr (some a0))]) (by decide +kernel) rfl rfl ?_
  obtain ⟨o_16, h17, h⟩ := bd h
  refine xg_r E 12 22 h17 mw882 (show decode prog_14_method_19_code 27 = .ok (.getfield 61, 3) by decide +kernel) ?_
  refine xv_b E [.iload_n 1, .iconst 1] (pc' := 32) (lv' := [(0, .inr (.inr (some a0))), (1, .inl v1), (2, .inl v2)]) (st' := [.inl (1 : Int32), .inl v1, .inr (.inr o_16)]) (by decide +kernel) rfl rfl ?_
  obtain ⟨M18, h19, h⟩ := bd h
  refine xs_z E h19 (show decode prog_14_method_19_code 32 = .ok (.bastore, 1) by decide +kernel) ?_
  refine xv_b E [.aload_n 0] (pc' := 34) (lv' := [(0, .inr (.inr (some a0))), (1, .inl v1), (2, .inl v2)]) (st' := [.inr (.inr (some a0))]) (by decide +kernel) rfl rfl ?_
  obtain ⟨o_20, h21, h⟩ := bd h
  refine xg_r E 12 4 h21 mw865 (show decode prog_14_method_19_code 34 = .ok (.getfield 7, 3) by decide +kernel) ?_
  refine xv_b E [.bipush 6, .dup2] (pc' := 40) (lv' := [(0, .inr (.inr (some a0))), (1, .inl v1), (2, .inl v2)]) (st' := [.inl (6 : Int32), .inr (.inr o_20), .inl (6 : Int32), .inr (.inr o_20)]) (by decide +kernel) rfl rfl ?_
  obtain ⟨v_22, h23, h⟩ := bd h
  refine xa_i E h23 (show decode prog_14_method_19_code 40 = .ok (.iaload, 1) by decide +kernel) ?_
  refine xv_b E [.iconst 1, .iadd] (pc' := 43) (lv' := [(0, .inr (.inr (some a0))), (1, .inl v1), (2, .inl v2)]) (st' := [.inl (v_22 + (1 : Int32)), .inl (6 : Int32), .inr (.inr o_20)]) (by decide +kernel) rfl rfl ?_
  obtain ⟨M24, h25, h⟩ := bd h
  refine xs_i E h25 (show decode prog_14_method_19_code 43 = .ok (.iastore, 1) by decide +kernel) ?_
  obtain rfl := Option.some.inj h
  obtain ⟨rfl, rfl⟩ := Prod.mk.inj (show ((none : Option aV), M24) = (r, M') from hN)
  exact xv_rv E B.1 B.2.1 (show decode prog_14_method_19_code 44 = .ok (.return_, 1) by decide +kernel) rfl rfl
theorem sb182_0 (E : xE G p (xRm 2 (h_sz M' - z0) (h_sl M' - y0)) s m args c prog_14_method_19_code "ZonedFabricModel" z0 y0 (h_sz M') (h_sl M') 3) (B : xB ym182 none meth) (a0 : Nat) (v1 : Int32) (v2 : Int32) (M : hM) {res : xRes} (h : b182_0 a0 v1 v2 M = some res) (hN : xN (fun _ _ _ => False) r M' res) : xV G p l e (xRm 2 (h_sz M' - z0) (h_sl M' - y0)) s m args below meth c z0 y0 (h_sz M') (h_sl M') 3 (MQ below (xQc G r M') args s (h_sz M' - z0) (h_sl M' - y0) (xFr G)) 0 [(0, .inr (.inr (some a0))), (1, .inl v1), (2, .inl v2)] [] M := by
  unfold b182_0 at h
  refine xv_b E [.aload_n 0, .iload_n 1] (pc' := 2) (lv' := [(0, .inr (.inr (some a0))), (1, .inl v1), (2, .inl v2)]) (st' := [.inl v1, .inr (.inr (some a0))]) (by decide +kernel) rfl rfl ?_
  obtain ⟨b_3, h4, h⟩ := bd h
  obtain ⟨eh4, th4⟩ := g_o_some h4
  obtain ⟨q_1, h2, h⟩ := bd h
  refine xv_cvo E eh4 12 (as := [.inl v1]) (t180 G l (c_I_some h2)) cd180 mw967 mw968 mw969 (show decode prog_14_method_19_code 2 = .ok (.invokevirtual 217, 3) by decide +kernel) th4 rfl rfl (Nat.le_of_ble_eq_true rfl) ⟨Nat.le_of_ble_eq_true rfl, Nat.le_of_ble_eq_true rfl⟩ ?_
  refine xv_b E [.iconst 1] (pc' := 6) (lv' := [(0, .inr (.inr (some a0))), (1, .inl v1), (2, .inl v2)]) (st' := [.inl (1 : Int32), .inl q_1.1]) (by decide +kernel) rfl rfl ?_
  by_cases q11 : (1 : Int32) ≤ q_1.1
  · rw [if_pos q11] at h
    refine xv_icmp_ge E 19 (show decode prog_14_method_19_code 6 = .ok (.if_icmp .ge (13), 3) by decide +kernel) rfl (fun _ => ?_) (fun z => absurd q11 z)
    exact xv_w (sb182_19 E B a0 v1 v2 q_1.2 h hN) rfl
  · rw [if_neg q11] at h
    refine xv_icmp_ge E 19 (show decode prog_14_method_19_code 6 = .ok (.if_icmp .ge (13), 3) by decide +kernel) rfl (fun z => absurd z q11) (fun _ => ?_)
    refine xv_b E [.aload_n 0] (pc' := 10) (lv' := [(0, .inr (.inr (some a0))), (1, .inl v1), (2, .inl v2)]) (st' := [.inr (.inr (some a0))]) (by decide +kernel) rfl rfl ?_
    obtain ⟨o_5, h6, h⟩ := bd h
    refine xg_r E 12 5 h6 mw866 (show decode prog_14_method_19_code 10 = .ok (.getfield 13, 3) by decide +kernel) ?_
    refine xv_b E [.iconst 1, .dup2] (pc' := 15) (lv' := [(0, .inr (.inr (some a0))), (1, .inl v1), (2, .inl v2)]) (st' := [.inl (1 : Int32), .inr (.inr o_5), .inl (1 : Int32), .inr (.inr o_5)]) (by decide +kernel) rfl rfl ?_
    obtain ⟨v_7, h8, h⟩ := bd h
    refine xa_i E h8 (show decode prog_14_method_19_code 15 = .ok (.iaload, 1) by decide +kernel) ?_
    refine xv_b E [.iconst 1, .iadd] (pc' := 18) (lv' := [(0, .inr (.inr (some a0))), (1, .inl v1), (2, .inl v2)]) (st' := [.inl (v_7 + (1 : Int32)), .inl (1 : Int32), .inr (.inr o_5)]) (by decide +kernel) rfl rfl ?_
    obtain ⟨M9, h10, h⟩ := bd h
    refine xs_i E h10 (show decode prog_14_method_19_code 18 = .ok (.iastore, 1) by decide +kernel) ?_
    exact xv_w (sb182_19 E B a0 v1 v2 M9 h hN) rfl
end
theorem t182 (G : gX) (l : Launch) {as : List aV} {M : hM} {r : Option aV} {M' : hM} (h : f182 as M = some (r, M')) : xM G l ym182 prog_14_method_19_code 3 none 2 as M r M' := by
  unfold f182 at h
  split at h
  · have h := x_out_ok h
    refine xM_of (by decide) (Nat.le_of_ble_eq_true rfl) (lb182_0 G l _ _ _ M h) ?_
    intro p e s m args below meth c E B
    exact sb182_0 E B _ _ _ M h rfl
  · cases h
/-! ZFModel.queues(II)V -/
def ym183 : MethodName := ⟨"ZonedFabricModel", "queues", "(II)V"⟩
theorem cd183 : xCd ym183 prog_14_method_20_code 3 none 2 := ⟨mw971, mw864, by decide, by decide, by decide +kernel⟩
def b183_77  (M : hM) : Option xRes :=
  some (.inl (none, M))
def b183_0 (a0 : Nat) (v1 : Int32) (v2 : Int32) (M : hM) : Option xRes :=
  Option.bind (g_o M 12 (some a0)) fun b_3 =>
  Option.bind (c_V (f170 [.inr (.inr (some b_3)), .inl v2] M)) fun q_1 =>
  Option.bind (g_o q_1 12 (some a0)) fun b_7 =>
  Option.bind (c_I (f177 [.inr (.inr (some b_7)), .inl v1] q_1)) fun q_5 =>
  if q_5.1 = 0 then
    (Option.bind (g_o q_5.2 12 (some a0)) fun b_40 =>
    Option.bind (c_V (f171 [.inr (.inr (some b_40)), .inl v2] q_5.2)) fun q_38 =>
    b183_77  q_38)
  else
    (Option.bind (g_r q_5.2 12 19 (some a0)) fun o_9 =>
    Option.bind (al_i q_5.2 20 o_9 v1) fun v_11 =>
    if v_11 = (32 : Int32) then
      (Option.bind (g_r q_5.2 12 4 (some a0)) fun o_27 =>
      Option.bind (al_i q_5.2 20 o_27 (5 : Int32)) fun v_29 =>
      Option.bind (as_i q_5.2 20 o_27 (5 : Int32) (v_29 + (1 : Int32))) fun M31 =>
      Option.bind (g_o M31 12 (some a0)) fun b_35 =>
      Option.bind (c_V (f171 [.inr (.inr (some b_35)), .inl v2] M31)) fun q_33 =>
      b183_77  q_33)
    else
      (Option.bind (g_r q_5.2 12 18 (some a0)) fun o_13 =>
      Option.bind (g_r q_5.2 12 19 (some a0)) fun o_15 =>
      Option.bind (al_i q_5.2 20 o_15 v1) fun v_17 =>
      Option.bind (as_i q_5.2 20 o_13 ((v1 * (32 : Int32)) + v_17) v2) fun M19 =>
      Option.bind (g_r M19 12 19 (some a0)) fun o_21 =>
      Option.bind (al_i M19 20 o_21 v1) fun v_23 =>
      Option.bind (as_i M19 20 o_21 v1 (v_23 + (1 : Int32))) fun M25 =>
      b183_77  M25))
def f183 (as : List aV) (M : hM) : xO := match as with
  | [.inr (.inr (some a0)), .inl v1, .inl v2] => x_out (b183_0 a0 v1 v2 M)
  | _ => none
theorem lb183_77 (G : gX) (l : Launch)  (M : hM) {res : xRes} (h : b183_77  M = some res) : h_sz M ≤ r_sz res ∧ h_sl M ≤ r_sl res := by
  unfold b183_77 at h
  obtain rfl := Option.some.inj h
  show h_sz M ≤ h_sz M ∧ h_sl M ≤ h_sl M
  omega
theorem lb183_0 (G : gX) (l : Launch) (a0 : Nat) (v1 : Int32) (v2 : Int32) (M : hM) {res : xRes} (h : b183_0 a0 v1 v2 M = some res) : h_sz M ≤ r_sz res ∧ h_sl M ≤ r_sl res := by
  unfold b183_0 at h
  obtain ⟨b_3, h4, h⟩ := bd h
  obtain ⟨q_1, h2, h⟩ := bd h
  have eh2 := (t170 G l (c_V_some h2)).1
  obtain ⟨b_7, h8, h⟩ := bd h
  obtain ⟨q_5, h6, h⟩ := bd h
  have eh6 := (t177 G l (c_I_some h6)).1
  by_cases q42 : q_5.1 = 0
  · rw [if_pos q42] at h
    obtain ⟨b_40, h41, h⟩ := bd h
    obtain ⟨q_38, h39, h⟩ := bd h
    have eh39 := (t171 G l (c_V_some h39)).1
    have e := lb183_77 G l  q_38 h
    omega
  · rw [if_neg q42] at h
    obtain ⟨o_9, h10, h⟩ := bd h
    obtain ⟨v_11, h12, h⟩ := bd h
    by_cases q37 : v_11 = (32 : Int32)
    · rw [if_pos q37] at h
      obtain ⟨o_27, h28, h⟩ := bd h
      obtain ⟨v_29, h30, h⟩ := bd h
      obtain ⟨M31, h32, h⟩ := bd h
      have eh32 := as_i_sz h32
      obtain ⟨b_35, h36, h⟩ := bd h
      obtain ⟨q_33, h34, h⟩ := bd h
      have eh34 := (t171 G l (c_V_some h34)).1
      have e := lb183_77 G l  q_33 h
      omega
    · rw [if_neg q37] at h
      obtain ⟨o_13, h14, h⟩ := bd h
      obtain ⟨o_15, h16, h⟩ := bd h
      obtain ⟨v_17, h18, h⟩ := bd h
      obtain ⟨M19, h20, h⟩ := bd h
      have eh20 := as_i_sz h20
      obtain ⟨o_21, h22, h⟩ := bd h
      obtain ⟨v_23, h24, h⟩ := bd h
      obtain ⟨M25, h26, h⟩ := bd h
      have eh26 := as_i_sz h26
      have e := lb183_77 G l  M25 h
      omega
section
variable {p : Program} {l : Launch} {e : Env} {s : State} {m : MethodId} {args : Array Value} {below : List Frame} {meth : Method} {c : Code} {G : gX} {z0 y0 : Nat} {r : Option aV} {M' : hM}
theorem sb183_77 (E : xE G p (xRm 3 (h_sz M' - z0) (h_sl M' - y0)) s m args c prog_14_method_20_code "ZonedFabricModel" z0 y0 (h_sz M') (h_sl M') 3) (B : xB ym183 none meth)  (M : hM) {res : xRes} (h : b183_77  M = some res) (hN : xN (fun _ _ _ => False) r M' res) : xV G p l e (xRm 3 (h_sz M' - z0) (h_sl M' - y0)) s m args below meth c z0 y0 (h_sz M') (h_sl M') 3 (MQ below (xQc G r M') args s (h_sz M' - z0) (h_sl M' - y0) (xFr G)) 77 [] [] M := by
  unfold b183_77 at h
  obtain rfl := Option.some.inj h
  obtain ⟨rfl, rfl⟩ := Prod.mk.inj (show ((none : Option aV), M) = (r, M') from hN)
  exact xv_rv E B.1 B.2.1 (show decode prog_14_method_20_code 77 = .ok (.return_, 1) by decide +kernel) rfl rfl
theorem sb183_0 (E : xE G p (xRm 3 (h_sz M' - z0) (h_sl M' - y0)) s m args c prog_14_method_20_code "ZonedFabricModel" z0 y0 (h_sz M') (h_sl M') 3) (B : xB ym183 none meth) (a0 : Nat) (v1 : Int32) (v2 : Int32) (M : hM) {res : xRes} (h : b183_0 a0 v1 v2 M = some res) (hN : xN (fun _ _ _ => False) r M' res) : xV G p l e (xRm 3 (h_sz M' - z0) (h_sl M' - y0)) s m args below meth c z0 y0 (h_sz M') (h_sl M') 3 (MQ below (xQc G r M') args s (h_sz M' - z0) (h_sl M' - y0) (xFr G)) 0 [(0, .inr (.inr (some a0))), (1, .inl v1), (2, .inl v2)] [] M := by
  unfold b183_0 at h
  refine xv_b E [.aload_n 0, .iload_n 2] (pc' := 2) (lv' := [(0, .inr (.inr (some a0))), (1, .inl v1), (2, .inl v2)]) (st' := [.inl v2, .inr (.inr (some a0))]) (by decide +kernel) rfl rfl ?_
  obtain ⟨b_3, h4, h⟩ := bd h
  obtain ⟨eh4, th4⟩ := g_o_some h4
  obtain ⟨q_1, h2, h⟩ := bd h
  refine xv_cvo E eh4 12 (as := [.inl v2]) (t170 G l (c_V_some h2)) cd170 mw972 mw973 mw974 (show decode prog_14_method_20_code 2 = .ok (.invokevirtual 220, 3) by decide +kernel) th4 rfl rfl (Nat.le_of_ble_eq_true rfl) ⟨Nat.le_of_ble_eq_true rfl, Nat.le_of_ble_eq_true rfl⟩ ?_
  refine xv_b E [.aload_n 0, .iload_n 1] (pc' := 7) (lv' := [(0, .inr (.inr (some a0))), (1, .inl v1), (2, .inl v2)]) (st' := [.inl v1, .inr (.inr (some a0))]) (by decide +kernel) rfl rfl ?_
  obtain ⟨b_7, h8, h⟩ := bd h
  obtain ⟨eh8, th8⟩ := g_o_some h8
  obtain ⟨q_5, h6, h⟩ := bd h
  refine xv_cvo E eh8 12 (as := [.inl v1]) (t177 G l (c_I_some h6)) cd177 mw963 mw964 mw965 (show decode prog_14_method_20_code 7 = .ok (.invokevirtual 213, 3) by decide +kernel) th8 rfl rfl (Nat.le_of_ble_eq_true rfl) ⟨Nat.le_of_ble_eq_true rfl, Nat.le_of_ble_eq_true rfl⟩ ?_
  by_cases q42 : q_5.1 = 0
  · rw [if_pos q42] at h
    refine xv_if_ne E 21 (show decode prog_14_method_20_code 10 = .ok (.ifCond .ne (11), 3) by decide +kernel) rfl (fun z => absurd q42 z) (fun _ => ?_)
    refine xv_b E [.aload_n 0, .iload_n 2] (pc' := 15) (lv' := [(0, .inr (.inr (some a0))), (1, .inl v1), (2, .inl v2)]) (st' := [.inl v2, .inr (.inr (some a0))]) (by decide +kernel) rfl rfl ?_
    obtain ⟨b_40, h41, h⟩ := bd h
    obtain ⟨eh41, th41⟩ := g_o_some h41
    obtain ⟨q_38, h39, h⟩ := bd h
    refine xv_cvo E eh41 12 (as := [.inl v2]) (t171 G l (c_V_some h39)) cd171 mw975 mw976 mw977 (show decode prog_14_method_20_code 15 = .ok (.invokevirtual 224, 3) by decide +kernel) th41 rfl rfl (Nat.le_of_ble_eq_true rfl) ⟨Nat.le_of_ble_eq_true rfl, Nat.le_of_ble_eq_true rfl⟩ ?_
    refine xv_goto E 77 (show decode prog_14_method_20_code 18 = .ok (.goto (59), 3) by decide +kernel) rfl ?_
    exact xv_w (sb183_77 E B  q_38 h hN) rfl
  · rw [if_neg q42] at h
    refine xv_if_ne E 21 (show decode prog_14_method_20_code 10 = .ok (.ifCond .ne (11), 3) by decide +kernel) rfl (fun _ => ?_) (fun z => absurd z q42)
    refine xv_b E [.aload_n 0] (pc' := 22) (lv' := [(0, .inr (.inr (some a0))), (1, .inl v1), (2, .inl v2)]) (st' := [.inr (.inr (some a0))]) (by decide +kernel) rfl rfl ?_
    obtain ⟨o_9, h10, h⟩ := bd h
    refine xg_r E 12 19 h10 mw879 (show decode prog_14_method_20_code 22 = .ok (.getfield 52, 3) by decide +kernel) ?_
    refine xv_b E [.iload_n 1] (pc' := 26) (lv' := [(0, .inr (.inr (some a0))), (1, .inl v1), (2, .inl v2)]) (st' := [.inl v1, .inr (.inr o_9)]) (by decide +kernel) rfl rfl ?_
    obtain ⟨v_11, h12, h⟩ := bd h
    refine xa_i E h12 (show decode prog_14_method_20_code 26 = .ok (.iaload, 1) by decide +kernel) ?_
    refine xv_b E [.bipush 32] (pc' := 29) (lv' := [(0, .inr (.inr (some a0))), (1, .inl v1), (2, .inl v2)]) (st' := [.inl (32 : Int32), .inl v_11]) (by decide +kernel) rfl rfl ?_
    by_cases q37 : v_11 = (32 : Int32)
    · rw [if_pos q37] at h
      refine xv_icmp_ne E 50 (show decode prog_14_method_20_code 29 = .ok (.if_icmp .ne (21), 3) by decide +kernel) rfl (fun z => absurd q37 z) (fun _ => ?_)
      refine xv_b E [.aload_n 0] (pc' := 33) (lv' := [(0, .inr (.inr (some a0))), (1, .inl v1), (2, .inl v2)]) (st' := [.inr (.inr (some a0))]) (by decide +kernel) rfl rfl ?_
      obtain ⟨o_27, h28, h⟩ := bd h
      refine xg_r E 12 4 h28 mw865 (show decode prog_14_method_20_code 33 = .ok (.getfield 7, 3) by decide +kernel) ?_
      refine xv_b E [.iconst 5, .dup2] (pc' := 38) (lv' := [(0, .inr (.inr (some a0))), (1, .inl v1), (2, .inl v2)]) (st' := [.inl (5 : Int32), .inr (.inr o_27), .inl (5 : Int32), .inr (.inr o_27)]) (by decide +kernel) rfl rfl ?_
      obtain ⟨v_29, h30, h⟩ := bd h
      refine xa_i E h30 (show decode prog_14_method_20_code 38 = .ok (.iaload, 1) by decide +kernel) ?_
      refine xv_b E [.iconst 1, .iadd] (pc' := 41) (lv' := [(0, .inr (.inr (some a0))), (1, .inl v1), (2, .inl v2)]) (st' := [.inl (v_29 + (1 : Int32)), .inl (5 : Int32), .inr (.inr o_27)]) (by decide +kernel) rfl rfl ?_
      obtain ⟨M31, h32, h⟩ := bd h
      refine xs_i E h32 (show decode prog_14_method_20_code 41 = .ok (.iastore, 1) by decide +kernel) ?_
      refine xv_b E [.aload_n 0, .iload_n 2] (pc' := 44) (lv' := [(0, .inr (.inr (some a0))), (1, .inl v1), (2, .inl v2)]) (st' := [.inl v2, .inr (.inr (some a0))]) (by decide +kernel) rfl rfl ?_
      obtain ⟨b_35, h36, h⟩ := bd h
      obtain ⟨eh36, th36⟩ := g_o_some h36
      obtain ⟨q_33, h34, h⟩ := bd h
      refine xv_cvo E eh36 12 (as := [.inl v2]) (t171 G l (c_V_some h34)) cd171 mw975 mw976 mw977 (show decode prog_14_method_20_code 44 = .ok (.invokevirtual 224, 3) by decide +kernel) th36 rfl rfl (Nat.le_of_ble_eq_true rfl) ⟨Nat.le_of_ble_eq_true rfl, Nat.le_of_ble_eq_true rfl⟩ ?_
      refine xv_goto E 77 (show decode prog_14_method_20_code 47 = .ok (.goto (30), 3) by decide +kernel) rfl ?_
      exact xv_w (sb183_77 E B  q_33 h hN) rfl
    · rw [if_neg q37] at h
      refine xv_icmp_ne E 50 (show decode prog_14_method_20_code 29 = .ok (.if_icmp .ne (21), 3) by decide +kernel) rfl (fun _ => ?_) (fun z => absurd z q37)
      refine xv_b E [.aload_n 0] (pc' := 51) (lv' := [(0, .inr (.inr (some a0))), (1, .inl v1), (2, .inl v2)]) (st' := [.inr (.inr (some a0))]) (by decide +kernel) rfl rfl ?_
      obtain ⟨o_13, h14, h⟩ := bd h
      refine xg_r E 12 18 h14 mw878 (show decode prog_14_method_20_code 51 = .ok (.getfield 49, 3) by decide +kernel) ?_
      refine xv_b E [.iload_n 1, .bipush 32, .imul, .aload_n 0] (pc' := 59) (lv' := [(0, .inr (.inr (some a0))), (1, .inl v1), (2, .inl v2)]) (st' := [.inr (.inr (some a0)), .inl (v1 * (32 : Int32)), .inr (.inr o_13)]) (by decide +kernel) rfl rfl ?_
      obtain ⟨o_15, h16, h⟩ := bd h
      refine xg_r E 12 19 h16 mw879 (show decode prog_14_method_20_code 59 = .ok (.getfield 52, 3) by decide +kernel) ?_
      refine xv_b E [.iload_n 1] (pc' := 63) (lv' := [(0, .inr (.inr (some a0))), (1, .inl v1), (2, .inl v2)]) (st' := [.inl v1, .inr (.inr o_15), .inl (v1 * (32 : Int32)), .inr (.inr o_13)]) (by decide +kernel) rfl rfl ?_
      obtain ⟨v_17, h18, h⟩ := bd h
      refine xa_i E h18 (show decode prog_14_method_20_code 63 = .ok (.iaload, 1) by decide +kernel) ?_
      refine xv_b E [.iadd, .iload_n 2] (pc' := 66) (lv' := [(0, .inr (.inr (some a0))), (1, .inl v1), (2, .inl v2)]) (st' := [.inl v2, .inl ((v1 * (32 : Int32)) + v_17), .inr (.inr o_13)]) (by decide +kernel) rfl rfl ?_
      obtain ⟨M19, h20, h⟩ := bd h
      refine xs_i E h20 (show decode prog_14_method_20_code 66 = .ok (.iastore, 1) by decide +kernel) ?_
      refine xv_b E [.aload_n 0] (pc' := 68) (lv' := [(0, .inr (.inr (some a0))), (1, .inl v1), (2, .inl v2)]) (st' := [.inr (.inr (some a0))]) (by decide +kernel) rfl rfl ?_
      obtain ⟨o_21, h22, h⟩ := bd h
      refine xg_r E 12 19 h22 mw879 (show decode prog_14_method_20_code 68 = .ok (.getfield 52, 3) by decide +kernel) ?_
      refine xv_b E [.iload_n 1, .dup2] (pc' := 73) (lv' := [(0, .inr (.inr (some a0))), (1, .inl v1), (2, .inl v2)]) (st' := [.inl v1, .inr (.inr o_21), .inl v1, .inr (.inr o_21)]) (by decide +kernel) rfl rfl ?_
      obtain ⟨v_23, h24, h⟩ := bd h
      refine xa_i E h24 (show decode prog_14_method_20_code 73 = .ok (.iaload, 1) by decide +kernel) ?_
      refine xv_b E [.iconst 1, .iadd] (pc' := 76) (lv' := [(0, .inr (.inr (some a0))), (1, .inl v1), (2, .inl v2)]) (st' := [.inl (v_23 + (1 : Int32)), .inl v1, .inr (.inr o_21)]) (by decide +kernel) rfl rfl ?_
      obtain ⟨M25, h26, h⟩ := bd h
      refine xs_i E h26 (show decode prog_14_method_20_code 76 = .ok (.iastore, 1) by decide +kernel) ?_
      exact xv_w (sb183_77 E B  M25 h hN) rfl
end
theorem t183 (G : gX) (l : Launch) {as : List aV} {M : hM} {r : Option aV} {M' : hM} (h : f183 as M = some (r, M')) : xM G l ym183 prog_14_method_20_code 3 none 3 as M r M' := by
  unfold f183 at h
  split at h
  · have h := x_out_ok h
    refine xM_of (by decide) (Nat.le_of_ble_eq_true rfl) (lb183_0 G l _ _ _ M h) ?_
    intro p e s m args below meth c E B
    exact sb183_0 E B _ _ _ M h rfl
  · cases h
/-! ZFModel.sendsQueued(I)V -/
def ym184 : MethodName := ⟨"ZonedFabricModel", "sendsQueued", "(I)V"⟩
theorem cd184 : xCd ym184 prog_14_method_21_code 3 none 1 := ⟨mw978, mw864, by decide, by decide, by decide +kernel⟩
def b184_17  (M : hM) : Option xRes :=
  some (.inl (none, M))
def b184_0 (a0 : Nat) (v1 : Int32) (M : hM) : Option xRes :=
  Option.bind (g_r M 12 19 (some a0)) fun o_1 =>
  Option.bind (al_i M 20 o_1 v1) fun v_3 =>
  if v_3 = 0 then
    (b184_17  M)
  else
    (Option.bind (g_o M 12 (some a0)) fun b_7 =>
    Option.bind (c_I (f181 [.inr (.inr (some b_7)), .inl v1] M)) fun q_5 =>
    if q_5.1 = 0 then
      (b184_17  q_5.2)
    else
      (Option.bind (g_r q_5.2 12 18 (some a0)) fun o_9 =>
      Option.bind (al_i q_5.2 20 o_9 (v1 * (32 : Int32))) fun v_11 =>
      Option.bind (g_o q_5.2 12 (some a0)) fun b_15 =>
      Option.bind (c_V (f182 [.inr (.inr (some b_15)), .inl v1, .inl v_11] q_5.2)) fun q_13 =>
      Option.bind (g_r q_13 12 19 (some a0)) fun o_17 =>
      Option.bind (al_i q_13 20 o_17 v1) fun v_19 =>
      Option.bind (as_i q_13 20 o_17 v1 (v_19 - (1 : Int32))) fun M21 =>
      some (.inr (44, [.inr (.inr (some a0)), .inl v1, .inl (0 : Int32)], M21))))
def b184_44 (a0 : Nat) (v1 : Int32) (v2 : Int32) (M : hM) : Option xRes :=
  Option.bind (g_r M 12 19 (some a0)) fun o_25 =>
  Option.bind (al_i M 20 o_25 v1) fun v_27 =>
  if v_27 ≤ v2 then
    (some (.inl (none, M)))
  else
    (Option.bind (g_r M 12 18 (some a0)) fun o_29 =>
    Option.bind (g_r M 12 18 (some a0)) fun o_31 =>
    Option.bind (al_i M 20 o_31 (((v1 * (32 : Int32)) + v2) + (1 : Int32))) fun v_33 =>
    Option.bind (as_i M 20 o_29 ((v1 * (32 : Int32)) + v2) v_33) fun M35 =>
    some (.inr (44, [.inr (.inr (some a0)), .inl v1, .inl (v2 + (1 : Int32))], M35)))
def k184 (h : Nat) (as : List aV) (M : hM) : Option xRes :=
  if h = 44 then (match as with | [.inr (.inr (some a0)), .inl v1, .inl v2] => b184_44 a0 v1 v2 M | _ => none) else
  none
def f184 (as : List aV) (M : hM) : xO := match as with
  | [.inr (.inr (some a0)), .inl v1] => x_go k184 (b184_0 a0 v1 M)
  | _ => none
theorem lb184_17 (G : gX) (l : Launch)  (M : hM) {res : xRes} (h : b184_17  M = some res) : h_sz M ≤ r_sz res ∧ h_sl M ≤ r_sl res := by
  unfold b184_17 at h
  obtain rfl := Option.some.inj h
  show h_sz M ≤ h_sz M ∧ h_sl M ≤ h_sl M
  omega
theorem lb184_0 (G : gX) (l : Launch) (a0 : Nat) (v1 : Int32) (M : hM) {res : xRes} (h : b184_0 a0 v1 M = some res) : h_sz M ≤ r_sz res ∧ h_sl M ≤ r_sl res := by
  unfold b184_0 at h
  obtain ⟨o_1, h2, h⟩ := bd h
  obtain ⟨v_3, h4, h⟩ := bd h
  by_cases q24 : v_3 = 0
  · rw [if_pos q24] at h
    have e := lb184_17 G l  M h
    omega
  · rw [if_neg q24] at h
    obtain ⟨b_7, h8, h⟩ := bd h
    obtain ⟨q_5, h6, h⟩ := bd h
    have eh6 := (t181 G l (c_I_some h6)).1
    by_cases q23 : q_5.1 = 0
    · rw [if_pos q23] at h
      have e := lb184_17 G l  q_5.2 h
      omega
    · rw [if_neg q23] at h
      obtain ⟨o_9, h10, h⟩ := bd h
      obtain ⟨v_11, h12, h⟩ := bd h
      obtain ⟨b_15, h16, h⟩ := bd h
      obtain ⟨q_13, h14, h⟩ := bd h
      have eh14 := (t182 G l (c_V_some h14)).1
      obtain ⟨o_17, h18, h⟩ := bd h
      obtain ⟨v_19, h20, h⟩ := bd h
      obtain ⟨M21, h22, h⟩ := bd h
      have eh22 := as_i_sz h22
      obtain rfl := Option.some.inj h
      show h_sz M ≤ h_sz M21 ∧ h_sl M ≤ h_sl M21
      omega
theorem lb184_44 (G : gX) (l : Launch) (a0 : Nat) (v1 : Int32) (v2 : Int32) (M : hM) {res : xRes} (h : b184_44 a0 v1 v2 M = some res) : h_sz M ≤ r_sz res ∧ h_sl M ≤ r_sl res := by
  unfold b184_44 at h
  obtain ⟨o_25, h26, h⟩ := bd h
  obtain ⟨v_27, h28, h⟩ := bd h
  by_cases q37 : v_27 ≤ v2
  · rw [if_pos q37] at h
    obtain rfl := Option.some.inj h
    show h_sz M ≤ h_sz M ∧ h_sl M ≤ h_sl M
    omega
  · rw [if_neg q37] at h
    obtain ⟨o_29, h30, h⟩ := bd h
    obtain ⟨o_31, h32, h⟩ := bd h
    obtain ⟨v_33, h34, h⟩ := bd h
    obtain ⟨M35, h36, h⟩ := bd h
    have eh36 := as_i_sz h36
    obtain rfl := Option.some.inj h
    show h_sz M ≤ h_sz M35 ∧ h_sl M ≤ h_sl M35
    omega
section
variable {p : Program} {l : Launch} {e : Env} {s : State} {m : MethodId} {args : Array Value} {below : List Frame} {meth : Method} {c : Code} {G : gX} {z0 y0 : Nat} {r : Option aV} {M' : hM}
def pg184 (p : Program) (l : Launch) (e : Env) (s : State) (m : MethodId) (args : Array Value) (below : List Frame) (meth : Method) (c : Code) (G : gX) (z0 y0 : Nat) (r : Option aV) (M' : hM) (h : Nat) (as : List aV) (M : hM) : Prop :=
  if h = 44 then (match as with | [.inr (.inr (some a0)), .inl v1, .inl v2] => xV G p l e (xRm 3 (h_sz M' - z0) (h_sl M' - y0)) s m args below meth c z0 y0 (h_sz M') (h_sl M') 3 (MQ below (xQc G r M') args s (h_sz M' - z0) (h_sl M' - y0) (xFr G)) 44 [(0, .inr (.inr (some a0))), (1, .inl v1), (2, .inl v2)] [] M | _ => False) else
  False
theorem sb184_17 (E : xE G p (xRm 3 (h_sz M' - z0) (h_sl M' - y0)) s m args c prog_14_method_21_code "ZonedFabricModel" z0 y0 (h_sz M') (h_sl M') 3) (B : xB ym184 none meth)  (M : hM) {res : xRes} (h : b184_17  M = some res) (hN : xN (pg184 p l e s m args below meth c G z0 y0 r M') r M' res) : xV G p l e (xRm 3 (h_sz M' - z0) (h_sl M' - y0)) s m args below meth c z0 y0 (h_sz M') (h_sl M') 3 (MQ below (xQc G r M') args s (h_sz M' - z0) (h_sl M' - y0) (xFr G)) 17 [] [] M := by
  unfold b184_17 at h
  obtain rfl := Option.some.inj h
  obtain ⟨rfl, rfl⟩ := Prod.mk.inj (show ((none : Option aV), M) = (r, M') from hN)
  exact xv_rv E B.1 B.2.1 (show decode prog_14_method_21_code 17 = .ok (.return_, 1) by decide +kernel) rfl rfl
theorem sb184_0 (E : xE G p (xRm 3 (h_sz M' - z0) (h_sl M' - y0)) s m args c prog_14_method_21_code "ZonedFabricModel" z0 y0 (h_sz M') (h_sl M') 3) (B : xB ym184 none meth) (a0 : Nat) (v1 : Int32) (M : hM) {res : xRes} (h : b184_0 a0 v1 M = some res) (hN : xN (pg184 p l e s m args below meth c G z0 y0 r M') r M' res) : xV G p l e (xRm 3 (h_sz M' - z0) (h_sl M' - y0)) s m args below meth c z0 y0 (h_sz M') (h_sl M') 3 (MQ below (xQc G r M') args s (h_sz M' - z0) (h_sl M' - y0) (xFr G)) 0 [(0, .inr (.inr (some a0))), (1, .inl v1)] [] M := by
  unfold b184_0 at h
  refine xv_b E [.aload_n 0] (pc' := 1) (lv' := [(0, .inr (.inr (some a0))), (1, .inl v1)]) (st' := [.inr (.inr (some a0))]) (by decide +kernel) rfl rfl ?_
  obtain ⟨o_1, h2, h⟩ := bd h
  refine xg_r E 12 19 h2 mw879 (show decode prog_14_method_21_code 1 = .ok (.getfield 52, 3) by decide +kernel) ?_
  refine xv_b E [.iload_n 1] (pc' := 5) (lv' := [(0, .inr (.inr (some a0))), (1, .inl v1)]) (st' := [.inl v1, .inr (.inr o_1)]) (by decide +kernel) rfl rfl ?_
  obtain ⟨v_3, h4, h⟩ := bd h
  refine xa_i E h4 (show decode prog_14_method_21_code 5 = .ok (.iaload, 1) by decide +kernel) ?_
  by_cases q24 : v_3 = 0
  · rw [if_pos q24] at h
    refine xv_if_eq E 17 (show decode prog_14_method_21_code 6 = .ok (.ifCond .eq (11), 3) by decide +kernel) rfl (fun _ => ?_) (fun z => absurd q24 z)
    exact xv_w (sb184_17 E B  M h hN) rfl
  · rw [if_neg q24] at h
    refine xv_if_eq E 17 (show decode prog_14_method_21_code 6 = .ok (.ifCond .eq (11), 3) by decide +kernel) rfl (fun z => absurd z q24) (fun _ => ?_)
    refine xv_b E [.aload_n 0, .iload_n 1] (pc' := 11) (lv' := [(0, .inr (.inr (some a0))), (1, .inl v1)]) (st' := [.inl v1, .inr (.inr (some a0))]) (by decide +kernel) rfl rfl ?_
    obtain ⟨b_7, h8, h⟩ := bd h
    obtain ⟨eh8, th8⟩ := g_o_some h8
    obtain ⟨q_5, h6, h⟩ := bd h
    refine xv_cvo E eh8 12 (as := [.inl v1]) (t181 G l (c_I_some h6)) cd181 mw979 mw980 mw981 (show decode prog_14_method_21_code 11 = .ok (.invokevirtual 227, 3) by decide +kernel) th8 rfl rfl (Nat.le_of_ble_eq_true rfl) ⟨Nat.le_of_ble_eq_true rfl, Nat.le_of_ble_eq_true rfl⟩ ?_
    by_cases q23 : q_5.1 = 0
    · rw [if_pos q23] at h
      refine xv_if_ne E 18 (show decode prog_14_method_21_code 14 = .ok (.ifCond .ne (4), 3) by decide +kernel) rfl (fun z => absurd q23 z) (fun _ => ?_)
      exact xv_w (sb184_17 E B  q_5.2 h hN) rfl
    · rw [if_neg q23] at h
      refine xv_if_ne E 18 (show decode prog_14_method_21_code 14 = .ok (.ifCond .ne (4), 3) by decide +kernel) rfl (fun _ => ?_) (fun z => absurd z q23)
      refine xv_b E [.aload_n 0, .iload_n 1, .aload_n 0] (pc' := 21) (lv' := [(0, .inr (.inr (some a0))), (1, .inl v1)]) (st' := [.inr (.inr (some a0)), .inl v1, .inr (.inr (some a0))]) (by decide +kernel) rfl rfl ?_
      obtain ⟨o_9, h10, h⟩ := bd h
      refine xg_r E 12 18 h10 mw878 (show decode prog_14_method_21_code 21 = .ok (.getfield 49, 3) by decide +kernel) ?_
      refine xv_b E [.iload_n 1, .bipush 32, .imul] (pc' := 28) (lv' := [(0, .inr (.inr (some a0))), (1, .inl v1)]) (st' := [.inl (v1 * (32 : Int32)), .inr (.inr o_9), .inl v1, .inr (.inr (some a0))]) (by decide +kernel) rfl rfl ?_
      obtain ⟨v_11, h12, h⟩ := bd h
      refine xa_i E h12 (show decode prog_14_method_21_code 28 = .ok (.iaload, 1) by decide +kernel) ?_
      obtain ⟨b_15, h16, h⟩ := bd h
      obtain ⟨eh16, th16⟩ := g_o_some h16
      obtain ⟨q_13, h14, h⟩ := bd h
      refine xv_cvo E eh16 12 (as := [.inl v1, .inl v_11]) (t182 G l (c_V_some h14)) cd182 mw982 mw983 mw984 (show decode prog_14_method_21_code 29 = .ok (.invokevirtual 230, 3) by decide +kernel) th16 rfl rfl (Nat.le_of_ble_eq_true rfl) ⟨Nat.le_of_ble_eq_true rfl, Nat.le_of_ble_eq_true rfl⟩ ?_
      refine xv_b E [.aload_n 0] (pc' := 33) (lv' := [(0, .inr (.inr (some a0))), (1, .inl v1)]) (st' := [.inr (.inr (some a0))]) (by decide +kernel) rfl rfl ?_
      obtain ⟨o_17, h18, h⟩ := bd h
      refine xg_r E 12 19 h18 mw879 (show decode prog_14_method_21_code 33 = .ok (.getfield 52, 3) by decide +kernel) ?_
      refine xv_b E [.iload_n 1, .dup2] (pc' := 38) (lv' := [(0, .inr (.inr (some a0))), (1, .inl v1)]) (st' := [.inl v1, .inr (.inr o_17), .inl v1, .inr (.inr o_17)]) (by decide +kernel) rfl rfl ?_
      obtain ⟨v_19, h20, h⟩ := bd h
      refine xa_i E h20 (show decode prog_14_method_21_code 38 = .ok (.iaload, 1) by decide +kernel) ?_
      refine xv_b E [.iconst 1, .isub] (pc' := 41) (lv' := [(0, .inr (.inr (some a0))), (1, .inl v1)]) (st' := [.inl (v_19 - (1 : Int32)), .inl v1, .inr (.inr o_17)]) (by decide +kernel) rfl rfl ?_
      obtain ⟨M21, h22, h⟩ := bd h
      refine xs_i E h22 (show decode prog_14_method_21_code 41 = .ok (.iastore, 1) by decide +kernel) ?_
      refine xv_b E [.iconst 0, .istore_n 2] (pc' := 44) (lv' := [(2, .inl (0 : Int32)), (0, .inr (.inr (some a0))), (1, .inl v1)]) (st' := []) (by decide +kernel) rfl rfl ?_
      obtain rfl := Option.some.inj h
      exact xv_w hN rfl
theorem sb184_44 (E : xE G p (xRm 3 (h_sz M' - z0) (h_sl M' - y0)) s m args c prog_14_method_21_code "ZonedFabricModel" z0 y0 (h_sz M') (h_sl M') 3) (B : xB ym184 none meth) (a0 : Nat) (v1 : Int32) (v2 : Int32) (M : hM) {res : xRes} (h : b184_44 a0 v1 v2 M = some res) (hN : xN (pg184 p l e s m args below meth c G z0 y0 r M') r M' res) : xV G p l e (xRm 3 (h_sz M' - z0) (h_sl M' - y0)) s m args below meth c z0 y0 (h_sz M') (h_sl M') 3 (MQ below (xQc G r M') args s (h_sz M' - z0) (h_sl M' - y0) (xFr G)) 44 [(0, .inr (.inr (some a0))), (1, .inl v1), (2, .inl v2)] [] M := by
  unfold b184_44 at h
  refine xv_b E [.iload_n 2, .aload_n 0] (pc' := 46) (lv' := [(0, .inr (.inr (some a0))), (1, .inl v1), (2, .inl v2)]) (st' := [.inr (.inr (some a0)), .inl v2]) (by decide +kernel) rfl rfl ?_
  obtain ⟨o_25, h26, h⟩ := bd h
  refine xg_r E 12 19 h26 mw879 (show decode prog_14_method_21_code 46 = .ok (.getfield 52, 3) by decide +kernel) ?_
  refine xv_b E [.iload_n 1] (pc' := 50) (lv' := [(0, .inr (.inr (some a0))), (1, .inl v1), (2, .inl v2)]) (st' := [.inl v1, .inr (.inr o_25), .inl v2]) (by decide +kernel) rfl rfl ?_
  obtain ⟨v_27, h28, h⟩ := bd h
  refine xa_i E h28 (show decode prog_14_method_21_code 50 = .ok (.iaload, 1) by decide +kernel) ?_
  by_cases q37 : v_27 ≤ v2
  · rw [if_pos q37] at h
    refine xv_icmp_ge E 84 (show decode prog_14_method_21_code 51 = .ok (.if_icmp .ge (33), 3) by decide +kernel) rfl (fun _ => ?_) (fun z => absurd q37 z)
    obtain rfl := Option.some.inj h
    obtain ⟨rfl, rfl⟩ := Prod.mk.inj (show ((none : Option aV), M) = (r, M') from hN)
    exact xv_rv E B.1 B.2.1 (show decode prog_14_method_21_code 84 = .ok (.return_, 1) by decide +kernel) rfl rfl
  · rw [if_neg q37] at h
    refine xv_icmp_ge E 84 (show decode prog_14_method_21_code 51 = .ok (.if_icmp .ge (33), 3) by decide +kernel) rfl (fun z => absurd z q37) (fun _ => ?_)
    refine xv_b E [.aload_n 0] (pc' := 55) (lv' := [(0, .inr (.inr (some a0))), (1, .inl v1), (2, .inl v2)]) (st' := [.inr (.inr (some a0))]) (by decide +kernel) rfl rfl ?_
    obtain ⟨o_29, h30, h⟩ := bd h
    refine xg_r E 12 18 h30 mw878 (show decode prog_14_method_21_code 55 = .ok (.getfield 49, 3) by decide +kernel) ?_
    refine xv_b E [.iload_n 1, .bipush 32, .imul, .iload_n 2, .iadd, .aload_n 0] (pc' := 65) (lv' := [(0, .inr (.inr (some a0))), (1, .inl v1), (2, .inl v2)]) (st' := [.inr (.inr (some a0)), .inl ((v1 * (32 : Int32)) + v2), .inr (.inr o_29)]) (by decide +kernel) rfl rfl ?_
    obtain ⟨o_31, h32, h⟩ := bd h
    refine xg_r E 12 18 h32 mw878 (show decode prog_14_method_21_code 65 = .ok (.getfield 49, 3) by decide +kernel) ?_
    refine xv_b E [.iload_n 1, .bipush 32, .imul, .iload_n 2, .iadd, .iconst 1, .iadd] (pc' := 76) (lv' := [(0, .inr (.inr (some a0))), (1, .inl v1), (2, .inl v2)]) (st' := [.inl (((v1 * (32 : Int32)) + v2) + (1 : Int32)), .inr (.inr o_31), .inl ((v1 * (32 : Int32)) + v2), .inr (.inr o_29)]) (by decide +kernel) rfl rfl ?_
    obtain ⟨v_33, h34, h⟩ := bd h
    refine xa_i E h34 (show decode prog_14_method_21_code 76 = .ok (.iaload, 1) by decide +kernel) ?_
    obtain ⟨M35, h36, h⟩ := bd h
    refine xs_i E h36 (show decode prog_14_method_21_code 77 = .ok (.iastore, 1) by decide +kernel) ?_
    refine xv_b E [.iinc 2 1] (pc' := 81) (lv' := [(2, .inl (v2 + (1 : Int32))), (0, .inr (.inr (some a0))), (1, .inl v1)]) (st' := []) (by decide +kernel) rfl rfl ?_
    refine xv_goto E 44 (show decode prog_14_method_21_code 81 = .ok (.goto (-37), 3) by decide +kernel) rfl ?_
    obtain rfl := Option.some.inj h
    exact xv_w hN rfl
end
theorem t184 (G : gX) (l : Launch) {as : List aV} {M : hM} {r : Option aV} {M' : hM} (h : f184 as M = some (r, M')) : xM G l ym184 prog_14_method_21_code 3 none 3 as M r M' := by
  unfold f184 at h
  split at h
  · have hle : ∀ h as M res, k184 h as M = some res → h_sz M ≤ r_sz res ∧ h_sl M ≤ r_sl res := by
      intro h as M res hb
      unfold k184 at hb
      by_cases e0 : h = 44
      · rw [if_pos e0] at hb
        split at hb
        · exact lb184_44 G l _ _ _ M hb
        · cases hb
      · rw [if_neg e0] at hb
        cases hb
    obtain ⟨res, hx, hres⟩ := x_go_ok h
    refine xM_of (by decide) (Nat.le_of_ble_eq_true rfl) ?_ ?_
    · have e1 := lb184_0 G l _ _ M hx
      have e2 := x_go_le hle hres
      omega
    · intro p e s m args below meth c E B
      refine sb184_0 E B _ _ M hx (hres _ ?_)
      intro h as M res hb hN
      unfold k184 at hb
      unfold pg184
      by_cases e0 : h = 44
      · rw [if_pos e0] at hb ⊢
        split at hb
        · exact sb184_44 E B _ _ _ M hb hN
        · cases hb
      · rw [if_neg e0] at hb ⊢
        cases hb
  · cases h
/-! ZFModel.leaves(I)I -/
def ym185 : MethodName := ⟨"ZonedFabricModel", "leaves", "(I)I"⟩
theorem cd185 : xCd ym185 prog_14_method_22_code 4 (some FieldType.int) 1 := ⟨mw985, mw864, by decide, by decide, by decide +kernel⟩
def b185_0 (a0 : Nat) (v1 : Int32) (M : hM) : Option xRes :=
  Option.bind (g_r M 12 16 (some a0)) fun o_1 =>
  Option.bind (al_i M 20 o_1 (v1 * (4 : Int32))) fun v_3 =>
  Option.bind (g_r M 12 17 (some a0)) fun o_5 =>
  Option.bind (al_i M 20 o_5 v1) fun v_7 =>
  Option.bind (as_i M 20 o_5 v1 (v_7 - (1 : Int32))) fun M9 =>
  some (.inr (21, [.inr (.inr (some a0)), .inl v1, .inl v_3, .inl (0 : Int32)], M9))
def b185_21 (a0 : Nat) (v1 : Int32) (v2 : Int32) (v3 : Int32) (M : hM) : Option xRes :=
  Option.bind (g_r M 12 17 (some a0)) fun o_11 =>
  Option.bind (al_i M 20 o_11 v1) fun v_13 =>
  if v_13 ≤ v3 then
    (Option.bind (g_r M 12 20 (some a0)) fun o_15 =>
    Option.bind (al_i M 20 o_15 v1) fun v_17 =>
    Option.bind (as_i M 20 o_15 v1 (v_17 + (1 : Int32))) fun M19 =>
    Option.bind (g_r M19 12 21 (some a0)) fun o_21 =>
    Option.bind (as_i M19 20 o_21 v1 (0 : Int32)) fun M23 =>
    some (.inl (some (.inl v2), M23)))
  else
    (Option.bind (g_r M 12 16 (some a0)) fun o_25 =>
    Option.bind (g_r M 12 16 (some a0)) fun o_27 =>
    Option.bind (al_i M 20 o_27 (((v1 * (4 : Int32)) + v3) + (1 : Int32))) fun v_29 =>
    Option.bind (as_i M 20 o_25 ((v1 * (4 : Int32)) + v3) v_29) fun M31 =>
    some (.inr (21, [.inr (.inr (some a0)), .inl v1, .inl v2, .inl (v3 + (1 : Int32))], M31)))
def k185 (h : Nat) (as : List aV) (M : hM) : Option xRes :=
  if h = 21 then (match as with | [.inr (.inr (some a0)), .inl v1, .inl v2, .inl v3] => b185_21 a0 v1 v2 v3 M | _ => none) else
  none
def f185 (as : List aV) (M : hM) : xO := match as with
  | [.inr (.inr (some a0)), .inl v1] => x_go k185 (b185_0 a0 v1 M)
  | _ => none
theorem lb185_0 (G : gX) (l : Launch) (a0 : Nat) (v1 : Int32) (M : hM) {res : xRes} (h : b185_0 a0 v1 M = some res) : h_sz M ≤ r_sz res ∧ h_sl M ≤ r_sl res := by
  unfold b185_0 at h
  obtain ⟨o_1, h2, h⟩ := bd h
  obtain ⟨v_3, h4, h⟩ := bd h
  obtain ⟨o_5, h6, h⟩ := bd h
  obtain ⟨v_7, h8, h⟩ := bd h
  obtain ⟨M9, h10, h⟩ := bd h
  have eh10 := as_i_sz h10
  obtain rfl := Option.some.inj h
  show h_sz M ≤ h_sz M9 ∧ h_sl M ≤ h_sl M9
  omega
theorem lb185_21 (G : gX) (l : Launch) (a0 : Nat) (v1 : Int32) (v2 : Int32) (v3 : Int32) (M : hM) {res : xRes} (h : b185_21 a0 v1 v2 v3 M = some res) : h_sz M ≤ r_sz res ∧ h_sl M ≤ r_sl res := by
  unfold b185_21 at h
  obtain ⟨o_11, h12, h⟩ := bd h
  obtain ⟨v_13, h14, h⟩ := bd h
  by_cases q33 : v_13 ≤ v3
  · rw [if_pos q33] at h
    obtain ⟨o_15, h16, h⟩ := bd h
    obtain ⟨v_17, h18, h⟩ := bd h
    obtain ⟨M19, h20, h⟩ := bd h
    have eh20 := as_i_sz h20
    obtain ⟨o_21, h22, h⟩ := bd h
    obtain ⟨M23, h24, h⟩ := bd h
    have eh24 := as_i_sz h24
    obtain rfl := Option.some.inj h
    show h_sz M ≤ h_sz M23 ∧ h_sl M ≤ h_sl M23
    omega
  · rw [if_neg q33] at h
    obtain ⟨o_25, h26, h⟩ := bd h
    obtain ⟨o_27, h28, h⟩ := bd h
    obtain ⟨v_29, h30, h⟩ := bd h
    obtain ⟨M31, h32, h⟩ := bd h
    have eh32 := as_i_sz h32
    obtain rfl := Option.some.inj h
    show h_sz M ≤ h_sz M31 ∧ h_sl M ≤ h_sl M31
    omega
section
variable {p : Program} {l : Launch} {e : Env} {s : State} {m : MethodId} {args : Array Value} {below : List Frame} {meth : Method} {c : Code} {G : gX} {z0 y0 : Nat} {r : Option aV} {M' : hM}
def pg185 (p : Program) (l : Launch) (e : Env) (s : State) (m : MethodId) (args : Array Value) (below : List Frame) (meth : Method) (c : Code) (G : gX) (z0 y0 : Nat) (r : Option aV) (M' : hM) (h : Nat) (as : List aV) (M : hM) : Prop :=
  if h = 21 then (match as with | [.inr (.inr (some a0)), .inl v1, .inl v2, .inl v3] => xV G p l e (xRm 0 (h_sz M' - z0) (h_sl M' - y0)) s m args below meth c z0 y0 (h_sz M') (h_sl M') 4 (MQ below (xQc G r M') args s (h_sz M' - z0) (h_sl M' - y0) (xFr G)) 21 [(0, .inr (.inr (some a0))), (1, .inl v1), (2, .inl v2), (3, .inl v3)] [] M | _ => False) else
  False
theorem sb185_0 (E : xE G p (xRm 0 (h_sz M' - z0) (h_sl M' - y0)) s m args c prog_14_method_22_code "ZonedFabricModel" z0 y0 (h_sz M') (h_sl M') 4) (B : xB ym185 (some FieldType.int) meth) (a0 : Nat) (v1 : Int32) (M : hM) {res : xRes} (h : b185_0 a0 v1 M = some res) (hN : xN (pg185 p l e s m args below meth c G z0 y0 r M') r M' res) : xV G p l e (xRm 0 (h_sz M' - z0) (h_sl M' - y0)) s m args below meth c z0 y0 (h_sz M') (h_sl M') 4 (MQ below (xQc G r M') args s (h_sz M' - z0) (h_sl M' - y0) (xFr G)) 0 [(0, .inr (.inr (some a0))), (1, .inl v1)] [] M := by
  unfold b185_0 at h
  refine xv_b E [.aload_n 0] (pc' := 1) (lv' := [(0, .inr (.inr (some a0))), (1, .inl v1)]) (st' := [.inr (.inr (some a0))]) (by decide +kernel) rfl rfl ?_
  obtain ⟨o_1, h2, h⟩ := bd h
  refine xg_r E 12 16 h2 mw876 (show decode prog_14_method_22_code 1 = .ok (.getfield 43, 3) by decide +kernel) ?_
  refine xv_b E [.iload_n 1, .iconst 4, .imul] (pc' := 7) (lv' := [(0, .inr (.inr (some a0))), (1, .inl v1)]) (st' := [.inl (v1 * (4 : Int32)), .inr (.inr o_1)]) (by decide +kernel) rfl rfl ?_
  obtain ⟨v_3, h4, h⟩ := bd h
  refine xa_i E h4 (show decode prog_14_method_22_code 7 = .ok (.iaload, 1) by decide +kernel) ?_
  refine xv_b E [.istore_n 2, .aload_n 0] (pc' := 10) (lv' := [(2, .inl v_3), (0, .inr (.inr (some a0))), (1, .inl v1)]) (st' := [.inr (.inr (some a0))]) (by decide +kernel) rfl rfl ?_
  obtain ⟨o_5, h6, h⟩ := bd h
  refine xg_r E 12 17 h6 mw877 (show decode prog_14_method_22_code 10 = .ok (.getfield 46, 3) by decide +kernel) ?_
  refine xv_b E [.iload_n 1, .dup2] (pc' := 15) (lv' := [(2, .inl v_3), (0, .inr (.inr (some a0))), (1, .inl v1)]) (st' := [.inl v1, .inr (.inr o_5), .inl v1, .inr (.inr o_5)]) (by decide +kernel) rfl rfl ?_
  obtain ⟨v_7, h8, h⟩ := bd h
  refine xa_i E h8 (show decode prog_14_method_22_code 15 = .ok (.iaload, 1) by decide +kernel) ?_
  refine xv_b E [.iconst 1, .isub] (pc' := 18) (lv' := [(2, .inl v_3), (0, .inr (.inr (some a0))), (1, .inl v1)]) (st' := [.inl (v_7 - (1 : Int32)), .inl v1, .inr (.inr o_5)]) (by decide +kernel) rfl rfl ?_
  obtain ⟨M9, h10, h⟩ := bd h
  refine xs_i E h10 (show decode prog_14_method_22_code 18 = .ok (.iastore, 1) by decide +kernel) ?_
  refine xv_b E [.iconst 0, .istore_n 3] (pc' := 21) (lv' := [(3, .inl (0 : Int32)), (2, .inl v_3), (0, .inr (.inr (some a0))), (1, .inl v1)]) (st' := []) (by decide +kernel) rfl rfl ?_
  obtain rfl := Option.some.inj h
  exact xv_w hN rfl
theorem sb185_21 (E : xE G p (xRm 0 (h_sz M' - z0) (h_sl M' - y0)) s m args c prog_14_method_22_code "ZonedFabricModel" z0 y0 (h_sz M') (h_sl M') 4) (B : xB ym185 (some FieldType.int) meth) (a0 : Nat) (v1 : Int32) (v2 : Int32) (v3 : Int32) (M : hM) {res : xRes} (h : b185_21 a0 v1 v2 v3 M = some res) (hN : xN (pg185 p l e s m args below meth c G z0 y0 r M') r M' res) : xV G p l e (xRm 0 (h_sz M' - z0) (h_sl M' - y0)) s m args below meth c z0 y0 (h_sz M') (h_sl M') 4 (MQ below (xQc G r M') args s (h_sz M' - z0) (h_sl M' - y0) (xFr G)) 21 [(0, .inr (.inr (some a0))), (1, .inl v1), (2, .inl v2), (3, .inl v3)] [] M := by
  unfold b185_21 at h
  refine xv_b E [.iload_n 3, .aload_n 0] (pc' := 23) (lv' := [(0, .inr (.inr (some a0))), (1, .inl v1), (2, .inl v2), (3, .inl v3)]) (st' := [.inr (.inr (some a0)), .inl v3]) (by decide +kernel) rfl rfl ?_
  obtain ⟨o_11, h12, h⟩ := bd h
  refine xg_r E 12 17 h12 mw877 (show decode prog_14_method_22_code 23 = .ok (.getfield 46, 3) by decide +kernel) ?_
  refine xv_b E [.iload_n 1] (pc' := 27) (lv' := [(0, .inr (.inr (some a0))), (1, .inl v1), (2, .inl v2), (3, .inl v3)]) (st' := [.inl v1, .inr (.inr o_11), .inl v3]) (by decide +kernel) rfl rfl ?_
  obtain ⟨v_13, h14, h⟩ := bd h
  refine xa_i E h14 (show decode prog_14_method_22_code 27 = .ok (.iaload, 1) by decide +kernel) ?_
  by_cases q33 : v_13 ≤ v3
  · rw [if_pos q33] at h
    refine xv_icmp_ge E 59 (show decode prog_14_method_22_code 28 = .ok (.if_icmp .ge (31), 3) by decide +kernel) rfl (fun _ => ?_) (fun z => absurd q33 z)
    refine xv_b E [.aload_n 0] (pc' := 60) (lv' := [(0, .inr (.inr (some a0))), (1, .inl v1), (2, .inl v2), (3, .inl v3)]) (st' := [.inr (.inr (some a0))]) (by decide +kernel) rfl rfl ?_
    obtain ⟨o_15, h16, h⟩ := bd h
    refine xg_r E 12 20 h16 mw880 (show decode prog_14_method_22_code 60 = .ok (.getfield 55, 3) by decide +kernel) ?_
    refine xv_b E [.iload_n 1, .dup2] (pc' := 65) (lv' := [(0, .inr (.inr (some a0))), (1, .inl v1), (2, .inl v2), (3, .inl v3)]) (st' := [.inl v1, .inr (.inr o_15), .inl v1, .inr (.inr o_15)]) (by decide +kernel) rfl rfl ?_
    obtain ⟨v_17, h18, h⟩ := bd h
    refine xa_i E h18 (show decode prog_14_method_22_code 65 = .ok (.iaload, 1) by decide +kernel) ?_
    refine xv_b E [.iconst 1, .iadd] (pc' := 68) (lv' := [(0, .inr (.inr (some a0))), (1, .inl v1), (2, .inl v2), (3, .inl v3)]) (st' := [.inl (v_17 + (1 : Int32)), .inl v1, .inr (.inr o_15)]) (by decide +kernel) rfl rfl ?_
    obtain ⟨M19, h20, h⟩ := bd h
    refine xs_i E h20 (show decode prog_14_method_22_code 68 = .ok (.iastore, 1) by decide +kernel) ?_
    refine xv_b E [.aload_n 0] (pc' := 70) (lv' := [(0, .inr (.inr (some a0))), (1, .inl v1), (2, .inl v2), (3, .inl v3)]) (st' := [.inr (.inr (some a0))]) (by decide +kernel) rfl rfl ?_
    obtain ⟨o_21, h22, h⟩ := bd h
    refine xg_r E 12 21 h22 mw881 (show decode prog_14_method_22_code 70 = .ok (.getfield 58, 3) by decide +kernel) ?_
    refine xv_b E [.iload_n 1, .iconst 0] (pc' := 75) (lv' := [(0, .inr (.inr (some a0))), (1, .inl v1), (2, .inl v2), (3, .inl v3)]) (st' := [.inl (0 : Int32), .inl v1, .inr (.inr o_21)]) (by decide +kernel) rfl rfl ?_
    obtain ⟨M23, h24, h⟩ := bd h
    refine xs_i E h24 (show decode prog_14_method_22_code 75 = .ok (.iastore, 1) by decide +kernel) ?_
    refine xv_b E [.iload_n 2] (pc' := 77) (lv' := [(0, .inr (.inr (some a0))), (1, .inl v1), (2, .inl v2), (3, .inl v3)]) (st' := [.inl v2]) (by decide +kernel) rfl rfl ?_
    obtain rfl := Option.some.inj h
    obtain ⟨rfl, rfl⟩ := Prod.mk.inj (show ((some (.inl v2) : Option aV), M23) = (r, M') from hN)
    exact xv_ri E B.1 rfl B.2.1 (show decode prog_14_method_22_code 77 = .ok (.ireturn, 1) by decide +kernel) rfl rfl
  · rw [if_neg q33] at h
    refine xv_icmp_ge E 59 (show decode prog_14_method_22_code 28 = .ok (.if_icmp .ge (31), 3) by decide +kernel) rfl (fun z => absurd z q33) (fun _ => ?_)
    refine xv_b E [.aload_n 0] (pc' := 32) (lv' := [(0, .inr (.inr (some a0))), (1, .inl v1), (2, .inl v2), (3, .inl v3)]) (st' := [.inr (.inr (some a0))]) (by decide +kernel) rfl rfl ?_
    obtain ⟨o_25, h26, h⟩ := bd h
    refine xg_r E 12 16 h26 mw876 (show decode prog_14_method_22_code 32 = .ok (.getfield 43, 3) by decide +kernel) ?_
    refine xv_b E [.iload_n 1, .iconst 4, .imul, .iload_n 3, .iadd, .aload_n 0] (pc' := 41) (lv' := [(0, .inr (.inr (some a0))), (1, .inl v1), (2, .inl v2), (3, .inl v3)]) (st' := [.inr (.inr (some a0)), .inl ((v1 * (4 : Int32)) + v3), .inr (.inr o_25)]) (by decide +kernel) rfl rfl ?_
    obtain ⟨o_27, h28, h⟩ := bd h
    refine xg_r E 12 16 h28 mw876 (show decode prog_14_method_22_code 41 = .ok (.getfield 43, 3) by decide +kernel) ?_
    refine xv_b E [.iload_n 1, .iconst 4, .imul, .iload_n 3, .iadd, .iconst 1, .iadd] (pc' := 51) (lv' := [(0, .inr (.inr (some a0))), (1, .inl v1), (2, .inl v2), (3, .inl v3)]) (st' := [.inl (((v1 * (4 : Int32)) + v3) + (1 : Int32)), .inr (.inr o_27), .inl ((v1 * (4 : Int32)) + v3), .inr (.inr o_25)]) (by decide +kernel) rfl rfl ?_
    obtain ⟨v_29, h30, h⟩ := bd h
    refine xa_i E h30 (show decode prog_14_method_22_code 51 = .ok (.iaload, 1) by decide +kernel) ?_
    obtain ⟨M31, h32, h⟩ := bd h
    refine xs_i E h32 (show decode prog_14_method_22_code 52 = .ok (.iastore, 1) by decide +kernel) ?_
    refine xv_b E [.iinc 3 1] (pc' := 56) (lv' := [(3, .inl (v3 + (1 : Int32))), (0, .inr (.inr (some a0))), (1, .inl v1), (2, .inl v2)]) (st' := []) (by decide +kernel) rfl rfl ?_
    refine xv_goto E 21 (show decode prog_14_method_22_code 56 = .ok (.goto (-35), 3) by decide +kernel) rfl ?_
    obtain rfl := Option.some.inj h
    exact xv_w hN rfl
end
theorem t185 (G : gX) (l : Launch) {as : List aV} {M : hM} {r : Option aV} {M' : hM} (h : f185 as M = some (r, M')) : xM G l ym185 prog_14_method_22_code 4 (some FieldType.int) 0 as M r M' := by
  unfold f185 at h
  split at h
  · have hle : ∀ h as M res, k185 h as M = some res → h_sz M ≤ r_sz res ∧ h_sl M ≤ r_sl res := by
      intro h as M res hb
      unfold k185 at hb
      by_cases e0 : h = 21
      · rw [if_pos e0] at hb
        split at hb
        · exact lb185_21 G l _ _ _ _ M hb
        · cases hb
      · rw [if_neg e0] at hb
        cases hb
    obtain ⟨res, hx, hres⟩ := x_go_ok h
    refine xM_of (by decide) (Nat.le_of_ble_eq_true rfl) ?_ ?_
    · have e1 := lb185_0 G l _ _ M hx
      have e2 := x_go_le hle hres
      omega
    · intro p e s m args below meth c E B
      refine sb185_0 E B _ _ M hx (hres _ ?_)
      intro h as M res hb hN
      unfold k185 at hb
      unfold pg185
      by_cases e0 : h = 21
      · rw [if_pos e0] at hb ⊢
        split at hb
        · exact sb185_21 E B _ _ _ _ M hb hN
        · cases hb
      · rw [if_neg e0] at hb ⊢
        cases hb
  · cases h
/-! ZFModel.forgets(I)V -/
def ym186 : MethodName := ⟨"ZonedFabricModel", "forgets", "(I)V"⟩
theorem cd186 : xCd ym186 prog_14_method_24_code 3 none 1 := ⟨mw986, mw864, by decide, by decide, by decide +kernel⟩
def b186_0 (a0 : Nat) (v1 : Int32) (M : hM) : Option xRes :=
  some (.inr (2, [.inr (.inr (some a0)), .inl v1, .inl (0 : Int32)], M))
def b186_2 (a0 : Nat) (v1 : Int32) (v2 : Int32) (M : hM) : Option xRes :=
  if (8 : Int32) ≤ v2 then
    (Option.bind (g_r M 12 41 (some a0)) fun o_1 =>
    Option.bind (as_i M 20 o_1 v1 (0 : Int32)) fun M3 =>
    Option.bind (g_r M3 12 46 (some a0)) fun o_5 =>
    Option.bind (as_i M3 20 o_5 v1 (0 : Int32)) fun M7 =>
    some (.inl (none, M7)))
  else
    (Option.bind (g_r M 12 39 (some a0)) fun o_9 =>
    Option.bind (as_i M 20 o_9 (((8 : Int32) * v1) + v2) (0 : Int32)) fun M11 =>
    some (.inr (2, [.inr (.inr (some a0)), .inl v1, .inl (v2 + (1 : Int32))], M11)))
def k186 (h : Nat) (as : List aV) (M : hM) : Option xRes :=
  if h = 2 then (match as with | [.inr (.inr (some a0)), .inl v1, .inl v2] => b186_2 a0 v1 v2 M | _ => none) else
  none
def f186 (as : List aV) (M : hM) : xO := match as with
  | [.inr (.inr (some a0)), .inl v1] => x_go k186 (b186_0 a0 v1 M)
  | _ => none
theorem lb186_0 (G : gX) (l : Launch) (a0 : Nat) (v1 : Int32) (M : hM) {res : xRes} (h : b186_0 a0 v1 M = some res) : h_sz M ≤ r_sz res ∧ h_sl M ≤ r_sl res := by
  unfold b186_0 at h
  obtain rfl := Option.some.inj h
  show h_sz M ≤ h_sz M ∧ h_sl M ≤ h_sl M
  omega
theorem lb186_2 (G : gX) (l : Launch) (a0 : Nat) (v1 : Int32) (v2 : Int32) (M : hM) {res : xRes} (h : b186_2 a0 v1 v2 M = some res) : h_sz M ≤ r_sz res ∧ h_sl M ≤ r_sl res := by
  unfold b186_2 at h
  by_cases q13 : (8 : Int32) ≤ v2
  · rw [if_pos q13] at h
    obtain ⟨o_1, h2, h⟩ := bd h
    obtain ⟨M3, h4, h⟩ := bd h
    have eh4 := as_i_sz h4
    obtain ⟨o_5, h6, h⟩ := bd h
    obtain ⟨M7, h8, h⟩ := bd h
    have eh8 := as_i_sz h8
    obtain rfl := Option.some.inj h
    show h_sz M ≤ h_sz M7 ∧ h_sl M ≤ h_sl M7
    omega
  · rw [if_neg q13] at h
    obtain ⟨o_9, h10, h⟩ := bd h
    obtain ⟨M11, h12, h⟩ := bd h
    have eh12 := as_i_sz h12
    obtain rfl := Option.some.inj h
    show h_sz M ≤ h_sz M11 ∧ h_sl M ≤ h_sl M11
    omega
section
variable {p : Program} {l : Launch} {e : Env} {s : State} {m : MethodId} {args : Array Value} {below : List Frame} {meth : Method} {c : Code} {G : gX} {z0 y0 : Nat} {r : Option aV} {M' : hM}
def pg186 (p : Program) (l : Launch) (e : Env) (s : State) (m : MethodId) (args : Array Value) (below : List Frame) (meth : Method) (c : Code) (G : gX) (z0 y0 : Nat) (r : Option aV) (M' : hM) (h : Nat) (as : List aV) (M : hM) : Prop :=
  if h = 2 then (match as with | [.inr (.inr (some a0)), .inl v1, .inl v2] => xV G p l e (xRm 0 (h_sz M' - z0) (h_sl M' - y0)) s m args below meth c z0 y0 (h_sz M') (h_sl M') 3 (MQ below (xQc G r M') args s (h_sz M' - z0) (h_sl M' - y0) (xFr G)) 2 [(0, .inr (.inr (some a0))), (1, .inl v1), (2, .inl v2)] [] M | _ => False) else
  False
theorem sb186_0 (E : xE G p (xRm 0 (h_sz M' - z0) (h_sl M' - y0)) s m args c prog_14_method_24_code "ZonedFabricModel" z0 y0 (h_sz M') (h_sl M') 3) (B : xB ym186 none meth) (a0 : Nat) (v1 : Int32) (M : hM) {res : xRes} (h : b186_0 a0 v1 M = some res) (hN : xN (pg186 p l e s m args below meth c G z0 y0 r M') r M' res) : xV G p l e (xRm 0 (h_sz M' - z0) (h_sl M' - y0)) s m args below meth c z0 y0 (h_sz M') (h_sl M') 3 (MQ below (xQc G r M') args s (h_sz M' - z0) (h_sl M' - y0) (xFr G)) 0 [(0, .inr (.inr (some a0))), (1, .inl v1)] [] M := by
  unfold b186_0 at h
  refine xv_b E [.iconst 0, .istore_n 2] (pc' := 2) (lv' := [(2, .inl (0 : Int32)), (0, .inr (.inr (some a0))), (1, .inl v1)]) (st' := []) (by decide +kernel) rfl rfl ?_
  obtain rfl := Option.some.inj h
  exact xv_w hN rfl
theorem sb186_2 (E : xE G p (xRm 0 (h_sz M' - z0) (h_sl M' - y0)) s m args c prog_14_method_24_code "ZonedFabricModel" z0 y0 (h_sz M') (h_sl M') 3) (B : xB ym186 none meth) (a0 : Nat) (v1 : Int32) (v2 : Int32) (M : hM) {res : xRes} (h : b186_2 a0 v1 v2 M = some res) (hN : xN (pg186 p l e s m args below meth c G z0 y0 r M') r M' res) : xV G p l e (xRm 0 (h_sz M' - z0) (h_sl M' - y0)) s m args below meth c z0 y0 (h_sz M') (h_sl M') 3 (MQ below (xQc G r M') args s (h_sz M' - z0) (h_sl M' - y0) (xFr G)) 2 [(0, .inr (.inr (some a0))), (1, .inl v1), (2, .inl v2)] [] M := by
  unfold b186_2 at h
  refine xv_b E [.iload_n 2, .bipush 8] (pc' := 5) (lv' := [(0, .inr (.inr (some a0))), (1, .inl v1), (2, .inl v2)]) (st' := [.inl (8 : Int32), .inl v2]) (by decide +kernel) rfl rfl ?_
  by_cases q13 : (8 : Int32) ≤ v2
  · rw [if_pos q13] at h
    refine xv_icmp_ge E 26 (show decode prog_14_method_24_code 5 = .ok (.if_icmp .ge (21), 3) by decide +kernel) rfl (fun _ => ?_) (fun z => absurd q13 z)
    refine xv_b E [.aload_n 0] (pc' := 27) (lv' := [(0, .inr (.inr (some a0))), (1, .inl v1), (2, .inl v2)]) (st' := [.inr (.inr (some a0))]) (by decide +kernel) rfl rfl ?_
    obtain ⟨o_1, h2, h⟩ := bd h
    refine xg_r E 12 41 h2 mw900 (show decode prog_14_method_24_code 27 = .ok (.getfield 115, 3) by decide +kernel) ?_
    refine xv_b E [.iload_n 1, .iconst 0] (pc' := 32) (lv' := [(0, .inr (.inr (some a0))), (1, .inl v1), (2, .inl v2)]) (st' := [.inl (0 : Int32), .inl v1, .inr (.inr o_1)]) (by decide +kernel) rfl rfl ?_
    obtain ⟨M3, h4, h⟩ := bd h
    refine xs_i E h4 (show decode prog_14_method_24_code 32 = .ok (.iastore, 1) by decide +kernel) ?_
    refine xv_b E [.aload_n 0] (pc' := 34) (lv' := [(0, .inr (.inr (some a0))), (1, .inl v1), (2, .inl v2)]) (st' := [.inr (.inr (some a0))]) (by decide +kernel) rfl rfl ?_
    obtain ⟨o_5, h6, h⟩ := bd h
    refine xg_r E 12 46 h6 mw905 (show decode prog_14_method_24_code 34 = .ok (.getfield 131, 3) by decide +kernel) ?_
    refine xv_b E [.iload_n 1, .iconst 0] (pc' := 39) (lv' := [(0, .inr (.inr (some a0))), (1, .inl v1), (2, .inl v2)]) (st' := [.inl (0 : Int32), .inl v1, .inr (.inr o_5)]) (by decide +kernel) rfl rfl ?_
    obtain ⟨M7, h8, h⟩ := bd h
    refine xs_i E h8 (show decode prog_14_method_24_code 39 = .ok (.iastore, 1) by decide +kernel) ?_
    obtain rfl := Option.some.inj h
    obtain ⟨rfl, rfl⟩ := Prod.mk.inj (show ((none : Option aV), M7) = (r, M') from hN)
    exact xv_rv E B.1 B.2.1 (show decode prog_14_method_24_code 40 = .ok (.return_, 1) by decide +kernel) rfl rfl
  · rw [if_neg q13] at h
    refine xv_icmp_ge E 26 (show decode prog_14_method_24_code 5 = .ok (.if_icmp .ge (21), 3) by decide +kernel) rfl (fun z => absurd z q13) (fun _ => ?_)
    refine xv_b E [.aload_n 0] (pc' := 9) (lv' := [(0, .inr (.inr (some a0))), (1, .inl v1), (2, .inl v2)]) (st' := [.inr (.inr (some a0))]) (by decide +kernel) rfl rfl ?_
    obtain ⟨o_9, h10, h⟩ := bd h
    refine xg_r E 12 39 h10 mw898 (show decode prog_14_method_24_code 9 = .ok (.getfield 109, 3) by decide +kernel) ?_
    refine xv_b E [.bipush 8, .iload_n 1, .imul, .iload_n 2, .iadd, .iconst 0] (pc' := 19) (lv' := [(0, .inr (.inr (some a0))), (1, .inl v1), (2, .inl v2)]) (st' := [.inl (0 : Int32), .inl (((8 : Int32) * v1) + v2), .inr (.inr o_9)]) (by decide +kernel) rfl rfl ?_
    obtain ⟨M11, h12, h⟩ := bd h
    refine xs_i E h12 (show decode prog_14_method_24_code 19 = .ok (.iastore, 1) by decide +kernel) ?_
    refine xv_b E [.iinc 2 1] (pc' := 23) (lv' := [(2, .inl (v2 + (1 : Int32))), (0, .inr (.inr (some a0))), (1, .inl v1)]) (st' := []) (by decide +kernel) rfl rfl ?_
    refine xv_goto E 2 (show decode prog_14_method_24_code 23 = .ok (.goto (-21), 3) by decide +kernel) rfl ?_
    obtain rfl := Option.some.inj h
    exact xv_w hN rfl
end
theorem t186 (G : gX) (l : Launch) {as : List aV} {M : hM} {r : Option aV} {M' : hM} (h : f186 as M = some (r, M')) : xM G l ym186 prog_14_method_24_code 3 none 0 as M r M' := by
  unfold f186 at h
  split at h
  · have hle : ∀ h as M res, k186 h as M = some res → h_sz M ≤ r_sz res ∧ h_sl M ≤ r_sl res := by
      intro h as M res hb
      unfold k186 at hb
      by_cases e0 : h = 2
      · rw [if_pos e0] at hb
        split at hb
        · exact lb186_2 G l _ _ _ M hb
        · cases hb
      · rw [if_neg e0] at hb
        cases hb
    obtain ⟨res, hx, hres⟩ := x_go_ok h
    refine xM_of (by decide) (Nat.le_of_ble_eq_true rfl) ?_ ?_
    · have e1 := lb186_0 G l _ _ M hx
      have e2 := x_go_le hle hres
      omega
    · intro p e s m args below meth c E B
      refine sb186_0 E B _ _ M hx (hres _ ?_)
      intro h as M res hb hN
      unfold k186 at hb
      unfold pg186
      by_cases e0 : h = 2
      · rw [if_pos e0] at hb ⊢
        split at hb
        · exact sb186_2 E B _ _ _ M hb hN
        · cases hb
      · rw [if_neg e0] at hb ⊢
        cases hb
  · cases h
/-! ZFModel.empties(I)V -/
def ym187 : MethodName := ⟨"ZonedFabricModel", "empties", "(I)V"⟩
theorem cd187 : xCd ym187 prog_14_method_23_code 3 none 1 := ⟨mw987, mw864, by decide, by decide, by decide +kernel⟩
def b187_20 (a0 : Nat) (v1 : Int32) (M : hM) : Option xRes :=
  Option.bind (g_r M 12 15 (some a0)) fun o_14 =>
  Option.bind (as_i M 20 o_14 v1 (-1 : Int32)) fun M16 =>
  some (.inr (29, [.inr (.inr (some a0)), .inl v1, .inl (0 : Int32)], M16))
def b187_0 (a0 : Nat) (v1 : Int32) (M : hM) : Option xRes :=
  Option.bind (g_r M 12 15 (some a0)) fun o_1 =>
  Option.bind (al_i M 20 o_1 v1) fun v_3 =>
  if v_3 = (-1 : Int32) then
    (b187_20 a0 v1 M)
  else
    (Option.bind (g_r M 12 15 (some a0)) fun o_5 =>
    Option.bind (al_i M 20 o_5 v1) fun v_7 =>
    Option.bind (g_o M 12 (some a0)) fun b_11 =>
    Option.bind (c_V (f171 [.inr (.inr (some b_11)), .inl v_7] M)) fun q_9 =>
    b187_20 a0 v1 q_9)
def b187_29 (a0 : Nat) (v1 : Int32) (v2 : Int32) (M : hM) : Option xRes :=
  Option.bind (g_r M 12 17 (some a0)) fun o_18 =>
  Option.bind (al_i M 20 o_18 v1) fun v_20 =>
  if v_20 ≤ v2 then
    (some (.inr (61, [.inr (.inr (some a0)), .inl v1, .inl (0 : Int32)], M)))
  else
    (Option.bind (g_r M 12 16 (some a0)) fun o_22 =>
    Option.bind (al_i M 20 o_22 ((v1 * (4 : Int32)) + v2)) fun v_24 =>
    Option.bind (g_o M 12 (some a0)) fun b_28 =>
    Option.bind (c_V (f171 [.inr (.inr (some b_28)), .inl v_24] M)) fun q_26 =>
    some (.inr (29, [.inr (.inr (some a0)), .inl v1, .inl (v2 + (1 : Int32))], q_26)))
def b187_61 (a0 : Nat) (v1 : Int32) (v2 : Int32) (M : hM) : Option xRes :=
  Option.bind (g_r M 12 19 (some a0)) fun o_31 =>
  Option.bind (al_i M 20 o_31 v1) fun v_33 =>
  if v_33 ≤ v2 then
    (Option.bind (g_r M 12 17 (some a0)) fun o_35 =>
    Option.bind (as_i M 20 o_35 v1 (0 : Int32)) fun M37 =>
    Option.bind (g_r M37 12 19 (some a0)) fun o_39 =>
    Option.bind (as_i M37 20 o_39 v1 (0 : Int32)) fun M41 =>
    Option.bind (g_r M41 12 20 (some a0)) fun o_43 =>
    Option.bind (as_i M41 20 o_43 v1 (0 : Int32)) fun M45 =>
    Option.bind (g_r M45 12 21 (some a0)) fun o_47 =>
    Option.bind (as_i M45 20 o_47 v1 (0 : Int32)) fun M49 =>
    Option.bind (g_r M49 12 23 (some a0)) fun o_51 =>
    Option.bind (as_i M49 20 o_51 v1 (-1 : Int32)) fun M53 =>
    Option.bind (g_r M53 12 24 (some a0)) fun o_55 =>
    Option.bind (as_i M53 20 o_55 v1 (-1000 : Int32)) fun M57 =>
    Option.bind (g_r M57 12 25 (some a0)) fun o_59 =>
    Option.bind (as_i M57 20 o_59 v1 (0 : Int32)) fun M61 =>
    if (40 : Int32) ≤ v1 then
      (Option.bind (g_r M61 12 36 (some a0)) fun o_63 =>
      Option.bind (as_i M61 20 o_63 (v1 - (40 : Int32)) (-1000 : Int32)) fun M65 =>
      Option.bind (g_r M65 12 35 (some a0)) fun o_67 =>
      Option.bind (as_i M65 20 o_67 (v1 - (40 : Int32)) (0 : Int32)) fun M69 =>
      Option.bind (g_o M69 12 (some a0)) fun b_73 =>
      Option.bind (c_V (f186 [.inr (.inr (some b_73)), .inl (v1 - (40 : Int32))] M69)) fun q_71 =>
      some (.inl (none, q_71)))
    else
      (some (.inl (none, M61))))
  else
    (Option.bind (g_r M 12 18 (some a0)) fun o_76 =>
    Option.bind (al_i M 20 o_76 ((v1 * (32 : Int32)) + v2)) fun v_78 =>
    Option.bind (g_o M 12 (some a0)) fun b_82 =>
    Option.bind (c_V (f171 [.inr (.inr (some b_82)), .inl v_78] M)) fun q_80 =>
    some (.inr (61, [.inr (.inr (some a0)), .inl v1, .inl (v2 + (1 : Int32))], q_80)))
def k187 (h : Nat) (as : List aV) (M : hM) : Option xRes :=
  if h = 29 then (match as with | [.inr (.inr (some a0)), .inl v1, .inl v2] => b187_29 a0 v1 v2 M | _ => none) else
  if h = 61 then (match as with | [.inr (.inr (some a0)), .inl v1, .inl v2] => b187_61 a0 v1 v2 M | _ => none) else
  none
def f187 (as : List aV) (M : hM) : xO := match as with
  | [.inr (.inr (some a0)), .inl v1] => x_go k187 (b187_0 a0 v1 M)
  | _ => none
theorem lb187_20 (G : gX) (l : Launch) (a0 : Nat) (v1 : Int32) (M : hM) {res : xRes} (h : b187_20 a0 v1 M = some res) : h_sz M ≤ r_sz res ∧ h_sl M ≤ r_sl res := by
  unfold b187_20 at h
  obtain ⟨o_14, h15, h⟩ := bd h
  obtain ⟨M16, h17, h⟩ := bd h
  have eh17 := as_i_sz h17
  obtain rfl := Option.some.inj h
  show h_sz M ≤ h_sz M16 ∧ h_sl M ≤ h_sl M16
  omega
theorem lb187_0 (G : gX) (l : Launch) (a0 : Nat) (v1 : Int32) (M : hM) {res : xRes} (h : b187_0 a0 v1 M = some res) : h_sz M ≤ r_sz res ∧ h_sl M ≤ r_sl res := by
  unfold b187_0 at h
  obtain ⟨o_1, h2, h⟩ := bd h
  obtain ⟨v_3, h4, h⟩ := bd h
  by_cases q13 : v_3 = (-1 : Int32)
  · rw [if_pos q13] at h
    have e := lb187_20 G l a0 v1 M h
    omega
  · rw [if_neg q13] at h
    obtain ⟨o_5, h6, h⟩ := bd h
    obtain ⟨v_7, h8, h⟩ := bd h
    obtain ⟨b_11, h12, h⟩ := bd h
    obtain ⟨q_9, h10, h⟩ := bd h
    have eh10 := (t171 G l (c_V_some h10)).1
    have e := lb187_20 G l a0 v1 q_9 h
    omega
theorem lb187_29 (G : gX) (l : Launch) (a0 : Nat) (v1 : Int32) (v2 : Int32) (M : hM) {res : xRes} (h : b187_29 a0 v1 v2 M = some res) : h_sz M ≤ r_sz res ∧ h_sl M ≤ r_sl res := by
  unfold b187_29 at h
  obtain ⟨o_18, h19, h⟩ := bd h
  obtain ⟨v_20, h21, h⟩ := bd h
  by_cases q30 : v_20 ≤ v2
  · rw [if_pos q30] at h
    obtain rfl := Option.some.inj h
    show h_sz M ≤ h_sz M ∧ h_sl M ≤ h_sl M
    omega
  · rw [if_neg q30] at h
    obtain ⟨o_22, h23, h⟩ := bd h
    obtain ⟨v_24, h25, h⟩ := bd h
    obtain ⟨b_28, h29, h⟩ := bd h
    obtain ⟨q_26, h27, h⟩ := bd h
    have eh27 := (t171 G l (c_V_some h27)).1
    obtain rfl := Option.some.inj h
    show h_sz M ≤ h_sz q_26 ∧ h_sl M ≤ h_sl q_26
    omega
theorem lb187_61 (G : gX) (l : Launch) (a0 : Nat) (v1 : Int32) (v2 : Int32) (M : hM) {res : xRes} (h : b187_61 a0 v1 v2 M = some res) : h_sz M ≤ r_sz res ∧ h_sl M ≤ r_sl res := by
  unfold b187_61 at h
  obtain ⟨o_31, h32, h⟩ := bd h
  obtain ⟨v_33, h34, h⟩ := bd h
  by_cases q84 : v_33 ≤ v2
  · rw [if_pos q84] at h
    obtain ⟨o_35, h36, h⟩ := bd h
    obtain ⟨M37, h38, h⟩ := bd h
    have eh38 := as_i_sz h38
    obtain ⟨o_39, h40, h⟩ := bd h
    obtain ⟨M41, h42, h⟩ := bd h
    have eh42 := as_i_sz h42
    obtain ⟨o_43, h44, h⟩ := bd h
    obtain ⟨M45, h46, h⟩ := bd h
    have eh46 := as_i_sz h46
    obtain ⟨o_47, h48, h⟩ := bd h
    obtain ⟨M49, h50, h⟩ := bd h
    have eh50 := as_i_sz h50
    obtain ⟨o_51, h52, h⟩ := bd h
    obtain ⟨M53, h54, h⟩ := bd h
    have eh54 := as_i_sz h54
    obtain ⟨o_55, h56, h⟩ := bd h
    obtain ⟨M57, h58, h⟩ := bd h
    have eh58 := as_i_sz h58
    obtain ⟨o_59, h60, h⟩ := bd h
    obtain ⟨M61, h62, h⟩ := bd h
    have eh62 := as_i_sz h62
    by_cases q75 : (40 : Int32) ≤ v1
    · rw [if_pos q75] at h
      obtain ⟨o_63, h64, h⟩ := bd h
      obtain ⟨M65, h66, h⟩ := bd h
      have eh66 := as_i_sz h66
      obtain ⟨o_67, h68, h⟩ := bd h
      obtain ⟨M69, h70, h⟩ := bd h
      have eh70 := as_i_sz h70
      obtain ⟨b_73, h74, h⟩ := bd h
      obtain ⟨q_71, h72, h⟩ := bd h
      have eh72 := (t186 G l (c_V_some h72)).1
      obtain rfl := Option.some.inj h
      show h_sz M ≤ h_sz q_71 ∧ h_sl M ≤ h_sl q_71
      omega
    · rw [if_neg q75] at h
      obtain rfl := Option.some.inj h
      show h_sz M ≤ h_sz M61 ∧ h_sl M ≤ h_sl M61
      omega
  · rw [if_neg q84] at h
    obtain ⟨o_76, h77, h⟩ := bd h
    obtain ⟨v_78, h79, h⟩ := bd h
    obtain ⟨b_82, h83, h⟩ := bd h
    obtain ⟨q_80, h81, h⟩ := bd h
    have eh81 := (t171 G l (c_V_some h81)).1
    obtain rfl := Option.some.inj h
    show h_sz M ≤ h_sz q_80 ∧ h_sl M ≤ h_sl q_80
    omega
section
variable {p : Program} {l : Launch} {e : Env} {s : State} {m : MethodId} {args : Array Value} {below : List Frame} {meth : Method} {c : Code} {G : gX} {z0 y0 : Nat} {r : Option aV} {M' : hM}
def pg187 (p : Program) (l : Launch) (e : Env) (s : State) (m : MethodId) (args : Array Value) (below : List Frame) (meth : Method) (c : Code) (G : gX) (z0 y0 : Nat) (r : Option aV) (M' : hM) (h : Nat) (as : List aV) (M : hM) : Prop :=
  if h = 29 then (match as with | [.inr (.inr (some a0)), .inl v1, .inl v2] => xV G p l e (xRm 1 (h_sz M' - z0) (h_sl M' - y0)) s m args below meth c z0 y0 (h_sz M') (h_sl M') 3 (MQ below (xQc G r M') args s (h_sz M' - z0) (h_sl M' - y0) (xFr G)) 29 [(0, .inr (.inr (some a0))), (1, .inl v1), (2, .inl v2)] [] M | _ => False) else
  if h = 61 then (match as with | [.inr (.inr (some a0)), .inl v1, .inl v2] => xV G p l e (xRm 1 (h_sz M' - z0) (h_sl M' - y0)) s m args below meth c z0 y0 (h_sz M') (h_sl M') 3 (MQ below (xQc G r M') args s (h_sz M' - z0) (h_sl M' - y0) (xFr G)) 61 [(0, .inr (.inr (some a0))), (1, .inl v1), (2, .inl v2)] [] M | _ => False) else
  False
theorem sb187_20 (E : xE G p (xRm 1 (h_sz M' - z0) (h_sl M' - y0)) s m args c prog_14_method_23_code "ZonedFabricModel" z0 y0 (h_sz M') (h_sl M') 3) (B : xB ym187 none meth) (a0 : Nat) (v1 : Int32) (M : hM) {res : xRes} (h : b187_20 a0 v1 M = some res) (hN : xN (pg187 p l e s m args below meth c G z0 y0 r M') r M' res) : xV G p l e (xRm 1 (h_sz M' - z0) (h_sl M' - y0)) s m args below meth c z0 y0 (h_sz M') (h_sl M') 3 (MQ below (xQc G r M') args s (h_sz M' - z0) (h_sl M' - y0) (xFr G)) 20 [(0, .inr (.inr (some a0))), (1, .inl v1)] [] M := by
  unfold b187_20 at h
  refine xv_b E [.aload_n 0] (pc' := 21) (lv' := [(0, .inr (.inr (some a0))), (1, .inl v1)]) (st' := [.inr (.inr (some a0))]) (by decide +kernel) rfl rfl ?_
  obtain ⟨o_14, h15, h⟩ := bd h
  refine xg_r E 12 15 h15 mw875 (show decode prog_14_method_23_code 21 = .ok (.getfield 40, 3) by decide +kernel) ?_
  refine xv_b E [.iload_n 1, .iconst (-1)] (pc' := 26) (lv' := [(0, .inr (.inr (some a0))), (1, .inl v1)]) (st' := [.inl (-1 : Int32), .inl v1, .inr (.inr o_14)]) (by decide +kernel) rfl rfl ?_
  obtain ⟨M16, h17, h⟩ := bd h
  refine xs_i E h17 (show decode prog_14_method_23_code 26 = .ok (.iastore, 1) by decide +kernel) ?_
  refine xv_b E [.iconst 0, .istore_n 2] (pc' := 29) (lv' := [(2, .inl (0 : Int32)), (0, .inr (.inr (some a0))), (1, .inl v1)]) (st' := []) (by decide +kernel) rfl rfl ?_
  obtain rfl := Option.some.inj h
  exact xv_w hN rfl
theorem sb187_0 (E : xE G p (xRm 1 (h_sz M' - z0) (h_sl M' - y0)) s m args c prog_14_method_23_code "ZonedFabricModel" z0 y0 (h_sz M') (h_sl M') 3) (B : xB ym187 none meth) (a0 : Nat) (v1 : Int32) (M : hM) {res : xRes} (h : b187_0 a0 v1 M = some res) (hN : xN (pg187 p l e s m args below meth c G z0 y0 r M') r M' res) : xV G p l e (xRm 1 (h_sz M' - z0) (h_sl M' - y0)) s m args below meth c z0 y0 (h_sz M') (h_sl M') 3 (MQ below (xQc G r M') args s (h_sz M' - z0) (h_sl M' - y0) (xFr G)) 0 [(0, .inr (.inr (some a0))), (1, .inl v1)] [] M := by
  unfold b187_0 at h
  refine xv_b E [.aload_n 0] (pc' := 1) (lv' := [(0, .inr (.inr (some a0))), (1, .inl v1)]) (st' := [.inr (.inr (some a0))]) (by decide +kernel) rfl rfl ?_
  obtain ⟨o_1, h2, h⟩ := bd h
  refine xg_r E 12 15 h2 mw875 (show decode prog_14_method_23_code 1 = .ok (.getfield 40, 3) by decide +kernel) ?_
  refine xv_b E [.iload_n 1] (pc' := 5) (lv' := [(0, .inr (.inr (some a0))), (1, .inl v1)]) (st' := [.inl v1, .inr (.inr o_1)]) (by decide +kernel) rfl rfl ?_
  obtain ⟨v_3, h4, h⟩ := bd h
  refine xa_i E h4 (show decode prog_14_method_23_code 5 = .ok (.iaload, 1) by decide +kernel) ?_
  refine xv_b E [.iconst (-1)] (pc' := 7) (lv' := [(0, .inr (.inr (some a0))), (1, .inl v1)]) (st' := [.inl (-1 : Int32), .inl v_3]) (by decide +kernel) rfl rfl ?_
  by_cases q13 : v_3 = (-1 : Int32)
  · rw [if_pos q13] at h
    refine xv_icmp_eq E 20 (show decode prog_14_method_23_code 7 = .ok (.if_icmp .eq (13), 3) by decide +kernel) rfl (fun _ => ?_) (fun z => absurd q13 z)
    exact xv_w (sb187_20 E B a0 v1 M h hN) rfl
  · rw [if_neg q13] at h
    refine xv_icmp_eq E 20 (show decode prog_14_method_23_code 7 = .ok (.if_icmp .eq (13), 3) by decide +kernel) rfl (fun z => absurd z q13) (fun _ => ?_)
    refine xv_b E [.aload_n 0, .aload_n 0] (pc' := 12) (lv' := [(0, .inr (.inr (some a0))), (1, .inl v1)]) (st' := [.inr (.inr (some a0)), .inr (.inr (some a0))]) (by decide +kernel) rfl rfl ?_
    obtain ⟨o_5, h6, h⟩ := bd h
    refine xg_r E 12 15 h6 mw875 (show decode prog_14_method_23_code 12 = .ok (.getfield 40, 3) by decide +kernel) ?_
    refine xv_b E [.iload_n 1] (pc' := 16) (lv' := [(0, .inr (.inr (some a0))), (1, .inl v1)]) (st' := [.inl v1, .inr (.inr o_5), .inr (.inr (some a0))]) (by decide +kernel) rfl rfl ?_
    obtain ⟨v_7, h8, h⟩ := bd h
    refine xa_i E h8 (show decode prog_14_method_23_code 16 = .ok (.iaload, 1) by decide +kernel) ?_
    obtain ⟨b_11, h12, h⟩ := bd h
    obtain ⟨eh12, th12⟩ := g_o_some h12
    obtain ⟨q_9, h10, h⟩ := bd h
    refine xv_cvo E eh12 12 (as := [.inl v_7]) (t171 G l (c_V_some h10)) cd171 mw975 mw976 mw977 (show decode prog_14_method_23_code 17 = .ok (.invokevirtual 224, 3) by decide +kernel) th12 rfl rfl (Nat.le_of_ble_eq_true rfl) ⟨Nat.le_of_ble_eq_true rfl, Nat.le_of_ble_eq_true rfl⟩ ?_
    exact xv_w (sb187_20 E B a0 v1 q_9 h hN) rfl
theorem sb187_29 (E : xE G p (xRm 1 (h_sz M' - z0) (h_sl M' - y0)) s m args c prog_14_method_23_code "ZonedFabricModel" z0 y0 (h_sz M') (h_sl M') 3) (B : xB ym187 none meth) (a0 : Nat) (v1 : Int32) (v2 : Int32) (M : hM) {res : xRes} (h : b187_29 a0 v1 v2 M = some res) (hN : xN (pg187 p l e s m args below meth c G z0 y0 r M') r M' res) : xV G p l e (xRm 1 (h_sz M' - z0) (h_sl M' - y0)) s m args below meth c z0 y0 (h_sz M') (h_sl M') 3 (MQ below (xQc G r M') args s (h_sz M' - z0) (h_sl M' - y0) (xFr G)) 29 [(0, .inr (.inr (some a0))), (1, .inl v1), (2, .inl v2)] [] M := by
  unfold b187_29 at h
  refine xv_b E [.iload_n 2, .aload_n 0] (pc' := 31) (lv' := [(0, .inr (.inr (some a0))), (1, .inl v1), (2, .inl v2)]) (st' := [.inr (.inr (some a0)), .inl v2]) (by decide +kernel) rfl rfl ?_
  obtain ⟨o_18, h19, h⟩ := bd h
  refine xg_r E 12 17 h19 mw877 (show decode prog_14_method_23_code 31 = .ok (.getfield 46, 3) by decide +kernel) ?_
  refine xv_b E [.iload_n 1] (pc' := 35) (lv' := [(0, .inr (.inr (some a0))), (1, .inl v1), (2, .inl v2)]) (st' := [.inl v1, .inr (.inr o_18), .inl v2]) (by decide +kernel) rfl rfl ?_
  obtain ⟨v_20, h21, h⟩ := bd h
  refine xa_i E h21 (show decode prog_14_method_23_code 35 = .ok (.iaload, 1) by decide +kernel) ?_
  by_cases q30 : v_20 ≤ v2
  · rw [if_pos q30] at h
    refine xv_icmp_ge E 59 (show decode prog_14_method_23_code 36 = .ok (.if_icmp .ge (23), 3) by decide +kernel) rfl (fun _ => ?_) (fun z => absurd q30 z)
    refine xv_b E [.iconst 0, .istore_n 2] (pc' := 61) (lv' := [(2, .inl (0 : Int32)), (0, .inr (.inr (some a0))), (1, .inl v1)]) (st' := []) (by decide +kernel) rfl rfl ?_
    obtain rfl := Option.some.inj h
    exact xv_w hN rfl
  · rw [if_neg q30] at h
    refine xv_icmp_ge E 59 (show decode prog_14_method_23_code 36 = .ok (.if_icmp .ge (23), 3) by decide +kernel) rfl (fun z => absurd z q30) (fun _ => ?_)
    refine xv_b E [.aload_n 0, .aload_n 0] (pc' := 41) (lv' := [(0, .inr (.inr (some a0))), (1, .inl v1), (2, .inl v2)]) (st' := [.inr (.inr (some a0)), .inr (.inr (some a0))]) (by decide +kernel) rfl rfl ?_
    obtain ⟨o_22, h23, h⟩ := bd h
    refine xg_r E 12 16 h23 mw876 (show decode prog_14_method_23_code 41 = .ok (.getfield 43, 3) by decide +kernel) ?_
    refine xv_b E [.iload_n 1, .iconst 4, .imul, .iload_n 2, .iadd] (pc' := 49) (lv' := [(0, .inr (.inr (some a0))), (1, .inl v1), (2, .inl v2)]) (st' := [.inl ((v1 * (4 : Int32)) + v2), .inr (.inr o_22), .inr (.inr (some a0))]) (by decide +kernel) rfl rfl ?_
    obtain ⟨v_24, h25, h⟩ := bd h
    refine xa_i E h25 (show decode prog_14_method_23_code 49 = .ok (.iaload, 1) by decide +kernel) ?_
    obtain ⟨b_28, h29, h⟩ := bd h
    obtain ⟨eh29, th29⟩ := g_o_some h29
    obtain ⟨q_26, h27, h⟩ := bd h
    refine xv_cvo E eh29 12 (as := [.inl v_24]) (t171 G l (c_V_some h27)) cd171 mw975 mw976 mw977 (show decode prog_14_method_23_code 50 = .ok (.invokevirtual 224, 3) by decide +kernel) th29 rfl rfl (Nat.le_of_ble_eq_true rfl) ⟨Nat.le_of_ble_eq_true rfl, Nat.le_of_ble_eq_true rfl⟩ ?_
    refine xv_b E [.iinc 2 1] (pc' := 56) (lv' := [(2, .inl (v2 + (1 : Int32))), (0, .inr (.inr (some a0))), (1, .inl v1)]) (st' := []) (by decide +kernel) rfl rfl ?_
    refine xv_goto E 29 (show decode prog_14_method_23_code 56 = .ok (.goto (-27), 3) by decide +kernel) rfl ?_
    obtain rfl := Option.some.inj h
    exact xv_w hN rfl
theorem sb187_61 (E : xE G p (xRm 1 (h_sz M' - z0) (h_sl M' - y0)) s m args c prog_14_method_23_code "ZonedFabricModel" z0 y0 (h_sz M') (h_sl M') 3) (B : xB ym187 none meth) (a0 : Nat) (v1 : Int32) (v2 : Int32) (M : hM) {res : xRes} (h : b187_61 a0 v1 v2 M = some res) (hN : xN (pg187 p l e s m args below meth c G z0 y0 r M') r M' res) : xV G p l e (xRm 1 (h_sz M' - z0) (h_sl M' - y0)) s m args below meth c z0 y0 (h_sz M') (h_sl M') 3 (MQ below (xQc G r M') args s (h_sz M' - z0) (h_sl M' - y0) (xFr G)) 61 [(0, .inr (.inr (some a0))), (1, .inl v1), (2, .inl v2)] [] M := by
  unfold b187_61 at h
  refine xv_b E [.iload_n 2, .aload_n 0] (pc' := 63) (lv' := [(0, .inr (.inr (some a0))), (1, .inl v1), (2, .inl v2)]) (st' := [.inr (.inr (some a0)), .inl v2]) (by decide +kernel) rfl rfl ?_
  obtain ⟨o_31, h32, h⟩ := bd h
  refine xg_r E 12 19 h32 mw879 (show decode prog_14_method_23_code 63 = .ok (.getfield 52, 3) by decide +kernel) ?_
  refine xv_b E [.iload_n 1] (pc' := 67) (lv' := [(0, .inr (.inr (some a0))), (1, .inl v1), (2, .inl v2)]) (st' := [.inl v1, .inr (.inr o_31), .inl v2]) (by decide +kernel) rfl rfl ?_
  obtain ⟨v_33, h34, h⟩ := bd h
  refine xa_i E h34 (show decode prog_14_method_23_code 67 = .ok (.iaload, 1) by decide +kernel) ?_
  by_cases q84 : v_33 ≤ v2
  · rw [if_pos q84] at h
    refine xv_icmp_ge E 92 (show decode prog_14_method_23_code 68 = .ok (.if_icmp .ge (24), 3) by decide +kernel) rfl (fun _ => ?_) (fun z => absurd q84 z)
    refine xv_b E [.aload_n 0] (pc' := 93) (lv' := [(0, .inr (.inr (some a0))), (1, .inl v1), (2, .inl v2)]) (st' := [.inr (.inr (some a0))]) (by decide +kernel) rfl rfl ?_
    obtain ⟨o_35, h36, h⟩ := bd h
    refine xg_r E 12 17 h36 mw877 (show decode prog_14_method_23_code 93 = .ok (.getfield 46, 3) by decide +kernel) ?_
    refine xv_b E [.iload_n 1, .iconst 0] (pc' := 98) (lv' := [(0, .inr (.inr (some a0))), (1, .inl v1), (2, .inl v2)]) (st' := [.inl (0 : Int32), .inl v1, .inr (.inr o_35)]) (by decide +kernel) rfl rfl ?_
    obtain ⟨M37, h38, h⟩ := bd h
    refine xs_i E h38 (show decode prog_14_method_23_code 98 = .ok (.iastore, 1) by decide +kernel) ?_
    refine xv_b E [.aload_n 0] (pc' := 100) (lv' := [(0, .inr (.inr (some a0))), (1, .inl v1), (2, .inl v2)]) (st' := [.inr (.inr (some a0))]) (by decide +kernel) rfl rfl ?_
    obtain ⟨o_39, h40, h⟩ := bd h
    refine xg_r E 12 19 h40 mw879 (show decode prog_14_method_23_code 100 = .ok (.getfield 52, 3) by decide +kernel) ?_
    refine xv_b E [.iload_n 1, .iconst 0] (pc' := 105) (lv' := [(0, .inr (.inr (some a0))), (1, .inl v1), (2, .inl v2)]) (st' := [.inl (0 : Int32), .inl v1, .inr (.inr o_39)]) (by decide +kernel) rfl rfl ?_
    obtain ⟨M41, h42, h⟩ := bd h
    refine xs_i E h42 (show decode prog_14_method_23_code 105 = .ok (.iastore, 1) by decide +kernel) ?_
    refine xv_b E [.aload_n 0] (pc' := 107) (lv' := [(0, .inr (.inr (some a0))), (1, .inl v1), (2, .inl v2)]) (st' := [.inr (.inr (some a0))]) (by decide +kernel) rfl rfl ?_
    obtain ⟨o_43, h44, h⟩ := bd h
    refine xg_r E 12 20 h44 mw880 (show decode prog_14_method_23_code 107 = .ok (.getfield 55, 3) by decide +kernel) ?_
    refine xv_b E [.iload_n 1, .iconst 0] (pc' := 112) (lv' := [(0, .inr (.inr (some a0))), (1, .inl v1), (2, .inl v2)]) (st' := [.inl (0 : Int32), .inl v1, .inr (.inr o_43)]) (by decide +kernel) rfl rfl ?_
    obtain ⟨M45, h46, h⟩ := bd h
    refine xs_i E h46 (show decode prog_14_method_23_code 112 = .ok (.iastore, 1) by decide +kernel) ?_
    refine xv_b E [.aload_n 0] (pc' := 114) (lv' := [(0, .inr (.inr (some a0))), (1, .inl v1), (2, .inl v2)]) (st' := [.inr (.inr (some a0))]) (by decide +kernel) rfl rfl ?_
    obtain ⟨o_47, h48, h⟩ := bd h
    refine xg_r E 12 21 h48 mw881 (show decode prog_14_method_23_code 114 = .ok (.getfield 58, 3) by decide +kernel) ?_
    refine xv_b E [.iload_n 1, .iconst 0] (pc' := 119) (lv' := [(0, .inr (.inr (some a0))), (1, .inl v1), (2, .inl v2)]) (st' := [.inl (0 : Int32), .inl v1, .inr (.inr o_47)]) (by decide +kernel) rfl rfl ?_
    obtain ⟨M49, h50, h⟩ := bd h
    refine xs_i E h50 (show decode prog_14_method_23_code 119 = .ok (.iastore, 1) by decide +kernel) ?_
    refine xv_b E [.aload_n 0] (pc' := 121) (lv' := [(0, .inr (.inr (some a0))), (1, .inl v1), (2, .inl v2)]) (st' := [.inr (.inr (some a0))]) (by decide +kernel) rfl rfl ?_
    obtain ⟨o_51, h52, h⟩ := bd h
    refine xg_r E 12 23 h52 mw883 (show decode prog_14_method_23_code 121 = .ok (.getfield 64, 3) by decide +kernel) ?_
    refine xv_b E [.iload_n 1, .iconst (-1)] (pc' := 126) (lv' := [(0, .inr (.inr (some a0))), (1, .inl v1), (2, .inl v2)]) (st' := [.inl (-1 : Int32), .inl v1, .inr (.inr o_51)]) (by decide +kernel) rfl rfl ?_
    obtain ⟨M53, h54, h⟩ := bd h
    refine xs_i E h54 (show decode prog_14_method_23_code 126 = .ok (.iastore, 1) by decide +kernel) ?_
    refine xv_b E [.aload_n 0] (pc' := 128) (lv' := [(0, .inr (.inr (some a0))), (1, .inl v1), (2, .inl v2)]) (st' := [.inr (.inr (some a0))]) (by decide +kernel) rfl rfl ?_
    obtain ⟨o_55, h56, h⟩ := bd h
    refine xg_r E 12 24 h56 mw884 (show decode prog_14_method_23_code 128 = .ok (.getfield 67, 3) by decide +kernel) ?_
    refine xv_b E [.iload_n 1, .sipush (-1000)] (pc' := 135) (lv' := [(0, .inr (.inr (some a0))), (1, .inl v1), (2, .inl v2)]) (st' := [.inl (-1000 : Int32), .inl v1, .inr (.inr o_55)]) (by decide +kernel) rfl rfl ?_
    obtain ⟨M57, h58, h⟩ := bd h
    refine xs_i E h58 (show decode prog_14_method_23_code 135 = .ok (.iastore, 1) by decide +kernel) ?_
    refine xv_b E [.aload_n 0] (pc' := 137) (lv' := [(0, .inr (.inr (some a0))), (1, .inl v1), (2, .inl v2)]) (st' := [.inr (.inr (some a0))]) (by decide +kernel) rfl rfl ?_
    obtain ⟨o_59, h60, h⟩ := bd h
    refine xg_r E 12 25 h60 mw885 (show decode prog_14_method_23_code 137 = .ok (.getfield 70, 3) by decide +kernel) ?_
    refine xv_b E [.iload_n 1, .iconst 0] (pc' := 142) (lv' := [(0, .inr (.inr (some a0))), (1, .inl v1), (2, .inl v2)]) (st' := [.inl (0 : Int32), .inl v1, .inr (.inr o_59)]) (by decide +kernel) rfl rfl ?_
    obtain ⟨M61, h62, h⟩ := bd h
    refine xs_i E h62 (show decode prog_14_method_23_code 142 = .ok (.iastore, 1) by decide +kernel) ?_
    refine xv_b E [.iload_n 1, .bipush 40] (pc' := 146) (lv' := [(0, .inr (.inr (some a0))), (1, .inl v1), (2, .inl v2)]) (st' := [.inl (40 : Int32), .inl v1]) (by decide +kernel) rfl rfl ?_
    by_cases q75 : (40 : Int32) ≤ v1
    · rw [if_pos q75] at h
      refine xv_icmp_ge E 150 (show decode prog_14_method_23_code 146 = .ok (.if_icmp .ge (4), 3) by decide +kernel) rfl (fun _ => ?_) (fun z => absurd q75 z)
      refine xv_b E [.iload_n 1, .bipush 40, .isub, .istore_n 2, .aload_n 0] (pc' := 156) (lv' := [(2, .inl (v1 - (40 : Int32))), (0, .inr (.inr (some a0))), (1, .inl v1)]) (st' := [.inr (.inr (some a0))]) (by decide +kernel) rfl rfl ?_
      obtain ⟨o_63, h64, h⟩ := bd h
      refine xg_r E 12 36 h64 mw896 (show decode prog_14_method_23_code 156 = .ok (.getfield 103, 3) by decide +kernel) ?_
      refine xv_b E [.iload_n 2, .sipush (-1000)] (pc' := 163) (lv' := [(2, .inl (v1 - (40 : Int32))), (0, .inr (.inr (some a0))), (1, .inl v1)]) (st' := [.inl (-1000 : Int32), .inl (v1 - (40 : Int32)), .inr (.inr o_63)]) (by decide +kernel) rfl rfl ?_
      obtain ⟨M65, h66, h⟩ := bd h
      refine xs_i E h66 (show decode prog_14_method_23_code 163 = .ok (.iastore, 1) by decide +kernel) ?_
      refine xv_b E [.aload_n 0] (pc' := 165) (lv' := [(2, .inl (v1 - (40 : Int32))), (0, .inr (.inr (some a0))), (1, .inl v1)]) (st' := [.inr (.inr (some a0))]) (by decide +kernel) rfl rfl ?_
      obtain ⟨o_67, h68, h⟩ := bd h
      refine xg_r E 12 35 h68 mw895 (show decode prog_14_method_23_code 165 = .ok (.getfield 100, 3) by decide +kernel) ?_
      refine xv_b E [.iload_n 2, .iconst 0] (pc' := 170) (lv' := [(2, .inl (v1 - (40 : Int32))), (0, .inr (.inr (some a0))), (1, .inl v1)]) (st' := [.inl (0 : Int32), .inl (v1 - (40 : Int32)), .inr (.inr o_67)]) (by decide +kernel) rfl rfl ?_
      obtain ⟨M69, h70, h⟩ := bd h
      refine xs_i E h70 (show decode prog_14_method_23_code 170 = .ok (.iastore, 1) by decide +kernel) ?_
      refine xv_b E [.aload_n 0, .iload_n 2] (pc' := 173) (lv' := [(2, .inl (v1 - (40 : Int32))), (0, .inr (.inr (some a0))), (1, .inl v1)]) (st' := [.inl (v1 - (40 : Int32)), .inr (.inr (some a0))]) (by decide +kernel) rfl rfl ?_
      obtain ⟨b_73, h74, h⟩ := bd h
      obtain ⟨eh74, th74⟩ := g_o_some h74
      obtain ⟨q_71, h72, h⟩ := bd h
      refine xv_cvo E eh74 12 (as := [.inl (v1 - (40 : Int32))]) (t186 G l (c_V_some h72)) cd186 mw988 mw989 mw990 (show decode prog_14_method_23_code 173 = .ok (.invokevirtual 234, 3) by decide +kernel) th74 rfl rfl (Nat.le_of_ble_eq_true rfl) ⟨Nat.le_of_ble_eq_true rfl, Nat.le_of_ble_eq_true rfl⟩ ?_
      obtain rfl := Option.some.inj h
      obtain ⟨rfl, rfl⟩ := Prod.mk.inj (show ((none : Option aV), q_71) = (r, M') from hN)
      exact xv_rv E B.1 B.2.1 (show decode prog_14_method_23_code 176 = .ok (.return_, 1) by decide +kernel) rfl rfl
    · rw [if_neg q75] at h
      refine xv_icmp_ge E 150 (show decode prog_14_method_23_code 146 = .ok (.if_icmp .ge (4), 3) by decide +kernel) rfl (fun z => absurd z q75) (fun _ => ?_)
      obtain rfl := Option.some.inj h
      obtain ⟨rfl, rfl⟩ := Prod.mk.inj (show ((none : Option aV), M61) = (r, M') from hN)
      exact xv_rv E B.1 B.2.1 (show decode prog_14_method_23_code 149 = .ok (.return_, 1) by decide +kernel) rfl rfl
  · rw [if_neg q84] at h
    refine xv_icmp_ge E 92 (show decode prog_14_method_23_code 68 = .ok (.if_icmp .ge (24), 3) by decide +kernel) rfl (fun z => absurd z q84) (fun _ => ?_)
    refine xv_b E [.aload_n 0, .aload_n 0] (pc' := 73) (lv' := [(0, .inr (.inr (some a0))), (1, .inl v1), (2, .inl v2)]) (st' := [.inr (.inr (some a0)), .inr (.inr (some a0))]) (by decide +kernel) rfl rfl ?_
    obtain ⟨o_76, h77, h⟩ := bd h
    refine xg_r E 12 18 h77 mw878 (show decode prog_14_method_23_code 73 = .ok (.getfield 49, 3) by decide +kernel) ?_
    refine xv_b E [.iload_n 1, .bipush 32, .imul, .iload_n 2, .iadd] (pc' := 82) (lv' := [(0, .inr (.inr (some a0))), (1, .inl v1), (2, .inl v2)]) (st' := [.inl ((v1 * (32 : Int32)) + v2), .inr (.inr o_76), .inr (.inr (some a0))]) (by decide +kernel) rfl rfl ?_
    obtain ⟨v_78, h79, h⟩ := bd h
    refine xa_i E h79 (show decode prog_14_method_23_code 82 = .ok (.iaload, 1) by decide +kernel) ?_
    obtain ⟨b_82, h83, h⟩ := bd h
    obtain ⟨eh83, th83⟩ := g_o_some h83
    obtain ⟨q_80, h81, h⟩ := bd h
    refine xv_cvo E eh83 12 (as := [.inl v_78]) (t171 G l (c_V_some h81)) cd171 mw975 mw976 mw977 (show decode prog_14_method_23_code 83 = .ok (.invokevirtual 224, 3) by decide +kernel) th83 rfl rfl (Nat.le_of_ble_eq_true rfl) ⟨Nat.le_of_ble_eq_true rfl, Nat.le_of_ble_eq_true rfl⟩ ?_
    refine xv_b E [.iinc 2 1] (pc' := 89) (lv' := [(2, .inl (v2 + (1 : Int32))), (0, .inr (.inr (some a0))), (1, .inl v1)]) (st' := []) (by decide +kernel) rfl rfl ?_
    refine xv_goto E 61 (show decode prog_14_method_23_code 89 = .ok (.goto (-28), 3) by decide +kernel) rfl ?_
    obtain rfl := Option.some.inj h
    exact xv_w hN rfl
end
theorem t187 (G : gX) (l : Launch) {as : List aV} {M : hM} {r : Option aV} {M' : hM} (h : f187 as M = some (r, M')) : xM G l ym187 prog_14_method_23_code 3 none 1 as M r M' := by
  unfold f187 at h
  split at h
  · have hle : ∀ h as M res, k187 h as M = some res → h_sz M ≤ r_sz res ∧ h_sl M ≤ r_sl res := by
      intro h as M res hb
      unfold k187 at hb
      by_cases e0 : h = 29
      · rw [if_pos e0] at hb
        split at hb
        · exact lb187_29 G l _ _ _ M hb
        · cases hb
      · rw [if_neg e0] at hb
        by_cases e1 : h = 61
        · rw [if_pos e1] at hb
          split at hb
          · exact lb187_61 G l _ _ _ M hb
          · cases hb
        · rw [if_neg e1] at hb
          cases hb
    obtain ⟨res, hx, hres⟩ := x_go_ok h
    refine xM_of (by decide) (Nat.le_of_ble_eq_true rfl) ?_ ?_
    · have e1 := lb187_0 G l _ _ M hx
      have e2 := x_go_le hle hres
      omega
    · intro p e s m args below meth c E B
      refine sb187_0 E B _ _ M hx (hres _ ?_)
      intro h as M res hb hN
      unfold k187 at hb
      unfold pg187
      by_cases e0 : h = 29
      · rw [if_pos e0] at hb ⊢
        split at hb
        · exact sb187_29 E B _ _ _ M hb hN
        · cases hb
      · rw [if_neg e0] at hb ⊢
        by_cases e1 : h = 61
        · rw [if_pos e1] at hb ⊢
          split at hb
          · exact sb187_61 E B _ _ _ M hb hN
          · cases hb
        · rw [if_neg e1] at hb ⊢
          cases hb
  · cases h
