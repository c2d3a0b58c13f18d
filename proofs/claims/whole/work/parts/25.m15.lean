theorem mw1090 : Cond.code ⟨"ZonedFabricModel", "command", "(III)V"⟩ prog_14_method_66_code 10 none ∈ xTs := xTs_in (tk7 (List.mem_of_getElem? (i := 180) rfl)) rfl
theorem mw1091 : Cond.methodLink "ZonedFabricModel" 407 ⟨"ZonedFabricModel", "isLogged", "(II)Z"⟩ ∈ xTs := xTs_in (tk7 (List.mem_of_getElem? (i := 169) (by decide +kernel))) rfl
theorem mw1092 : Cond.instanceMethod ⟨"ZonedFabricModel", "isLogged", "(II)Z"⟩ ∈ xTs := xTs_in (tk7 (List.mem_of_getElem? (i := 171) (by decide +kernel))) rfl
theorem mw1093 : Cond.selects "ZonedFabricModel" ⟨"ZonedFabricModel", "isLogged", "(II)Z"⟩ ⟨"ZonedFabricModel", "isLogged", "(II)Z"⟩ ∈ xTs := xTs_in (List.mem_append_left _ (List.mem_of_getElem? (i := 113) (by decide +kernel))) rfl
theorem mw1094 : Cond.constant "ZonedFabricModel" 413 (65535) ∈ xTs := xTs_in (tk7 (List.mem_of_getElem? (i := 185) (by decide +kernel))) rfl
theorem mw1095 : Cond.code ⟨"ZonedFabricModel", "logs", "(II)V"⟩ prog_14_method_65_code 4 none ∈ xTs := xTs_in (tk7 (List.mem_of_getElem? (i := 168) rfl)) rfl
theorem mw1096 : Cond.code ⟨"ZonedFabricModel", "discGets", "(II)V"⟩ prog_14_method_63_code 5 none ∈ xTs := xTs_in (tk7 (List.mem_of_getElem? (i := 164) rfl)) rfl
theorem mw1097 : Cond.methodLink "ZonedFabricModel" 398 ⟨"ZonedFabricModel", "logs", "(II)V"⟩ ∈ xTs := xTs_in (tk7 (List.mem_of_getElem? (i := 165) (by decide +kernel))) rfl
theorem mw1098 : Cond.instanceMethod ⟨"ZonedFabricModel", "logs", "(II)V"⟩ ∈ xTs := xTs_in (tk7 (List.mem_of_getElem? (i := 167) (by decide +kernel))) rfl
theorem mw1099 : Cond.selects "ZonedFabricModel" ⟨"ZonedFabricModel", "logs", "(II)V"⟩ ⟨"ZonedFabricModel", "logs", "(II)V"⟩ ∈ xTs := xTs_in (List.mem_append_left _ (List.mem_of_getElem? (i := 112) (by decide +kernel))) rfl
theorem mw1100 : Cond.methodLink "ZonedFabricModel" 401 ⟨"ZonedFabricModel", "command", "(III)V"⟩ ∈ xTs := xTs_in (tk7 (List.mem_of_getElem? (i := 177) (by decide +kernel))) rfl
theorem mw1101 : Cond.instanceMethod ⟨"ZonedFabricModel", "command", "(III)V"⟩ ∈ xTs := xTs_in (tk7 (List.mem_of_getElem? (i := 179) (by decide +kernel))) rfl
theorem mw1102 : Cond.selects "ZonedFabricModel" ⟨"ZonedFabricModel", "command", "(III)V"⟩ ⟨"ZonedFabricModel", "command", "(III)V"⟩ ∈ xTs := xTs_in (List.mem_append_left _ (List.mem_of_getElem? (i := 115) (by decide +kernel))) rfl
theorem mw1103 : Cond.methodLink "ZonedFabricModel" 404 ⟨"ZonedFabricModel", "data", "(III)V"⟩ ∈ xTs := xTs_in (tk7 (List.mem_of_getElem? (i := 186) (by decide +kernel))) rfl
theorem mw1104 : Cond.instanceMethod ⟨"ZonedFabricModel", "data", "(III)V"⟩ ∈ xTs := xTs_in (tk7 (List.mem_of_getElem? (i := 188) (by decide +kernel))) rfl
theorem mw1105 : Cond.selects "ZonedFabricModel" ⟨"ZonedFabricModel", "data", "(III)V"⟩ ⟨"ZonedFabricModel", "data", "(III)V"⟩ ∈ xTs := xTs_in (List.mem_append_left _ (List.mem_of_getElem? (i := 117) (by decide +kernel))) rfl
theorem mw1106 : Cond.code ⟨"ZonedFabricModel", "gets", "(II)V"⟩ prog_14_method_57_code 3 none ∈ xTs := xTs_in (tk7 (List.mem_of_getElem? (i := 160) rfl)) rfl
theorem mw1107 : Cond.methodLink "ZonedFabricModel" 384 ⟨"ZonedFabricModel", "hostGets", "(II)V"⟩ ∈ xTs := xTs_in (tk7 (List.mem_of_getElem? (i := 198) (by decide +kernel))) rfl
theorem mw1108 : Cond.instanceMethod ⟨"ZonedFabricModel", "hostGets", "(II)V"⟩ ∈ xTs := xTs_in (tk7 (List.mem_of_getElem? (i := 200) (by decide +kernel))) rfl
theorem mw1109 : Cond.selects "ZonedFabricModel" ⟨"ZonedFabricModel", "hostGets", "(II)V"⟩ ⟨"ZonedFabricModel", "hostGets", "(II)V"⟩ ∈ xTs := xTs_in (List.mem_append_left _ (List.mem_of_getElem? (i := 120) (by decide +kernel))) rfl
theorem mw1110 : Cond.methodLink "ZonedFabricModel" 381 ⟨"ZonedFabricModel", "discGets", "(II)V"⟩ ∈ xTs := xTs_in (tk7 (List.mem_of_getElem? (i := 161) (by decide +kernel))) rfl
theorem mw1111 : Cond.instanceMethod ⟨"ZonedFabricModel", "discGets", "(II)V"⟩ ∈ xTs := xTs_in (tk7 (List.mem_of_getElem? (i := 163) (by decide +kernel))) rfl
theorem mw1112 : Cond.selects "ZonedFabricModel" ⟨"ZonedFabricModel", "discGets", "(II)V"⟩ ⟨"ZonedFabricModel", "discGets", "(II)V"⟩ ∈ xTs := xTs_in (List.mem_append_left _ (List.mem_of_getElem? (i := 111) (by decide +kernel))) rfl
theorem mw1113 : Cond.code ⟨"ZonedFabricModel", "welcomes", "(II)V"⟩ prog_14_method_51_code 3 none ∈ xTs := xTs_in (tk7 (List.mem_of_getElem? (i := 156) rfl)) rfl
theorem mw1114 : Cond.code ⟨"ZonedFabricModel", "nodeTicks", "(I)V"⟩ prog_14_method_50_code 5 none ∈ xTs := xTs_in (tk7 (List.mem_of_getElem? (i := 152) rfl)) rfl
theorem mw1115 : Cond.methodLink "ZonedFabricModel" 361 ⟨"ZonedFabricModel", "nodeTimers", "(I)V"⟩ ∈ xTs := xTs_in (tk7 (List.mem_of_getElem? (i := 218) (by decide +kernel))) rfl
theorem mw1116 : Cond.instanceMethod ⟨"ZonedFabricModel", "nodeTimers", "(I)V"⟩ ∈ xTs := xTs_in (tk7 (List.mem_of_getElem? (i := 220) (by decide +kernel))) rfl
theorem mw1117 : Cond.selects "ZonedFabricModel" ⟨"ZonedFabricModel", "nodeTimers", "(I)V"⟩ ⟨"ZonedFabricModel", "nodeTimers", "(I)V"⟩ ∈ xTs := xTs_in (List.mem_append_left _ (List.mem_of_getElem? (i := 125) (by decide +kernel))) rfl
theorem mw1118 : Cond.methodLink "ZonedFabricModel" 291 ⟨"ZonedFabricModel", "sendsQueued", "(I)V"⟩ ∈ xTs := xTs_in (tk7 (List.mem_of_getElem? (i := 80) (by decide +kernel))) rfl
theorem mw1119 : Cond.instanceMethod ⟨"ZonedFabricModel", "sendsQueued", "(I)V"⟩ ∈ xTs := xTs_in (tk7 (List.mem_of_getElem? (i := 82) (by decide +kernel))) rfl
theorem mw1120 : Cond.selects "ZonedFabricModel" ⟨"ZonedFabricModel", "sendsQueued", "(I)V"⟩ ⟨"ZonedFabricModel", "sendsQueued", "(I)V"⟩ ∈ xTs := xTs_in (List.mem_append_left _ (List.mem_of_getElem? (i := 91) (by decide +kernel))) rfl
theorem mw1121 : Cond.methodLink "ZonedFabricModel" 325 ⟨"ZonedFabricModel", "leaves", "(I)I"⟩ ∈ xTs := xTs_in (tk7 (List.mem_of_getElem? (i := 116) (by decide +kernel))) rfl
theorem mw1122 : Cond.instanceMethod ⟨"ZonedFabricModel", "leaves", "(I)I"⟩ ∈ xTs := xTs_in (tk7 (List.mem_of_getElem? (i := 118) (by decide +kernel))) rfl
theorem mw1123 : Cond.selects "ZonedFabricModel" ⟨"ZonedFabricModel", "leaves", "(I)I"⟩ ⟨"ZonedFabricModel", "leaves", "(I)I"⟩ ∈ xTs := xTs_in (List.mem_append_left _ (List.mem_of_getElem? (i := 100) (by decide +kernel))) rfl
theorem mw1124 : Cond.methodLink "ZonedFabricModel" 322 ⟨"ZonedFabricModel", "isTrue", "(I)Z"⟩ ∈ xTs := xTs_in (tk7 (List.mem_of_getElem? (i := 104) (by decide +kernel))) rfl
theorem mw1125 : Cond.instanceMethod ⟨"ZonedFabricModel", "isTrue", "(I)Z"⟩ ∈ xTs := xTs_in (tk7 (List.mem_of_getElem? (i := 106) (by decide +kernel))) rfl
theorem mw1126 : Cond.selects "ZonedFabricModel" ⟨"ZonedFabricModel", "isTrue", "(I)Z"⟩ ⟨"ZonedFabricModel", "isTrue", "(I)Z"⟩ ∈ xTs := xTs_in (List.mem_append_left _ (List.mem_of_getElem? (i := 97) (by decide +kernel))) rfl
theorem mw1127 : Cond.methodLink "ZonedFabricModel" 355 ⟨"ZonedFabricModel", "welcomes", "(II)V"⟩ ∈ xTs := xTs_in (tk7 (List.mem_of_getElem? (i := 153) (by decide +kernel))) rfl
theorem mw1128 : Cond.instanceMethod ⟨"ZonedFabricModel", "welcomes", "(II)V"⟩ ∈ xTs := xTs_in (tk7 (List.mem_of_getElem? (i := 155) (by decide +kernel))) rfl
theorem mw1129 : Cond.selects "ZonedFabricModel" ⟨"ZonedFabricModel", "welcomes", "(II)V"⟩ ⟨"ZonedFabricModel", "welcomes", "(II)V"⟩ ∈ xTs := xTs_in (List.mem_append_left _ (List.mem_of_getElem? (i := 109) (by decide +kernel))) rfl
theorem mw1130 : Cond.methodLink "ZonedFabricModel" 358 ⟨"ZonedFabricModel", "gets", "(II)V"⟩ ∈ xTs := xTs_in (tk7 (List.mem_of_getElem? (i := 157) (by decide +kernel))) rfl
theorem mw1131 : Cond.instanceMethod ⟨"ZonedFabricModel", "gets", "(II)V"⟩ ∈ xTs := xTs_in (tk7 (List.mem_of_getElem? (i := 159) (by decide +kernel))) rfl
theorem mw1132 : Cond.selects "ZonedFabricModel" ⟨"ZonedFabricModel", "gets", "(II)V"⟩ ⟨"ZonedFabricModel", "gets", "(II)V"⟩ ∈ xTs := xTs_in (List.mem_append_left _ (List.mem_of_getElem? (i := 110) (by decide +kernel))) rfl
theorem mw1133 : Cond.code ⟨"ZonedFabricModel", "floods", "(III)V"⟩ prog_14_method_44_code 6 none ∈ xTs := xTs_in (tk7 (List.mem_of_getElem? (i := 75) rfl)) rfl
theorem mw1134 : Cond.methodLink "ZonedFabricModel" 288 ⟨"ZonedFabricModel", "side", "(II)I"⟩ ∈ xTs := xTs_in (tk6 (List.mem_of_getElem? (i := 159) (by decide +kernel))) rfl
theorem mw1135 : Cond.instanceMethod ⟨"ZonedFabricModel", "side", "(II)I"⟩ ∈ xTs := xTs_in (tk6 (List.mem_of_getElem? (i := 161) (by decide +kernel))) rfl
theorem mw1136 : Cond.selects "ZonedFabricModel" ⟨"ZonedFabricModel", "side", "(II)I"⟩ ⟨"ZonedFabricModel", "side", "(II)I"⟩ ∈ xTs := xTs_in (List.mem_append_left _ (List.mem_of_getElem? (i := 59) (by decide +kernel))) rfl
theorem mw1137 : Cond.methodLink "ZonedFabricModel" 319 ⟨"ZonedFabricModel", "recordFrame", "(II)I"⟩ ∈ xTs := xTs_in (tk7 (List.mem_of_getElem? (i := 76) (by decide +kernel))) rfl
theorem mw1138 : Cond.instanceMethod ⟨"ZonedFabricModel", "recordFrame", "(II)I"⟩ ∈ xTs := xTs_in (tk7 (List.mem_of_getElem? (i := 78) (by decide +kernel))) rfl
theorem mw1139 : Cond.selects "ZonedFabricModel" ⟨"ZonedFabricModel", "recordFrame", "(II)I"⟩ ⟨"ZonedFabricModel", "recordFrame", "(II)I"⟩ ∈ xTs := xTs_in (List.mem_append_left _ (List.mem_of_getElem? (i := 90) (by decide +kernel))) rfl
theorem mw1140 : Cond.code ⟨"ZonedFabricModel", "issues", "(I)V"⟩ prog_14_method_43_code 9 none ∈ xTs := xTs_in (tk7 (List.mem_of_getElem? (i := 63) rfl)) rfl
theorem mw1141 : Cond.methodLink "ZonedFabricModel" 312 ⟨"ZonedFabricModel", "issue", "(II)I"⟩ ∈ xTs := xTs_in (tk7 (List.mem_of_getElem? (i := 68) (by decide +kernel))) rfl
theorem mw1142 : Cond.instanceMethod ⟨"ZonedFabricModel", "issue", "(II)I"⟩ ∈ xTs := xTs_in (tk7 (List.mem_of_getElem? (i := 70) (by decide +kernel))) rfl
theorem mw1143 : Cond.selects "ZonedFabricModel" ⟨"ZonedFabricModel", "issue", "(II)I"⟩ ⟨"ZonedFabricModel", "issue", "(II)I"⟩ ∈ xTs := xTs_in (List.mem_append_left _ (List.mem_of_getElem? (i := 88) (by decide +kernel))) rfl
theorem mw1144 : Cond.methodLink "ZonedFabricModel" 315 ⟨"ZonedFabricModel", "floods", "(III)V"⟩ ∈ xTs := xTs_in (tk7 (List.mem_of_getElem? (i := 72) (by decide +kernel))) rfl
theorem mw1145 : Cond.instanceMethod ⟨"ZonedFabricModel", "floods", "(III)V"⟩ ∈ xTs := xTs_in (tk7 (List.mem_of_getElem? (i := 74) (by decide +kernel))) rfl
theorem mw1146 : Cond.selects "ZonedFabricModel" ⟨"ZonedFabricModel", "floods", "(III)V"⟩ ⟨"ZonedFabricModel", "floods", "(III)V"⟩ ∈ xTs := xTs_in (List.mem_append_left _ (List.mem_of_getElem? (i := 89) (by decide +kernel))) rfl
/-! ZFModel.command(III)V -/
def ym216 : MethodName := ⟨"ZonedFabricModel", "command", "(III)V"⟩
theorem cd216 : xCd ym216 prog_14_method_66_code 10 none 3 := ⟨mw1090, mw864, by decide, by decide, by decide +kernel⟩
def b216_374  (M : hM) : Option xRes :=
  some (.inl (none, M))
def b216_98 (a0 : Nat) (v1 : Int32) (v2 : Int32) (M : hM) : Option xRes :=
  Option.bind (g_o M 12 (some a0)) fun b_35 =>
  Option.bind (c_V (f213 [.inr (.inr (some b_35)), .inl v1, .inl v2, .inl (0 : Int32), .inl (1 : Int32)] M)) fun q_33 =>
  b216_374  q_33
def b216_109 (a0 : Nat) (v1 : Int32) (v2 : Int32) (v3 : Int32) (v4 : Int32) (v5 : Int32) (v6 : Int32) (v7 : Int32) (M : hM) : Option xRes :=
  if v5 = 0 then
    (some (.inr (117, [.inr (.inr (some a0)), .inl v1, .inl v2, .inl v4, .inl v6, .inl v7, .inl (0 : Int32)], M)))
  else
    (Option.bind (g_r M 12 43 (some a0)) fun o_37 =>
    Option.bind (g_r M 12 43 (some a0)) fun o_39 =>
    Option.bind (al_i M 20 o_39 v1) fun v_41 =>
    Option.bind (as_i M 20 o_37 v1 ((v_41 + (1 : Int32)) &&& (65535 : Int32))) fun M43 =>
    Option.bind (g_r M43 12 46 (some a0)) fun o_45 =>
    Option.bind (al_i M43 20 o_45 v1) fun v_47 =>
    Option.bind (g_r M43 12 44 (some a0)) fun o_49 =>
    Option.bind (as_i M43 20 o_49 (((48 : Int32) * v1) + ((8 : Int32) * v_47)) v3) fun M51 =>
    Option.bind (g_r M51 12 44 (some a0)) fun o_53 =>
    Option.bind (g_o M51 12 (some a0)) fun b_57 =>
    Option.bind (c_I (f166 [.inr (.inr (some b_57)), .inl v2, .inl (7 : Int32), .inl (2 : Int32)] M51)) fun q_55 =>
    Option.bind (as_i q_55.2 20 o_53 ((((48 : Int32) * v1) + ((8 : Int32) * v_47)) + (1 : Int32)) q_55.1) fun M59 =>
    Option.bind (g_r M59 12 44 (some a0)) fun o_61 =>
    Option.bind (g_r M59 12 43 (some a0)) fun o_63 =>
    Option.bind (al_i M59 20 o_63 v1) fun v_65 =>
    Option.bind (as_i M59 20 o_61 ((((48 : Int32) * v1) + ((8 : Int32) * v_47)) + (2 : Int32)) v_65) fun M67 =>
    Option.bind (g_r M67 12 44 (some a0)) fun o_69 =>
    Option.bind (as_i M67 20 o_69 ((((48 : Int32) * v1) + ((8 : Int32) * v_47)) + (3 : Int32)) v4) fun M71 =>
    Option.bind (g_r M71 12 44 (some a0)) fun o_73 =>
    Option.bind (as_i M71 20 o_73 ((((48 : Int32) * v1) + ((8 : Int32) * v_47)) + (4 : Int32)) v6) fun M75 =>
    Option.bind (g_r M75 12 44 (some a0)) fun o_77 =>
    Option.bind (as_i M75 20 o_77 ((((48 : Int32) * v1) + ((8 : Int32) * v_47)) + (5 : Int32)) v7) fun M79 =>
    Option.bind (g_r M79 12 44 (some a0)) fun o_81 =>
    Option.bind (as_i M79 20 o_81 ((((48 : Int32) * v1) + ((8 : Int32) * v_47)) + (6 : Int32)) (0 : Int32)) fun M83 =>
    Option.bind (g_r M83 12 44 (some a0)) fun o_85 =>
    Option.bind (g_i M83 12 3 (some a0)) fun v_87 =>
    Option.bind (as_i M83 20 o_85 ((((48 : Int32) * v1) + ((8 : Int32) * v_47)) + (7 : Int32)) v_87) fun M89 =>
    Option.bind (g_r M89 12 46 (some a0)) fun o_91 =>
    Option.bind (al_i M89 20 o_91 v1) fun v_93 =>
    Option.bind (as_i M89 20 o_91 v1 (v_93 + (1 : Int32))) fun M95 =>
    Option.bind (g_r M95 12 43 (some a0)) fun o_97 =>
    Option.bind (al_i M95 20 o_97 v1) fun v_99 =>
    Option.bind (g_o M95 12 (some a0)) fun b_103 =>
    Option.bind (c_I (f212 [.inr (.inr (some b_103)), .inl v1, .inl v2, .inl (10 : Int32), .inl v_99, .inl (0 : Int32)] M95)) fun q_101 =>
    Option.bind (g_o q_101.2 12 (some a0)) fun b_107 =>
    Option.bind (c_V (f167 [.inr (.inr (some b_107)), .inl q_101.1, .inr (.inl (Int32.toInt64 v7)), .inl (1 : Int32)] q_101.2)) fun q_105 =>
    Option.bind (g_o q_105 12 (some a0)) fun b_111 =>
    Option.bind (c_I (f176 [.inr (.inr (some b_111)), .inl v1] q_105)) fun q_109 =>
    Option.bind (g_o q_109.2 12 (some a0)) fun b_115 =>
    Option.bind (c_V (f183 [.inr (.inr (some b_115)), .inl q_109.1, .inl q_101.1] q_109.2)) fun q_113 =>
    b216_374  q_113)
def b216_25 (a0 : Nat) (v1 : Int32) (v2 : Int32) (v3 : Int32) (v4 : Int32) (si0 : Int32) (M : hM) : Option xRes :=
  Option.bind (g_o M 12 (some a0)) fun b_12 =>
  Option.bind (c_I (f165 [.inr (.inr (some b_12)), .inl v2, .inl (15 : Int32)] M)) fun q_10 =>
  Option.bind (g_o q_10.2 12 (some a0)) fun b_16 =>
  Option.bind (c_I (f165 [.inr (.inr (some b_16)), .inl v2, .inl (16 : Int32)] q_10.2)) fun q_14 =>
  Option.bind (g_o q_14.2 12 (some a0)) fun b_20 =>
  Option.bind (c_I (f215 [.inr (.inr (some b_20)), .inl v1, .inl v3] q_14.2)) fun q_18 =>
  if q_18.1 = 0 then
    (b216_98 a0 v1 v2 q_18.2)
  else
    (if (1 : Int32) < v4 then
      (b216_98 a0 v1 v2 q_18.2)
    else
      (if q_14.1 < (1 : Int32) then
        (b216_98 a0 v1 v2 q_18.2)
      else
        (if (4 : Int32) < q_14.1 then
          (b216_98 a0 v1 v2 q_18.2)
        else
          (if (16 : Int32) < (q_10.1 + q_14.1) then
            (b216_98 a0 v1 v2 q_18.2)
          else
            (if si0 = 0 then
              (b216_109 a0 v1 v2 v3 v4 si0 q_10.1 q_14.1 q_18.2)
            else
              (Option.bind (g_r q_18.2 12 46 (some a0)) fun o_22 =>
              Option.bind (al_i q_18.2 20 o_22 v1) fun v_24 =>
              if v_24 = (6 : Int32) then
                (b216_98 a0 v1 v2 q_18.2)
              else
                (b216_109 a0 v1 v2 v3 v4 si0 q_10.1 q_14.1 q_18.2)))))))
def b216_0 (a0 : Nat) (v1 : Int32) (v2 : Int32) (v3 : Int32) (M : hM) : Option xRes :=
  Option.bind (g_o M 12 (some a0)) fun b_3 =>
  Option.bind (c_I (f165 [.inr (.inr (some b_3)), .inl v2, .inl (13 : Int32)] M)) fun q_1 =>
  Option.bind (g_o q_1.2 12 (some a0)) fun b_7 =>
  Option.bind (c_I (f165 [.inr (.inr (some b_7)), .inl v2, .inl (14 : Int32)] q_1.2)) fun q_5 =>
  if q_5.1 = (1 : Int32) then
    (b216_25 a0 v1 v2 v3 q_1.1 (1 : Int32) q_5.2)
  else
    (b216_25 a0 v1 v2 v3 q_1.1 (0 : Int32) q_5.2)
def b216_117 (a0 : Nat) (v1 : Int32) (v2 : Int32) (v4 : Int32) (v6 : Int32) (v7 : Int32) (v8 : Int32) (M : hM) : Option xRes :=
  if v7 ≤ v8 then
    (Option.bind (g_o M 12 (some a0)) fun b_120 =>
    Option.bind (c_V (f213 [.inr (.inr (some b_120)), .inl v1, .inl v2, .inl (0 : Int32), .inl (0 : Int32)] M)) fun q_118 =>
    b216_374  q_118)
  else
    (Option.bind (g_o M 12 (some a0)) fun b_124 =>
    Option.bind (c_I (f212 [.inr (.inr (some b_124)), .inl v1, .inl v2, .inl (11 : Int32), .inl (0 : Int32), .inl v8] M)) fun q_122 =>
    Option.bind (g_r q_122.2 12 42 (some a0)) fun o_126 =>
    Option.bind (al_l q_122.2 23 o_126 (((((32 : Int32) * v1) + ((16 : Int32) * v4)) + v6) + v8)) fun w_128 =>
    Option.bind (g_o q_122.2 12 (some a0)) fun b_132 =>
    Option.bind (c_V (f167 [.inr (.inr (some b_132)), .inl q_122.1, .inr (.inl w_128), .inl (8 : Int32)] q_122.2)) fun q_130 =>
    Option.bind (g_o q_130 12 (some a0)) fun b_136 =>
    Option.bind (c_I (f176 [.inr (.inr (some b_136)), .inl v1] q_130)) fun q_134 =>
    Option.bind (g_o q_134.2 12 (some a0)) fun b_140 =>
    Option.bind (c_V (f183 [.inr (.inr (some b_140)), .inl q_134.1, .inl q_122.1] q_134.2)) fun q_138 =>
    some (.inr (117, [.inr (.inr (some a0)), .inl v1, .inl v2, .inl v4, .inl v6, .inl v7, .inl (v8 + (1 : Int32))], q_138)))
def k216 (h : Nat) (as : List aV) (M : hM) : Option xRes :=
  if h = 117 then (match as with | [.inr (.inr (some a0)), .inl v1, .inl v2, .inl v4, .inl v6, .inl v7, .inl v8] => b216_117 a0 v1 v2 v4 v6 v7 v8 M | _ => none) else
  none
def f216 (as : List aV) (M : hM) : xO := match as with
  | [.inr (.inr (some a0)), .inl v1, .inl v2, .inl v3] => x_go k216 (b216_0 a0 v1 v2 v3 M)
  | _ => none
theorem lb216_374 (G : gX) (l : Launch)  (M : hM) {res : xRes} (h : b216_374  M = some res) : h_sz M ≤ r_sz res ∧ h_sl M ≤ r_sl res := by
  unfold b216_374 at h
  obtain rfl := Option.some.inj h
  show h_sz M ≤ h_sz M ∧ h_sl M ≤ h_sl M
  omega
theorem lb216_98 (G : gX) (l : Launch) (a0 : Nat) (v1 : Int32) (v2 : Int32) (M : hM) {res : xRes} (h : b216_98 a0 v1 v2 M = some res) : h_sz M ≤ r_sz res ∧ h_sl M ≤ r_sl res := by
  unfold b216_98 at h
  obtain ⟨b_35, h36, h⟩ := bd h
  obtain ⟨q_33, h34, h⟩ := bd h
  have eh34 := (t213 G l (c_V_some h34)).1
  have e := lb216_374 G l  q_33 h
  omega
theorem lb216_109 (G : gX) (l : Launch) (a0 : Nat) (v1 : Int32) (v2 : Int32) (v3 : Int32) (v4 : Int32) (v5 : Int32) (v6 : Int32) (v7 : Int32) (M : hM) {res : xRes} (h : b216_109 a0 v1 v2 v3 v4 v5 v6 v7 M = some res) : h_sz M ≤ r_sz res ∧ h_sl M ≤ r_sl res := by
  unfold b216_109 at h
  by_cases q117 : v5 = 0
  · rw [if_pos q117] at h
    obtain rfl := Option.some.inj h
    show h_sz M ≤ h_sz M ∧ h_sl M ≤ h_sl M
    omega
  · rw [if_neg q117] at h
    obtain ⟨o_37, h38, h⟩ := bd h
    obtain ⟨o_39, h40, h⟩ := bd h
    obtain ⟨v_41, h42, h⟩ := bd h
    obtain ⟨M43, h44, h⟩ := bd h
    have eh44 := as_i_sz h44
    obtain ⟨o_45, h46, h⟩ := bd h
    obtain ⟨v_47, h48, h⟩ := bd h
    obtain ⟨o_49, h50, h⟩ := bd h
    obtain ⟨M51, h52, h⟩ := bd h
    have eh52 := as_i_sz h52
    obtain ⟨o_53, h54, h⟩ := bd h
    obtain ⟨b_57, h58, h⟩ := bd h
    obtain ⟨q_55, h56, h⟩ := bd h
    have eh56 := (t166 G l (c_I_some h56)).1
    obtain ⟨M59, h60, h⟩ := bd h
    have eh60 := as_i_sz h60
    obtain ⟨o_61, h62, h⟩ := bd h
    obtain ⟨o_63, h64, h⟩ := bd h
    obtain ⟨v_65, h66, h⟩ := bd h
    obtain ⟨M67, h68, h⟩ := bd h
    have eh68 := as_i_sz h68
    obtain ⟨o_69, h70, h⟩ := bd h
    obtain ⟨M71, h72, h⟩ := bd h
    have eh72 := as_i_sz h72
    obtain ⟨o_73, h74, h⟩ := bd h
    obtain ⟨M75, h76, h⟩ := bd h
    have eh76 := as_i_sz h76
    obtain ⟨o_77, h78, h⟩ := bd h
    obtain ⟨M79, h80, h⟩ := bd h
    have eh80 := as_i_sz h80
    obtain ⟨o_81, h82, h⟩ := bd h
    obtain ⟨M83, h84, h⟩ := bd h
    have eh84 := as_i_sz h84
    obtain ⟨o_85, h86, h⟩ := bd h
    obtain ⟨v_87, h88, h⟩ := bd h
    obtain ⟨M89, h90, h⟩ := bd h
    have eh90 := as_i_sz h90
    obtain ⟨o_91, h92, h⟩ := bd h
    obtain ⟨v_93, h94, h⟩ := bd h
    obtain ⟨M95, h96, h⟩ := bd h
    have eh96 := as_i_sz h96
    obtain ⟨o_97, h98, h⟩ := bd h
    obtain ⟨v_99, h100, h⟩ := bd h
    obtain ⟨b_103, h104, h⟩ := bd h
    obtain ⟨q_101, h102, h⟩ := bd h
    have eh102 := (t212 G l (c_I_some h102)).1
    obtain ⟨b_107, h108, h⟩ := bd h
    obtain ⟨q_105, h106, h⟩ := bd h
    have eh106 := (t167 G l (c_V_some h106)).1
    obtain ⟨b_111, h112, h⟩ := bd h
    obtain ⟨q_109, h110, h⟩ := bd h
    have eh110 := (t176 G l (c_I_some h110)).1
    obtain ⟨b_115, h116, h⟩ := bd h
    obtain ⟨q_113, h114, h⟩ := bd h
    have eh114 := (t183 G l (c_V_some h114)).1
    have e := lb216_374 G l  q_113 h
    omega
theorem lb216_25 (G : gX) (l : Launch) (a0 : Nat) (v1 : Int32) (v2 : Int32) (v3 : Int32) (v4 : Int32) (si0 : Int32) (M : hM) {res : xRes} (h : b216_25 a0 v1 v2 v3 v4 si0 M = some res) : h_sz M ≤ r_sz res ∧ h_sl M ≤ r_sl res := by
  unfold b216_25 at h
  obtain ⟨b_12, h13, h⟩ := bd h
  obtain ⟨q_10, h11, h⟩ := bd h
  have eh11 := (t165 G l (c_I_some h11)).1
  obtain ⟨b_16, h17, h⟩ := bd h
  obtain ⟨q_14, h15, h⟩ := bd h
  have eh15 := (t165 G l (c_I_some h15)).1
  obtain ⟨b_20, h21, h⟩ := bd h
  obtain ⟨q_18, h19, h⟩ := bd h
  have eh19 := (t215 G l (c_I_some h19)).1
  by_cases q32 : q_18.1 = 0
  · rw [if_pos q32] at h
    have e := lb216_98 G l a0 v1 v2 q_18.2 h
    omega
  · rw [if_neg q32] at h
    by_cases q31 : (1 : Int32) < v4
    · rw [if_pos q31] at h
      have e := lb216_98 G l a0 v1 v2 q_18.2 h
      omega
    · rw [if_neg q31] at h
      by_cases q30 : q_14.1 < (1 : Int32)
      · rw [if_pos q30] at h
        have e := lb216_98 G l a0 v1 v2 q_18.2 h
        omega
      · rw [if_neg q30] at h
        by_cases q29 : (4 : Int32) < q_14.1
        · rw [if_pos q29] at h
          have e := lb216_98 G l a0 v1 v2 q_18.2 h
          omega
        · rw [if_neg q29] at h
          by_cases q28 : (16 : Int32) < (q_10.1 + q_14.1)
          · rw [if_pos q28] at h
            have e := lb216_98 G l a0 v1 v2 q_18.2 h
            omega
          · rw [if_neg q28] at h
            by_cases q27 : si0 = 0
            · rw [if_pos q27] at h
              have e := lb216_109 G l a0 v1 v2 v3 v4 si0 q_10.1 q_14.1 q_18.2 h
              omega
            · rw [if_neg q27] at h
              obtain ⟨o_22, h23, h⟩ := bd h
              obtain ⟨v_24, h25, h⟩ := bd h
              by_cases q26 : v_24 = (6 : Int32)
              · rw [if_pos q26] at h
                have e := lb216_98 G l a0 v1 v2 q_18.2 h
                omega
              · rw [if_neg q26] at h
                have e := lb216_109 G l a0 v1 v2 v3 v4 si0 q_10.1 q_14.1 q_18.2 h
                omega
theorem lb216_0 (G : gX) (l : Launch) (a0 : Nat) (v1 : Int32) (v2 : Int32) (v3 : Int32) (M : hM) {res : xRes} (h : b216_0 a0 v1 v2 v3 M = some res) : h_sz M ≤ r_sz res ∧ h_sl M ≤ r_sl res := by
  unfold b216_0 at h
  obtain ⟨b_3, h4, h⟩ := bd h
  obtain ⟨q_1, h2, h⟩ := bd h
  have eh2 := (t165 G l (c_I_some h2)).1
  obtain ⟨b_7, h8, h⟩ := bd h
  obtain ⟨q_5, h6, h⟩ := bd h
  have eh6 := (t165 G l (c_I_some h6)).1
  by_cases q9 : q_5.1 = (1 : Int32)
  · rw [if_pos q9] at h
    have e := lb216_25 G l a0 v1 v2 v3 q_1.1 (1 : Int32) q_5.2 h
    omega
  · rw [if_neg q9] at h
    have e := lb216_25 G l a0 v1 v2 v3 q_1.1 (0 : Int32) q_5.2 h
    omega
theorem lb216_117 (G : gX) (l : Launch) (a0 : Nat) (v1 : Int32) (v2 : Int32) (v4 : Int32) (v6 : Int32) (v7 : Int32) (v8 : Int32) (M : hM) {res : xRes} (h : b216_117 a0 v1 v2 v4 v6 v7 v8 M = some res) : h_sz M ≤ r_sz res ∧ h_sl M ≤ r_sl res := by
  unfold b216_117 at h
  by_cases q142 : v7 ≤ v8
  · rw [if_pos q142] at h
    obtain ⟨b_120, h121, h⟩ := bd h
    obtain ⟨q_118, h119, h⟩ := bd h
    have eh119 := (t213 G l (c_V_some h119)).1
    have e := lb216_374 G l  q_118 h
    omega
  · rw [if_neg q142] at h
    obtain ⟨b_124, h125, h⟩ := bd h
    obtain ⟨q_122, h123, h⟩ := bd h
    have eh123 := (t212 G l (c_I_some h123)).1
    obtain ⟨o_126, h127, h⟩ := bd h
    obtain ⟨w_128, h129, h⟩ := bd h
    obtain ⟨b_132, h133, h⟩ := bd h
    obtain ⟨q_130, h131, h⟩ := bd h
    have eh131 := (t167 G l (c_V_some h131)).1
    obtain ⟨b_136, h137, h⟩ := bd h
    obtain ⟨q_134, h135, h⟩ := bd h
    have eh135 := (t176 G l (c_I_some h135)).1
    obtain ⟨b_140, h141, h⟩ := bd h
    obtain ⟨q_138, h139, h⟩ := bd h
    have eh139 := (t183 G l (c_V_some h139)).1
    obtain rfl := Option.some.inj h
    show h_sz M ≤ h_sz q_138 ∧ h_sl M ≤ h_sl q_138
    omega
section
variable {p : Program} {l : Launch} {e : Env} {s : State} {m : MethodId} {args : Array Value} {below : List Frame} {meth : Method} {c : Code} {G : gX} {z0 y0 : Nat} {r : Option aV} {M' : hM}
def pg216 (p : Program) (l : Launch) (e : Env) (s : State) (m : MethodId) (args : Array Value) (below : List Frame) (meth : Method) (c : Code) (G : gX) (z0 y0 : Nat) (r : Option aV) (M' : hM) (h : Nat) (as : List aV) (M : hM) : Prop :=
  if h = 117 then (match as with | [.inr (.inr (some a0)), .inl v1, .inl v2, .inl v4, .inl v6, .inl v7, .inl v8] => xV G p l e (xRm 5 (h_sz M' - z0) (h_sl M' - y0)) s m args below meth c z0 y0 (h_sz M') (h_sl M') 10 (MQ below (xQc G r M') args s (h_sz M' - z0) (h_sl M' - y0) (xFr G)) 117 [(0, .inr (.inr (some a0))), (1, .inl v1), (2, .inl v2), (4, .inl v4), (6, .inl v6), (7, .inl v7), (8, .inl v8)] [] M | _ => False) else
  False
theorem sb216_374 (E : xE G p (xRm 5 (h_sz M' - z0) (h_sl M' - y0)) s m args c prog_14_method_66_code "ZonedFabricModel" z0 y0 (h_sz M') (h_sl M') 10) (B : xB ym216 none meth)  (M : hM) {res : xRes} (h : b216_374  M = some res) (hN : xN (pg216 p l e s m args below meth c G z0 y0 r M') r M' res) : xV G p l e (xRm 5 (h_sz M' - z0) (h_sl M' - y0)) s m args below meth c z0 y0 (h_sz M') (h_sl M') 10 (MQ below (xQc G r M') args s (h_sz M' - z0) (h_sl M' - y0) (xFr G)) 374 [] [] M := by
  unfold b216_374 at h
  obtain rfl := Option.some.inj h
  obtain ⟨rfl, rfl⟩ := Prod.mk.inj (show ((none : Option aV), M) = (r, M') from hN)
  exact xv_rv E B.1 B.2.1 (show decode prog_14_method_66_code 374 = .ok (.return_, 1) by decide +kernel) rfl rfl
theorem sb216_98 (E : xE G p (xRm 5 (h_sz M' - z0) (h_sl M' - y0)) s m args c prog_14_method_66_code "ZonedFabricModel" z0 y0 (h_sz M') (h_sl M') 10) (B : xB ym216 none meth) (a0 : Nat) (v1 : Int32) (v2 : Int32) (M : hM) {res : xRes} (h : b216_98 a0 v1 v2 M = some res) (hN : xN (pg216 p l e s m args below meth c G z0 y0 r M') r M' res) : xV G p l e (xRm 5 (h_sz M' - z0) (h_sl M' - y0)) s m args below meth c z0 y0 (h_sz M') (h_sl M') 10 (MQ below (xQc G r M') args s (h_sz M' - z0) (h_sl M' - y0) (xFr G)) 98 [(0, .inr (.inr (some a0))), (1, .inl v1), (2, .inl v2)] [] M := by
  unfold b216_98 at h
  refine xv_b E [.aload_n 0, .iload_n 1, .iload_n 2, .iconst 0, .iconst 1] (pc' := 103) (lv' := [(0, .inr (.inr (some a0))), (1, .inl v1), (2, .inl v2)]) (st' := [.inl (1 : Int32), .inl (0 : Int32), .inl v2, .inl v1, .inr (.inr (some a0))]) (by decide +kernel) rfl rfl ?_
  obtain ⟨b_35, h36, h⟩ := bd h
  obtain ⟨eh36, th36⟩ := g_o_some h36
  obtain ⟨q_33, h34, h⟩ := bd h
  refine xv_cvo E eh36 12 (as := [.inl v1, .inl v2, .inl (0 : Int32), .inl (1 : Int32)]) (t213 G l (c_V_some h34)) cd213 mw1086 mw1087 mw1088 (show decode prog_14_method_66_code 103 = .ok (.invokevirtual 410, 3) by decide +kernel) th36 rfl rfl (Nat.le_of_ble_eq_true rfl) ⟨Nat.le_of_ble_eq_true rfl, Nat.le_of_ble_eq_true rfl⟩ ?_
  refine xv_goto E 374 (show decode prog_14_method_66_code 106 = .ok (.goto (268), 3) by decide +kernel) rfl ?_
  exact xv_w (sb216_374 E B  q_33 h hN) rfl
theorem sb216_109 (E : xE G p (xRm 5 (h_sz M' - z0) (h_sl M' - y0)) s m args c prog_14_method_66_code "ZonedFabricModel" z0 y0 (h_sz M') (h_sl M') 10) (B : xB ym216 none meth) (a0 : Nat) (v1 : Int32) (v2 : Int32) (v3 : Int32) (v4 : Int32) (v5 : Int32) (v6 : Int32) (v7 : Int32) (M : hM) {res : xRes} (h : b216_109 a0 v1 v2 v3 v4 v5 v6 v7 M = some res) (hN : xN (pg216 p l e s m args below meth c G z0 y0 r M') r M' res) : xV G p l e (xRm 5 (h_sz M' - z0) (h_sl M' - y0)) s m args below meth c z0 y0 (h_sz M') (h_sl M') 10 (MQ below (xQc G r M') args s (h_sz M' - z0) (h_sl M' - y0) (xFr G)) 109 [(0, .inr (.inr (some a0))), (1, .inl v1), (2, .inl v2), (3, .inl v3), (4, .inl v4), (5, .inl v5), (6, .inl v6), (7, .inl v7)] [] M := by
  unfold b216_109 at h
  refine xv_b E [.iload 5] (pc' := 111) (lv' := [(0, .inr (.inr (some a0))), (1, .inl v1), (2, .inl v2), (3, .inl v3), (4, .inl v4), (5, .inl v5), (6, .inl v6), (7, .inl v7)]) (st' := [.inl v5]) (by decide +kernel) rfl rfl ?_
  by_cases q117 : v5 = 0
  · rw [if_pos q117] at h
    refine xv_if_ne E 194 (show decode prog_14_method_66_code 111 = .ok (.ifCond .ne (83), 3) by decide +kernel) rfl (fun z => absurd q117 z) (fun _ => ?_)
    refine xv_b E [.iconst 0, .istore 8] (pc' := 117) (lv' := [(8, .inl (0 : Int32)), (0, .inr (.inr (some a0))), (1, .inl v1), (2, .inl v2), (3, .inl v3), (4, .inl v4), (5, .inl v5), (6, .inl v6), (7, .inl v7)]) (st' := []) (by decide +kernel) rfl rfl ?_
    obtain rfl := Option.some.inj h
    exact xv_w hN rfl
  · rw [if_neg q117] at h
    refine xv_if_ne E 194 (show decode prog_14_method_66_code 111 = .ok (.ifCond .ne (83), 3) by decide +kernel) rfl (fun _ => ?_) (fun z => absurd z q117)
    refine xv_b E [.aload_n 0] (pc' := 195) (lv' := [(0, .inr (.inr (some a0))), (1, .inl v1), (2, .inl v2), (3, .inl v3), (4, .inl v4), (5, .inl v5), (6, .inl v6), (7, .inl v7)]) (st' := [.inr (.inr (some a0))]) (by decide +kernel) rfl rfl ?_
    obtain ⟨o_37, h38, h⟩ := bd h
    refine xg_r E 12 43 h38 mw902 (show decode prog_14_method_66_code 195 = .ok (.getfield 122, 3) by decide +kernel) ?_
    refine xv_b E [.iload_n 1, .aload_n 0] (pc' := 200) (lv' := [(0, .inr (.inr (some a0))), (1, .inl v1), (2, .inl v2), (3, .inl v3), (4, .inl v4), (5, .inl v5), (6, .inl v6), (7, .inl v7)]) (st' := [.inr (.inr (some a0)), .inl v1, .inr (.inr o_37)]) (by decide +kernel) rfl rfl ?_
    obtain ⟨o_39, h40, h⟩ := bd h
    refine xg_r E 12 43 h40 mw902 (show decode prog_14_method_66_code 200 = .ok (.getfield 122, 3) by decide +kernel) ?_
    refine xv_b E [.iload_n 1] (pc' := 204) (lv' := [(0, .inr (.inr (some a0))), (1, .inl v1), (2, .inl v2), (3, .inl v3), (4, .inl v4), (5, .inl v5), (6, .inl v6), (7, .inl v7)]) (st' := [.inl v1, .inr (.inr o_39), .inl v1, .inr (.inr o_37)]) (by decide +kernel) rfl rfl ?_
    obtain ⟨v_41, h42, h⟩ := bd h
    refine xa_i E h42 (show decode prog_14_method_66_code 204 = .ok (.iaload, 1) by decide +kernel) ?_
    refine xv_b E [.iconst 1, .iadd] (pc' := 207) (lv' := [(0, .inr (.inr (some a0))), (1, .inl v1), (2, .inl v2), (3, .inl v3), (4, .inl v4), (5, .inl v5), (6, .inl v6), (7, .inl v7)]) (st' := [.inl (v_41 + (1 : Int32)), .inl v1, .inr (.inr o_37)]) (by decide +kernel) rfl rfl ?_
    refine xv_ldcw E (65535 : Int32) mw1094 (show decode prog_14_method_66_code 207 = .ok (.ldc_w 413, 3) by decide +kernel) ?_
    refine xv_b E [.iand] (pc' := 211) (lv' := [(0, .inr (.inr (some a0))), (1, .inl v1), (2, .inl v2), (3, .inl v3), (4, .inl v4), (5, .inl v5), (6, .inl v6), (7, .inl v7)]) (st' := [.inl ((v_41 + (1 : Int32)) &&& (65535 : Int32)), .inl v1, .inr (.inr o_37)]) (by decide +kernel) rfl rfl ?_
    obtain ⟨M43, h44, h⟩ := bd h
    refine xs_i E h44 (show decode prog_14_method_66_code 211 = .ok (.iastore, 1) by decide +kernel) ?_
    refine xv_b E [.bipush 48, .iload_n 1, .imul, .bipush 8, .aload_n 0] (pc' := 219) (lv' := [(0, .inr (.inr (some a0))), (1, .inl v1), (2, .inl v2), (3, .inl v3), (4, .inl v4), (5, .inl v5), (6, .inl v6), (7, .inl v7)]) (st' := [.inr (.inr (some a0)), .inl (8 : Int32), .inl ((48 : Int32) * v1)]) (by decide +kernel) rfl rfl ?_
    obtain ⟨o_45, h46, h⟩ := bd h
    refine xg_r E 12 46 h46 mw905 (show decode prog_14_method_66_code 219 = .ok (.getfield 131, 3) by decide +kernel) ?_
    refine xv_b E [.iload_n 1] (pc' := 223) (lv' := [(0, .inr (.inr (some a0))), (1, .inl v1), (2, .inl v2), (3, .inl v3), (4, .inl v4), (5, .inl v5), (6, .inl v6), (7, .inl v7)]) (st' := [.inl v1, .inr (.inr o_45), .inl (8 : Int32), .inl ((48 : Int32) * v1)]) (by decide +kernel) rfl rfl ?_
    obtain ⟨v_47, h48, h⟩ := bd h
    refine xa_i E h48 (show decode prog_14_method_66_code 223 = .ok (.iaload, 1) by decide +kernel) ?_
    refine xv_b E [.imul, .iadd, .istore 8, .aload_n 0] (pc' := 229) (lv' := [(8, .inl (((48 : Int32) * v1) + ((8 : Int32) * v_47))), (0, .inr (.inr (some a0))), (1, .inl v1), (2, .inl v2), (3, .inl v3), (4, .inl v4), (5, .inl v5), (6, .inl v6), (7, .inl v7)]) (st' := [.inr (.inr (some a0))]) (by decide +kernel) rfl rfl ?_
    obtain ⟨o_49, h50, h⟩ := bd h
    refine xg_r E 12 44 h50 mw903 (show decode prog_14_method_66_code 229 = .ok (.getfield 125, 3) by decide +kernel) ?_
    refine xv_b E [.iload 8, .iload_n 3] (pc' := 235) (lv' := [(8, .inl (((48 : Int32) * v1) + ((8 : Int32) * v_47))), (0, .inr (.inr (some a0))), (1, .inl v1), (2, .inl v2), (3, .inl v3), (4, .inl v4), (5, .inl v5), (6, .inl v6), (7, .inl v7)]) (st' := [.inl v3, .inl (((48 : Int32) * v1) + ((8 : Int32) * v_47)), .inr (.inr o_49)]) (by decide +kernel) rfl rfl ?_
    obtain ⟨M51, h52, h⟩ := bd h
    refine xs_i E h52 (show decode prog_14_method_66_code 235 = .ok (.iastore, 1) by decide +kernel) ?_
    refine xv_b E [.aload_n 0] (pc' := 237) (lv' := [(8, .inl (((48 : Int32) * v1) + ((8 : Int32) * v_47))), (0, .inr (.inr (some a0))), (1, .inl v1), (2, .inl v2), (3, .inl v3), (4, .inl v4), (5, .inl v5), (6, .inl v6), (7, .inl v7)]) (st' := [.inr (.inr (some a0))]) (by decide +kernel) rfl rfl ?_
    obtain ⟨o_53, h54, h⟩ := bd h
    refine xg_r E 12 44 h54 mw903 (show decode prog_14_method_66_code 237 = .ok (.getfield 125, 3) by decide +kernel) ?_
    refine xv_b E [.iload 8, .iconst 1, .iadd, .aload_n 0, .iload_n 2, .bipush 7, .iconst 2] (pc' := 249) (lv' := [(8, .inl (((48 : Int32) * v1) + ((8 : Int32) * v_47))), (0, .inr (.inr (some a0))), (1, .inl v1), (2, .inl v2), (3, .inl v3), (4, .inl v4), (5, .inl v5), (6, .inl v6), (7, .inl v7)]) (st' := [.inl (2 : Int32), .inl (7 : Int32), .inl v2, .inr (.inr (some a0)), .inl ((((48 : Int32) * v1) + ((8 : Int32) * v_47)) + (1 : Int32)), .inr (.inr o_53)]) (by decide +kernel) rfl rfl ?_
    obtain ⟨b_57, h58, h⟩ := bd h
    obtain ⟨eh58, th58⟩ := g_o_some h58
    obtain ⟨q_55, h56, h⟩ := bd h
    refine xv_cvo E eh58 12 (as := [.inl v2, .inl (7 : Int32), .inl (2 : Int32)]) (t166 G l (c_I_some h56)) cd166 mw947 mw948 mw949 (show decode prog_14_method_66_code 249 = .ok (.invokevirtual 198, 3) by decide +kernel) th58 rfl rfl (Nat.le_of_ble_eq_true rfl) ⟨Nat.le_of_ble_eq_true rfl, Nat.le_of_ble_eq_true rfl⟩ ?_
    obtain ⟨M59, h60, h⟩ := bd h
    refine xs_i E h60 (show decode prog_14_method_66_code 252 = .ok (.iastore, 1) by decide +kernel) ?_
    refine xv_b E [.aload_n 0] (pc' := 254) (lv' := [(8, .inl (((48 : Int32) * v1) + ((8 : Int32) * v_47))), (0, .inr (.inr (some a0))), (1, .inl v1), (2, .inl v2), (3, .inl v3), (4, .inl v4), (5, .inl v5), (6, .inl v6), (7, .inl v7)]) (st' := [.inr (.inr (some a0))]) (by decide +kernel) rfl rfl ?_
    obtain ⟨o_61, h62, h⟩ := bd h
    refine xg_r E 12 44 h62 mw903 (show decode prog_14_method_66_code 254 = .ok (.getfield 125, 3) by decide +kernel) ?_
    refine xv_b E [.iload 8, .iconst 2, .iadd, .aload_n 0] (pc' := 262) (lv' := [(8, .inl (((48 : Int32) * v1) + ((8 : Int32) * v_47))), (0, .inr (.inr (some a0))), (1, .inl v1), (2, .inl v2), (3, .inl v3), (4, .inl v4), (5, .inl v5), (6, .inl v6), (7, .inl v7)]) (st' := [.inr (.inr (some a0)), .inl ((((48 : Int32) * v1) + ((8 : Int32) * v_47)) + (2 : Int32)), .inr (.inr o_61)]) (by decide +kernel) rfl rfl ?_
    obtain ⟨o_63, h64, h⟩ := bd h
    refine xg_r E 12 43 h64 mw902 (show decode prog_14_method_66_code 262 = .ok (.getfield 122, 3) by decide +kernel) ?_
    refine xv_b E [.iload_n 1] (pc' := 266) (lv' := [(8, .inl (((48 : Int32) * v1) + ((8 : Int32) * v_47))), (0, .inr (.inr (some a0))), (1, .inl v1), (2, .inl v2), (3, .inl v3), (4, .inl v4), (5, .inl v5), (6, .inl v6), (7, .inl v7)]) (st' := [.inl v1, .inr (.inr o_63), .inl ((((48 : Int32) * v1) + ((8 : Int32) * v_47)) + (2 : Int32)), .inr (.inr o_61)]) (by decide +kernel) rfl rfl ?_
    obtain ⟨v_65, h66, h⟩ := bd h
    refine xa_i E h66 (show decode prog_14_method_66_code 266 = .ok (.iaload, 1) by decide +kernel) ?_
    obtain ⟨M67, h68, h⟩ := bd h
    refine xs_i E h68 (show decode prog_14_method_66_code 267 = .ok (.iastore, 1) by decide +kernel) ?_
    refine xv_b E [.aload_n 0] (pc' := 269) (lv' := [(8, .inl (((48 : Int32) * v1) + ((8 : Int32) * v_47))), (0, .inr (.inr (some a0))), (1, .inl v1), (2, .inl v2), (3, .inl v3), (4, .inl v4), (5, .inl v5), (6, .inl v6), (7, .inl v7)]) (st' := [.inr (.inr (some a0))]) (by decide +kernel) rfl rfl ?_
    obtain ⟨o_69, h70, h⟩ := bd h
    refine xg_r E 12 44 h70 mw903 (show decode prog_14_method_66_code 269 = .ok (.getfield 125, 3) by decide +kernel) ?_
    refine xv_b E [.iload 8, .iconst 3, .iadd, .iload 4] (pc' := 278) (lv' := [(8, .inl (((48 : Int32) * v1) + ((8 : Int32) * v_47))), (0, .inr (.inr (some a0))), (1, .inl v1), (2, .inl v2), (3, .inl v3), (4, .inl v4), (5, .inl v5), (6, .inl v6), (7, .inl v7)]) (st' := [.inl v4, .inl ((((48 : Int32) * v1) + ((8 : Int32) * v_47)) + (3 : Int32)), .inr (.inr o_69)]) (by decide +kernel) rfl rfl ?_
    obtain ⟨M71, h72, h⟩ := bd h
    refine xs_i E h72 (show decode prog_14_method_66_code 278 = .ok (.iastore, 1) by decide +kernel) ?_
    refine xv_b E [.aload_n 0] (pc' := 280) (lv' := [(8, .inl (((48 : Int32) * v1) + ((8 : Int32) * v_47))), (0, .inr (.inr (some a0))), (1, .inl v1), (2, .inl v2), (3, .inl v3), (4, .inl v4), (5, .inl v5), (6, .inl v6), (7, .inl v7)]) (st' := [.inr (.inr (some a0))]) (by decide +kernel) rfl rfl ?_
    obtain ⟨o_73, h74, h⟩ := bd h
    refine xg_r E 12 44 h74 mw903 (show decode prog_14_method_66_code 280 = .ok (.getfield 125, 3) by decide +kernel) ?_
    refine xv_b E [.iload 8, .iconst 4, .iadd, .iload 6] (pc' := 289) (lv' := [(8, .inl (((48 : Int32) * v1) + ((8 : Int32) * v_47))), (0, .inr (.inr (some a0))), (1, .inl v1), (2, .inl v2), (3, .inl v3), (4, .inl v4), (5, .inl v5), (6, .inl v6), (7, .inl v7)]) (st' := [.inl v6, .inl ((((48 : Int32) * v1) + ((8 : Int32) * v_47)) + (4 : Int32)), .inr (.inr o_73)]) (by decide +kernel) rfl rfl ?_
    obtain ⟨M75, h76, h⟩ := bd h
    refine xs_i E h76 (show decode prog_14_method_66_code 289 = .ok (.iastore, 1) by decide +kernel) ?_
    refine xv_b E [.aload_n 0] (pc' := 291) (lv' := [(8, .inl (((48 : Int32) * v1) + ((8 : Int32) * v_47))), (0, .inr (.inr (some a0))), (1, .inl v1), (2, .inl v2), (3, .inl v3), (4, .inl v4), (5, .inl v5), (6, .inl v6), (7, .inl v7)]) (st' := [.inr (.inr (some a0))]) (by decide +kernel) rfl rfl ?_
    obtain ⟨o_77, h78, h⟩ := bd h
    refine xg_r E 12 44 h78 mw903 (show decode prog_14_method_66_code 291 = .ok (.getfield 125, 3) by decide +kernel) ?_
    refine xv_b E [.iload 8, .iconst 5, .iadd, .iload 7] (pc' := 300) (lv' := [(8, .inl (((48 : Int32) * v1) + ((8 : Int32) * v_47))), (0, .inr (.inr (some a0))), (1, .inl v1), (2, .inl v2), (3, .inl v3), (4, .inl v4), (5, .inl v5), (6, .inl v6), (7, .inl v7)]) (st' := [.inl v7, .inl ((((48 : Int32) * v1) + ((8 : Int32) * v_47)) + (5 : Int32)), .inr (.inr o_77)]) (by decide +kernel) rfl rfl ?_
    obtain ⟨M79, h80, h⟩ := bd h
    refine xs_i E h80 (show decode prog_14_method_66_code 300 = .ok (.iastore, 1) by decide +kernel) ?_
    refine xv_b E [.aload_n 0] (pc' := 302) (lv' := [(8, .inl (((48 : Int32) * v1) + ((8 : Int32) * v_47))), (0, .inr (.inr (some a0))), (1, .inl v1), (2, .inl v2), (3, .inl v3), (4, .inl v4), (5, .inl v5), (6, .inl v6), (7, .inl v7)]) (st' := [.inr (.inr (some a0))]) (by decide +kernel) rfl rfl ?_
    obtain ⟨o_81, h82, h⟩ := bd h
    refine xg_r E 12 44 h82 mw903 (show decode prog_14_method_66_code 302 = .ok (.getfield 125, 3) by decide +kernel) ?_
    refine xv_b E [.iload 8, .bipush 6, .iadd, .iconst 0] (pc' := 311) (lv' := [(8, .inl (((48 : Int32) * v1) + ((8 : Int32) * v_47))), (0, .inr (.inr (some a0))), (1, .inl v1), (2, .inl v2), (3, .inl v3), (4, .inl v4), (5, .inl v5), (6, .inl v6), (7, .inl v7)]) (st' := [.inl (0 : Int32), .inl ((((48 : Int32) * v1) + ((8 : Int32) * v_47)) + (6 : Int32)), .inr (.inr o_81)]) (by decide +kernel) rfl rfl ?_
    obtain ⟨M83, h84, h⟩ := bd h
    refine xs_i E h84 (show decode prog_14_method_66_code 311 = .ok (.iastore, 1) by decide +kernel) ?_
    refine xv_b E [.aload_n 0] (pc' := 313) (lv' := [(8, .inl (((48 : Int32) * v1) + ((8 : Int32) * v_47))), (0, .inr (.inr (some a0))), (1, .inl v1), (2, .inl v2), (3, .inl v3), (4, .inl v4), (5, .inl v5), (6, .inl v6), (7, .inl v7)]) (st' := [.inr (.inr (some a0))]) (by decide +kernel) rfl rfl ?_
    obtain ⟨o_85, h86, h⟩ := bd h
    refine xg_r E 12 44 h86 mw903 (show decode prog_14_method_66_code 313 = .ok (.getfield 125, 3) by decide +kernel) ?_
    refine xv_b E [.iload 8, .bipush 7, .iadd, .aload_n 0] (pc' := 322) (lv' := [(8, .inl (((48 : Int32) * v1) + ((8 : Int32) * v_47))), (0, .inr (.inr (some a0))), (1, .inl v1), (2, .inl v2), (3, .inl v3), (4, .inl v4), (5, .inl v5), (6, .inl v6), (7, .inl v7)]) (st' := [.inr (.inr (some a0)), .inl ((((48 : Int32) * v1) + ((8 : Int32) * v_47)) + (7 : Int32)), .inr (.inr o_85)]) (by decide +kernel) rfl rfl ?_
    obtain ⟨v_87, h88, h⟩ := bd h
    refine xg_i E 12 3 h88 mw1047 (show decode prog_14_method_66_code 322 = .ok (.getfield 276, 3) by decide +kernel) ?_
    obtain ⟨M89, h90, h⟩ := bd h
    refine xs_i E h90 (show decode prog_14_method_66_code 325 = .ok (.iastore, 1) by decide +kernel) ?_
    refine xv_b E [.aload_n 0] (pc' := 327) (lv' := [(8, .inl (((48 : Int32) * v1) + ((8 : Int32) * v_47))), (0, .inr (.inr (some a0))), (1, .inl v1), (2, .inl v2), (3, .inl v3), (4, .inl v4), (5, .inl v5), (6, .inl v6), (7, .inl v7)]) (st' := [.inr (.inr (some a0))]) (by decide +kernel) rfl rfl ?_
    obtain ⟨o_91, h92, h⟩ := bd h
    refine xg_r E 12 46 h92 mw905 (show decode prog_14_method_66_code 327 = .ok (.getfield 131, 3) by decide +kernel) ?_
    refine xv_b E [.iload_n 1, .dup2] (pc' := 332) (lv' := [(8, .inl (((48 : Int32) * v1) + ((8 : Int32) * v_47))), (0, .inr (.inr (some a0))), (1, .inl v1), (2, .inl v2), (3, .inl v3), (4, .inl v4), (5, .inl v5), (6, .inl v6), (7, .inl v7)]) (st' := [.inl v1, .inr (.inr o_91), .inl v1, .inr (.inr o_91)]) (by decide +kernel) rfl rfl ?_
    obtain ⟨v_93, h94, h⟩ := bd h
    refine xa_i E h94 (show decode prog_14_method_66_code 332 = .ok (.iaload, 1) by decide +kernel) ?_
    refine xv_b E [.iconst 1, .iadd] (pc' := 335) (lv' := [(8, .inl (((48 : Int32) * v1) + ((8 : Int32) * v_47))), (0, .inr (.inr (some a0))), (1, .inl v1), (2, .inl v2), (3, .inl v3), (4, .inl v4), (5, .inl v5), (6, .inl v6), (7, .inl v7)]) (st' := [.inl (v_93 + (1 : Int32)), .inl v1, .inr (.inr o_91)]) (by decide +kernel) rfl rfl ?_
    obtain ⟨M95, h96, h⟩ := bd h
    refine xs_i E h96 (show decode prog_14_method_66_code 335 = .ok (.iastore, 1) by decide +kernel) ?_
    refine xv_b E [.aload_n 0, .iload_n 1, .iload_n 2, .bipush 10, .aload_n 0] (pc' := 342) (lv' := [(8, .inl (((48 : Int32) * v1) + ((8 : Int32) * v_47))), (0, .inr (.inr (some a0))), (1, .inl v1), (2, .inl v2), (3, .inl v3), (4, .inl v4), (5, .inl v5), (6, .inl v6), (7, .inl v7)]) (st' := [.inr (.inr (some a0)), .inl (10 : Int32), .inl v2, .inl v1, .inr (.inr (some a0))]) (by decide +kernel) rfl rfl ?_
    obtain ⟨o_97, h98, h⟩ := bd h
    refine xg_r E 12 43 h98 mw902 (show decode prog_14_method_66_code 342 = .ok (.getfield 122, 3) by decide +kernel) ?_
    refine xv_b E [.iload_n 1] (pc' := 346) (lv' := [(8, .inl (((48 : Int32) * v1) + ((8 : Int32) * v_47))), (0, .inr (.inr (some a0))), (1, .inl v1), (2, .inl v2), (3, .inl v3), (4, .inl v4), (5, .inl v5), (6, .inl v6), (7, .inl v7)]) (st' := [.inl v1, .inr (.inr o_97), .inl (10 : Int32), .inl v2, .inl v1, .inr (.inr (some a0))]) (by decide +kernel) rfl rfl ?_
    obtain ⟨v_99, h100, h⟩ := bd h
    refine xa_i E h100 (show decode prog_14_method_66_code 346 = .ok (.iaload, 1) by decide +kernel) ?_
    refine xv_b E [.iconst 0] (pc' := 348) (lv' := [(8, .inl (((48 : Int32) * v1) + ((8 : Int32) * v_47))), (0, .inr (.inr (some a0))), (1, .inl v1), (2, .inl v2), (3, .inl v3), (4, .inl v4), (5, .inl v5), (6, .inl v6), (7, .inl v7)]) (st' := [.inl (0 : Int32), .inl v_99, .inl (10 : Int32), .inl v2, .inl v1, .inr (.inr (some a0))]) (by decide +kernel) rfl rfl ?_
    obtain ⟨b_103, h104, h⟩ := bd h
    obtain ⟨eh104, th104⟩ := g_o_some h104
    obtain ⟨q_101, h102, h⟩ := bd h
    refine xv_cvo E eh104 12 (as := [.inl v1, .inl v2, .inl (10 : Int32), .inl v_99, .inl (0 : Int32)]) (t212 G l (c_I_some h102)) cd212 mw1082 mw1083 mw1084 (show decode prog_14_method_66_code 348 = .ok (.invokevirtual 394, 3) by decide +kernel) th104 rfl rfl (Nat.le_of_ble_eq_true rfl) ⟨Nat.le_of_ble_eq_true rfl, Nat.le_of_ble_eq_true rfl⟩ ?_
    refine xv_b E [.istore 9, .aload_n 0, .iload 9, .iload 7, .i2l, .iconst 1] (pc' := 360) (lv' := [(9, .inl q_101.1), (8, .inl (((48 : Int32) * v1) + ((8 : Int32) * v_47))), (0, .inr (.inr (some a0))), (1, .inl v1), (2, .inl v2), (3, .inl v3), (4, .inl v4), (5, .inl v5), (6, .inl v6), (7, .inl v7)]) (st' := [.inl (1 : Int32), .inr (.inl (Int32.toInt64 v7)), .inl q_101.1, .inr (.inr (some a0))]) (by decide +kernel) rfl rfl ?_
    obtain ⟨b_107, h108, h⟩ := bd h
    obtain ⟨eh108, th108⟩ := g_o_some h108
    obtain ⟨q_105, h106, h⟩ := bd h
    refine xv_cvo E eh108 12 (as := [.inl q_101.1, .inr (.inl (Int32.toInt64 v7)), .inl (1 : Int32)]) (t167 G l (c_V_some h106)) cd167 mw932 mw933 mw934 (show decode prog_14_method_66_code 360 = .ok (.invokevirtual 190, 3) by decide +kernel) th108 rfl rfl (Nat.le_of_ble_eq_true rfl) ⟨Nat.le_of_ble_eq_true rfl, Nat.le_of_ble_eq_true rfl⟩ ?_
    refine xv_b E [.aload_n 0, .aload_n 0, .iload_n 1] (pc' := 366) (lv' := [(9, .inl q_101.1), (8, .inl (((48 : Int32) * v1) + ((8 : Int32) * v_47))), (0, .inr (.inr (some a0))), (1, .inl v1), (2, .inl v2), (3, .inl v3), (4, .inl v4), (5, .inl v5), (6, .inl v6), (7, .inl v7)]) (st' := [.inl v1, .inr (.inr (some a0)), .inr (.inr (some a0))]) (by decide +kernel) rfl rfl ?_
    obtain ⟨b_111, h112, h⟩ := bd h
    obtain ⟨eh112, th112⟩ := g_o_some h112
    obtain ⟨q_109, h110, h⟩ := bd h
    refine xv_cvo E eh112 12 (as := [.inl v1]) (t176 G l (c_I_some h110)) cd176 mw1040 mw1041 mw1042 (show decode prog_14_method_66_code 366 = .ok (.invokevirtual 352, 3) by decide +kernel) th112 rfl rfl (Nat.le_of_ble_eq_true rfl) ⟨Nat.le_of_ble_eq_true rfl, Nat.le_of_ble_eq_true rfl⟩ ?_
    refine xv_b E [.iload 9] (pc' := 371) (lv' := [(9, .inl q_101.1), (8, .inl (((48 : Int32) * v1) + ((8 : Int32) * v_47))), (0, .inr (.inr (some a0))), (1, .inl v1), (2, .inl v2), (3, .inl v3), (4, .inl v4), (5, .inl v5), (6, .inl v6), (7, .inl v7)]) (st' := [.inl q_101.1, .inl q_109.1, .inr (.inr (some a0))]) (by decide +kernel) rfl rfl ?_
    obtain ⟨b_115, h116, h⟩ := bd h
    obtain ⟨eh116, th116⟩ := g_o_some h116
    obtain ⟨q_113, h114, h⟩ := bd h
    refine xv_cvo E eh116 12 (as := [.inl q_109.1, .inl q_101.1]) (t183 G l (c_V_some h114)) cd183 mw1043 mw1044 mw1045 (show decode prog_14_method_66_code 371 = .ok (.invokevirtual 301, 3) by decide +kernel) th116 rfl rfl (Nat.le_of_ble_eq_true rfl) ⟨Nat.le_of_ble_eq_true rfl, Nat.le_of_ble_eq_true rfl⟩ ?_
    exact xv_w (sb216_374 E B  q_113 h hN) rfl
theorem sb216_25 (E : xE G p (xRm 5 (h_sz M' - z0) (h_sl M' - y0)) s m args c prog_14_method_66_code "ZonedFabricModel" z0 y0 (h_sz M') (h_sl M') 10) (B : xB ym216 none meth) (a0 : Nat) (v1 : Int32) (v2 : Int32) (v3 : Int32) (v4 : Int32) (si0 : Int32) (M : hM) {res : xRes} (h : b216_25 a0 v1 v2 v3 v4 si0 M = some res) (hN : xN (pg216 p l e s m args below meth c G z0 y0 r M') r M' res) : xV G p l e (xRm 5 (h_sz M' - z0) (h_sl M' - y0)) s m args below meth c z0 y0 (h_sz M') (h_sl M') 10 (MQ below (xQc G r M') args s (h_sz M' - z0) (h_sl M' - y0) (xFr G)) 25 [(0, .inr (.inr (some a0))), (1, .inl v1), (2, .inl v2), (3, .inl v3), (4, .inl v4)] [.inl si0] M := by
  unfold b216_25 at h
  refine xv_b E [.istore 5, .aload_n 0, .iload_n 2, .bipush 15] (pc' := 31) (lv' := [(5, .inl si0), (0, .inr (.inr (some a0))), (1, .inl v1), (2, .inl v2), (3, .inl v3), (4, .inl v4)]) (st' := [.inl (15 : Int32), .inl v2, .inr (.inr (some a0))]) (by decide +kernel) rfl rfl ?_
  obtain ⟨b_12, h13, h⟩ := bd h
  obtain ⟨eh13, th13⟩ := g_o_some h13
  obtain ⟨q_10, h11, h⟩ := bd h
  refine xv_cvo E eh13 12 (as := [.inl v2, .inl (15 : Int32)]) (t165 G l (c_I_some h11)) cd165 mw927 mw928 mw929 (show decode prog_14_method_66_code 31 = .ok (.invokevirtual 186, 3) by decide +kernel) th13 rfl rfl (Nat.le_of_ble_eq_true rfl) ⟨Nat.le_of_ble_eq_true rfl, Nat.le_of_ble_eq_true rfl⟩ ?_
  refine xv_b E [.istore 6, .aload_n 0, .iload_n 2, .bipush 16] (pc' := 40) (lv' := [(6, .inl q_10.1), (5, .inl si0), (0, .inr (.inr (some a0))), (1, .inl v1), (2, .inl v2), (3, .inl v3), (4, .inl v4)]) (st' := [.inl (16 : Int32), .inl v2, .inr (.inr (some a0))]) (by decide +kernel) rfl rfl ?_
  obtain ⟨b_16, h17, h⟩ := bd h
  obtain ⟨eh17, th17⟩ := g_o_some h17
  obtain ⟨q_14, h15, h⟩ := bd h
  refine xv_cvo E eh17 12 (as := [.inl v2, .inl (16 : Int32)]) (t165 G l (c_I_some h15)) cd165 mw927 mw928 mw929 (show decode prog_14_method_66_code 40 = .ok (.invokevirtual 186, 3) by decide +kernel) th17 rfl rfl (Nat.le_of_ble_eq_true rfl) ⟨Nat.le_of_ble_eq_true rfl, Nat.le_of_ble_eq_true rfl⟩ ?_
  refine xv_b E [.istore 7, .aload_n 0, .iload_n 1, .iload_n 3] (pc' := 48) (lv' := [(7, .inl q_14.1), (6, .inl q_10.1), (5, .inl si0), (0, .inr (.inr (some a0))), (1, .inl v1), (2, .inl v2), (3, .inl v3), (4, .inl v4)]) (st' := [.inl v3, .inl v1, .inr (.inr (some a0))]) (by decide +kernel) rfl rfl ?_
  obtain ⟨b_20, h21, h⟩ := bd h
  obtain ⟨eh21, th21⟩ := g_o_some h21
  obtain ⟨q_18, h19, h⟩ := bd h
  refine xv_cvo E eh21 12 (as := [.inl v1, .inl v3]) (t215 G l (c_I_some h19)) cd215 mw1091 mw1092 mw1093 (show decode prog_14_method_66_code 48 = .ok (.invokevirtual 407, 3) by decide +kernel) th21 rfl rfl (Nat.le_of_ble_eq_true rfl) ⟨Nat.le_of_ble_eq_true rfl, Nat.le_of_ble_eq_true rfl⟩ ?_
  by_cases q32 : q_18.1 = 0
  · rw [if_pos q32] at h
    refine xv_if_eq E 98 (show decode prog_14_method_66_code 51 = .ok (.ifCond .eq (47), 3) by decide +kernel) rfl (fun _ => ?_) (fun z => absurd q32 z)
    exact xv_w (sb216_98 E B a0 v1 v2 q_18.2 h hN) rfl
  · rw [if_neg q32] at h
    refine xv_if_eq E 98 (show decode prog_14_method_66_code 51 = .ok (.ifCond .eq (47), 3) by decide +kernel) rfl (fun z => absurd z q32) (fun _ => ?_)
    refine xv_b E [.iload 4, .iconst 1] (pc' := 57) (lv' := [(7, .inl q_14.1), (6, .inl q_10.1), (5, .inl si0), (0, .inr (.inr (some a0))), (1, .inl v1), (2, .inl v2), (3, .inl v3), (4, .inl v4)]) (st' := [.inl (1 : Int32), .inl v4]) (by decide +kernel) rfl rfl ?_
    by_cases q31 : (1 : Int32) < v4
    · rw [if_pos q31] at h
      refine xv_icmp_gt E 98 (show decode prog_14_method_66_code 57 = .ok (.if_icmp .gt (41), 3) by decide +kernel) rfl (fun _ => ?_) (fun z => absurd q31 z)
      exact xv_w (sb216_98 E B a0 v1 v2 q_18.2 h hN) rfl
    · rw [if_neg q31] at h
      refine xv_icmp_gt E 98 (show decode prog_14_method_66_code 57 = .ok (.if_icmp .gt (41), 3) by decide +kernel) rfl (fun z => absurd z q31) (fun _ => ?_)
      refine xv_b E [.iload 7, .iconst 1] (pc' := 63) (lv' := [(7, .inl q_14.1), (6, .inl q_10.1), (5, .inl si0), (0, .inr (.inr (some a0))), (1, .inl v1), (2, .inl v2), (3, .inl v3), (4, .inl v4)]) (st' := [.inl (1 : Int32), .inl q_14.1]) (by decide +kernel) rfl rfl ?_
      by_cases q30 : q_14.1 < (1 : Int32)
      · rw [if_pos q30] at h
        refine xv_icmp_lt E 98 (show decode prog_14_method_66_code 63 = .ok (.if_icmp .lt (35), 3) by decide +kernel) rfl (fun _ => ?_) (fun z => absurd q30 z)
        exact xv_w (sb216_98 E B a0 v1 v2 q_18.2 h hN) rfl
      · rw [if_neg q30] at h
        refine xv_icmp_lt E 98 (show decode prog_14_method_66_code 63 = .ok (.if_icmp .lt (35), 3) by decide +kernel) rfl (fun z => absurd z q30) (fun _ => ?_)
        refine xv_b E [.iload 7, .iconst 4] (pc' := 69) (lv' := [(7, .inl q_14.1), (6, .inl q_10.1), (5, .inl si0), (0, .inr (.inr (some a0))), (1, .inl v1), (2, .inl v2), (3, .inl v3), (4, .inl v4)]) (st' := [.inl (4 : Int32), .inl q_14.1]) (by decide +kernel) rfl rfl ?_
        by_cases q29 : (4 : Int32) < q_14.1
        · rw [if_pos q29] at h
          refine xv_icmp_gt E 98 (show decode prog_14_method_66_code 69 = .ok (.if_icmp .gt (29), 3) by decide +kernel) rfl (fun _ => ?_) (fun z => absurd q29 z)
          exact xv_w (sb216_98 E B a0 v1 v2 q_18.2 h hN) rfl
        · rw [if_neg q29] at h
          refine xv_icmp_gt E 98 (show decode prog_14_method_66_code 69 = .ok (.if_icmp .gt (29), 3) by decide +kernel) rfl (fun z => absurd z q29) (fun _ => ?_)
          refine xv_b E [.iload 6, .iload 7, .iadd, .bipush 16] (pc' := 79) (lv' := [(7, .inl q_14.1), (6, .inl q_10.1), (5, .inl si0), (0, .inr (.inr (some a0))), (1, .inl v1), (2, .inl v2), (3, .inl v3), (4, .inl v4)]) (st' := [.inl (16 : Int32), .inl (q_10.1 + q_14.1)]) (by decide +kernel) rfl rfl ?_
          by_cases q28 : (16 : Int32) < (q_10.1 + q_14.1)
          · rw [if_pos q28] at h
            refine xv_icmp_gt E 98 (show decode prog_14_method_66_code 79 = .ok (.if_icmp .gt (19), 3) by decide +kernel) rfl (fun _ => ?_) (fun z => absurd q28 z)
            exact xv_w (sb216_98 E B a0 v1 v2 q_18.2 h hN) rfl
          · rw [if_neg q28] at h
            refine xv_icmp_gt E 98 (show decode prog_14_method_66_code 79 = .ok (.if_icmp .gt (19), 3) by decide +kernel) rfl (fun z => absurd z q28) (fun _ => ?_)
            refine xv_b E [.iload 5] (pc' := 84) (lv' := [(7, .inl q_14.1), (6, .inl q_10.1), (5, .inl si0), (0, .inr (.inr (some a0))), (1, .inl v1), (2, .inl v2), (3, .inl v3), (4, .inl v4)]) (st' := [.inl si0]) (by decide +kernel) rfl rfl ?_
            by_cases q27 : si0 = 0
            · rw [if_pos q27] at h
              refine xv_if_eq E 109 (show decode prog_14_method_66_code 84 = .ok (.ifCond .eq (25), 3) by decide +kernel) rfl (fun _ => ?_) (fun z => absurd q27 z)
              exact xv_w (sb216_109 E B a0 v1 v2 v3 v4 si0 q_10.1 q_14.1 q_18.2 h hN) rfl
            · rw [if_neg q27] at h
              refine xv_if_eq E 109 (show decode prog_14_method_66_code 84 = .ok (.ifCond .eq (25), 3) by decide +kernel) rfl (fun z => absurd z q27) (fun _ => ?_)
              refine xv_b E [.aload_n 0] (pc' := 88) (lv' := [(7, .inl q_14.1), (6, .inl q_10.1), (5, .inl si0), (0, .inr (.inr (some a0))), (1, .inl v1), (2, .inl v2), (3, .inl v3), (4, .inl v4)]) (st' := [.inr (.inr (some a0))]) (by decide +kernel) rfl rfl ?_
              obtain ⟨o_22, h23, h⟩ := bd h
              refine xg_r E 12 46 h23 mw905 (show decode prog_14_method_66_code 88 = .ok (.getfield 131, 3) by decide +kernel) ?_
              refine xv_b E [.iload_n 1] (pc' := 92) (lv' := [(7, .inl q_14.1), (6, .inl q_10.1), (5, .inl si0), (0, .inr (.inr (some a0))), (1, .inl v1), (2, .inl v2), (3, .inl v3), (4, .inl v4)]) (st' := [.inl v1, .inr (.inr o_22)]) (by decide +kernel) rfl rfl ?_
              obtain ⟨v_24, h25, h⟩ := bd h
              refine xa_i E h25 (show decode prog_14_method_66_code 92 = .ok (.iaload, 1) by decide +kernel) ?_
              refine xv_b E [.bipush 6] (pc' := 95) (lv' := [(7, .inl q_14.1), (6, .inl q_10.1), (5, .inl si0), (0, .inr (.inr (some a0))), (1, .inl v1), (2, .inl v2), (3, .inl v3), (4, .inl v4)]) (st' := [.inl (6 : Int32), .inl v_24]) (by decide +kernel) rfl rfl ?_
              by_cases q26 : v_24 = (6 : Int32)
              · rw [if_pos q26] at h
                refine xv_icmp_ne E 109 (show decode prog_14_method_66_code 95 = .ok (.if_icmp .ne (14), 3) by decide +kernel) rfl (fun z => absurd q26 z) (fun _ => ?_)
                exact xv_w (sb216_98 E B a0 v1 v2 q_18.2 h hN) rfl
              · rw [if_neg q26] at h
                refine xv_icmp_ne E 109 (show decode prog_14_method_66_code 95 = .ok (.if_icmp .ne (14), 3) by decide +kernel) rfl (fun _ => ?_) (fun z => absurd z q26)
                exact xv_w (sb216_109 E B a0 v1 v2 v3 v4 si0 q_10.1 q_14.1 q_18.2 h hN) rfl
theorem sb216_0 (E : xE G p (xRm 5 (h_sz M' - z0) (h_sl M' - y0)) s m args c prog_14_method_66_code "ZonedFabricModel" z0 y0 (h_sz M') (h_sl M') 10) (B : xB ym216 none meth) (a0 : Nat) (v1 : Int32) (v2 : Int32) (v3 : Int32) (M : hM) {res : xRes} (h : b216_0 a0 v1 v2 v3 M = some res) (hN : xN (pg216 p l e s m args below meth c G z0 y0 r M') r M' res) : xV G p l e (xRm 5 (h_sz M' - z0) (h_sl M' - y0)) s m args below meth c z0 y0 (h_sz M') (h_sl M') 10 (MQ below (xQc G r M') args s (h_sz M' - z0) (h_sl M' - y0) (xFr G)) 0 [(0, .inr (.inr (some a0))), (1, .inl v1), (2, .inl v2), (3, .inl v3)] [] M := by
  unfold b216_0 at h
  refine xv_b E [.aload_n 0, .iload_n 2, .bipush 13] (pc' := 4) (lv' := [(0, .inr (.inr (some a0))), (1, .inl v1), (2, .inl v2), (3, .inl v3)]) (st' := [.inl (13 : Int32), .inl v2, .inr (.inr (some a0))]) (by decide +kernel) rfl rfl ?_
  obtain ⟨b_3, h4, h⟩ := bd h
  obtain ⟨eh4, th4⟩ := g_o_some h4
  obtain ⟨q_1, h2, h⟩ := bd h
  refine xv_cvo E eh4 12 (as := [.inl v2, .inl (13 : Int32)]) (t165 G l (c_I_some h2)) cd165 mw927 mw928 mw929 (show decode prog_14_method_66_code 4 = .ok (.invokevirtual 186, 3) by decide +kernel) th4 rfl rfl (Nat.le_of_ble_eq_true rfl) ⟨Nat.le_of_ble_eq_true rfl, Nat.le_of_ble_eq_true rfl⟩ ?_
  refine xv_b E [.istore 4, .aload_n 0, .iload_n 2, .bipush 14] (pc' := 13) (lv' := [(4, .inl q_1.1), (0, .inr (.inr (some a0))), (1, .inl v1), (2, .inl v2), (3, .inl v3)]) (st' := [.inl (14 : Int32), .inl v2, .inr (.inr (some a0))]) (by decide +kernel) rfl rfl ?_
  obtain ⟨b_7, h8, h⟩ := bd h
  obtain ⟨eh8, th8⟩ := g_o_some h8
  obtain ⟨q_5, h6, h⟩ := bd h
  refine xv_cvo E eh8 12 (as := [.inl v2, .inl (14 : Int32)]) (t165 G l (c_I_some h6)) cd165 mw927 mw928 mw929 (show decode prog_14_method_66_code 13 = .ok (.invokevirtual 186, 3) by decide +kernel) th8 rfl rfl (Nat.le_of_ble_eq_true rfl) ⟨Nat.le_of_ble_eq_true rfl, Nat.le_of_ble_eq_true rfl⟩ ?_
  refine xv_b E [.iconst 1] (pc' := 17) (lv' := [(4, .inl q_1.1), (0, .inr (.inr (some a0))), (1, .inl v1), (2, .inl v2), (3, .inl v3)]) (st' := [.inl (1 : Int32), .inl q_5.1]) (by decide +kernel) rfl rfl ?_
  by_cases q9 : q_5.1 = (1 : Int32)
  · rw [if_pos q9] at h
    refine xv_icmp_ne E 24 (show decode prog_14_method_66_code 17 = .ok (.if_icmp .ne (7), 3) by decide +kernel) rfl (fun z => absurd q9 z) (fun _ => ?_)
    refine xv_b E [.iconst 1] (pc' := 21) (lv' := [(4, .inl q_1.1), (0, .inr (.inr (some a0))), (1, .inl v1), (2, .inl v2), (3, .inl v3)]) (st' := [.inl (1 : Int32)]) (by decide +kernel) rfl rfl ?_
    refine xv_goto E 25 (show decode prog_14_method_66_code 21 = .ok (.goto (4), 3) by decide +kernel) rfl ?_
    exact xv_w (sb216_25 E B a0 v1 v2 v3 q_1.1 (1 : Int32) q_5.2 h hN) rfl
  · rw [if_neg q9] at h
    refine xv_icmp_ne E 24 (show decode prog_14_method_66_code 17 = .ok (.if_icmp .ne (7), 3) by decide +kernel) rfl (fun _ => ?_) (fun z => absurd z q9)
    refine xv_b E [.iconst 0] (pc' := 25) (lv' := [(4, .inl q_1.1), (0, .inr (.inr (some a0))), (1, .inl v1), (2, .inl v2), (3, .inl v3)]) (st' := [.inl (0 : Int32)]) (by decide +kernel) rfl rfl ?_
    exact xv_w (sb216_25 E B a0 v1 v2 v3 q_1.1 (0 : Int32) q_5.2 h hN) rfl
theorem sb216_117 (E : xE G p (xRm 5 (h_sz M' - z0) (h_sl M' - y0)) s m args c prog_14_method_66_code "ZonedFabricModel" z0 y0 (h_sz M') (h_sl M') 10) (B : xB ym216 none meth) (a0 : Nat) (v1 : Int32) (v2 : Int32) (v4 : Int32) (v6 : Int32) (v7 : Int32) (v8 : Int32) (M : hM) {res : xRes} (h : b216_117 a0 v1 v2 v4 v6 v7 v8 M = some res) (hN : xN (pg216 p l e s m args below meth c G z0 y0 r M') r M' res) : xV G p l e (xRm 5 (h_sz M' - z0) (h_sl M' - y0)) s m args below meth c z0 y0 (h_sz M') (h_sl M') 10 (MQ below (xQc G r M') args s (h_sz M' - z0) (h_sl M' - y0) (xFr G)) 117 [(0, .inr (.inr (some a0))), (1, .inl v1), (2, .inl v2), (4, .inl v4), (6, .inl v6), (7, .inl v7), (8, .inl v8)] [] M := by
  unfold b216_117 at h
  refine xv_b E [.iload 8, .iload 7] (pc' := 121) (lv' := [(0, .inr (.inr (some a0))), (1, .inl v1), (2, .inl v2), (4, .inl v4), (6, .inl v6), (7, .inl v7), (8, .inl v8)]) (st' := [.inl v7, .inl v8]) (by decide +kernel) rfl rfl ?_
  by_cases q142 : v7 ≤ v8
  · rw [if_pos q142] at h
    refine xv_icmp_ge E 183 (show decode prog_14_method_66_code 121 = .ok (.if_icmp .ge (62), 3) by decide +kernel) rfl (fun _ => ?_) (fun z => absurd q142 z)
    refine xv_b E [.aload_n 0, .iload_n 1, .iload_n 2, .iconst 0, .iconst 0] (pc' := 188) (lv' := [(0, .inr (.inr (some a0))), (1, .inl v1), (2, .inl v2), (4, .inl v4), (6, .inl v6), (7, .inl v7), (8, .inl v8)]) (st' := [.inl (0 : Int32), .inl (0 : Int32), .inl v2, .inl v1, .inr (.inr (some a0))]) (by decide +kernel) rfl rfl ?_
    obtain ⟨b_120, h121, h⟩ := bd h
    obtain ⟨eh121, th121⟩ := g_o_some h121
    obtain ⟨q_118, h119, h⟩ := bd h
    refine xv_cvo E eh121 12 (as := [.inl v1, .inl v2, .inl (0 : Int32), .inl (0 : Int32)]) (t213 G l (c_V_some h119)) cd213 mw1086 mw1087 mw1088 (show decode prog_14_method_66_code 188 = .ok (.invokevirtual 410, 3) by decide +kernel) th121 rfl rfl (Nat.le_of_ble_eq_true rfl) ⟨Nat.le_of_ble_eq_true rfl, Nat.le_of_ble_eq_true rfl⟩ ?_
    refine xv_goto E 374 (show decode prog_14_method_66_code 191 = .ok (.goto (183), 3) by decide +kernel) rfl ?_
    exact xv_w (sb216_374 E B  q_118 h hN) rfl
  · rw [if_neg q142] at h
    refine xv_icmp_ge E 183 (show decode prog_14_method_66_code 121 = .ok (.if_icmp .ge (62), 3) by decide +kernel) rfl (fun z => absurd z q142) (fun _ => ?_)
    refine xv_b E [.aload_n 0, .iload_n 1, .iload_n 2, .bipush 11, .iconst 0, .iload 8] (pc' := 132) (lv' := [(0, .inr (.inr (some a0))), (1, .inl v1), (2, .inl v2), (4, .inl v4), (6, .inl v6), (7, .inl v7), (8, .inl v8)]) (st' := [.inl v8, .inl (0 : Int32), .inl (11 : Int32), .inl v2, .inl v1, .inr (.inr (some a0))]) (by decide +kernel) rfl rfl ?_
    obtain ⟨b_124, h125, h⟩ := bd h
    obtain ⟨eh125, th125⟩ := g_o_some h125
    obtain ⟨q_122, h123, h⟩ := bd h
    refine xv_cvo E eh125 12 (as := [.inl v1, .inl v2, .inl (11 : Int32), .inl (0 : Int32), .inl v8]) (t212 G l (c_I_some h123)) cd212 mw1082 mw1083 mw1084 (show decode prog_14_method_66_code 132 = .ok (.invokevirtual 394, 3) by decide +kernel) th125 rfl rfl (Nat.le_of_ble_eq_true rfl) ⟨Nat.le_of_ble_eq_true rfl, Nat.le_of_ble_eq_true rfl⟩ ?_
    refine xv_b E [.istore 9, .aload_n 0, .iload 9, .aload_n 0] (pc' := 141) (lv' := [(9, .inl q_122.1), (0, .inr (.inr (some a0))), (1, .inl v1), (2, .inl v2), (4, .inl v4), (6, .inl v6), (7, .inl v7), (8, .inl v8)]) (st' := [.inr (.inr (some a0)), .inl q_122.1, .inr (.inr (some a0))]) (by decide +kernel) rfl rfl ?_
    obtain ⟨o_126, h127, h⟩ := bd h
    refine xg_r E 12 42 h127 mw901 (show decode prog_14_method_66_code 141 = .ok (.getfield 118, 3) by decide +kernel) ?_
    refine xv_b E [.bipush 32, .iload_n 1, .imul, .bipush 16, .iload 4, .imul, .iadd, .iload 6, .iadd, .iload 8, .iadd] (pc' := 160) (lv' := [(9, .inl q_122.1), (0, .inr (.inr (some a0))), (1, .inl v1), (2, .inl v2), (4, .inl v4), (6, .inl v6), (7, .inl v7), (8, .inl v8)]) (st' := [.inl (((((32 : Int32) * v1) + ((16 : Int32) * v4)) + v6) + v8), .inr (.inr o_126), .inl q_122.1, .inr (.inr (some a0))]) (by decide +kernel) rfl rfl ?_
    obtain ⟨w_128, h129, h⟩ := bd h
    refine xa_l E h129 (show decode prog_14_method_66_code 160 = .ok (.laload, 1) by decide +kernel) ?_
    refine xv_b E [.bipush 8] (pc' := 163) (lv' := [(9, .inl q_122.1), (0, .inr (.inr (some a0))), (1, .inl v1), (2, .inl v2), (4, .inl v4), (6, .inl v6), (7, .inl v7), (8, .inl v8)]) (st' := [.inl (8 : Int32), .inr (.inl w_128), .inl q_122.1, .inr (.inr (some a0))]) (by decide +kernel) rfl rfl ?_
    obtain ⟨b_132, h133, h⟩ := bd h
    obtain ⟨eh133, th133⟩ := g_o_some h133
    obtain ⟨q_130, h131, h⟩ := bd h
    refine xv_cvo E eh133 12 (as := [.inl q_122.1, .inr (.inl w_128), .inl (8 : Int32)]) (t167 G l (c_V_some h131)) cd167 mw932 mw933 mw934 (show decode prog_14_method_66_code 163 = .ok (.invokevirtual 190, 3) by decide +kernel) th133 rfl rfl (Nat.le_of_ble_eq_true rfl) ⟨Nat.le_of_ble_eq_true rfl, Nat.le_of_ble_eq_true rfl⟩ ?_
    refine xv_b E [.aload_n 0, .aload_n 0, .iload_n 1] (pc' := 169) (lv' := [(9, .inl q_122.1), (0, .inr (.inr (some a0))), (1, .inl v1), (2, .inl v2), (4, .inl v4), (6, .inl v6), (7, .inl v7), (8, .inl v8)]) (st' := [.inl v1, .inr (.inr (some a0)), .inr (.inr (some a0))]) (by decide +kernel) rfl rfl ?_
    obtain ⟨b_136, h137, h⟩ := bd h
    obtain ⟨eh137, th137⟩ := g_o_some h137
    obtain ⟨q_134, h135, h⟩ := bd h
    refine xv_cvo E eh137 12 (as := [.inl v1]) (t176 G l (c_I_some h135)) cd176 mw1040 mw1041 mw1042 (show decode prog_14_method_66_code 169 = .ok (.invokevirtual 352, 3) by decide +kernel) th137 rfl rfl (Nat.le_of_ble_eq_true rfl) ⟨Nat.le_of_ble_eq_true rfl, Nat.le_of_ble_eq_true rfl⟩ ?_
    refine xv_b E [.iload 9] (pc' := 174) (lv' := [(9, .inl q_122.1), (0, .inr (.inr (some a0))), (1, .inl v1), (2, .inl v2), (4, .inl v4), (6, .inl v6), (7, .inl v7), (8, .inl v8)]) (st' := [.inl q_122.1, .inl q_134.1, .inr (.inr (some a0))]) (by decide +kernel) rfl rfl ?_
    obtain ⟨b_140, h141, h⟩ := bd h
    obtain ⟨eh141, th141⟩ := g_o_some h141
    obtain ⟨q_138, h139, h⟩ := bd h
    refine xv_cvo E eh141 12 (as := [.inl q_134.1, .inl q_122.1]) (t183 G l (c_V_some h139)) cd183 mw1043 mw1044 mw1045 (show decode prog_14_method_66_code 174 = .ok (.invokevirtual 301, 3) by decide +kernel) th141 rfl rfl (Nat.le_of_ble_eq_true rfl) ⟨Nat.le_of_ble_eq_true rfl, Nat.le_of_ble_eq_true rfl⟩ ?_
    refine xv_b E [.iinc 8 1] (pc' := 180) (lv' := [(8, .inl (v8 + (1 : Int32))), (9, .inl q_122.1), (0, .inr (.inr (some a0))), (1, .inl v1), (2, .inl v2), (4, .inl v4), (6, .inl v6), (7, .inl v7)]) (st' := []) (by decide +kernel) rfl rfl ?_
    refine xv_goto E 117 (show decode prog_14_method_66_code 180 = .ok (.goto (-63), 3) by decide +kernel) rfl ?_
    obtain rfl := Option.some.inj h
    exact xv_w hN rfl
end
theorem t216 (G : gX) (l : Launch) {as : List aV} {M : hM} {r : Option aV} {M' : hM} (h : f216 as M = some (r, M')) : xM G l ym216 prog_14_method_66_code 10 none 5 as M r M' := by
  unfold f216 at h
  split at h
  · have hle : ∀ h as M res, k216 h as M = some res → h_sz M ≤ r_sz res ∧ h_sl M ≤ r_sl res := by
      intro h as M res hb
      unfold k216 at hb
      by_cases e0 : h = 117
      · rw [if_pos e0] at hb
        split at hb
        · exact lb216_117 G l _ _ _ _ _ _ _ M hb
        · cases hb
      · rw [if_neg e0] at hb
        cases hb
    obtain ⟨res, hx, hres⟩ := x_go_ok h
    refine xM_of (by decide) (Nat.le_of_ble_eq_true rfl) ?_ ?_
    · have e1 := lb216_0 G l _ _ _ _ M hx
      have e2 := x_go_le hle hres
      omega
    · intro p e s m args below meth c E B
      refine sb216_0 E B _ _ _ _ M hx (hres _ ?_)
      intro h as M res hb hN
      unfold k216 at hb
      unfold pg216
      by_cases e0 : h = 117
      · rw [if_pos e0] at hb ⊢
        split at hb
        · exact sb216_117 E B _ _ _ _ _ _ _ M hb hN
        · cases hb
      · rw [if_neg e0] at hb ⊢
        cases hb
  · cases h
/-! ZFModel.logs(II)V -/
def ym217 : MethodName := ⟨"ZonedFabricModel", "logs", "(II)V"⟩
theorem cd217 : xCd ym217 prog_14_method_65_code 4 none 2 := ⟨mw1095, mw864, by decide, by decide, by decide +kernel⟩
def b217_67 (a0 : Nat) (v1 : Int32) (v2 : Int32) (M : hM) : Option xRes :=
  Option.bind (g_r M 12 40 (some a0)) fun o_24 =>
  Option.bind (g_r M 12 41 (some a0)) fun o_26 =>
  Option.bind (al_i M 20 o_26 v1) fun v_28 =>
  Option.bind (as_i M 20 o_24 (((8 : Int32) * v1) + v_28) v2) fun M30 =>
  Option.bind (g_r M30 12 41 (some a0)) fun o_32 =>
  Option.bind (al_i M30 20 o_32 v1) fun v_34 =>
  Option.bind (as_i M30 20 o_32 v1 (v_34 + (1 : Int32))) fun M36 =>
  some (.inl (none, M36))
def b217_0 (a0 : Nat) (v1 : Int32) (v2 : Int32) (M : hM) : Option xRes :=
  Option.bind (g_o M 12 (some a0)) fun b_3 =>
  Option.bind (c_I (f215 [.inr (.inr (some b_3)), .inl v1, .inl v2] M)) fun q_1 =>
  if q_1.1 = 0 then
    (Option.bind (g_r q_1.2 12 41 (some a0)) fun o_5 =>
    Option.bind (al_i q_1.2 20 o_5 v1) fun v_7 =>
    if v_7 = (8 : Int32) then
      (some (.inr (23, [.inr (.inr (some a0)), .inl v1, .inl v2, .inl (0 : Int32)], q_1.2)))
    else
      (b217_67 a0 v1 v2 q_1.2))
  else
    (some (.inl (none, q_1.2)))
def b217_23 (a0 : Nat) (v1 : Int32) (v2 : Int32) (v3 : Int32) (M : hM) : Option xRes :=
  if (7 : Int32) ≤ v3 then
    (Option.bind (g_r M 12 41 (some a0)) fun o_11 =>
    Option.bind (as_i M 20 o_11 v1 (7 : Int32)) fun M13 =>
    b217_67 a0 v1 v2 M13)
  else
    (Option.bind (g_r M 12 40 (some a0)) fun o_15 =>
    Option.bind (g_r M 12 40 (some a0)) fun o_17 =>
    Option.bind (al_i M 20 o_17 ((((8 : Int32) * v1) + v3) + (1 : Int32))) fun v_19 =>
    Option.bind (as_i M 20 o_15 (((8 : Int32) * v1) + v3) v_19) fun M21 =>
    some (.inr (23, [.inr (.inr (some a0)), .inl v1, .inl v2, .inl (v3 + (1 : Int32))], M21)))
def k217 (h : Nat) (as : List aV) (M : hM) : Option xRes :=
  if h = 23 then (match as with | [.inr (.inr (some a0)), .inl v1, .inl v2, .inl v3] => b217_23 a0 v1 v2 v3 M | _ => none) else
  none
def f217 (as : List aV) (M : hM) : xO := match as with
  | [.inr (.inr (some a0)), .inl v1, .inl v2] => x_go k217 (b217_0 a0 v1 v2 M)
  | _ => none
theorem lb217_67 (G : gX) (l : Launch) (a0 : Nat) (v1 : Int32) (v2 : Int32) (M : hM) {res : xRes} (h : b217_67 a0 v1 v2 M = some res) : h_sz M ≤ r_sz res ∧ h_sl M ≤ r_sl res := by
  unfold b217_67 at h
  obtain ⟨o_24, h25, h⟩ := bd h
  obtain ⟨o_26, h27, h⟩ := bd h
  obtain ⟨v_28, h29, h⟩ := bd h
  obtain ⟨M30, h31, h⟩ := bd h
  have eh31 := as_i_sz h31
  obtain ⟨o_32, h33, h⟩ := bd h
  obtain ⟨v_34, h35, h⟩ := bd h
  obtain ⟨M36, h37, h⟩ := bd h
  have eh37 := as_i_sz h37
  obtain rfl := Option.some.inj h
  show h_sz M ≤ h_sz M36 ∧ h_sl M ≤ h_sl M36
  omega
theorem lb217_0 (G : gX) (l : Launch) (a0 : Nat) (v1 : Int32) (v2 : Int32) (M : hM) {res : xRes} (h : b217_0 a0 v1 v2 M = some res) : h_sz M ≤ r_sz res ∧ h_sl M ≤ r_sl res := by
  unfold b217_0 at h
  obtain ⟨b_3, h4, h⟩ := bd h
  obtain ⟨q_1, h2, h⟩ := bd h
  have eh2 := (t215 G l (c_I_some h2)).1
  by_cases q10 : q_1.1 = 0
  · rw [if_pos q10] at h
    obtain ⟨o_5, h6, h⟩ := bd h
    obtain ⟨v_7, h8, h⟩ := bd h
    by_cases q9 : v_7 = (8 : Int32)
    · rw [if_pos q9] at h
      obtain rfl := Option.some.inj h
      show h_sz M ≤ h_sz q_1.2 ∧ h_sl M ≤ h_sl q_1.2
      omega
    · rw [if_neg q9] at h
      have e := lb217_67 G l a0 v1 v2 q_1.2 h
      omega
  · rw [if_neg q10] at h
    obtain rfl := Option.some.inj h
    show h_sz M ≤ h_sz q_1.2 ∧ h_sl M ≤ h_sl q_1.2
    omega
theorem lb217_23 (G : gX) (l : Launch) (a0 : Nat) (v1 : Int32) (v2 : Int32) (v3 : Int32) (M : hM) {res : xRes} (h : b217_23 a0 v1 v2 v3 M = some res) : h_sz M ≤ r_sz res ∧ h_sl M ≤ r_sl res := by
  unfold b217_23 at h
  by_cases q23 : (7 : Int32) ≤ v3
  · rw [if_pos q23] at h
    obtain ⟨o_11, h12, h⟩ := bd h
    obtain ⟨M13, h14, h⟩ := bd h
    have eh14 := as_i_sz h14
    have e := lb217_67 G l a0 v1 v2 M13 h
    omega
  · rw [if_neg q23] at h
    obtain ⟨o_15, h16, h⟩ := bd h
    obtain ⟨o_17, h18, h⟩ := bd h
    obtain ⟨v_19, h20, h⟩ := bd h
    obtain ⟨M21, h22, h⟩ := bd h
    have eh22 := as_i_sz h22
    obtain rfl := Option.some.inj h
    show h_sz M ≤ h_sz M21 ∧ h_sl M ≤ h_sl M21
    omega
section
variable {p : Program} {l : Launch} {e : Env} {s : State} {m : MethodId} {args : Array Value} {below : List Frame} {meth : Method} {c : Code} {G : gX} {z0 y0 : Nat} {r : Option aV} {M' : hM}
def pg217 (p : Program) (l : Launch) (e : Env) (s : State) (m : MethodId) (args : Array Value) (below : List Frame) (meth : Method) (c : Code) (G : gX) (z0 y0 : Nat) (r : Option aV) (M' : hM) (h : Nat) (as : List aV) (M : hM) : Prop :=
  if h = 23 then (match as with | [.inr (.inr (some a0)), .inl v1, .inl v2, .inl v3] => xV G p l e (xRm 1 (h_sz M' - z0) (h_sl M' - y0)) s m args below meth c z0 y0 (h_sz M') (h_sl M') 4 (MQ below (xQc G r M') args s (h_sz M' - z0) (h_sl M' - y0) (xFr G)) 23 [(0, .inr (.inr (some a0))), (1, .inl v1), (2, .inl v2), (3, .inl v3)] [] M | _ => False) else
  False
theorem sb217_67 (E : xE G p (xRm 1 (h_sz M' - z0) (h_sl M' - y0)) s m args c prog_14_method_65_code "ZonedFabricModel" z0 y0 (h_sz M') (h_sl M') 4) (B : xB ym217 none meth) (a0 : Nat) (v1 : Int32) (v2 : Int32) (M : hM) {res : xRes} (h : b217_67 a0 v1 v2 M = some res) (hN : xN (pg217 p l e s m args below meth c G z0 y0 r M') r M' res) : xV G p l e (xRm 1 (h_sz M' - z0) (h_sl M' - y0)) s m args below meth c z0 y0 (h_sz M') (h_sl M') 4 (MQ below (xQc G r M') args s (h_sz M' - z0) (h_sl M' - y0) (xFr G)) 67 [(0, .inr (.inr (some a0))), (1, .inl v1), (2, .inl v2)] [] M := by
  unfold b217_67 at h
  refine xv_b E [.aload_n 0] (pc' := 68) (lv' := [(0, .inr (.inr (some a0))), (1, .inl v1), (2, .inl v2)]) (st' := [.inr (.inr (some a0))]) (by decide +kernel) rfl rfl ?_
  obtain ⟨o_24, h25, h⟩ := bd h
  refine xg_r E 12 40 h25 mw899 (show decode prog_14_method_65_code 68 = .ok (.getfield 112, 3) by decide +kernel) ?_
  refine xv_b E [.bipush 8, .iload_n 1, .imul, .aload_n 0] (pc' := 76) (lv' := [(0, .inr (.inr (some a0))), (1, .inl v1), (2, .inl v2)]) (st' := [.inr (.inr (some a0)), .inl ((8 : Int32) * v1), .inr (.inr o_24)]) (by decide +kernel) rfl rfl ?_
  obtain ⟨o_26, h27, h⟩ := bd h
  refine xg_r E 12 41 h27 mw900 (show decode prog_14_method_65_code 76 = .ok (.getfield 115, 3) by decide +kernel) ?_
  refine xv_b E [.iload_n 1] (pc' := 80) (lv' := [(0, .inr (.inr (some a0))), (1, .inl v1), (2, .inl v2)]) (st' := [.inl v1, .inr (.inr o_26), .inl ((8 : Int32) * v1), .inr (.inr o_24)]) (by decide +kernel) rfl rfl ?_
  obtain ⟨v_28, h29, h⟩ := bd h
  refine xa_i E h29 (show decode prog_14_method_65_code 80 = .ok (.iaload, 1) by decide +kernel) ?_
  refine xv_b E [.iadd, .iload_n 2] (pc' := 83) (lv' := [(0, .inr (.inr (some a0))), (1, .inl v1), (2, .inl v2)]) (st' := [.inl v2, .inl (((8 : Int32) * v1) + v_28), .inr (.inr o_24)]) (by decide +kernel) rfl rfl ?_
  obtain ⟨M30, h31, h⟩ := bd h
  refine xs_i E h31 (show decode prog_14_method_65_code 83 = .ok (.iastore, 1) by decide +kernel) ?_
  refine xv_b E [.aload_n 0] (pc' := 85) (lv' := [(0, .inr (.inr (some a0))), (1, .inl v1), (2, .inl v2)]) (st' := [.inr (.inr (some a0))]) (by decide +kernel) rfl rfl ?_
  obtain ⟨o_32, h33, h⟩ := bd h
  refine xg_r E 12 41 h33 mw900 (show decode prog_14_method_65_code 85 = .ok (.getfield 115, 3) by decide +kernel) ?_
  refine xv_b E [.iload_n 1, .dup2] (pc' := 90) (lv' := [(0, .inr (.inr (some a0))), (1, .inl v1), (2, .inl v2)]) (st' := [.inl v1, .inr (.inr o_32), .inl v1, .inr (.inr o_32)]) (by decide +kernel) rfl rfl ?_
  obtain ⟨v_34, h35, h⟩ := bd h
  refine xa_i E h35 (show decode prog_14_method_65_code 90 = .ok (.iaload, 1) by decide +kernel) ?_
  refine xv_b E [.iconst 1, .iadd] (pc' := 93) (lv' := [(0, .inr (.inr (some a0))), (1, .inl v1), (2, .inl v2)]) (st' := [.inl (v_34 + (1 : Int32)), .inl v1, .inr (.inr o_32)]) (by decide +kernel) rfl rfl ?_
  obtain ⟨M36, h37, h⟩ := bd h
  refine xs_i E h37 (show decode prog_14_method_65_code 93 = .ok (.iastore, 1) by decide +kernel) ?_
  obtain rfl := Option.some.inj h
  obtain ⟨rfl, rfl⟩ := Prod.mk.inj (show ((none : Option aV), M36) = (r, M') from hN)
  exact xv_rv E B.1 B.2.1 (show decode prog_14_method_65_code 94 = .ok (.return_, 1) by decide +kernel) rfl rfl
theorem sb217_0 (E : xE G p (xRm 1 (h_sz M' - z0) (h_sl M' - y0)) s m args c prog_14_method_65_code "ZonedFabricModel" z0 y0 (h_sz M') (h_sl M') 4) (B : xB ym217 none meth) (a0 : Nat) (v1 : Int32) (v2 : Int32) (M : hM) {res : xRes} (h : b217_0 a0 v1 v2 M = some res) (hN : xN (pg217 p l e s m args below meth c G z0 y0 r M') r M' res) : xV G p l e (xRm 1 (h_sz M' - z0) (h_sl M' - y0)) s m args below meth c z0 y0 (h_sz M') (h_sl M') 4 (MQ below (xQc G r M') args s (h_sz M' - z0) (h_sl M' - y0) (xFr G)) 0 [(0, .inr (.inr (some a0))), (1, .inl v1), (2, .inl v2)] [] M := by
  unfold b217_0 at h
  refine xv_b E [.aload_n 0, .iload_n 1, .iload_n 2] (pc' := 3) (lv' := [(0, .inr (.inr (some a0))), (1, .inl v1), (2, .inl v2)]) (st' := [.inl v2, .inl v1, .inr (.inr (some a0))]) (by decide +kernel) rfl rfl ?_
  obtain ⟨b_3, h4, h⟩ := bd h
  obtain ⟨eh4, th4⟩ := g_o_some h4
  obtain ⟨q_1, h2, h⟩ := bd h
  refine xv_cvo E eh4 12 (as := [.inl v1, .inl v2]) (t215 G l (c_I_some h2)) cd215 mw1091 mw1092 mw1093 (show decode prog_14_method_65_code 3 = .ok (.invokevirtual 407, 3) by decide +kernel) th4 rfl rfl (Nat.le_of_ble_eq_true rfl) ⟨Nat.le_of_ble_eq_true rfl, Nat.le_of_ble_eq_true rfl⟩ ?_
  by_cases q10 : q_1.1 = 0
  · rw [if_pos q10] at h
    refine xv_if_eq E 10 (show decode prog_14_method_65_code 6 = .ok (.ifCond .eq (4), 3) by decide +kernel) rfl (fun _ => ?_) (fun z => absurd q10 z)
    refine xv_b E [.aload_n 0] (pc' := 11) (lv' := [(0, .inr (.inr (some a0))), (1, .inl v1), (2, .inl v2)]) (st' := [.inr (.inr (some a0))]) (by decide +kernel) rfl rfl ?_
    obtain ⟨o_5, h6, h⟩ := bd h
    refine xg_r E 12 41 h6 mw900 (show decode prog_14_method_65_code 11 = .ok (.getfield 115, 3) by decide +kernel) ?_
    refine xv_b E [.iload_n 1] (pc' := 15) (lv' := [(0, .inr (.inr (some a0))), (1, .inl v1), (2, .inl v2)]) (st' := [.inl v1, .inr (.inr o_5)]) (by decide +kernel) rfl rfl ?_
    obtain ⟨v_7, h8, h⟩ := bd h
    refine xa_i E h8 (show decode prog_14_method_65_code 15 = .ok (.iaload, 1) by decide +kernel) ?_
    refine xv_b E [.bipush 8] (pc' := 18) (lv' := [(0, .inr (.inr (some a0))), (1, .inl v1), (2, .inl v2)]) (st' := [.inl (8 : Int32), .inl v_7]) (by decide +kernel) rfl rfl ?_
    by_cases q9 : v_7 = (8 : Int32)
    · rw [if_pos q9] at h
      refine xv_icmp_ne E 67 (show decode prog_14_method_65_code 18 = .ok (.if_icmp .ne (49), 3) by decide +kernel) rfl (fun z => absurd q9 z) (fun _ => ?_)
      refine xv_b E [.iconst 0, .istore_n 3] (pc' := 23) (lv' := [(3, .inl (0 : Int32)), (0, .inr (.inr (some a0))), (1, .inl v1), (2, .inl v2)]) (st' := []) (by decide +kernel) rfl rfl ?_
      obtain rfl := Option.some.inj h
      exact xv_w hN rfl
    · rw [if_neg q9] at h
      refine xv_icmp_ne E 67 (show decode prog_14_method_65_code 18 = .ok (.if_icmp .ne (49), 3) by decide +kernel) rfl (fun _ => ?_) (fun z => absurd z q9)
      exact xv_w (sb217_67 E B a0 v1 v2 q_1.2 h hN) rfl
  · rw [if_neg q10] at h
    refine xv_if_eq E 10 (show decode prog_14_method_65_code 6 = .ok (.ifCond .eq (4), 3) by decide +kernel) rfl (fun z => absurd z q10) (fun _ => ?_)
    obtain rfl := Option.some.inj h
    obtain ⟨rfl, rfl⟩ := Prod.mk.inj (show ((none : Option aV), q_1.2) = (r, M') from hN)
    exact xv_rv E B.1 B.2.1 (show decode prog_14_method_65_code 9 = .ok (.return_, 1) by decide +kernel) rfl rfl
theorem sb217_23 (E : xE G p (xRm 1 (h_sz M' - z0) (h_sl M' - y0)) s m args c prog_14_method_65_code "ZonedFabricModel" z0 y0 (h_sz M') (h_sl M') 4) (B : xB ym217 none meth) (a0 : Nat) (v1 : Int32) (v2 : Int32) (v3 : Int32) (M : hM) {res : xRes} (h : b217_23 a0 v1 v2 v3 M = some res) (hN : xN (pg217 p l e s m args below meth c G z0 y0 r M') r M' res) : xV G p l e (xRm 1 (h_sz M' - z0) (h_sl M' - y0)) s m args below meth c z0 y0 (h_sz M') (h_sl M') 4 (MQ below (xQc G r M') args s (h_sz M' - z0) (h_sl M' - y0) (xFr G)) 23 [(0, .inr (.inr (some a0))), (1, .inl v1), (2, .inl v2), (3, .inl v3)] [] M := by
  unfold b217_23 at h
  refine xv_b E [.iload_n 3, .bipush 7] (pc' := 26) (lv' := [(0, .inr (.inr (some a0))), (1, .inl v1), (2, .inl v2), (3, .inl v3)]) (st' := [.inl (7 : Int32), .inl v3]) (by decide +kernel) rfl rfl ?_
  by_cases q23 : (7 : Int32) ≤ v3
  · rw [if_pos q23] at h
    refine xv_icmp_ge E 59 (show decode prog_14_method_65_code 26 = .ok (.if_icmp .ge (33), 3) by decide +kernel) rfl (fun _ => ?_) (fun z => absurd q23 z)
    refine xv_b E [.aload_n 0] (pc' := 60) (lv' := [(0, .inr (.inr (some a0))), (1, .inl v1), (2, .inl v2), (3, .inl v3)]) (st' := [.inr (.inr (some a0))]) (by decide +kernel) rfl rfl ?_
    obtain ⟨o_11, h12, h⟩ := bd h
    refine xg_r E 12 41 h12 mw900 (show decode prog_14_method_65_code 60 = .ok (.getfield 115, 3) by decide +kernel) ?_
    refine xv_b E [.iload_n 1, .bipush 7] (pc' := 66) (lv' := [(0, .inr (.inr (some a0))), (1, .inl v1), (2, .inl v2), (3, .inl v3)]) (st' := [.inl (7 : Int32), .inl v1, .inr (.inr o_11)]) (by decide +kernel) rfl rfl ?_
    obtain ⟨M13, h14, h⟩ := bd h
    refine xs_i E h14 (show decode prog_14_method_65_code 66 = .ok (.iastore, 1) by decide +kernel) ?_
    exact xv_w (sb217_67 E B a0 v1 v2 M13 h hN) rfl
  · rw [if_neg q23] at h
    refine xv_icmp_ge E 59 (show decode prog_14_method_65_code 26 = .ok (.if_icmp .ge (33), 3) by decide +kernel) rfl (fun z => absurd z q23) (fun _ => ?_)
    refine xv_b E [.aload_n 0] (pc' := 30) (lv' := [(0, .inr (.inr (some a0))), (1, .inl v1), (2, .inl v2), (3, .inl v3)]) (st' := [.inr (.inr (some a0))]) (by decide +kernel) rfl rfl ?_
    obtain ⟨o_15, h16, h⟩ := bd h
    refine xg_r E 12 40 h16 mw899 (show decode prog_14_method_65_code 30 = .ok (.getfield 112, 3) by decide +kernel) ?_
    refine xv_b E [.bipush 8, .iload_n 1, .imul, .iload_n 3, .iadd, .aload_n 0] (pc' := 40) (lv' := [(0, .inr (.inr (some a0))), (1, .inl v1), (2, .inl v2), (3, .inl v3)]) (st' := [.inr (.inr (some a0)), .inl (((8 : Int32) * v1) + v3), .inr (.inr o_15)]) (by decide +kernel) rfl rfl ?_
    obtain ⟨o_17, h18, h⟩ := bd h
    refine xg_r E 12 40 h18 mw899 (show decode prog_14_method_65_code 40 = .ok (.getfield 112, 3) by decide +kernel) ?_
    refine xv_b E [.bipush 8, .iload_n 1, .imul, .iload_n 3, .iadd, .iconst 1, .iadd] (pc' := 51) (lv' := [(0, .inr (.inr (some a0))), (1, .inl v1), (2, .inl v2), (3, .inl v3)]) (st' := [.inl ((((8 : Int32) * v1) + v3) + (1 : Int32)), .inr (.inr o_17), .inl (((8 : Int32) * v1) + v3), .inr (.inr o_15)]) (by decide +kernel) rfl rfl ?_
    obtain ⟨v_19, h20, h⟩ := bd h
    refine xa_i E h20 (show decode prog_14_method_65_code 51 = .ok (.iaload, 1) by decide +kernel) ?_
    obtain ⟨M21, h22, h⟩ := bd h
    refine xs_i E h22 (show decode prog_14_method_65_code 52 = .ok (.iastore, 1) by decide +kernel) ?_
    refine xv_b E [.iinc 3 1] (pc' := 56) (lv' := [(3, .inl (v3 + (1 : Int32))), (0, .inr (.inr (some a0))), (1, .inl v1), (2, .inl v2)]) (st' := []) (by decide +kernel) rfl rfl ?_
    refine xv_goto E 23 (show decode prog_14_method_65_code 56 = .ok (.goto (-33), 3) by decide +kernel) rfl ?_
    obtain rfl := Option.some.inj h
    exact xv_w hN rfl
end
theorem t217 (G : gX) (l : Launch) {as : List aV} {M : hM} {r : Option aV} {M' : hM} (h : f217 as M = some (r, M')) : xM G l ym217 prog_14_method_65_code 4 none 1 as M r M' := by
  unfold f217 at h
  split at h
  · have hle : ∀ h as M res, k217 h as M = some res → h_sz M ≤ r_sz res ∧ h_sl M ≤ r_sl res := by
      intro h as M res hb
      unfold k217 at hb
      by_cases e0 : h = 23
      · rw [if_pos e0] at hb
        split at hb
        · exact lb217_23 G l _ _ _ _ M hb
        · cases hb
      · rw [if_neg e0] at hb
        cases hb
    obtain ⟨res, hx, hres⟩ := x_go_ok h
    refine xM_of (by decide) (Nat.le_of_ble_eq_true rfl) ?_ ?_
    · have e1 := lb217_0 G l _ _ _ M hx
      have e2 := x_go_le hle hres
      omega
    · intro p e s m args below meth c E B
      refine sb217_0 E B _ _ _ M hx (hres _ ?_)
      intro h as M res hb hN
      unfold k217 at hb
      unfold pg217
      by_cases e0 : h = 23
      · rw [if_pos e0] at hb ⊢
        split at hb
        · exact sb217_23 E B _ _ _ _ M hb hN
        · cases hb
      · rw [if_neg e0] at hb ⊢
        cases hb
  · cases h
/-! ZFModel.discGets(II)V -/
def ym218 : MethodName := ⟨"ZonedFabricModel", "discGets", "(II)V"⟩
theorem cd218 : xCd ym218 prog_14_method_63_code 5 none 2 := ⟨mw1096, mw864, by decide, by decide, by decide +kernel⟩
def b218_203  (M : hM) : Option xRes :=
  some (.inl (none, M))
def b218_0 (a0 : Nat) (v1 : Int32) (v2 : Int32) (M : hM) : Option xRes :=
  Option.bind (g_o M 12 (some a0)) fun b_3 =>
  Option.bind (c_I (f166 [.inr (.inr (some b_3)), .inl v2, .inl (4 : Int32), .inl (3 : Int32)] M)) fun q_1 =>
  Option.bind (g_o q_1.2 12 (some a0)) fun b_7 =>
  Option.bind (c_I (f165 [.inr (.inr (some b_7)), .inl v2, .inl (0 : Int32)] q_1.2)) fun q_5 =>
  if q_5.1 = 7 then
    (Option.bind (g_o q_5.2 12 (some a0)) fun b_12 =>
    Option.bind (c_V (f217 [.inr (.inr (some b_12)), .inl v1, .inl q_1.1] q_5.2)) fun q_10 =>
    Option.bind (g_o q_10 12 (some a0)) fun b_16 =>
    Option.bind (c_I (f176 [.inr (.inr (some b_16)), .inl v1] q_10)) fun q_14 =>
    Option.bind (g_o q_14.2 12 (some a0)) fun b_20 =>
    Option.bind (c_I (f212 [.inr (.inr (some b_20)), .inl v1, .inl v2, .inl (8 : Int32), .inl (0 : Int32), .inl (0 : Int32)] q_14.2)) fun q_18 =>
    Option.bind (g_o q_18.2 12 (some a0)) fun b_24 =>
    Option.bind (c_V (f183 [.inr (.inr (some b_24)), .inl q_14.1, .inl q_18.1] q_18.2)) fun q_22 =>
    b218_203  q_22)
  else
    (if q_5.1 = 8 then
      (b218_203  q_5.2)
    else
      (if q_5.1 = 9 then
        (Option.bind (g_o q_5.2 12 (some a0)) fun b_30 =>
        Option.bind (c_V (f216 [.inr (.inr (some b_30)), .inl v1, .inl v2, .inl q_1.1] q_5.2)) fun q_28 =>
        b218_203  q_28)
      else
        (if q_5.1 = 10 then
          (b218_203  q_5.2)
        else
          (if q_5.1 = 11 then
            (Option.bind (g_o q_5.2 12 (some a0)) fun b_36 =>
            Option.bind (c_V (f214 [.inr (.inr (some b_36)), .inl v1, .inl v2, .inl q_1.1] q_5.2)) fun q_34 =>
            b218_203  q_34)
          else
            (if q_5.1 = 12 then
              (b218_203  q_5.2)
            else
              (if q_5.1 = 13 then
                (some (.inr (107, [.inr (.inr (some a0)), .inl v1, .inl v2, .inl q_1.1, .inl (0 : Int32)], q_5.2)))
              else
                (b218_203  q_5.2)))))))
def b218_175 (a0 : Nat) (v1 : Int32) (v2 : Int32) (v3 : Int32) (v4 : Int32) (M : hM) : Option xRes :=
  some (.inr (107, [.inr (.inr (some a0)), .inl v1, .inl v2, .inl v3, .inl (v4 + (1 : Int32))], M))
def b218_107 (a0 : Nat) (v1 : Int32) (v2 : Int32) (v3 : Int32) (v4 : Int32) (M : hM) : Option xRes :=
  Option.bind (g_r M 12 46 (some a0)) fun o_40 =>
  Option.bind (al_i M 20 o_40 v1) fun v_42 =>
  if v_42 ≤ v4 then
    (Option.bind (g_o M 12 (some a0)) fun b_46 =>
    Option.bind (c_I (f176 [.inr (.inr (some b_46)), .inl v1] M)) fun q_44 =>
    Option.bind (g_o q_44.2 12 (some a0)) fun b_50 =>
    Option.bind (c_I (f212 [.inr (.inr (some b_50)), .inl v1, .inl v2, .inl (14 : Int32), .inl (0 : Int32), .inl (0 : Int32)] q_44.2)) fun q_48 =>
    Option.bind (g_o q_48.2 12 (some a0)) fun b_54 =>
    Option.bind (c_V (f183 [.inr (.inr (some b_54)), .inl q_44.1, .inl q_48.1] q_48.2)) fun q_52 =>
    b218_203  q_52)
  else
    (Option.bind (g_r M 12 44 (some a0)) fun o_56 =>
    Option.bind (al_i M 20 o_56 (((48 : Int32) * v1) + ((8 : Int32) * v4))) fun v_58 =>
    if v_58 = v3 then
      (Option.bind (g_r M 12 44 (some a0)) fun o_60 =>
      Option.bind (al_i M 20 o_60 ((((48 : Int32) * v1) + ((8 : Int32) * v4)) + (1 : Int32))) fun v_62 =>
      Option.bind (g_o M 12 (some a0)) fun b_66 =>
      Option.bind (c_I (f166 [.inr (.inr (some b_66)), .inl v2, .inl (7 : Int32), .inl (2 : Int32)] M)) fun q_64 =>
      if v_62 = q_64.1 then
        (Option.bind (g_o q_64.2 12 (some a0)) fun b_70 =>
        Option.bind (c_V (f203 [.inr (.inr (some b_70)), .inl v1, .inl v4] q_64.2)) fun q_68 =>
        some (.inr (107, [.inr (.inr (some a0)), .inl v1, .inl v2, .inl v3, .inl v4], q_68)))
      else
        (b218_175 a0 v1 v2 v3 v4 q_64.2))
    else
      (b218_175 a0 v1 v2 v3 v4 M))
def k218 (h : Nat) (as : List aV) (M : hM) : Option xRes :=
  if h = 107 then (match as with | [.inr (.inr (some a0)), .inl v1, .inl v2, .inl v3, .inl v4] => b218_107 a0 v1 v2 v3 v4 M | _ => none) else
  none
def f218 (as : List aV) (M : hM) : xO := match as with
  | [.inr (.inr (some a0)), .inl v1, .inl v2] => x_go k218 (b218_0 a0 v1 v2 M)
  | _ => none
theorem lb218_203 (G : gX) (l : Launch)  (M : hM) {res : xRes} (h : b218_203  M = some res) : h_sz M ≤ r_sz res ∧ h_sl M ≤ r_sl res := by
  unfold b218_203 at h
  obtain rfl := Option.some.inj h
  show h_sz M ≤ h_sz M ∧ h_sl M ≤ h_sl M
  omega
theorem lb218_0 (G : gX) (l : Launch) (a0 : Nat) (v1 : Int32) (v2 : Int32) (M : hM) {res : xRes} (h : b218_0 a0 v1 v2 M = some res) : h_sz M ≤ r_sz res ∧ h_sl M ≤ r_sl res := by
  unfold b218_0 at h
  obtain ⟨b_3, h4, h⟩ := bd h
  obtain ⟨q_1, h2, h⟩ := bd h
  have eh2 := (t166 G l (c_I_some h2)).1
  obtain ⟨b_7, h8, h⟩ := bd h
  obtain ⟨q_5, h6, h⟩ := bd h
  have eh6 := (t165 G l (c_I_some h6)).1
  by_cases q9 : q_5.1 = 7
  · rw [if_pos q9] at h
    obtain ⟨b_12, h13, h⟩ := bd h
    obtain ⟨q_10, h11, h⟩ := bd h
    have eh11 := (t217 G l (c_V_some h11)).1
    obtain ⟨b_16, h17, h⟩ := bd h
    obtain ⟨q_14, h15, h⟩ := bd h
    have eh15 := (t176 G l (c_I_some h15)).1
    obtain ⟨b_20, h21, h⟩ := bd h
    obtain ⟨q_18, h19, h⟩ := bd h
    have eh19 := (t212 G l (c_I_some h19)).1
    obtain ⟨b_24, h25, h⟩ := bd h
    obtain ⟨q_22, h23, h⟩ := bd h
    have eh23 := (t183 G l (c_V_some h23)).1
    have e := lb218_203 G l  q_22 h
    omega
  · rw [if_neg q9] at h
    by_cases q26 : q_5.1 = 8
    · rw [if_pos q26] at h
      have e := lb218_203 G l  q_5.2 h
      omega
    · rw [if_neg q26] at h
      by_cases q27 : q_5.1 = 9
      · rw [if_pos q27] at h
        obtain ⟨b_30, h31, h⟩ := bd h
        obtain ⟨q_28, h29, h⟩ := bd h
        have eh29 := (t216 G l (c_V_some h29)).1
        have e := lb218_203 G l  q_28 h
        omega
      · rw [if_neg q27] at h
        by_cases q32 : q_5.1 = 10
        · rw [if_pos q32] at h
          have e := lb218_203 G l  q_5.2 h
          omega
        · rw [if_neg q32] at h
          by_cases q33 : q_5.1 = 11
          · rw [if_pos q33] at h
            obtain ⟨b_36, h37, h⟩ := bd h
            obtain ⟨q_34, h35, h⟩ := bd h
            have eh35 := (t214 G l (c_V_some h35)).1
            have e := lb218_203 G l  q_34 h
            omega
          · rw [if_neg q33] at h
            by_cases q38 : q_5.1 = 12
            · rw [if_pos q38] at h
              have e := lb218_203 G l  q_5.2 h
              omega
            · rw [if_neg q38] at h
              by_cases q39 : q_5.1 = 13
              · rw [if_pos q39] at h
                obtain rfl := Option.some.inj h
                show h_sz M ≤ h_sz q_5.2 ∧ h_sl M ≤ h_sl q_5.2
                omega
              · rw [if_neg q39] at h
                have e := lb218_203 G l  q_5.2 h
                omega
theorem lb218_175 (G : gX) (l : Launch) (a0 : Nat) (v1 : Int32) (v2 : Int32) (v3 : Int32) (v4 : Int32) (M : hM) {res : xRes} (h : b218_175 a0 v1 v2 v3 v4 M = some res) : h_sz M ≤ r_sz res ∧ h_sl M ≤ r_sl res := by
  unfold b218_175 at h
  obtain rfl := Option.some.inj h
  show h_sz M ≤ h_sz M ∧ h_sl M ≤ h_sl M
  omega
theorem lb218_107 (G : gX) (l : Launch) (a0 : Nat) (v1 : Int32) (v2 : Int32) (v3 : Int32) (v4 : Int32) (M : hM) {res : xRes} (h : b218_107 a0 v1 v2 v3 v4 M = some res) : h_sz M ≤ r_sz res ∧ h_sl M ≤ r_sl res := by
  unfold b218_107 at h
  obtain ⟨o_40, h41, h⟩ := bd h
  obtain ⟨v_42, h43, h⟩ := bd h
  by_cases q74 : v_42 ≤ v4
  · rw [if_pos q74] at h
    obtain ⟨b_46, h47, h⟩ := bd h
    obtain ⟨q_44, h45, h⟩ := bd h
    have eh45 := (t176 G l (c_I_some h45)).1
    obtain ⟨b_50, h51, h⟩ := bd h
    obtain ⟨q_48, h49, h⟩ := bd h
    have eh49 := (t212 G l (c_I_some h49)).1
    obtain ⟨b_54, h55, h⟩ := bd h
    obtain ⟨q_52, h53, h⟩ := bd h
    have eh53 := (t183 G l (c_V_some h53)).1
    have e := lb218_203 G l  q_52 h
    omega
  · rw [if_neg q74] at h
    obtain ⟨o_56, h57, h⟩ := bd h
    obtain ⟨v_58, h59, h⟩ := bd h
    by_cases q73 : v_58 = v3
    · rw [if_pos q73] at h
      obtain ⟨o_60, h61, h⟩ := bd h
      obtain ⟨v_62, h63, h⟩ := bd h
      obtain ⟨b_66, h67, h⟩ := bd h
      obtain ⟨q_64, h65, h⟩ := bd h
      have eh65 := (t166 G l (c_I_some h65)).1
      by_cases q72 : v_62 = q_64.1
      · rw [if_pos q72] at h
        obtain ⟨b_70, h71, h⟩ := bd h
        obtain ⟨q_68, h69, h⟩ := bd h
        have eh69 := (t203 G l (c_V_some h69)).1
        obtain rfl := Option.some.inj h
        show h_sz M ≤ h_sz q_68 ∧ h_sl M ≤ h_sl q_68
        omega
      · rw [if_neg q72] at h
        have e := lb218_175 G l a0 v1 v2 v3 v4 q_64.2 h
        omega
    · rw [if_neg q73] at h
      have e := lb218_175 G l a0 v1 v2 v3 v4 M h
      omega
section
variable {p : Program} {l : Launch} {e : Env} {s : State} {m : MethodId} {args : Array Value} {below : List Frame} {meth : Method} {c : Code} {G : gX} {z0 y0 : Nat} {r : Option aV} {M' : hM}
def pg218 (p : Program) (l : Launch) (e : Env) (s : State) (m : MethodId) (args : Array Value) (below : List Frame) (meth : Method) (c : Code) (G : gX) (z0 y0 : Nat) (r : Option aV) (M' : hM) (h : Nat) (as : List aV) (M : hM) : Prop :=
  if h = 107 then (match as with | [.inr (.inr (some a0)), .inl v1, .inl v2, .inl v3, .inl v4] => xV G p l e (xRm 6 (h_sz M' - z0) (h_sl M' - y0)) s m args below meth c z0 y0 (h_sz M') (h_sl M') 5 (MQ below (xQc G r M') args s (h_sz M' - z0) (h_sl M' - y0) (xFr G)) 107 [(0, .inr (.inr (some a0))), (1, .inl v1), (2, .inl v2), (3, .inl v3), (4, .inl v4)] [] M | _ => False) else
  False
theorem sb218_203 (E : xE G p (xRm 6 (h_sz M' - z0) (h_sl M' - y0)) s m args c prog_14_method_63_code "ZonedFabricModel" z0 y0 (h_sz M') (h_sl M') 5) (B : xB ym218 none meth)  (M : hM) {res : xRes} (h : b218_203  M = some res) (hN : xN (pg218 p l e s m args below meth c G z0 y0 r M') r M' res) : xV G p l e (xRm 6 (h_sz M' - z0) (h_sl M' - y0)) s m args below meth c z0 y0 (h_sz M') (h_sl M') 5 (MQ below (xQc G r M') args s (h_sz M' - z0) (h_sl M' - y0) (xFr G)) 203 [] [] M := by
  unfold b218_203 at h
  obtain rfl := Option.some.inj h
  obtain ⟨rfl, rfl⟩ := Prod.mk.inj (show ((none : Option aV), M) = (r, M') from hN)
  exact xv_rv E B.1 B.2.1 (show decode prog_14_method_63_code 203 = .ok (.return_, 1) by decide +kernel) rfl rfl
theorem sb218_0 (E : xE G p (xRm 6 (h_sz M' - z0) (h_sl M' - y0)) s m args c prog_14_method_63_code "ZonedFabricModel" z0 y0 (h_sz M') (h_sl M') 5) (B : xB ym218 none meth) (a0 : Nat) (v1 : Int32) (v2 : Int32) (M : hM) {res : xRes} (h : b218_0 a0 v1 v2 M = some res) (hN : xN (pg218 p l e s m args below meth c G z0 y0 r M') r M' res) : xV G p l e (xRm 6 (h_sz M' - z0) (h_sl M' - y0)) s m args below meth c z0 y0 (h_sz M') (h_sl M') 5 (MQ below (xQc G r M') args s (h_sz M' - z0) (h_sl M' - y0) (xFr G)) 0 [(0, .inr (.inr (some a0))), (1, .inl v1), (2, .inl v2)] [] M := by
  unfold b218_0 at h
  refine xv_b E [.aload_n 0, .iload_n 2, .iconst 4, .iconst 3] (pc' := 4) (lv' := [(0, .inr (.inr (some a0))), (1, .inl v1), (2, .inl v2)]) (st' := [.inl (3 : Int32), .inl (4 : Int32), .inl v2, .inr (.inr (some a0))]) (by decide +kernel) rfl rfl ?_
  obtain ⟨b_3, h4, h⟩ := bd h
  obtain ⟨eh4, th4⟩ := g_o_some h4
  obtain ⟨q_1, h2, h⟩ := bd h
  refine xv_cvo E eh4 12 (as := [.inl v2, .inl (4 : Int32), .inl (3 : Int32)]) (t166 G l (c_I_some h2)) cd166 mw947 mw948 mw949 (show decode prog_14_method_63_code 4 = .ok (.invokevirtual 198, 3) by decide +kernel) th4 rfl rfl (Nat.le_of_ble_eq_true rfl) ⟨Nat.le_of_ble_eq_true rfl, Nat.le_of_ble_eq_true rfl⟩ ?_
  refine xv_b E [.istore_n 3, .aload_n 0, .iload_n 2, .iconst 0] (pc' := 11) (lv' := [(3, .inl q_1.1), (0, .inr (.inr (some a0))), (1, .inl v1), (2, .inl v2)]) (st' := [.inl (0 : Int32), .inl v2, .inr (.inr (some a0))]) (by decide +kernel) rfl rfl ?_
  obtain ⟨b_7, h8, h⟩ := bd h
  obtain ⟨eh8, th8⟩ := g_o_some h8
  obtain ⟨q_5, h6, h⟩ := bd h
  refine xv_cvo E eh8 12 (as := [.inl v2, .inl (0 : Int32)]) (t165 G l (c_I_some h6)) cd165 mw927 mw928 mw929 (show decode prog_14_method_63_code 11 = .ok (.invokevirtual 186, 3) by decide +kernel) th8 rfl rfl (Nat.le_of_ble_eq_true rfl) ⟨Nat.le_of_ble_eq_true rfl, Nat.le_of_ble_eq_true rfl⟩ ?_
  by_cases q9 : q_5.1 = 7
  · rw [if_pos q9] at h
    refine xv_tabIn E (off := 42) 56 (show decode prog_14_method_63_code 14 = .ok (.tableswitch (189) 7 13 #[42, 189, 70, 189, 80, 189, 90], 42) by decide +kernel) (by rw [q9]; decide) (by rw [q9]; decide) (by rw [q9]; rfl) rfl ?_
    refine xv_b E [.aload_n 0, .iload_n 1, .iload_n 3] (pc' := 59) (lv' := [(3, .inl q_1.1), (0, .inr (.inr (some a0))), (1, .inl v1), (2, .inl v2)]) (st' := [.inl q_1.1, .inl v1, .inr (.inr (some a0))]) (by decide +kernel) rfl rfl ?_
    obtain ⟨b_12, h13, h⟩ := bd h
    obtain ⟨eh13, th13⟩ := g_o_some h13
    obtain ⟨q_10, h11, h⟩ := bd h
    refine xv_cvo E eh13 12 (as := [.inl v1, .inl q_1.1]) (t217 G l (c_V_some h11)) cd217 mw1097 mw1098 mw1099 (show decode prog_14_method_63_code 59 = .ok (.invokevirtual 398, 3) by decide +kernel) th13 rfl rfl (Nat.le_of_ble_eq_true rfl) ⟨Nat.le_of_ble_eq_true rfl, Nat.le_of_ble_eq_true rfl⟩ ?_
    refine xv_b E [.aload_n 0, .aload_n 0, .iload_n 1] (pc' := 65) (lv' := [(3, .inl q_1.1), (0, .inr (.inr (some a0))), (1, .inl v1), (2, .inl v2)]) (st' := [.inl v1, .inr (.inr (some a0)), .inr (.inr (some a0))]) (by decide +kernel) rfl rfl ?_
    obtain ⟨b_16, h17, h⟩ := bd h
    obtain ⟨eh17, th17⟩ := g_o_some h17
    obtain ⟨q_14, h15, h⟩ := bd h
    refine xv_cvo E eh17 12 (as := [.inl v1]) (t176 G l (c_I_some h15)) cd176 mw1040 mw1041 mw1042 (show decode prog_14_method_63_code 65 = .ok (.invokevirtual 352, 3) by decide +kernel) th17 rfl rfl (Nat.le_of_ble_eq_true rfl) ⟨Nat.le_of_ble_eq_true rfl, Nat.le_of_ble_eq_true rfl⟩ ?_
    refine xv_b E [.aload_n 0, .iload_n 1, .iload_n 2, .bipush 8, .iconst 0, .iconst 0] (pc' := 75) (lv' := [(3, .inl q_1.1), (0, .inr (.inr (some a0))), (1, .inl v1), (2, .inl v2)]) (st' := [.inl (0 : Int32), .inl (0 : Int32), .inl (8 : Int32), .inl v2, .inl v1, .inr (.inr (some a0)), .inl q_14.1, .inr (.inr (some a0))]) (by decide +kernel) rfl rfl ?_
    obtain ⟨b_20, h21, h⟩ := bd h
    obtain ⟨eh21, th21⟩ := g_o_some h21
    obtain ⟨q_18, h19, h⟩ := bd h
    refine xv_cvo E eh21 12 (as := [.inl v1, .inl v2, .inl (8 : Int32), .inl (0 : Int32), .inl (0 : Int32)]) (t212 G l (c_I_some h19)) cd212 mw1082 mw1083 mw1084 (show decode prog_14_method_63_code 75 = .ok (.invokevirtual 394, 3) by decide +kernel) th21 rfl rfl (Nat.le_of_ble_eq_true rfl) ⟨Nat.le_of_ble_eq_true rfl, Nat.le_of_ble_eq_true rfl⟩ ?_
    obtain ⟨b_24, h25, h⟩ := bd h
    obtain ⟨eh25, th25⟩ := g_o_some h25
    obtain ⟨q_22, h23, h⟩ := bd h
    refine xv_cvo E eh25 12 (as := [.inl q_14.1, .inl q_18.1]) (t183 G l (c_V_some h23)) cd183 mw1043 mw1044 mw1045 (show decode prog_14_method_63_code 78 = .ok (.invokevirtual 301, 3) by decide +kernel) th25 rfl rfl (Nat.le_of_ble_eq_true rfl) ⟨Nat.le_of_ble_eq_true rfl, Nat.le_of_ble_eq_true rfl⟩ ?_
    refine xv_goto E 203 (show decode prog_14_method_63_code 81 = .ok (.goto (122), 3) by decide +kernel) rfl ?_
    exact xv_w (sb218_203 E B  q_22 h hN) rfl
  · rw [if_neg q9] at h
    by_cases q26 : q_5.1 = 8
    · rw [if_pos q26] at h
      refine xv_tabIn E (off := 189) 203 (show decode prog_14_method_63_code 14 = .ok (.tableswitch (189) 7 13 #[42, 189, 70, 189, 80, 189, 90], 42) by decide +kernel) (by rw [q26]; decide) (by rw [q26]; decide) (by rw [q26]; rfl) rfl ?_
      exact xv_w (sb218_203 E B  q_5.2 h hN) rfl
    · rw [if_neg q26] at h
      by_cases q27 : q_5.1 = 9
      · rw [if_pos q27] at h
        refine xv_tabIn E (off := 70) 84 (show decode prog_14_method_63_code 14 = .ok (.tableswitch (189) 7 13 #[42, 189, 70, 189, 80, 189, 90], 42) by decide +kernel) (by rw [q27]; decide) (by rw [q27]; decide) (by rw [q27]; rfl) rfl ?_
        refine xv_b E [.aload_n 0, .iload_n 1, .iload_n 2, .iload_n 3] (pc' := 88) (lv' := [(3, .inl q_1.1), (0, .inr (.inr (some a0))), (1, .inl v1), (2, .inl v2)]) (st' := [.inl q_1.1, .inl v2, .inl v1, .inr (.inr (some a0))]) (by decide +kernel) rfl rfl ?_
        obtain ⟨b_30, h31, h⟩ := bd h
        obtain ⟨eh31, th31⟩ := g_o_some h31
        obtain ⟨q_28, h29, h⟩ := bd h
        refine xv_cvo E eh31 12 (as := [.inl v1, .inl v2, .inl q_1.1]) (t216 G l (c_V_some h29)) cd216 mw1100 mw1101 mw1102 (show decode prog_14_method_63_code 88 = .ok (.invokevirtual 401, 3) by decide +kernel) th31 rfl rfl (Nat.le_of_ble_eq_true rfl) ⟨Nat.le_of_ble_eq_true rfl, Nat.le_of_ble_eq_true rfl⟩ ?_
        refine xv_goto E 203 (show decode prog_14_method_63_code 91 = .ok (.goto (112), 3) by decide +kernel) rfl ?_
        exact xv_w (sb218_203 E B  q_28 h hN) rfl
      · rw [if_neg q27] at h
        by_cases q32 : q_5.1 = 10
        · rw [if_pos q32] at h
          refine xv_tabIn E (off := 189) 203 (show decode prog_14_method_63_code 14 = .ok (.tableswitch (189) 7 13 #[42, 189, 70, 189, 80, 189, 90], 42) by decide +kernel) (by rw [q32]; decide) (by rw [q32]; decide) (by rw [q32]; rfl) rfl ?_
          exact xv_w (sb218_203 E B  q_5.2 h hN) rfl
        · rw [if_neg q32] at h
          by_cases q33 : q_5.1 = 11
          · rw [if_pos q33] at h
            refine xv_tabIn E (off := 80) 94 (show decode prog_14_method_63_code 14 = .ok (.tableswitch (189) 7 13 #[42, 189, 70, 189, 80, 189, 90], 42) by decide +kernel) (by rw [q33]; decide) (by rw [q33]; decide) (by rw [q33]; rfl) rfl ?_
            refine xv_b E [.aload_n 0, .iload_n 1, .iload_n 2, .iload_n 3] (pc' := 98) (lv' := [(3, .inl q_1.1), (0, .inr (.inr (some a0))), (1, .inl v1), (2, .inl v2)]) (st' := [.inl q_1.1, .inl v2, .inl v1, .inr (.inr (some a0))]) (by decide +kernel) rfl rfl ?_
            obtain ⟨b_36, h37, h⟩ := bd h
            obtain ⟨eh37, th37⟩ := g_o_some h37
            obtain ⟨q_34, h35, h⟩ := bd h
            refine xv_cvo E eh37 12 (as := [.inl v1, .inl v2, .inl q_1.1]) (t214 G l (c_V_some h35)) cd214 mw1103 mw1104 mw1105 (show decode prog_14_method_63_code 98 = .ok (.invokevirtual 404, 3) by decide +kernel) th37 rfl rfl (Nat.le_of_ble_eq_true rfl) ⟨Nat.le_of_ble_eq_true rfl, Nat.le_of_ble_eq_true rfl⟩ ?_
            refine xv_goto E 203 (show decode prog_14_method_63_code 101 = .ok (.goto (102), 3) by decide +kernel) rfl ?_
            exact xv_w (sb218_203 E B  q_34 h hN) rfl
          · rw [if_neg q33] at h
            by_cases q38 : q_5.1 = 12
            · rw [if_pos q38] at h
              refine xv_tabIn E (off := 189) 203 (show decode prog_14_method_63_code 14 = .ok (.tableswitch (189) 7 13 #[42, 189, 70, 189, 80, 189, 90], 42) by decide +kernel) (by rw [q38]; decide) (by rw [q38]; decide) (by rw [q38]; rfl) rfl ?_
              exact xv_w (sb218_203 E B  q_5.2 h hN) rfl
            · rw [if_neg q38] at h
              by_cases q39 : q_5.1 = 13
              · rw [if_pos q39] at h
                refine xv_tabIn E (off := 90) 104 (show decode prog_14_method_63_code 14 = .ok (.tableswitch (189) 7 13 #[42, 189, 70, 189, 80, 189, 90], 42) by decide +kernel) (by rw [q39]; decide) (by rw [q39]; decide) (by rw [q39]; rfl) rfl ?_
                refine xv_b E [.iconst 0, .istore 4] (pc' := 107) (lv' := [(4, .inl (0 : Int32)), (3, .inl q_1.1), (0, .inr (.inr (some a0))), (1, .inl v1), (2, .inl v2)]) (st' := []) (by decide +kernel) rfl rfl ?_
                obtain rfl := Option.some.inj h
                exact xv_w hN rfl
              · rw [if_neg q39] at h
                refine xv_tabOut E 203 (show decode prog_14_method_63_code 14 = .ok (.tableswitch (189) 7 13 #[42, 189, 70, 189, 80, 189, 90], 42) by decide +kernel) (sw_out (lo := 7) (hi := 13) (by decide) (by decide) (fun k h1 h2 => ?_)) rfl ?_
                · rcases (show k = 7 ∨ k = 8 ∨ k = 9 ∨ k = 10 ∨ k = 11 ∨ k = 12 ∨ k = 13 by omega) with rfl | rfl | rfl | rfl | rfl | rfl | rfl
                  · exact q9
                  · exact q26
                  · exact q27
                  · exact q32
                  · exact q33
                  · exact q38
                  · exact q39
                · exact xv_w (sb218_203 E B  q_5.2 h hN) rfl
theorem sb218_175 (E : xE G p (xRm 6 (h_sz M' - z0) (h_sl M' - y0)) s m args c prog_14_method_63_code "ZonedFabricModel" z0 y0 (h_sz M') (h_sl M') 5) (B : xB ym218 none meth) (a0 : Nat) (v1 : Int32) (v2 : Int32) (v3 : Int32) (v4 : Int32) (M : hM) {res : xRes} (h : b218_175 a0 v1 v2 v3 v4 M = some res) (hN : xN (pg218 p l e s m args below meth c G z0 y0 r M') r M' res) : xV G p l e (xRm 6 (h_sz M' - z0) (h_sl M' - y0)) s m args below meth c z0 y0 (h_sz M') (h_sl M') 5 (MQ below (xQc G r M') args s (h_sz M' - z0) (h_sl M' - y0) (xFr G)) 175 [(0, .inr (.inr (some a0))), (1, .inl v1), (2, .inl v2), (3, .inl v3), (4, .inl v4)] [] M := by
  unfold b218_175 at h
  refine xv_b E [.iinc 4 1] (pc' := 178) (lv' := [(4, .inl (v4 + (1 : Int32))), (0, .inr (.inr (some a0))), (1, .inl v1), (2, .inl v2), (3, .inl v3)]) (st' := []) (by decide +kernel) rfl rfl ?_
  refine xv_goto E 107 (show decode prog_14_method_63_code 178 = .ok (.goto (-71), 3) by decide +kernel) rfl ?_
  obtain rfl := Option.some.inj h
  exact xv_w hN rfl
theorem sb218_107 (E : xE G p (xRm 6 (h_sz M' - z0) (h_sl M' - y0)) s m args c prog_14_method_63_code "ZonedFabricModel" z0 y0 (h_sz M') (h_sl M') 5) (B : xB ym218 none meth) (a0 : Nat) (v1 : Int32) (v2 : Int32) (v3 : Int32) (v4 : Int32) (M : hM) {res : xRes} (h : b218_107 a0 v1 v2 v3 v4 M = some res) (hN : xN (pg218 p l e s m args below meth c G z0 y0 r M') r M' res) : xV G p l e (xRm 6 (h_sz M' - z0) (h_sl M' - y0)) s m args below meth c z0 y0 (h_sz M') (h_sl M') 5 (MQ below (xQc G r M') args s (h_sz M' - z0) (h_sl M' - y0) (xFr G)) 107 [(0, .inr (.inr (some a0))), (1, .inl v1), (2, .inl v2), (3, .inl v3), (4, .inl v4)] [] M := by
  unfold b218_107 at h
  refine xv_b E [.iload 4, .aload_n 0] (pc' := 110) (lv' := [(0, .inr (.inr (some a0))), (1, .inl v1), (2, .inl v2), (3, .inl v3), (4, .inl v4)]) (st' := [.inr (.inr (some a0)), .inl v4]) (by decide +kernel) rfl rfl ?_
  obtain ⟨o_40, h41, h⟩ := bd h
  refine xg_r E 12 46 h41 mw905 (show decode prog_14_method_63_code 110 = .ok (.getfield 131, 3) by decide +kernel) ?_
  refine xv_b E [.iload_n 1] (pc' := 114) (lv' := [(0, .inr (.inr (some a0))), (1, .inl v1), (2, .inl v2), (3, .inl v3), (4, .inl v4)]) (st' := [.inl v1, .inr (.inr o_40), .inl v4]) (by decide +kernel) rfl rfl ?_
  obtain ⟨v_42, h43, h⟩ := bd h
  refine xa_i E h43 (show decode prog_14_method_63_code 114 = .ok (.iaload, 1) by decide +kernel) ?_
  by_cases q74 : v_42 ≤ v4
  · rw [if_pos q74] at h
    refine xv_icmp_ge E 181 (show decode prog_14_method_63_code 115 = .ok (.if_icmp .ge (66), 3) by decide +kernel) rfl (fun _ => ?_) (fun z => absurd q74 z)
    refine xv_b E [.aload_n 0, .aload_n 0, .iload_n 1] (pc' := 184) (lv' := [(0, .inr (.inr (some a0))), (1, .inl v1), (2, .inl v2), (3, .inl v3), (4, .inl v4)]) (st' := [.inl v1, .inr (.inr (some a0)), .inr (.inr (some a0))]) (by decide +kernel) rfl rfl ?_
    obtain ⟨b_46, h47, h⟩ := bd h
    obtain ⟨eh47, th47⟩ := g_o_some h47
    obtain ⟨q_44, h45, h⟩ := bd h
    refine xv_cvo E eh47 12 (as := [.inl v1]) (t176 G l (c_I_some h45)) cd176 mw1040 mw1041 mw1042 (show decode prog_14_method_63_code 184 = .ok (.invokevirtual 352, 3) by decide +kernel) th47 rfl rfl (Nat.le_of_ble_eq_true rfl) ⟨Nat.le_of_ble_eq_true rfl, Nat.le_of_ble_eq_true rfl⟩ ?_
    refine xv_b E [.aload_n 0, .iload_n 1, .iload_n 2, .bipush 14, .iconst 0, .iconst 0] (pc' := 194) (lv' := [(0, .inr (.inr (some a0))), (1, .inl v1), (2, .inl v2), (3, .inl v3), (4, .inl v4)]) (st' := [.inl (0 : Int32), .inl (0 : Int32), .inl (14 : Int32), .inl v2, .inl v1, .inr (.inr (some a0)), .inl q_44.1, .inr (.inr (some a0))]) (by decide +kernel) rfl rfl ?_
    obtain ⟨b_50, h51, h⟩ := bd h
    obtain ⟨eh51, th51⟩ := g_o_some h51
    obtain ⟨q_48, h49, h⟩ := bd h
    refine xv_cvo E eh51 12 (as := [.inl v1, .inl v2, .inl (14 : Int32), .inl (0 : Int32), .inl (0 : Int32)]) (t212 G l (c_I_some h49)) cd212 mw1082 mw1083 mw1084 (show decode prog_14_method_63_code 194 = .ok (.invokevirtual 394, 3) by decide +kernel) th51 rfl rfl (Nat.le_of_ble_eq_true rfl) ⟨Nat.le_of_ble_eq_true rfl, Nat.le_of_ble_eq_true rfl⟩ ?_
    obtain ⟨b_54, h55, h⟩ := bd h
    obtain ⟨eh55, th55⟩ := g_o_some h55
    obtain ⟨q_52, h53, h⟩ := bd h
    refine xv_cvo E eh55 12 (as := [.inl q_44.1, .inl q_48.1]) (t183 G l (c_V_some h53)) cd183 mw1043 mw1044 mw1045 (show decode prog_14_method_63_code 197 = .ok (.invokevirtual 301, 3) by decide +kernel) th55 rfl rfl (Nat.le_of_ble_eq_true rfl) ⟨Nat.le_of_ble_eq_true rfl, Nat.le_of_ble_eq_true rfl⟩ ?_
    refine xv_goto E 203 (show decode prog_14_method_63_code 200 = .ok (.goto (3), 3) by decide +kernel) rfl ?_
    exact xv_w (sb218_203 E B  q_52 h hN) rfl
  · rw [if_neg q74] at h
    refine xv_icmp_ge E 181 (show decode prog_14_method_63_code 115 = .ok (.if_icmp .ge (66), 3) by decide +kernel) rfl (fun z => absurd z q74) (fun _ => ?_)
    refine xv_b E [.aload_n 0] (pc' := 119) (lv' := [(0, .inr (.inr (some a0))), (1, .inl v1), (2, .inl v2), (3, .inl v3), (4, .inl v4)]) (st' := [.inr (.inr (some a0))]) (by decide +kernel) rfl rfl ?_
    obtain ⟨o_56, h57, h⟩ := bd h
    refine xg_r E 12 44 h57 mw903 (show decode prog_14_method_63_code 119 = .ok (.getfield 125, 3) by decide +kernel) ?_
    refine xv_b E [.bipush 48, .iload_n 1, .imul, .bipush 8, .iload 4, .imul, .iadd] (pc' := 132) (lv' := [(0, .inr (.inr (some a0))), (1, .inl v1), (2, .inl v2), (3, .inl v3), (4, .inl v4)]) (st' := [.inl (((48 : Int32) * v1) + ((8 : Int32) * v4)), .inr (.inr o_56)]) (by decide +kernel) rfl rfl ?_
    obtain ⟨v_58, h59, h⟩ := bd h
    refine xa_i E h59 (show decode prog_14_method_63_code 132 = .ok (.iaload, 1) by decide +kernel) ?_
    refine xv_b E [.iload_n 3] (pc' := 134) (lv' := [(0, .inr (.inr (some a0))), (1, .inl v1), (2, .inl v2), (3, .inl v3), (4, .inl v4)]) (st' := [.inl v3, .inl v_58]) (by decide +kernel) rfl rfl ?_
    by_cases q73 : v_58 = v3
    · rw [if_pos q73] at h
      refine xv_icmp_ne E 175 (show decode prog_14_method_63_code 134 = .ok (.if_icmp .ne (41), 3) by decide +kernel) rfl (fun z => absurd q73 z) (fun _ => ?_)
      refine xv_b E [.aload_n 0] (pc' := 138) (lv' := [(0, .inr (.inr (some a0))), (1, .inl v1), (2, .inl v2), (3, .inl v3), (4, .inl v4)]) (st' := [.inr (.inr (some a0))]) (by decide +kernel) rfl rfl ?_
      obtain ⟨o_60, h61, h⟩ := bd h
      refine xg_r E 12 44 h61 mw903 (show decode prog_14_method_63_code 138 = .ok (.getfield 125, 3) by decide +kernel) ?_
      refine xv_b E [.bipush 48, .iload_n 1, .imul, .bipush 8, .iload 4, .imul, .iadd, .iconst 1, .iadd] (pc' := 153) (lv' := [(0, .inr (.inr (some a0))), (1, .inl v1), (2, .inl v2), (3, .inl v3), (4, .inl v4)]) (st' := [.inl ((((48 : Int32) * v1) + ((8 : Int32) * v4)) + (1 : Int32)), .inr (.inr o_60)]) (by decide +kernel) rfl rfl ?_
      obtain ⟨v_62, h63, h⟩ := bd h
      refine xa_i E h63 (show decode prog_14_method_63_code 153 = .ok (.iaload, 1) by decide +kernel) ?_
      refine xv_b E [.aload_n 0, .iload_n 2, .bipush 7, .iconst 2] (pc' := 159) (lv' := [(0, .inr (.inr (some a0))), (1, .inl v1), (2, .inl v2), (3, .inl v3), (4, .inl v4)]) (st' := [.inl (2 : Int32), .inl (7 : Int32), .inl v2, .inr (.inr (some a0)), .inl v_62]) (by decide +kernel) rfl rfl ?_
      obtain ⟨b_66, h67, h⟩ := bd h
      obtain ⟨eh67, th67⟩ := g_o_some h67
      obtain ⟨q_64, h65, h⟩ := bd h
      refine xv_cvo E eh67 12 (as := [.inl v2, .inl (7 : Int32), .inl (2 : Int32)]) (t166 G l (c_I_some h65)) cd166 mw947 mw948 mw949 (show decode prog_14_method_63_code 159 = .ok (.invokevirtual 198, 3) by decide +kernel) th67 rfl rfl (Nat.le_of_ble_eq_true rfl) ⟨Nat.le_of_ble_eq_true rfl, Nat.le_of_ble_eq_true rfl⟩ ?_
      by_cases q72 : v_62 = q_64.1
      · rw [if_pos q72] at h
        refine xv_icmp_ne E 175 (show decode prog_14_method_63_code 162 = .ok (.if_icmp .ne (13), 3) by decide +kernel) rfl (fun z => absurd q72 z) (fun _ => ?_)
        refine xv_b E [.aload_n 0, .iload_n 1, .iload 4] (pc' := 169) (lv' := [(0, .inr (.inr (some a0))), (1, .inl v1), (2, .inl v2), (3, .inl v3), (4, .inl v4)]) (st' := [.inl v4, .inl v1, .inr (.inr (some a0))]) (by decide +kernel) rfl rfl ?_
        obtain ⟨b_70, h71, h⟩ := bd h
        obtain ⟨eh71, th71⟩ := g_o_some h71
        obtain ⟨q_68, h69, h⟩ := bd h
        refine xv_cvo E eh71 12 (as := [.inl v1, .inl v4]) (t203 G l (c_V_some h69)) cd203 mw1065 mw1066 mw1067 (show decode prog_14_method_63_code 169 = .ok (.invokevirtual 370, 3) by decide +kernel) th71 rfl rfl (Nat.le_of_ble_eq_true rfl) ⟨Nat.le_of_ble_eq_true rfl, Nat.le_of_ble_eq_true rfl⟩ ?_
        refine xv_goto E 107 (show decode prog_14_method_63_code 172 = .ok (.goto (-65), 3) by decide +kernel) rfl ?_
        obtain rfl := Option.some.inj h
        exact xv_w hN rfl
      · rw [if_neg q72] at h
        refine xv_icmp_ne E 175 (show decode prog_14_method_63_code 162 = .ok (.if_icmp .ne (13), 3) by decide +kernel) rfl (fun _ => ?_) (fun z => absurd z q72)
        exact xv_w (sb218_175 E B a0 v1 v2 v3 v4 q_64.2 h hN) rfl
    · rw [if_neg q73] at h
      refine xv_icmp_ne E 175 (show decode prog_14_method_63_code 134 = .ok (.if_icmp .ne (41), 3) by decide +kernel) rfl (fun _ => ?_) (fun z => absurd z q73)
      exact xv_w (sb218_175 E B a0 v1 v2 v3 v4 M h hN) rfl
end
theorem t218 (G : gX) (l : Launch) {as : List aV} {M : hM} {r : Option aV} {M' : hM} (h : f218 as M = some (r, M')) : xM G l ym218 prog_14_method_63_code 5 none 6 as M r M' := by
  unfold f218 at h
  split at h
  · have hle : ∀ h as M res, k218 h as M = some res → h_sz M ≤ r_sz res ∧ h_sl M ≤ r_sl res := by
      intro h as M res hb
      unfold k218 at hb
      by_cases e0 : h = 107
      · rw [if_pos e0] at hb
        split at hb
        · exact lb218_107 G l _ _ _ _ _ M hb
        · cases hb
      · rw [if_neg e0] at hb
        cases hb
    obtain ⟨res, hx, hres⟩ := x_go_ok h
    refine xM_of (by decide) (Nat.le_of_ble_eq_true rfl) ?_ ?_
    · have e1 := lb218_0 G l _ _ _ M hx
      have e2 := x_go_le hle hres
      omega
    · intro p e s m args below meth c E B
      refine sb218_0 E B _ _ _ M hx (hres _ ?_)
      intro h as M res hb hN
      unfold k218 at hb
      unfold pg218
      by_cases e0 : h = 107
      · rw [if_pos e0] at hb ⊢
        split at hb
        · exact sb218_107 E B _ _ _ _ _ M hb hN
        · cases hb
      · rw [if_neg e0] at hb ⊢
        cases hb
  · cases h
/-! ZFModel.gets(II)V -/
def ym219 : MethodName := ⟨"ZonedFabricModel", "gets", "(II)V"⟩
theorem cd219 : xCd ym219 prog_14_method_57_code 3 none 2 := ⟨mw1106, mw864, by decide, by decide, by decide +kernel⟩
def b219_24  (M : hM) : Option xRes :=
  some (.inl (none, M))
def b219_0 (a0 : Nat) (v1 : Int32) (v2 : Int32) (M : hM) : Option xRes :=
  Option.bind (g_r M 12 33 (some a0)) fun o_1 =>
  Option.bind (al_i M 22 o_1 v1) fun v_3 =>
  if v_3 = 0 then
    (Option.bind (g_o M 12 (some a0)) fun b_7 =>
    Option.bind (c_V (f211 [.inr (.inr (some b_7)), .inl v1, .inl v2] M)) fun q_5 =>
    b219_24  q_5)
  else
    (Option.bind (g_o M 12 (some a0)) fun b_11 =>
    Option.bind (c_V (f218 [.inr (.inr (some b_11)), .inl v1, .inl v2] M)) fun q_9 =>
    b219_24  q_9)
def f219 (as : List aV) (M : hM) : xO := match as with
  | [.inr (.inr (some a0)), .inl v1, .inl v2] => x_out (b219_0 a0 v1 v2 M)
  | _ => none
theorem lb219_24 (G : gX) (l : Launch)  (M : hM) {res : xRes} (h : b219_24  M = some res) : h_sz M ≤ r_sz res ∧ h_sl M ≤ r_sl res := by
  unfold b219_24 at h
  obtain rfl := Option.some.inj h
  show h_sz M ≤ h_sz M ∧ h_sl M ≤ h_sl M
  omega
theorem lb219_0 (G : gX) (l : Launch) (a0 : Nat) (v1 : Int32) (v2 : Int32) (M : hM) {res : xRes} (h : b219_0 a0 v1 v2 M = some res) : h_sz M ≤ r_sz res ∧ h_sl M ≤ r_sl res := by
  unfold b219_0 at h
  obtain ⟨o_1, h2, h⟩ := bd h
  obtain ⟨v_3, h4, h⟩ := bd h
  by_cases q13 : v_3 = 0
  · rw [if_pos q13] at h
    obtain ⟨b_7, h8, h⟩ := bd h
    obtain ⟨q_5, h6, h⟩ := bd h
    have eh6 := (t211 G l (c_V_some h6)).1
    have e := lb219_24 G l  q_5 h
    omega
  · rw [if_neg q13] at h
    obtain ⟨b_11, h12, h⟩ := bd h
    obtain ⟨q_9, h10, h⟩ := bd h
    have eh10 := (t218 G l (c_V_some h10)).1
    have e := lb219_24 G l  q_9 h
    omega
section
variable {p : Program} {l : Launch} {e : Env} {s : State} {m : MethodId} {args : Array Value} {below : List Frame} {meth : Method} {c : Code} {G : gX} {z0 y0 : Nat} {r : Option aV} {M' : hM}
theorem sb219_24 (E : xE G p (xRm 8 (h_sz M' - z0) (h_sl M' - y0)) s m args c prog_14_method_57_code "ZonedFabricModel" z0 y0 (h_sz M') (h_sl M') 3) (B : xB ym219 none meth)  (M : hM) {res : xRes} (h : b219_24  M = some res) (hN : xN (fun _ _ _ => False) r M' res) : xV G p l e (xRm 8 (h_sz M' - z0) (h_sl M' - y0)) s m args below meth c z0 y0 (h_sz M') (h_sl M') 3 (MQ below (xQc G r M') args s (h_sz M' - z0) (h_sl M' - y0) (xFr G)) 24 [] [] M := by
  unfold b219_24 at h
  obtain rfl := Option.some.inj h
  obtain ⟨rfl, rfl⟩ := Prod.mk.inj (show ((none : Option aV), M) = (r, M') from hN)
  exact xv_rv E B.1 B.2.1 (show decode prog_14_method_57_code 24 = .ok (.return_, 1) by decide +kernel) rfl rfl
theorem sb219_0 (E : xE G p (xRm 8 (h_sz M' - z0) (h_sl M' - y0)) s m args c prog_14_method_57_code "ZonedFabricModel" z0 y0 (h_sz M') (h_sl M') 3) (B : xB ym219 none meth) (a0 : Nat) (v1 : Int32) (v2 : Int32) (M : hM) {res : xRes} (h : b219_0 a0 v1 v2 M = some res) (hN : xN (fun _ _ _ => False) r M' res) : xV G p l e (xRm 8 (h_sz M' - z0) (h_sl M' - y0)) s m args below meth c z0 y0 (h_sz M') (h_sl M') 3 (MQ below (xQc G r M') args s (h_sz M' - z0) (h_sl M' - y0) (xFr G)) 0 [(0, .inr (.inr (some a0))), (1, .inl v1), (2, .inl v2)] [] M := by
  unfold b219_0 at h
  refine xv_b E [.aload_n 0] (pc' := 1) (lv' := [(0, .inr (.inr (some a0))), (1, .inl v1), (2, .inl v2)]) (st' := [.inr (.inr (some a0))]) (by decide +kernel) rfl rfl ?_
  obtain ⟨o_1, h2, h⟩ := bd h
  refine xg_r E 12 33 h2 mw893 (show decode prog_14_method_57_code 1 = .ok (.getfield 94, 3) by decide +kernel) ?_
  refine xv_b E [.iload_n 1] (pc' := 5) (lv' := [(0, .inr (.inr (some a0))), (1, .inl v1), (2, .inl v2)]) (st' := [.inl v1, .inr (.inr o_1)]) (by decide +kernel) rfl rfl ?_
  obtain ⟨v_3, h4, h⟩ := bd h
  refine xa_z E h4 (show decode prog_14_method_57_code 5 = .ok (.baload, 1) by decide +kernel) ?_
  by_cases q13 : v_3 = 0
  · rw [if_pos q13] at h
    refine xv_if_eq E 18 (show decode prog_14_method_57_code 6 = .ok (.ifCond .eq (12), 3) by decide +kernel) rfl (fun _ => ?_) (fun z => absurd q13 z)
    refine xv_b E [.aload_n 0, .iload_n 1, .iload_n 2] (pc' := 21) (lv' := [(0, .inr (.inr (some a0))), (1, .inl v1), (2, .inl v2)]) (st' := [.inl v2, .inl v1, .inr (.inr (some a0))]) (by decide +kernel) rfl rfl ?_
    obtain ⟨b_7, h8, h⟩ := bd h
    obtain ⟨eh8, th8⟩ := g_o_some h8
    obtain ⟨q_5, h6, h⟩ := bd h
    refine xv_cvo E eh8 12 (as := [.inl v1, .inl v2]) (t211 G l (c_V_some h6)) cd211 mw1107 mw1108 mw1109 (show decode prog_14_method_57_code 21 = .ok (.invokevirtual 384, 3) by decide +kernel) th8 rfl rfl (Nat.le_of_ble_eq_true rfl) ⟨Nat.le_of_ble_eq_true rfl, Nat.le_of_ble_eq_true rfl⟩ ?_
    exact xv_w (sb219_24 E B  q_5 h hN) rfl
  · rw [if_neg q13] at h
    refine xv_if_eq E 18 (show decode prog_14_method_57_code 6 = .ok (.ifCond .eq (12), 3) by decide +kernel) rfl (fun z => absurd z q13) (fun _ => ?_)
    refine xv_b E [.aload_n 0, .iload_n 1, .iload_n 2] (pc' := 12) (lv' := [(0, .inr (.inr (some a0))), (1, .inl v1), (2, .inl v2)]) (st' := [.inl v2, .inl v1, .inr (.inr (some a0))]) (by decide +kernel) rfl rfl ?_
    obtain ⟨b_11, h12, h⟩ := bd h
    obtain ⟨eh12, th12⟩ := g_o_some h12
    obtain ⟨q_9, h10, h⟩ := bd h
    refine xv_cvo E eh12 12 (as := [.inl v1, .inl v2]) (t218 G l (c_V_some h10)) cd218 mw1110 mw1111 mw1112 (show decode prog_14_method_57_code 12 = .ok (.invokevirtual 381, 3) by decide +kernel) th12 rfl rfl (Nat.le_of_ble_eq_true rfl) ⟨Nat.le_of_ble_eq_true rfl, Nat.le_of_ble_eq_true rfl⟩ ?_
    refine xv_goto E 24 (show decode prog_14_method_57_code 15 = .ok (.goto (9), 3) by decide +kernel) rfl ?_
    exact xv_w (sb219_24 E B  q_9 h hN) rfl
end
theorem t219 (G : gX) (l : Launch) {as : List aV} {M : hM} {r : Option aV} {M' : hM} (h : f219 as M = some (r, M')) : xM G l ym219 prog_14_method_57_code 3 none 8 as M r M' := by
  unfold f219 at h
  split at h
  · have h := x_out_ok h
    refine xM_of (by decide) (Nat.le_of_ble_eq_true rfl) (lb219_0 G l _ _ _ M h) ?_
    intro p e s m args below meth c E B
    exact sb219_0 E B _ _ _ M h rfl
  · cases h
/-! ZFModel.welcomes(II)V -/
def ym220 : MethodName := ⟨"ZonedFabricModel", "welcomes", "(II)V"⟩
theorem cd220 : xCd ym220 prog_14_method_51_code 3 none 2 := ⟨mw1113, mw864, by decide, by decide, by decide +kernel⟩
def b220_24 (a0 : Nat) (v1 : Int32) (v2 : Int32) (M : hM) : Option xRes :=
  Option.bind (g_r M 12 35 (some a0)) fun o_15 =>
  Option.bind (as_i M 20 o_15 v1 v2) fun M17 =>
  some (.inl (none, M17))
def b220_0 (a0 : Nat) (v1 : Int32) (v2 : Int32) (M : hM) : Option xRes :=
  Option.bind (g_r M 12 35 (some a0)) fun o_1 =>
  Option.bind (al_i M 20 o_1 v1) fun v_3 =>
  if v_3 = 0 then
    (b220_24 a0 v1 v2 M)
  else
    (Option.bind (g_r M 12 35 (some a0)) fun o_5 =>
    Option.bind (al_i M 20 o_5 v1) fun v_7 =>
    if v_7 = v2 then
      (b220_24 a0 v1 v2 M)
    else
      (Option.bind (g_o M 12 (some a0)) fun b_11 =>
      Option.bind (c_V (f186 [.inr (.inr (some b_11)), .inl v1] M)) fun q_9 =>
      b220_24 a0 v1 v2 q_9))
def f220 (as : List aV) (M : hM) : xO := match as with
  | [.inr (.inr (some a0)), .inl v1, .inl v2] => x_out (b220_0 a0 v1 v2 M)
  | _ => none
theorem lb220_24 (G : gX) (l : Launch) (a0 : Nat) (v1 : Int32) (v2 : Int32) (M : hM) {res : xRes} (h : b220_24 a0 v1 v2 M = some res) : h_sz M ≤ r_sz res ∧ h_sl M ≤ r_sl res := by
  unfold b220_24 at h
  obtain ⟨o_15, h16, h⟩ := bd h
  obtain ⟨M17, h18, h⟩ := bd h
  have eh18 := as_i_sz h18
  obtain rfl := Option.some.inj h
  show h_sz M ≤ h_sz M17 ∧ h_sl M ≤ h_sl M17
  omega
theorem lb220_0 (G : gX) (l : Launch) (a0 : Nat) (v1 : Int32) (v2 : Int32) (M : hM) {res : xRes} (h : b220_0 a0 v1 v2 M = some res) : h_sz M ≤ r_sz res ∧ h_sl M ≤ r_sl res := by
  unfold b220_0 at h
  obtain ⟨o_1, h2, h⟩ := bd h
  obtain ⟨v_3, h4, h⟩ := bd h
  by_cases q14 : v_3 = 0
  · rw [if_pos q14] at h
    have e := lb220_24 G l a0 v1 v2 M h
    omega
  · rw [if_neg q14] at h
    obtain ⟨o_5, h6, h⟩ := bd h
    obtain ⟨v_7, h8, h⟩ := bd h
    by_cases q13 : v_7 = v2
    · rw [if_pos q13] at h
      have e := lb220_24 G l a0 v1 v2 M h
      omega
    · rw [if_neg q13] at h
      obtain ⟨b_11, h12, h⟩ := bd h
      obtain ⟨q_9, h10, h⟩ := bd h
      have eh10 := (t186 G l (c_V_some h10)).1
      have e := lb220_24 G l a0 v1 v2 q_9 h
      omega
section
variable {p : Program} {l : Launch} {e : Env} {s : State} {m : MethodId} {args : Array Value} {below : List Frame} {meth : Method} {c : Code} {G : gX} {z0 y0 : Nat} {r : Option aV} {M' : hM}
theorem sb220_24 (E : xE G p (xRm 1 (h_sz M' - z0) (h_sl M' - y0)) s m args c prog_14_method_51_code "ZonedFabricModel" z0 y0 (h_sz M') (h_sl M') 3) (B : xB ym220 none meth) (a0 : Nat) (v1 : Int32) (v2 : Int32) (M : hM) {res : xRes} (h : b220_24 a0 v1 v2 M = some res) (hN : xN (fun _ _ _ => False) r M' res) : xV G p l e (xRm 1 (h_sz M' - z0) (h_sl M' - y0)) s m args below meth c z0 y0 (h_sz M') (h_sl M') 3 (MQ below (xQc G r M') args s (h_sz M' - z0) (h_sl M' - y0) (xFr G)) 24 [(0, .inr (.inr (some a0))), (1, .inl v1), (2, .inl v2)] [] M := by
  unfold b220_24 at h
  refine xv_b E [.aload_n 0] (pc' := 25) (lv' := [(0, .inr (.inr (some a0))), (1, .inl v1), (2, .inl v2)]) (st' := [.inr (.inr (some a0))]) (by decide +kernel) rfl rfl ?_
  obtain ⟨o_15, h16, h⟩ := bd h
  refine xg_r E 12 35 h16 mw895 (show decode prog_14_method_51_code 25 = .ok (.getfield 100, 3) by decide +kernel) ?_
  refine xv_b E [.iload_n 1, .iload_n 2] (pc' := 30) (lv' := [(0, .inr (.inr (some a0))), (1, .inl v1), (2, .inl v2)]) (st' := [.inl v2, .inl v1, .inr (.inr o_15)]) (by decide +kernel) rfl rfl ?_
  obtain ⟨M17, h18, h⟩ := bd h
  refine xs_i E h18 (show decode prog_14_method_51_code 30 = .ok (.iastore, 1) by decide +kernel) ?_
  obtain rfl := Option.some.inj h
  obtain ⟨rfl, rfl⟩ := Prod.mk.inj (show ((none : Option aV), M17) = (r, M') from hN)
  exact xv_rv E B.1 B.2.1 (show decode prog_14_method_51_code 31 = .ok (.return_, 1) by decide +kernel) rfl rfl
theorem sb220_0 (E : xE G p (xRm 1 (h_sz M' - z0) (h_sl M' - y0)) s m args c prog_14_method_51_code "ZonedFabricModel" z0 y0 (h_sz M') (h_sl M') 3) (B : xB ym220 none meth) (a0 : Nat) (v1 : Int32) (v2 : Int32) (M : hM) {res : xRes} (h : b220_0 a0 v1 v2 M = some res) (hN : xN (fun _ _ _ => False) r M' res) : xV G p l e (xRm 1 (h_sz M' - z0) (h_sl M' - y0)) s m args below meth c z0 y0 (h_sz M') (h_sl M') 3 (MQ below (xQc G r M') args s (h_sz M' - z0) (h_sl M' - y0) (xFr G)) 0 [(0, .inr (.inr (some a0))), (1, .inl v1), (2, .inl v2)] [] M := by
  unfold b220_0 at h
  refine xv_b E [.aload_n 0] (pc' := 1) (lv' := [(0, .inr (.inr (some a0))), (1, .inl v1), (2, .inl v2)]) (st' := [.inr (.inr (some a0))]) (by decide +kernel) rfl rfl ?_
  obtain ⟨o_1, h2, h⟩ := bd h
  refine xg_r E 12 35 h2 mw895 (show decode prog_14_method_51_code 1 = .ok (.getfield 100, 3) by decide +kernel) ?_
  refine xv_b E [.iload_n 1] (pc' := 5) (lv' := [(0, .inr (.inr (some a0))), (1, .inl v1), (2, .inl v2)]) (st' := [.inl v1, .inr (.inr o_1)]) (by decide +kernel) rfl rfl ?_
  obtain ⟨v_3, h4, h⟩ := bd h
  refine xa_i E h4 (show decode prog_14_method_51_code 5 = .ok (.iaload, 1) by decide +kernel) ?_
  by_cases q14 : v_3 = 0
  · rw [if_pos q14] at h
    refine xv_if_eq E 24 (show decode prog_14_method_51_code 6 = .ok (.ifCond .eq (18), 3) by decide +kernel) rfl (fun _ => ?_) (fun z => absurd q14 z)
    exact xv_w (sb220_24 E B a0 v1 v2 M h hN) rfl
  · rw [if_neg q14] at h
    refine xv_if_eq E 24 (show decode prog_14_method_51_code 6 = .ok (.ifCond .eq (18), 3) by decide +kernel) rfl (fun z => absurd z q14) (fun _ => ?_)
    refine xv_b E [.aload_n 0] (pc' := 10) (lv' := [(0, .inr (.inr (some a0))), (1, .inl v1), (2, .inl v2)]) (st' := [.inr (.inr (some a0))]) (by decide +kernel) rfl rfl ?_
    obtain ⟨o_5, h6, h⟩ := bd h
    refine xg_r E 12 35 h6 mw895 (show decode prog_14_method_51_code 10 = .ok (.getfield 100, 3) by decide +kernel) ?_
    refine xv_b E [.iload_n 1] (pc' := 14) (lv' := [(0, .inr (.inr (some a0))), (1, .inl v1), (2, .inl v2)]) (st' := [.inl v1, .inr (.inr o_5)]) (by decide +kernel) rfl rfl ?_
    obtain ⟨v_7, h8, h⟩ := bd h
    refine xa_i E h8 (show decode prog_14_method_51_code 14 = .ok (.iaload, 1) by decide +kernel) ?_
    refine xv_b E [.iload_n 2] (pc' := 16) (lv' := [(0, .inr (.inr (some a0))), (1, .inl v1), (2, .inl v2)]) (st' := [.inl v2, .inl v_7]) (by decide +kernel) rfl rfl ?_
    by_cases q13 : v_7 = v2
    · rw [if_pos q13] at h
      refine xv_icmp_eq E 24 (show decode prog_14_method_51_code 16 = .ok (.if_icmp .eq (8), 3) by decide +kernel) rfl (fun _ => ?_) (fun z => absurd q13 z)
      exact xv_w (sb220_24 E B a0 v1 v2 M h hN) rfl
    · rw [if_neg q13] at h
      refine xv_icmp_eq E 24 (show decode prog_14_method_51_code 16 = .ok (.if_icmp .eq (8), 3) by decide +kernel) rfl (fun z => absurd z q13) (fun _ => ?_)
      refine xv_b E [.aload_n 0, .iload_n 1] (pc' := 21) (lv' := [(0, .inr (.inr (some a0))), (1, .inl v1), (2, .inl v2)]) (st' := [.inl v1, .inr (.inr (some a0))]) (by decide +kernel) rfl rfl ?_
      obtain ⟨b_11, h12, h⟩ := bd h
      obtain ⟨eh12, th12⟩ := g_o_some h12
      obtain ⟨q_9, h10, h⟩ := bd h
      refine xv_cvo E eh12 12 (as := [.inl v1]) (t186 G l (c_V_some h10)) cd186 mw988 mw989 mw990 (show decode prog_14_method_51_code 21 = .ok (.invokevirtual 234, 3) by decide +kernel) th12 rfl rfl (Nat.le_of_ble_eq_true rfl) ⟨Nat.le_of_ble_eq_true rfl, Nat.le_of_ble_eq_true rfl⟩ ?_
      exact xv_w (sb220_24 E B a0 v1 v2 q_9 h hN) rfl
end
theorem t220 (G : gX) (l : Launch) {as : List aV} {M : hM} {r : Option aV} {M' : hM} (h : f220 as M = some (r, M')) : xM G l ym220 prog_14_method_51_code 3 none 1 as M r M' := by
  unfold f220 at h
  split at h
  · have h := x_out_ok h
    refine xM_of (by decide) (Nat.le_of_ble_eq_true rfl) (lb220_0 G l _ _ _ M h) ?_
    intro p e s m args below meth c E B
    exact sb220_0 E B _ _ _ M h rfl
  · cases h
/-! ZFModel.nodeTicks(I)V -/
def ym221 : MethodName := ⟨"ZonedFabricModel", "nodeTicks", "(I)V"⟩
theorem cd221 : xCd ym221 prog_14_method_50_code 5 none 1 := ⟨mw1114, mw864, by decide, by decide, by decide +kernel⟩
def b221_0 (a0 : Nat) (v1 : Int32) (M : hM) : Option xRes :=
  Option.bind (g_o M 12 (some a0)) fun b_3 =>
  Option.bind (c_I (f176 [.inr (.inr (some b_3)), .inl v1] M)) fun q_1 =>
  some (.inr (6, [.inr (.inr (some a0)), .inl v1, .inl q_1.1], q_1.2))
def b221_110 (a0 : Nat) (v1 : Int32) (v2 : Int32) (v3 : Int32) (M : hM) : Option xRes :=
  Option.bind (g_o M 12 (some a0)) fun b_67 =>
  Option.bind (c_V (f171 [.inr (.inr (some b_67)), .inl v3] M)) fun q_65 =>
  some (.inr (6, [.inr (.inr (some a0)), .inl v1, .inl v2], q_65))
def b221_84 (a0 : Nat) (v1 : Int32) (v2 : Int32) (v3 : Int32) (v4 : Int32) (M : hM) : Option xRes :=
  Option.bind (g_r M 12 35 (some a0)) fun o_51 =>
  Option.bind (al_i M 20 o_51 v1) fun v_53 =>
  if v_53 = 0 then
    (b221_110 a0 v1 v2 v3 M)
  else
    (Option.bind (g_r M 12 35 (some a0)) fun o_55 =>
    Option.bind (al_i M 20 o_55 v1) fun v_57 =>
    if v4 = v_57 then
      (Option.bind (g_o M 12 (some a0)) fun b_61 =>
      Option.bind (c_V (f219 [.inr (.inr (some b_61)), .inl v1, .inl v3] M)) fun q_59 =>
      b221_110 a0 v1 v2 v3 q_59)
    else
      (b221_110 a0 v1 v2 v3 M))
def b221_6 (a0 : Nat) (v1 : Int32) (v2 : Int32) (M : hM) : Option xRes :=
  Option.bind (g_r M 12 17 (some a0)) fun o_5 =>
  Option.bind (al_i M 20 o_5 v2) fun v_7 =>
  if v_7 ≤ 0 then
    (Option.bind (g_o M 12 (some a0)) fun b_11 =>
    Option.bind (c_V (f208 [.inr (.inr (some b_11)), .inl v1] M)) fun q_9 =>
    Option.bind (g_o q_9 12 (some a0)) fun b_15 =>
    Option.bind (c_V (f184 [.inr (.inr (some b_15)), .inl v2] q_9)) fun q_13 =>
    some (.inl (none, q_13)))
  else
    (Option.bind (g_o M 12 (some a0)) fun b_19 =>
    Option.bind (c_I (f185 [.inr (.inr (some b_19)), .inl v2] M)) fun q_17 =>
    Option.bind (g_o q_17.2 12 (some a0)) fun b_23 =>
    Option.bind (c_I (f166 [.inr (.inr (some b_23)), .inl q_17.1, .inl (1 : Int32), .inl (3 : Int32)] q_17.2)) fun q_21 =>
    Option.bind (g_o q_21.2 12 (some a0)) fun b_27 =>
    Option.bind (c_I (f174 [.inr (.inr (some b_27)), .inl q_17.1] q_21.2)) fun q_25 =>
    if q_25.1 = 0 then
      (Option.bind (g_r q_25.2 12 4 (some a0)) fun o_43 =>
      Option.bind (al_i q_25.2 20 o_43 (1 : Int32)) fun v_45 =>
      Option.bind (as_i q_25.2 20 o_43 (1 : Int32) (v_45 + (1 : Int32))) fun M47 =>
      b221_110 a0 v1 v2 q_17.1 M47)
    else
      (Option.bind (g_o q_25.2 12 (some a0)) fun b_31 =>
      Option.bind (c_I (f165 [.inr (.inr (some b_31)), .inl q_17.1, .inl (0 : Int32)] q_25.2)) fun q_29 =>
      if q_29.1 = (4 : Int32) then
        (Option.bind (g_o q_29.2 12 (some a0)) fun b_35 =>
        Option.bind (c_I (f166 [.inr (.inr (some b_35)), .inl q_17.1, .inl (4 : Int32), .inl (3 : Int32)] q_29.2)) fun q_33 =>
        if q_33.1 = (16777214 : Int32) then
          (Option.bind (g_o q_33.2 12 (some a0)) fun b_39 =>
          Option.bind (c_V (f220 [.inr (.inr (some b_39)), .inl v1, .inl q_21.1] q_33.2)) fun q_37 =>
          b221_110 a0 v1 v2 q_17.1 q_37)
        else
          (b221_84 a0 v1 v2 q_17.1 q_21.1 q_33.2))
      else
        (b221_84 a0 v1 v2 q_17.1 q_21.1 q_29.2)))
def k221 (h : Nat) (as : List aV) (M : hM) : Option xRes :=
  if h = 6 then (match as with | [.inr (.inr (some a0)), .inl v1, .inl v2] => b221_6 a0 v1 v2 M | _ => none) else
  none
def f221 (as : List aV) (M : hM) : xO := match as with
  | [.inr (.inr (some a0)), .inl v1] => x_go k221 (b221_0 a0 v1 M)
  | _ => none
theorem lb221_0 (G : gX) (l : Launch) (a0 : Nat) (v1 : Int32) (M : hM) {res : xRes} (h : b221_0 a0 v1 M = some res) : h_sz M ≤ r_sz res ∧ h_sl M ≤ r_sl res := by
  unfold b221_0 at h
  obtain ⟨b_3, h4, h⟩ := bd h
  obtain ⟨q_1, h2, h⟩ := bd h
  have eh2 := (t176 G l (c_I_some h2)).1
  obtain rfl := Option.some.inj h
  show h_sz M ≤ h_sz q_1.2 ∧ h_sl M ≤ h_sl q_1.2
  omega
theorem lb221_110 (G : gX) (l : Launch) (a0 : Nat) (v1 : Int32) (v2 : Int32) (v3 : Int32) (M : hM) {res : xRes} (h : b221_110 a0 v1 v2 v3 M = some res) : h_sz M ≤ r_sz res ∧ h_sl M ≤ r_sl res := by
  unfold b221_110 at h
  obtain ⟨b_67, h68, h⟩ := bd h
  obtain ⟨q_65, h66, h⟩ := bd h
  have eh66 := (t171 G l (c_V_some h66)).1
  obtain rfl := Option.some.inj h
  show h_sz M ≤ h_sz q_65 ∧ h_sl M ≤ h_sl q_65
  omega
theorem lb221_84 (G : gX) (l : Launch) (a0 : Nat) (v1 : Int32) (v2 : Int32) (v3 : Int32) (v4 : Int32) (M : hM) {res : xRes} (h : b221_84 a0 v1 v2 v3 v4 M = some res) : h_sz M ≤ r_sz res ∧ h_sl M ≤ r_sl res := by
  unfold b221_84 at h
  obtain ⟨o_51, h52, h⟩ := bd h
  obtain ⟨v_53, h54, h⟩ := bd h
  by_cases q64 : v_53 = 0
  · rw [if_pos q64] at h
    have e := lb221_110 G l a0 v1 v2 v3 M h
    omega
  · rw [if_neg q64] at h
    obtain ⟨o_55, h56, h⟩ := bd h
    obtain ⟨v_57, h58, h⟩ := bd h
    by_cases q63 : v4 = v_57
    · rw [if_pos q63] at h
      obtain ⟨b_61, h62, h⟩ := bd h
      obtain ⟨q_59, h60, h⟩ := bd h
      have eh60 := (t219 G l (c_V_some h60)).1
      have e := lb221_110 G l a0 v1 v2 v3 q_59 h
      omega
    · rw [if_neg q63] at h
      have e := lb221_110 G l a0 v1 v2 v3 M h
      omega
theorem lb221_6 (G : gX) (l : Launch) (a0 : Nat) (v1 : Int32) (v2 : Int32) (M : hM) {res : xRes} (h : b221_6 a0 v1 v2 M = some res) : h_sz M ≤ r_sz res ∧ h_sl M ≤ r_sl res := by
  unfold b221_6 at h
  obtain ⟨o_5, h6, h⟩ := bd h
  obtain ⟨v_7, h8, h⟩ := bd h
  by_cases q50 : v_7 ≤ 0
  · rw [if_pos q50] at h
    obtain ⟨b_11, h12, h⟩ := bd h
    obtain ⟨q_9, h10, h⟩ := bd h
    have eh10 := (t208 G l (c_V_some h10)).1
    obtain ⟨b_15, h16, h⟩ := bd h
    obtain ⟨q_13, h14, h⟩ := bd h
    have eh14 := (t184 G l (c_V_some h14)).1
    obtain rfl := Option.some.inj h
    show h_sz M ≤ h_sz q_13 ∧ h_sl M ≤ h_sl q_13
    omega
  · rw [if_neg q50] at h
    obtain ⟨b_19, h20, h⟩ := bd h
    obtain ⟨q_17, h18, h⟩ := bd h
    have eh18 := (t185 G l (c_I_some h18)).1
    obtain ⟨b_23, h24, h⟩ := bd h
    obtain ⟨q_21, h22, h⟩ := bd h
    have eh22 := (t166 G l (c_I_some h22)).1
    obtain ⟨b_27, h28, h⟩ := bd h
    obtain ⟨q_25, h26, h⟩ := bd h
    have eh26 := (t174 G l (c_I_some h26)).1
    by_cases q49 : q_25.1 = 0
    · rw [if_pos q49] at h
      obtain ⟨o_43, h44, h⟩ := bd h
      obtain ⟨v_45, h46, h⟩ := bd h
      obtain ⟨M47, h48, h⟩ := bd h
      have eh48 := as_i_sz h48
      have e := lb221_110 G l a0 v1 v2 q_17.1 M47 h
      omega
    · rw [if_neg q49] at h
      obtain ⟨b_31, h32, h⟩ := bd h
      obtain ⟨q_29, h30, h⟩ := bd h
      have eh30 := (t165 G l (c_I_some h30)).1
      by_cases q42 : q_29.1 = (4 : Int32)
      · rw [if_pos q42] at h
        obtain ⟨b_35, h36, h⟩ := bd h
        obtain ⟨q_33, h34, h⟩ := bd h
        have eh34 := (t166 G l (c_I_some h34)).1
        by_cases q41 : q_33.1 = (16777214 : Int32)
        · rw [if_pos q41] at h
          obtain ⟨b_39, h40, h⟩ := bd h
          obtain ⟨q_37, h38, h⟩ := bd h
          have eh38 := (t220 G l (c_V_some h38)).1
          have e := lb221_110 G l a0 v1 v2 q_17.1 q_37 h
          omega
        · rw [if_neg q41] at h
          have e := lb221_84 G l a0 v1 v2 q_17.1 q_21.1 q_33.2 h
          omega
      · rw [if_neg q42] at h
        have e := lb221_84 G l a0 v1 v2 q_17.1 q_21.1 q_29.2 h
        omega
section
variable {p : Program} {l : Launch} {e : Env} {s : State} {m : MethodId} {args : Array Value} {below : List Frame} {meth : Method} {c : Code} {G : gX} {z0 y0 : Nat} {r : Option aV} {M' : hM}
def pg221 (p : Program) (l : Launch) (e : Env) (s : State) (m : MethodId) (args : Array Value) (below : List Frame) (meth : Method) (c : Code) (G : gX) (z0 y0 : Nat) (r : Option aV) (M' : hM) (h : Nat) (as : List aV) (M : hM) : Prop :=
  if h = 6 then (match as with | [.inr (.inr (some a0)), .inl v1, .inl v2] => xV G p l e (xRm 9 (h_sz M' - z0) (h_sl M' - y0)) s m args below meth c z0 y0 (h_sz M') (h_sl M') 5 (MQ below (xQc G r M') args s (h_sz M' - z0) (h_sl M' - y0) (xFr G)) 6 [(0, .inr (.inr (some a0))), (1, .inl v1), (2, .inl v2)] [] M | _ => False) else
  False
theorem sb221_0 (E : xE G p (xRm 9 (h_sz M' - z0) (h_sl M' - y0)) s m args c prog_14_method_50_code "ZonedFabricModel" z0 y0 (h_sz M') (h_sl M') 5) (B : xB ym221 none meth) (a0 : Nat) (v1 : Int32) (M : hM) {res : xRes} (h : b221_0 a0 v1 M = some res) (hN : xN (pg221 p l e s m args below meth c G z0 y0 r M') r M' res) : xV G p l e (xRm 9 (h_sz M' - z0) (h_sl M' - y0)) s m args below meth c z0 y0 (h_sz M') (h_sl M') 5 (MQ below (xQc G r M') args s (h_sz M' - z0) (h_sl M' - y0) (xFr G)) 0 [(0, .inr (.inr (some a0))), (1, .inl v1)] [] M := by
  unfold b221_0 at h
  refine xv_b E [.aload_n 0, .iload_n 1] (pc' := 2) (lv' := [(0, .inr (.inr (some a0))), (1, .inl v1)]) (st' := [.inl v1, .inr (.inr (some a0))]) (by decide +kernel) rfl rfl ?_
  obtain ⟨b_3, h4, h⟩ := bd h
  obtain ⟨eh4, th4⟩ := g_o_some h4
  obtain ⟨q_1, h2, h⟩ := bd h
  refine xv_cvo E eh4 12 (as := [.inl v1]) (t176 G l (c_I_some h2)) cd176 mw1040 mw1041 mw1042 (show decode prog_14_method_50_code 2 = .ok (.invokevirtual 352, 3) by decide +kernel) th4 rfl rfl (Nat.le_of_ble_eq_true rfl) ⟨Nat.le_of_ble_eq_true rfl, Nat.le_of_ble_eq_true rfl⟩ ?_
  refine xv_b E [.istore_n 2] (pc' := 6) (lv' := [(2, .inl q_1.1), (0, .inr (.inr (some a0))), (1, .inl v1)]) (st' := []) (by decide +kernel) rfl rfl ?_
  obtain rfl := Option.some.inj h
  exact xv_w hN rfl
theorem sb221_110 (E : xE G p (xRm 9 (h_sz M' - z0) (h_sl M' - y0)) s m args c prog_14_method_50_code "ZonedFabricModel" z0 y0 (h_sz M') (h_sl M') 5) (B : xB ym221 none meth) (a0 : Nat) (v1 : Int32) (v2 : Int32) (v3 : Int32) (M : hM) {res : xRes} (h : b221_110 a0 v1 v2 v3 M = some res) (hN : xN (pg221 p l e s m args below meth c G z0 y0 r M') r M' res) : xV G p l e (xRm 9 (h_sz M' - z0) (h_sl M' - y0)) s m args below meth c z0 y0 (h_sz M') (h_sl M') 5 (MQ below (xQc G r M') args s (h_sz M' - z0) (h_sl M' - y0) (xFr G)) 110 [(0, .inr (.inr (some a0))), (1, .inl v1), (2, .inl v2), (3, .inl v3)] [] M := by
  unfold b221_110 at h
  refine xv_b E [.aload_n 0, .iload_n 3] (pc' := 112) (lv' := [(0, .inr (.inr (some a0))), (1, .inl v1), (2, .inl v2), (3, .inl v3)]) (st' := [.inl v3, .inr (.inr (some a0))]) (by decide +kernel) rfl rfl ?_
  obtain ⟨b_67, h68, h⟩ := bd h
  obtain ⟨eh68, th68⟩ := g_o_some h68
  obtain ⟨q_65, h66, h⟩ := bd h
  refine xv_cvo E eh68 12 (as := [.inl v3]) (t171 G l (c_V_some h66)) cd171 mw975 mw976 mw977 (show decode prog_14_method_50_code 112 = .ok (.invokevirtual 224, 3) by decide +kernel) th68 rfl rfl (Nat.le_of_ble_eq_true rfl) ⟨Nat.le_of_ble_eq_true rfl, Nat.le_of_ble_eq_true rfl⟩ ?_
  refine xv_goto E 6 (show decode prog_14_method_50_code 115 = .ok (.goto (-109), 3) by decide +kernel) rfl ?_
  obtain rfl := Option.some.inj h
  exact xv_w hN rfl
theorem sb221_84 (E : xE G p (xRm 9 (h_sz M' - z0) (h_sl M' - y0)) s m args c prog_14_method_50_code "ZonedFabricModel" z0 y0 (h_sz M') (h_sl M') 5) (B : xB ym221 none meth) (a0 : Nat) (v1 : Int32) (v2 : Int32) (v3 : Int32) (v4 : Int32) (M : hM) {res : xRes} (h : b221_84 a0 v1 v2 v3 v4 M = some res) (hN : xN (pg221 p l e s m args below meth c G z0 y0 r M') r M' res) : xV G p l e (xRm 9 (h_sz M' - z0) (h_sl M' - y0)) s m args below meth c z0 y0 (h_sz M') (h_sl M') 5 (MQ below (xQc G r M') args s (h_sz M' - z0) (h_sl M' - y0) (xFr G)) 84 [(0, .inr (.inr (some a0))), (1, .inl v1), (2, .inl v2), (3, .inl v3), (4, .inl v4)] [] M := by
  unfold b221_84 at h
  refine xv_b E [.aload_n 0] (pc' := 85) (lv' := [(0, .inr (.inr (some a0))), (1, .inl v1), (2, .inl v2), (3, .inl v3), (4, .inl v4)]) (st' := [.inr (.inr (some a0))]) (by decide +kernel) rfl rfl ?_
  obtain ⟨o_51, h52, h⟩ := bd h
  refine xg_r E 12 35 h52 mw895 (show decode prog_14_method_50_code 85 = .ok (.getfield 100, 3) by decide +kernel) ?_
  refine xv_b E [.iload_n 1] (pc' := 89) (lv' := [(0, .inr (.inr (some a0))), (1, .inl v1), (2, .inl v2), (3, .inl v3), (4, .inl v4)]) (st' := [.inl v1, .inr (.inr o_51)]) (by decide +kernel) rfl rfl ?_
  obtain ⟨v_53, h54, h⟩ := bd h
  refine xa_i E h54 (show decode prog_14_method_50_code 89 = .ok (.iaload, 1) by decide +kernel) ?_
  by_cases q64 : v_53 = 0
  · rw [if_pos q64] at h
    refine xv_if_eq E 110 (show decode prog_14_method_50_code 90 = .ok (.ifCond .eq (20), 3) by decide +kernel) rfl (fun _ => ?_) (fun z => absurd q64 z)
    exact xv_w (sb221_110 E B a0 v1 v2 v3 M h hN) rfl
  · rw [if_neg q64] at h
    refine xv_if_eq E 110 (show decode prog_14_method_50_code 90 = .ok (.ifCond .eq (20), 3) by decide +kernel) rfl (fun z => absurd z q64) (fun _ => ?_)
    refine xv_b E [.iload 4, .aload_n 0] (pc' := 96) (lv' := [(0, .inr (.inr (some a0))), (1, .inl v1), (2, .inl v2), (3, .inl v3), (4, .inl v4)]) (st' := [.inr (.inr (some a0)), .inl v4]) (by decide +kernel) rfl rfl ?_
    obtain ⟨o_55, h56, h⟩ := bd h
    refine xg_r E 12 35 h56 mw895 (show decode prog_14_method_50_code 96 = .ok (.getfield 100, 3) by decide +kernel) ?_
    refine xv_b E [.iload_n 1] (pc' := 100) (lv' := [(0, .inr (.inr (some a0))), (1, .inl v1), (2, .inl v2), (3, .inl v3), (4, .inl v4)]) (st' := [.inl v1, .inr (.inr o_55), .inl v4]) (by decide +kernel) rfl rfl ?_
    obtain ⟨v_57, h58, h⟩ := bd h
    refine xa_i E h58 (show decode prog_14_method_50_code 100 = .ok (.iaload, 1) by decide +kernel) ?_
    by_cases q63 : v4 = v_57
    · rw [if_pos q63] at h
      refine xv_icmp_ne E 110 (show decode prog_14_method_50_code 101 = .ok (.if_icmp .ne (9), 3) by decide +kernel) rfl (fun z => absurd q63 z) (fun _ => ?_)
      refine xv_b E [.aload_n 0, .iload_n 1, .iload_n 3] (pc' := 107) (lv' := [(0, .inr (.inr (some a0))), (1, .inl v1), (2, .inl v2), (3, .inl v3), (4, .inl v4)]) (st' := [.inl v3, .inl v1, .inr (.inr (some a0))]) (by decide +kernel) rfl rfl ?_
      obtain ⟨b_61, h62, h⟩ := bd h
      obtain ⟨eh62, th62⟩ := g_o_some h62
      obtain ⟨q_59, h60, h⟩ := bd h
      refine xv_cvo E eh62 12 (as := [.inl v1, .inl v3]) (t219 G l (c_V_some h60)) cd219 mw1130 mw1131 mw1132 (show decode prog_14_method_50_code 107 = .ok (.invokevirtual 358, 3) by decide +kernel) th62 rfl rfl (Nat.le_of_ble_eq_true rfl) ⟨Nat.le_of_ble_eq_true rfl, Nat.le_of_ble_eq_true rfl⟩ ?_
      exact xv_w (sb221_110 E B a0 v1 v2 v3 q_59 h hN) rfl
    · rw [if_neg q63] at h
      refine xv_icmp_ne E 110 (show decode prog_14_method_50_code 101 = .ok (.if_icmp .ne (9), 3) by decide +kernel) rfl (fun _ => ?_) (fun z => absurd z q63)
      exact xv_w (sb221_110 E B a0 v1 v2 v3 M h hN) rfl
theorem sb221_6 (E : xE G p (xRm 9 (h_sz M' - z0) (h_sl M' - y0)) s m args c prog_14_method_50_code "ZonedFabricModel" z0 y0 (h_sz M') (h_sl M') 5) (B : xB ym221 none meth) (a0 : Nat) (v1 : Int32) (v2 : Int32) (M : hM) {res : xRes} (h : b221_6 a0 v1 v2 M = some res) (hN : xN (pg221 p l e s m args below meth c G z0 y0 r M') r M' res) : xV G p l e (xRm 9 (h_sz M' - z0) (h_sl M' - y0)) s m args below meth c z0 y0 (h_sz M') (h_sl M') 5 (MQ below (xQc G r M') args s (h_sz M' - z0) (h_sl M' - y0) (xFr G)) 6 [(0, .inr (.inr (some a0))), (1, .inl v1), (2, .inl v2)] [] M := by
  unfold b221_6 at h
  refine xv_b E [.aload_n 0] (pc' := 7) (lv' := [(0, .inr (.inr (some a0))), (1, .inl v1), (2, .inl v2)]) (st' := [.inr (.inr (some a0))]) (by decide +kernel) rfl rfl ?_
  obtain ⟨o_5, h6, h⟩ := bd h
  refine xg_r E 12 17 h6 mw877 (show decode prog_14_method_50_code 7 = .ok (.getfield 46, 3) by decide +kernel) ?_
  refine xv_b E [.iload_n 2] (pc' := 11) (lv' := [(0, .inr (.inr (some a0))), (1, .inl v1), (2, .inl v2)]) (st' := [.inl v2, .inr (.inr o_5)]) (by decide +kernel) rfl rfl ?_
  obtain ⟨v_7, h8, h⟩ := bd h
  refine xa_i E h8 (show decode prog_14_method_50_code 11 = .ok (.iaload, 1) by decide +kernel) ?_
  by_cases q50 : v_7 ≤ 0
  · rw [if_pos q50] at h
    refine xv_if_le E 118 (show decode prog_14_method_50_code 12 = .ok (.ifCond .le (106), 3) by decide +kernel) rfl (fun _ => ?_) (fun z => absurd q50 z)
    refine xv_b E [.aload_n 0, .iload_n 1] (pc' := 120) (lv' := [(0, .inr (.inr (some a0))), (1, .inl v1), (2, .inl v2)]) (st' := [.inl v1, .inr (.inr (some a0))]) (by decide +kernel) rfl rfl ?_
    obtain ⟨b_11, h12, h⟩ := bd h
    obtain ⟨eh12, th12⟩ := g_o_some h12
    obtain ⟨q_9, h10, h⟩ := bd h
    refine xv_cvo E eh12 12 (as := [.inl v1]) (t208 G l (c_V_some h10)) cd208 mw1115 mw1116 mw1117 (show decode prog_14_method_50_code 120 = .ok (.invokevirtual 361, 3) by decide +kernel) th12 rfl rfl (Nat.le_of_ble_eq_true rfl) ⟨Nat.le_of_ble_eq_true rfl, Nat.le_of_ble_eq_true rfl⟩ ?_
    refine xv_b E [.aload_n 0, .iload_n 2] (pc' := 125) (lv' := [(0, .inr (.inr (some a0))), (1, .inl v1), (2, .inl v2)]) (st' := [.inl v2, .inr (.inr (some a0))]) (by decide +kernel) rfl rfl ?_
    obtain ⟨b_15, h16, h⟩ := bd h
    obtain ⟨eh16, th16⟩ := g_o_some h16
    obtain ⟨q_13, h14, h⟩ := bd h
    refine xv_cvo E eh16 12 (as := [.inl v2]) (t184 G l (c_V_some h14)) cd184 mw1118 mw1119 mw1120 (show decode prog_14_method_50_code 125 = .ok (.invokevirtual 291, 3) by decide +kernel) th16 rfl rfl (Nat.le_of_ble_eq_true rfl) ⟨Nat.le_of_ble_eq_true rfl, Nat.le_of_ble_eq_true rfl⟩ ?_
    obtain rfl := Option.some.inj h
    obtain ⟨rfl, rfl⟩ := Prod.mk.inj (show ((none : Option aV), q_13) = (r, M') from hN)
    exact xv_rv E B.1 B.2.1 (show decode prog_14_method_50_code 128 = .ok (.return_, 1) by decide +kernel) rfl rfl
  · rw [if_neg q50] at h
    refine xv_if_le E 118 (show decode prog_14_method_50_code 12 = .ok (.ifCond .le (106), 3) by decide +kernel) rfl (fun z => absurd z q50) (fun _ => ?_)
    refine xv_b E [.aload_n 0, .iload_n 2] (pc' := 17) (lv' := [(0, .inr (.inr (some a0))), (1, .inl v1), (2, .inl v2)]) (st' := [.inl v2, .inr (.inr (some a0))]) (by decide +kernel) rfl rfl ?_
    obtain ⟨b_19, h20, h⟩ := bd h
    obtain ⟨eh20, th20⟩ := g_o_some h20
    obtain ⟨q_17, h18, h⟩ := bd h
    refine xv_cvo E eh20 12 (as := [.inl v2]) (t185 G l (c_I_some h18)) cd185 mw1121 mw1122 mw1123 (show decode prog_14_method_50_code 17 = .ok (.invokevirtual 325, 3) by decide +kernel) th20 rfl rfl (Nat.le_of_ble_eq_true rfl) ⟨Nat.le_of_ble_eq_true rfl, Nat.le_of_ble_eq_true rfl⟩ ?_
    refine xv_b E [.istore_n 3, .aload_n 0, .iload_n 3, .iconst 1, .iconst 3] (pc' := 25) (lv' := [(3, .inl q_17.1), (0, .inr (.inr (some a0))), (1, .inl v1), (2, .inl v2)]) (st' := [.inl (3 : Int32), .inl (1 : Int32), .inl q_17.1, .inr (.inr (some a0))]) (by decide +kernel) rfl rfl ?_
    obtain ⟨b_23, h24, h⟩ := bd h
    obtain ⟨eh24, th24⟩ := g_o_some h24
    obtain ⟨q_21, h22, h⟩ := bd h
    refine xv_cvo E eh24 12 (as := [.inl q_17.1, .inl (1 : Int32), .inl (3 : Int32)]) (t166 G l (c_I_some h22)) cd166 mw947 mw948 mw949 (show decode prog_14_method_50_code 25 = .ok (.invokevirtual 198, 3) by decide +kernel) th24 rfl rfl (Nat.le_of_ble_eq_true rfl) ⟨Nat.le_of_ble_eq_true rfl, Nat.le_of_ble_eq_true rfl⟩ ?_
    refine xv_b E [.istore 4, .aload_n 0, .iload_n 3] (pc' := 32) (lv' := [(4, .inl q_21.1), (3, .inl q_17.1), (0, .inr (.inr (some a0))), (1, .inl v1), (2, .inl v2)]) (st' := [.inl q_17.1, .inr (.inr (some a0))]) (by decide +kernel) rfl rfl ?_
    obtain ⟨b_27, h28, h⟩ := bd h
    obtain ⟨eh28, th28⟩ := g_o_some h28
    obtain ⟨q_25, h26, h⟩ := bd h
    refine xv_cvo E eh28 12 (as := [.inl q_17.1]) (t174 G l (c_I_some h26)) cd174 mw1124 mw1125 mw1126 (show decode prog_14_method_50_code 32 = .ok (.invokevirtual 322, 3) by decide +kernel) th28 rfl rfl (Nat.le_of_ble_eq_true rfl) ⟨Nat.le_of_ble_eq_true rfl, Nat.le_of_ble_eq_true rfl⟩ ?_
    by_cases q49 : q_25.1 = 0
    · rw [if_pos q49] at h
      refine xv_if_ne E 51 (show decode prog_14_method_50_code 35 = .ok (.ifCond .ne (16), 3) by decide +kernel) rfl (fun z => absurd q49 z) (fun _ => ?_)
      refine xv_b E [.aload_n 0] (pc' := 39) (lv' := [(4, .inl q_21.1), (3, .inl q_17.1), (0, .inr (.inr (some a0))), (1, .inl v1), (2, .inl v2)]) (st' := [.inr (.inr (some a0))]) (by decide +kernel) rfl rfl ?_
      obtain ⟨o_43, h44, h⟩ := bd h
      refine xg_r E 12 4 h44 mw865 (show decode prog_14_method_50_code 39 = .ok (.getfield 7, 3) by decide +kernel) ?_
      refine xv_b E [.iconst 1, .dup2] (pc' := 44) (lv' := [(4, .inl q_21.1), (3, .inl q_17.1), (0, .inr (.inr (some a0))), (1, .inl v1), (2, .inl v2)]) (st' := [.inl (1 : Int32), .inr (.inr o_43), .inl (1 : Int32), .inr (.inr o_43)]) (by decide +kernel) rfl rfl ?_
      obtain ⟨v_45, h46, h⟩ := bd h
      refine xa_i E h46 (show decode prog_14_method_50_code 44 = .ok (.iaload, 1) by decide +kernel) ?_
      refine xv_b E [.iconst 1, .iadd] (pc' := 47) (lv' := [(4, .inl q_21.1), (3, .inl q_17.1), (0, .inr (.inr (some a0))), (1, .inl v1), (2, .inl v2)]) (st' := [.inl (v_45 + (1 : Int32)), .inl (1 : Int32), .inr (.inr o_43)]) (by decide +kernel) rfl rfl ?_
      obtain ⟨M47, h48, h⟩ := bd h
      refine xs_i E h48 (show decode prog_14_method_50_code 47 = .ok (.iastore, 1) by decide +kernel) ?_
      refine xv_goto E 110 (show decode prog_14_method_50_code 48 = .ok (.goto (62), 3) by decide +kernel) rfl ?_
      exact xv_w (sb221_110 E B a0 v1 v2 q_17.1 M47 h hN) rfl
    · rw [if_neg q49] at h
      refine xv_if_ne E 51 (show decode prog_14_method_50_code 35 = .ok (.ifCond .ne (16), 3) by decide +kernel) rfl (fun _ => ?_) (fun z => absurd z q49)
      refine xv_b E [.aload_n 0, .iload_n 3, .iconst 0] (pc' := 54) (lv' := [(4, .inl q_21.1), (3, .inl q_17.1), (0, .inr (.inr (some a0))), (1, .inl v1), (2, .inl v2)]) (st' := [.inl (0 : Int32), .inl q_17.1, .inr (.inr (some a0))]) (by decide +kernel) rfl rfl ?_
      obtain ⟨b_31, h32, h⟩ := bd h
      obtain ⟨eh32, th32⟩ := g_o_some h32
      obtain ⟨q_29, h30, h⟩ := bd h
      refine xv_cvo E eh32 12 (as := [.inl q_17.1, .inl (0 : Int32)]) (t165 G l (c_I_some h30)) cd165 mw927 mw928 mw929 (show decode prog_14_method_50_code 54 = .ok (.invokevirtual 186, 3) by decide +kernel) th32 rfl rfl (Nat.le_of_ble_eq_true rfl) ⟨Nat.le_of_ble_eq_true rfl, Nat.le_of_ble_eq_true rfl⟩ ?_
      refine xv_b E [.iconst 4] (pc' := 58) (lv' := [(4, .inl q_21.1), (3, .inl q_17.1), (0, .inr (.inr (some a0))), (1, .inl v1), (2, .inl v2)]) (st' := [.inl (4 : Int32), .inl q_29.1]) (by decide +kernel) rfl rfl ?_
      by_cases q42 : q_29.1 = (4 : Int32)
      · rw [if_pos q42] at h
        refine xv_icmp_ne E 84 (show decode prog_14_method_50_code 58 = .ok (.if_icmp .ne (26), 3) by decide +kernel) rfl (fun z => absurd q42 z) (fun _ => ?_)
        refine xv_b E [.aload_n 0, .iload_n 3, .iconst 4, .iconst 3] (pc' := 65) (lv' := [(4, .inl q_21.1), (3, .inl q_17.1), (0, .inr (.inr (some a0))), (1, .inl v1), (2, .inl v2)]) (st' := [.inl (3 : Int32), .inl (4 : Int32), .inl q_17.1, .inr (.inr (some a0))]) (by decide +kernel) rfl rfl ?_
        obtain ⟨b_35, h36, h⟩ := bd h
        obtain ⟨eh36, th36⟩ := g_o_some h36
        obtain ⟨q_33, h34, h⟩ := bd h
        refine xv_cvo E eh36 12 (as := [.inl q_17.1, .inl (4 : Int32), .inl (3 : Int32)]) (t166 G l (c_I_some h34)) cd166 mw947 mw948 mw949 (show decode prog_14_method_50_code 65 = .ok (.invokevirtual 198, 3) by decide +kernel) th36 rfl rfl (Nat.le_of_ble_eq_true rfl) ⟨Nat.le_of_ble_eq_true rfl, Nat.le_of_ble_eq_true rfl⟩ ?_
        refine xv_ldcw E (16777214 : Int32) mw1060 (show decode prog_14_method_50_code 68 = .ok (.ldc_w 300, 3) by decide +kernel) ?_
        by_cases q41 : q_33.1 = (16777214 : Int32)
        · rw [if_pos q41] at h
          refine xv_icmp_ne E 84 (show decode prog_14_method_50_code 71 = .ok (.if_icmp .ne (13), 3) by decide +kernel) rfl (fun z => absurd q41 z) (fun _ => ?_)
          refine xv_b E [.aload_n 0, .iload_n 1, .iload 4] (pc' := 78) (lv' := [(4, .inl q_21.1), (3, .inl q_17.1), (0, .inr (.inr (some a0))), (1, .inl v1), (2, .inl v2)]) (st' := [.inl q_21.1, .inl v1, .inr (.inr (some a0))]) (by decide +kernel) rfl rfl ?_
          obtain ⟨b_39, h40, h⟩ := bd h
          obtain ⟨eh40, th40⟩ := g_o_some h40
          obtain ⟨q_37, h38, h⟩ := bd h
          refine xv_cvo E eh40 12 (as := [.inl v1, .inl q_21.1]) (t220 G l (c_V_some h38)) cd220 mw1127 mw1128 mw1129 (show decode prog_14_method_50_code 78 = .ok (.invokevirtual 355, 3) by decide +kernel) th40 rfl rfl (Nat.le_of_ble_eq_true rfl) ⟨Nat.le_of_ble_eq_true rfl, Nat.le_of_ble_eq_true rfl⟩ ?_
          refine xv_goto E 110 (show decode prog_14_method_50_code 81 = .ok (.goto (29), 3) by decide +kernel) rfl ?_
          exact xv_w (sb221_110 E B a0 v1 v2 q_17.1 q_37 h hN) rfl
        · rw [if_neg q41] at h
          refine xv_icmp_ne E 84 (show decode prog_14_method_50_code 71 = .ok (.if_icmp .ne (13), 3) by decide +kernel) rfl (fun _ => ?_) (fun z => absurd z q41)
          exact xv_w (sb221_84 E B a0 v1 v2 q_17.1 q_21.1 q_33.2 h hN) rfl
      · rw [if_neg q42] at h
        refine xv_icmp_ne E 84 (show decode prog_14_method_50_code 58 = .ok (.if_icmp .ne (26), 3) by decide +kernel) rfl (fun _ => ?_) (fun z => absurd z q42)
        exact xv_w (sb221_84 E B a0 v1 v2 q_17.1 q_21.1 q_29.2 h hN) rfl
end
theorem t221 (G : gX) (l : Launch) {as : List aV} {M : hM} {r : Option aV} {M' : hM} (h : f221 as M = some (r, M')) : xM G l ym221 prog_14_method_50_code 5 none 9 as M r M' := by
  unfold f221 at h
  split at h
  · have hle : ∀ h as M res, k221 h as M = some res → h_sz M ≤ r_sz res ∧ h_sl M ≤ r_sl res := by
      intro h as M res hb
      unfold k221 at hb
      by_cases e0 : h = 6
      · rw [if_pos e0] at hb
        split at hb
        · exact lb221_6 G l _ _ _ M hb
        · cases hb
      · rw [if_neg e0] at hb
        cases hb
    obtain ⟨res, hx, hres⟩ := x_go_ok h
    refine xM_of (by decide) (Nat.le_of_ble_eq_true rfl) ?_ ?_
    · have e1 := lb221_0 G l _ _ M hx
      have e2 := x_go_le hle hres
      omega
    · intro p e s m args below meth c E B
      refine sb221_0 E B _ _ M hx (hres _ ?_)
      intro h as M res hb hN
      unfold k221 at hb
      unfold pg221
      by_cases e0 : h = 6
      · rw [if_pos e0] at hb ⊢
        split at hb
        · exact sb221_6 E B _ _ _ M hb hN
        · cases hb
      · rw [if_neg e0] at hb ⊢
        cases hb
  · cases h
/-! ZFModel.floods(III)V -/
def ym222 : MethodName := ⟨"ZonedFabricModel", "floods", "(III)V"⟩
theorem cd222 : xCd ym222 prog_14_method_44_code 6 none 3 := ⟨mw1133, mw864, by decide, by decide, by decide +kernel⟩
def b222_0 (a0 : Nat) (v1 : Int32) (v2 : Int32) (v3 : Int32) (M : hM) : Option xRes :=
  some (.inr (3, [.inr (.inr (some a0)), .inl v1, .inl v2, .inl v3, .inl (0 : Int32)], M))
def b222_48 (a0 : Nat) (v1 : Int32) (v2 : Int32) (v3 : Int32) (v4 : Int32) (M : hM) : Option xRes :=
  some (.inr (3, [.inr (.inr (some a0)), .inl v1, .inl v2, .inl v3, .inl (v4 + (1 : Int32))], M))
def b222_3 (a0 : Nat) (v1 : Int32) (v2 : Int32) (v3 : Int32) (v4 : Int32) (M : hM) : Option xRes :=
  if (8 : Int32) ≤ v4 then
    (some (.inl (none, M)))
  else
    (Option.bind (g_o M 12 (some a0)) fun b_3 =>
    Option.bind (c_I (f175 [.inr (.inr (some b_3)), .inl v1, .inl v4] M)) fun q_1 =>
    Option.bind (g_r q_1.2 12 23 (some a0)) fun o_5 =>
    Option.bind (al_i q_1.2 20 o_5 q_1.1) fun v_7 =>
    if v_7 = (-1 : Int32) then
      (b222_48 a0 v1 v2 v3 v4 q_1.2)
    else
      (if q_1.1 = v3 then
        (b222_48 a0 v1 v2 v3 v4 q_1.2)
      else
        (Option.bind (g_o q_1.2 12 (some a0)) fun b_11 =>
        Option.bind (c_I (f202 [.inr (.inr (some b_11)), .inl v1, .inl v2] q_1.2)) fun q_9 =>
        Option.bind (g_o q_9.2 12 (some a0)) fun b_15 =>
        Option.bind (c_V (f183 [.inr (.inr (some b_15)), .inl q_1.1, .inl q_9.1] q_9.2)) fun q_13 =>
        b222_48 a0 v1 v2 v3 v4 q_13)))
def k222 (h : Nat) (as : List aV) (M : hM) : Option xRes :=
  if h = 3 then (match as with | [.inr (.inr (some a0)), .inl v1, .inl v2, .inl v3, .inl v4] => b222_3 a0 v1 v2 v3 v4 M | _ => none) else
  none
def f222 (as : List aV) (M : hM) : xO := match as with
  | [.inr (.inr (some a0)), .inl v1, .inl v2, .inl v3] => x_go k222 (b222_0 a0 v1 v2 v3 M)
  | _ => none
theorem lb222_0 (G : gX) (l : Launch) (a0 : Nat) (v1 : Int32) (v2 : Int32) (v3 : Int32) (M : hM) {res : xRes} (h : b222_0 a0 v1 v2 v3 M = some res) : h_sz M ≤ r_sz res ∧ h_sl M ≤ r_sl res := by
  unfold b222_0 at h
  obtain rfl := Option.some.inj h
  show h_sz M ≤ h_sz M ∧ h_sl M ≤ h_sl M
  omega
theorem lb222_48 (G : gX) (l : Launch) (a0 : Nat) (v1 : Int32) (v2 : Int32) (v3 : Int32) (v4 : Int32) (M : hM) {res : xRes} (h : b222_48 a0 v1 v2 v3 v4 M = some res) : h_sz M ≤ r_sz res ∧ h_sl M ≤ r_sl res := by
  unfold b222_48 at h
  obtain rfl := Option.some.inj h
  show h_sz M ≤ h_sz M ∧ h_sl M ≤ h_sl M
  omega
theorem lb222_3 (G : gX) (l : Launch) (a0 : Nat) (v1 : Int32) (v2 : Int32) (v3 : Int32) (v4 : Int32) (M : hM) {res : xRes} (h : b222_3 a0 v1 v2 v3 v4 M = some res) : h_sz M ≤ r_sz res ∧ h_sl M ≤ r_sl res := by
  unfold b222_3 at h
  by_cases q19 : (8 : Int32) ≤ v4
  · rw [if_pos q19] at h
    obtain rfl := Option.some.inj h
    show h_sz M ≤ h_sz M ∧ h_sl M ≤ h_sl M
    omega
  · rw [if_neg q19] at h
    obtain ⟨b_3, h4, h⟩ := bd h
    obtain ⟨q_1, h2, h⟩ := bd h
    have eh2 := (t175 G l (c_I_some h2)).1
    obtain ⟨o_5, h6, h⟩ := bd h
    obtain ⟨v_7, h8, h⟩ := bd h
    by_cases q18 : v_7 = (-1 : Int32)
    · rw [if_pos q18] at h
      have e := lb222_48 G l a0 v1 v2 v3 v4 q_1.2 h
      omega
    · rw [if_neg q18] at h
      by_cases q17 : q_1.1 = v3
      · rw [if_pos q17] at h
        have e := lb222_48 G l a0 v1 v2 v3 v4 q_1.2 h
        omega
      · rw [if_neg q17] at h
        obtain ⟨b_11, h12, h⟩ := bd h
        obtain ⟨q_9, h10, h⟩ := bd h
        have eh10 := (t202 G l (c_I_some h10)).1
        obtain ⟨b_15, h16, h⟩ := bd h
        obtain ⟨q_13, h14, h⟩ := bd h
        have eh14 := (t183 G l (c_V_some h14)).1
        have e := lb222_48 G l a0 v1 v2 v3 v4 q_13 h
        omega
section
variable {p : Program} {l : Launch} {e : Env} {s : State} {m : MethodId} {args : Array Value} {below : List Frame} {meth : Method} {c : Code} {G : gX} {z0 y0 : Nat} {r : Option aV} {M' : hM}
def pg222 (p : Program) (l : Launch) (e : Env) (s : State) (m : MethodId) (args : Array Value) (below : List Frame) (meth : Method) (c : Code) (G : gX) (z0 y0 : Nat) (r : Option aV) (M' : hM) (h : Nat) (as : List aV) (M : hM) : Prop :=
  if h = 3 then (match as with | [.inr (.inr (some a0)), .inl v1, .inl v2, .inl v3, .inl v4] => xV G p l e (xRm 4 (h_sz M' - z0) (h_sl M' - y0)) s m args below meth c z0 y0 (h_sz M') (h_sl M') 6 (MQ below (xQc G r M') args s (h_sz M' - z0) (h_sl M' - y0) (xFr G)) 3 [(0, .inr (.inr (some a0))), (1, .inl v1), (2, .inl v2), (3, .inl v3), (4, .inl v4)] [] M | _ => False) else
  False
theorem sb222_0 (E : xE G p (xRm 4 (h_sz M' - z0) (h_sl M' - y0)) s m args c prog_14_method_44_code "ZonedFabricModel" z0 y0 (h_sz M') (h_sl M') 6) (B : xB ym222 none meth) (a0 : Nat) (v1 : Int32) (v2 : Int32) (v3 : Int32) (M : hM) {res : xRes} (h : b222_0 a0 v1 v2 v3 M = some res) (hN : xN (pg222 p l e s m args below meth c G z0 y0 r M') r M' res) : xV G p l e (xRm 4 (h_sz M' - z0) (h_sl M' - y0)) s m args below meth c z0 y0 (h_sz M') (h_sl M') 6 (MQ below (xQc G r M') args s (h_sz M' - z0) (h_sl M' - y0) (xFr G)) 0 [(0, .inr (.inr (some a0))), (1, .inl v1), (2, .inl v2), (3, .inl v3)] [] M := by
  unfold b222_0 at h
  refine xv_b E [.iconst 0, .istore 4] (pc' := 3) (lv' := [(4, .inl (0 : Int32)), (0, .inr (.inr (some a0))), (1, .inl v1), (2, .inl v2), (3, .inl v3)]) (st' := []) (by decide +kernel) rfl rfl ?_
  obtain rfl := Option.some.inj h
  exact xv_w hN rfl
theorem sb222_48 (E : xE G p (xRm 4 (h_sz M' - z0) (h_sl M' - y0)) s m args c prog_14_method_44_code "ZonedFabricModel" z0 y0 (h_sz M') (h_sl M') 6) (B : xB ym222 none meth) (a0 : Nat) (v1 : Int32) (v2 : Int32) (v3 : Int32) (v4 : Int32) (M : hM) {res : xRes} (h : b222_48 a0 v1 v2 v3 v4 M = some res) (hN : xN (pg222 p l e s m args below meth c G z0 y0 r M') r M' res) : xV G p l e (xRm 4 (h_sz M' - z0) (h_sl M' - y0)) s m args below meth c z0 y0 (h_sz M') (h_sl M') 6 (MQ below (xQc G r M') args s (h_sz M' - z0) (h_sl M' - y0) (xFr G)) 48 [(0, .inr (.inr (some a0))), (1, .inl v1), (2, .inl v2), (3, .inl v3), (4, .inl v4)] [] M := by
  unfold b222_48 at h
  refine xv_b E [.iinc 4 1] (pc' := 51) (lv' := [(4, .inl (v4 + (1 : Int32))), (0, .inr (.inr (some a0))), (1, .inl v1), (2, .inl v2), (3, .inl v3)]) (st' := []) (by decide +kernel) rfl rfl ?_
  refine xv_goto E 3 (show decode prog_14_method_44_code 51 = .ok (.goto (-48), 3) by decide +kernel) rfl ?_
  obtain rfl := Option.some.inj h
  exact xv_w hN rfl
theorem sb222_3 (E : xE G p (xRm 4 (h_sz M' - z0) (h_sl M' - y0)) s m args c prog_14_method_44_code "ZonedFabricModel" z0 y0 (h_sz M') (h_sl M') 6) (B : xB ym222 none meth) (a0 : Nat) (v1 : Int32) (v2 : Int32) (v3 : Int32) (v4 : Int32) (M : hM) {res : xRes} (h : b222_3 a0 v1 v2 v3 v4 M = some res) (hN : xN (pg222 p l e s m args below meth c G z0 y0 r M') r M' res) : xV G p l e (xRm 4 (h_sz M' - z0) (h_sl M' - y0)) s m args below meth c z0 y0 (h_sz M') (h_sl M') 6 (MQ below (xQc G r M') args s (h_sz M' - z0) (h_sl M' - y0) (xFr G)) 3 [(0, .inr (.inr (some a0))), (1, .inl v1), (2, .inl v2), (3, .inl v3), (4, .inl v4)] [] M := by
  unfold b222_3 at h
  refine xv_b E [.iload 4, .bipush 8] (pc' := 7) (lv' := [(0, .inr (.inr (some a0))), (1, .inl v1), (2, .inl v2), (3, .inl v3), (4, .inl v4)]) (st' := [.inl (8 : Int32), .inl v4]) (by decide +kernel) rfl rfl ?_
  by_cases q19 : (8 : Int32) ≤ v4
  · rw [if_pos q19] at h
    refine xv_icmp_ge E 54 (show decode prog_14_method_44_code 7 = .ok (.if_icmp .ge (47), 3) by decide +kernel) rfl (fun _ => ?_) (fun z => absurd q19 z)
    obtain rfl := Option.some.inj h
    obtain ⟨rfl, rfl⟩ := Prod.mk.inj (show ((none : Option aV), M) = (r, M') from hN)
    exact xv_rv E B.1 B.2.1 (show decode prog_14_method_44_code 54 = .ok (.return_, 1) by decide +kernel) rfl rfl
  · rw [if_neg q19] at h
    refine xv_icmp_ge E 54 (show decode prog_14_method_44_code 7 = .ok (.if_icmp .ge (47), 3) by decide +kernel) rfl (fun z => absurd z q19) (fun _ => ?_)
    refine xv_b E [.aload_n 0, .iload_n 1, .iload 4] (pc' := 14) (lv' := [(0, .inr (.inr (some a0))), (1, .inl v1), (2, .inl v2), (3, .inl v3), (4, .inl v4)]) (st' := [.inl v4, .inl v1, .inr (.inr (some a0))]) (by decide +kernel) rfl rfl ?_
    obtain ⟨b_3, h4, h⟩ := bd h
    obtain ⟨eh4, th4⟩ := g_o_some h4
    obtain ⟨q_1, h2, h⟩ := bd h
    refine xv_cvo E eh4 12 (as := [.inl v1, .inl v4]) (t175 G l (c_I_some h2)) cd175 mw1134 mw1135 mw1136 (show decode prog_14_method_44_code 14 = .ok (.invokevirtual 288, 3) by decide +kernel) th4 rfl rfl (Nat.le_of_ble_eq_true rfl) ⟨Nat.le_of_ble_eq_true rfl, Nat.le_of_ble_eq_true rfl⟩ ?_
    refine xv_b E [.istore 5, .aload_n 0] (pc' := 20) (lv' := [(5, .inl q_1.1), (0, .inr (.inr (some a0))), (1, .inl v1), (2, .inl v2), (3, .inl v3), (4, .inl v4)]) (st' := [.inr (.inr (some a0))]) (by decide +kernel) rfl rfl ?_
    obtain ⟨o_5, h6, h⟩ := bd h
    refine xg_r E 12 23 h6 mw883 (show decode prog_14_method_44_code 20 = .ok (.getfield 64, 3) by decide +kernel) ?_
    refine xv_b E [.iload 5] (pc' := 25) (lv' := [(5, .inl q_1.1), (0, .inr (.inr (some a0))), (1, .inl v1), (2, .inl v2), (3, .inl v3), (4, .inl v4)]) (st' := [.inl q_1.1, .inr (.inr o_5)]) (by decide +kernel) rfl rfl ?_
    obtain ⟨v_7, h8, h⟩ := bd h
    refine xa_i E h8 (show decode prog_14_method_44_code 25 = .ok (.iaload, 1) by decide +kernel) ?_
    refine xv_b E [.iconst (-1)] (pc' := 27) (lv' := [(5, .inl q_1.1), (0, .inr (.inr (some a0))), (1, .inl v1), (2, .inl v2), (3, .inl v3), (4, .inl v4)]) (st' := [.inl (-1 : Int32), .inl v_7]) (by decide +kernel) rfl rfl ?_
    by_cases q18 : v_7 = (-1 : Int32)
    · rw [if_pos q18] at h
      refine xv_icmp_eq E 48 (show decode prog_14_method_44_code 27 = .ok (.if_icmp .eq (21), 3) by decide +kernel) rfl (fun _ => ?_) (fun z => absurd q18 z)
      exact xv_w (sb222_48 E B a0 v1 v2 v3 v4 q_1.2 h hN) rfl
    · rw [if_neg q18] at h
      refine xv_icmp_eq E 48 (show decode prog_14_method_44_code 27 = .ok (.if_icmp .eq (21), 3) by decide +kernel) rfl (fun z => absurd z q18) (fun _ => ?_)
      refine xv_b E [.iload 5, .iload_n 3] (pc' := 33) (lv' := [(5, .inl q_1.1), (0, .inr (.inr (some a0))), (1, .inl v1), (2, .inl v2), (3, .inl v3), (4, .inl v4)]) (st' := [.inl v3, .inl q_1.1]) (by decide +kernel) rfl rfl ?_
      by_cases q17 : q_1.1 = v3
      · rw [if_pos q17] at h
        refine xv_icmp_eq E 48 (show decode prog_14_method_44_code 33 = .ok (.if_icmp .eq (15), 3) by decide +kernel) rfl (fun _ => ?_) (fun z => absurd q17 z)
        exact xv_w (sb222_48 E B a0 v1 v2 v3 v4 q_1.2 h hN) rfl
      · rw [if_neg q17] at h
        refine xv_icmp_eq E 48 (show decode prog_14_method_44_code 33 = .ok (.if_icmp .eq (15), 3) by decide +kernel) rfl (fun z => absurd z q17) (fun _ => ?_)
        refine xv_b E [.aload_n 0, .iload 5, .aload_n 0, .iload_n 1, .iload_n 2] (pc' := 42) (lv' := [(5, .inl q_1.1), (0, .inr (.inr (some a0))), (1, .inl v1), (2, .inl v2), (3, .inl v3), (4, .inl v4)]) (st' := [.inl v2, .inl v1, .inr (.inr (some a0)), .inl q_1.1, .inr (.inr (some a0))]) (by decide +kernel) rfl rfl ?_
        obtain ⟨b_11, h12, h⟩ := bd h
        obtain ⟨eh12, th12⟩ := g_o_some h12
        obtain ⟨q_9, h10, h⟩ := bd h
        refine xv_cvo E eh12 12 (as := [.inl v1, .inl v2]) (t202 G l (c_I_some h10)) cd202 mw1137 mw1138 mw1139 (show decode prog_14_method_44_code 42 = .ok (.invokevirtual 319, 3) by decide +kernel) th12 rfl rfl (Nat.le_of_ble_eq_true rfl) ⟨Nat.le_of_ble_eq_true rfl, Nat.le_of_ble_eq_true rfl⟩ ?_
        obtain ⟨b_15, h16, h⟩ := bd h
        obtain ⟨eh16, th16⟩ := g_o_some h16
        obtain ⟨q_13, h14, h⟩ := bd h
        refine xv_cvo E eh16 12 (as := [.inl q_1.1, .inl q_9.1]) (t183 G l (c_V_some h14)) cd183 mw1043 mw1044 mw1045 (show decode prog_14_method_44_code 45 = .ok (.invokevirtual 301, 3) by decide +kernel) th16 rfl rfl (Nat.le_of_ble_eq_true rfl) ⟨Nat.le_of_ble_eq_true rfl, Nat.le_of_ble_eq_true rfl⟩ ?_
        exact xv_w (sb222_48 E B a0 v1 v2 v3 v4 q_13 h hN) rfl
end
theorem t222 (G : gX) (l : Launch) {as : List aV} {M : hM} {r : Option aV} {M' : hM} (h : f222 as M = some (r, M')) : xM G l ym222 prog_14_method_44_code 6 none 4 as M r M' := by
  unfold f222 at h
  split at h
  · have hle : ∀ h as M res, k222 h as M = some res → h_sz M ≤ r_sz res ∧ h_sl M ≤ r_sl res := by
      intro h as M res hb
      unfold k222 at hb
      by_cases e0 : h = 3
      · rw [if_pos e0] at hb
        split at hb
        · exact lb222_3 G l _ _ _ _ _ M hb
        · cases hb
      · rw [if_neg e0] at hb
        cases hb
    obtain ⟨res, hx, hres⟩ := x_go_ok h
    refine xM_of (by decide) (Nat.le_of_ble_eq_true rfl) ?_ ?_
    · have e1 := lb222_0 G l _ _ _ _ M hx
      have e2 := x_go_le hle hres
      omega
    · intro p e s m args below meth c E B
      refine sb222_0 E B _ _ _ _ M hx (hres _ ?_)
      intro h as M res hb hN
      unfold k222 at hb
      unfold pg222
      by_cases e0 : h = 3
      · rw [if_pos e0] at hb ⊢
        split at hb
        · exact sb222_3 E B _ _ _ _ _ M hb hN
        · cases hb
      · rw [if_neg e0] at hb ⊢
        cases hb
  · cases h
/-! ZFModel.issues(I)V -/
def ym223 : MethodName := ⟨"ZonedFabricModel", "issues", "(I)V"⟩
theorem cd223 : xCd ym223 prog_14_method_43_code 9 none 1 := ⟨mw1140, mw864, by decide, by decide, by decide +kernel⟩
def b223_0 (a0 : Nat) (v1 : Int32) (M : hM) : Option xRes :=
  Option.bind (g_r M 12 31 (some a0)) fun o_1 =>
  Option.bind (as_i M 20 o_1 (0 : Int32) v1) fun M3 =>
  Option.bind (g_r M3 12 31 (some a0)) fun o_5 =>
  Option.bind (g_r M3 12 26 (some a0)) fun o_7 =>
  Option.bind (al_i M3 20 o_7 v1) fun v_9 =>
  Option.bind (as_i M3 20 o_5 (4 : Int32) v_9) fun M11 =>
  some (.inr (29, [.inr (.inr (some a0)), .inl v1, .inl (6 : Int32), .inl (0 : Int32), .inl (0 : Int32)], M11))
def b223_108 (a0 : Nat) (v1 : Int32) (v2 : Int32) (v3 : Int32) (v4 : Int32) (M : hM) : Option xRes :=
  some (.inr (29, [.inr (.inr (some a0)), .inl v1, .inl v2, .inl v3, .inl (v4 + (1 : Int32))], M))
def b223_29 (a0 : Nat) (v1 : Int32) (v2 : Int32) (v3 : Int32) (v4 : Int32) (M : hM) : Option xRes :=
  if (8 : Int32) ≤ v4 then
    (Option.bind (g_r M 12 31 (some a0)) fun o_13 =>
    Option.bind (as_i M 20 o_13 (5 : Int32) v3) fun M15 =>
    some (.inr (132, [.inr (.inr (some a0)), .inl v1, .inl (v2 + (1 : Int32)), .inl (0 : Int32), .inl v2, .inl (0 : Int32)], M15)))
  else
    (Option.bind (g_o M 12 (some a0)) fun b_19 =>
    Option.bind (c_I (f175 [.inr (.inr (some b_19)), .inl v1, .inl v4] M)) fun q_17 =>
    Option.bind (g_r q_17.2 12 23 (some a0)) fun o_21 =>
    Option.bind (al_i q_17.2 20 o_21 q_17.1) fun v_23 =>
    if v_23 = (-1 : Int32) then
      (b223_108 a0 v1 v2 v3 v4 q_17.2)
    else
      (Option.bind (g_r q_17.2 12 31 (some a0)) fun o_25 =>
      Option.bind (as_i q_17.2 20 o_25 v2 v4) fun M27 =>
      Option.bind (g_r M27 12 31 (some a0)) fun o_29 =>
      Option.bind (g_r M27 12 23 (some a0)) fun o_31 =>
      Option.bind (al_i M27 20 o_31 q_17.1) fun v_33 =>
      Option.bind (as_i M27 20 o_29 (v2 + (1 : Int32)) v_33) fun M35 =>
      Option.bind (g_r M35 12 31 (some a0)) fun o_37 =>
      Option.bind (g_r M35 12 11 (some a0)) fun o_39 =>
      Option.bind (g_r M35 12 14 (some a0)) fun o_41 =>
      Option.bind (al_i M35 20 o_41 q_17.1) fun v_43 =>
      Option.bind (al_i M35 20 o_39 v_43) fun v_45 =>
      Option.bind (as_i M35 20 o_37 (v2 + (2 : Int32)) v_45) fun M47 =>
      b223_108 a0 v1 (v2 + (3 : Int32)) (v3 + (1 : Int32)) v4 M47))
def b223_195 (a0 : Nat) (v1 : Int32) (v2 : Int32) (v3 : Int32) (v4 : Int32) (v5 : Int32) (M : hM) : Option xRes :=
  some (.inr (132, [.inr (.inr (some a0)), .inl v1, .inl v2, .inl v3, .inl v4, .inl (v5 + (1 : Int32))], M))
def b223_259 (a0 : Nat) (v1 : Int32) (v2 : Int32) (v5 : Int32) (si0 : Int32) (M : hM) : Option xRes :=
  some (.inr (264, [.inr (.inr (some a0)), .inl v1, .inl v2, .inl v5, .inl si0, .inl (4 : Int32)], M))
def b223_258 (a0 : Nat) (v1 : Int32) (v2 : Int32) (v5 : Int32) (M : hM) : Option xRes :=
  b223_259 a0 v1 v2 v5 (0 : Int32) M
def b223_132 (a0 : Nat) (v1 : Int32) (v2 : Int32) (v3 : Int32) (v4 : Int32) (v5 : Int32) (M : hM) : Option xRes :=
  if (8 : Int32) ≤ v5 then
    (Option.bind (g_r M 12 31 (some a0)) fun o_51 =>
    Option.bind (as_i M 20 o_51 v4 v3) fun M53 =>
    Option.bind (g_r M53 12 27 (some a0)) fun o_55 =>
    Option.bind (al_i M53 22 o_55 (((5 : Int32) * v1) + v1)) fun v_57 =>
    if v_57 = 0 then
      (b223_258 a0 v1 v2 (((5 : Int32) * v1) + v1) M53)
    else
      (Option.bind (g_r M53 12 30 (some a0)) fun o_59 =>
      Option.bind (al_i M53 20 o_59 (((5 : Int32) * v1) + v1)) fun v_61 =>
      if v_61 = v2 then
        (Option.bind (g_i M53 12 3 (some a0)) fun v_63 =>
        Option.bind (g_r M53 12 28 (some a0)) fun o_65 =>
        Option.bind (al_i M53 20 o_65 (((5 : Int32) * v1) + v1)) fun v_67 =>
        if (40 : Int32) ≤ (v_63 - v_67) then
          (b223_258 a0 v1 v2 (((5 : Int32) * v1) + v1) M53)
        else
          (b223_259 a0 v1 v2 (((5 : Int32) * v1) + v1) (1 : Int32) M53))
      else
        (b223_258 a0 v1 v2 (((5 : Int32) * v1) + v1) M53)))
  else
    (Option.bind (g_r M 12 25 (some a0)) fun o_72 =>
    Option.bind (g_o M 12 (some a0)) fun b_76 =>
    Option.bind (c_I (f175 [.inr (.inr (some b_76)), .inl v1, .inl v5] M)) fun q_74 =>
    Option.bind (al_i q_74.2 20 o_72 q_74.1) fun v_78 =>
    if v_78 = 0 then
      (b223_195 a0 v1 v2 v3 v4 v5 q_74.2)
    else
      (Option.bind (g_r q_74.2 12 31 (some a0)) fun o_80 =>
      Option.bind (g_r q_74.2 12 25 (some a0)) fun o_82 =>
      Option.bind (g_o q_74.2 12 (some a0)) fun b_86 =>
      Option.bind (c_I (f175 [.inr (.inr (some b_86)), .inl v1, .inl v5] q_74.2)) fun q_84 =>
      Option.bind (al_i q_84.2 20 o_82 q_84.1) fun v_88 =>
      Option.bind (g_o q_84.2 12 (some a0)) fun b_92 =>
      Option.bind (c_I (f189 [.inr (.inr (some b_92)), .inl v_88] q_84.2)) fun q_90 =>
      Option.bind (as_i q_90.2 20 o_80 v2 q_90.1) fun M94 =>
      Option.bind (g_r M94 12 31 (some a0)) fun o_96 =>
      Option.bind (as_i M94 20 o_96 (v2 + (1 : Int32)) v5) fun M98 =>
      b223_195 a0 v1 (v2 + (2 : Int32)) (v3 + (1 : Int32)) v4 v5 M98))
def b223_303 (a0 : Nat) (v1 : Int32) (v2 : Int32) (v5 : Int32) (v7 : Int32) (si0 : Int32) (M : hM) : Option xRes :=
  some (.inr (264, [.inr (.inr (some a0)), .inl v1, .inl v2, .inl v5, .inl si0, .inl (v7 + (1 : Int32))], M))
def b223_339 (a0 : Nat) (v1 : Int32) (v2 : Int32) (v5 : Int32) (si0 : Int32) (M : hM) : Option xRes :=
  Option.bind (g_r M 12 31 (some a0)) fun o_123 =>
  Option.bind (as_i M 20 o_123 (1 : Int32) ((si0 >>> ((16 : Int32) &&& 31)) &&& (255 : Int32))) fun M125 =>
  Option.bind (g_r M125 12 31 (some a0)) fun o_127 =>
  Option.bind (as_i M125 20 o_127 (2 : Int32) ((si0 >>> ((8 : Int32) &&& 31)) &&& (255 : Int32))) fun M129 =>
  Option.bind (g_r M129 12 31 (some a0)) fun o_131 =>
  Option.bind (as_i M129 20 o_131 (3 : Int32) (si0 &&& (255 : Int32))) fun M133 =>
  some (.inr (386, [.inr (.inr (some a0)), .inl v1, .inl v2, .inl v5, .inl (0 : Int32)], M133))
def b223_311 (a0 : Nat) (v1 : Int32) (v2 : Int32) (v5 : Int32) (v6 : Int32) (M : hM) : Option xRes :=
  if v6 = 0 then
    (Option.bind (g_r M 12 27 (some a0)) fun o_113 =>
    Option.bind (al_i M 22 o_113 v5) fun v_115 =>
    if v_115 = 0 then
      (b223_339 a0 v1 v2 v5 (1 : Int32) M)
    else
      (Option.bind (g_o M 12 (some a0)) fun b_119 =>
      Option.bind (c_I (f191 [.inr (.inr (some b_119)), .inl v1, .inl v1] M)) fun q_117 =>
      b223_339 a0 v1 v2 v5 (q_117.1 + (1 : Int32)) q_117.2))
  else
    (some (.inl (none, M)))
def b223_264 (a0 : Nat) (v1 : Int32) (v2 : Int32) (v5 : Int32) (v6 : Int32) (v7 : Int32) (M : hM) : Option xRes :=
  if v2 ≤ v7 then
    (b223_311 a0 v1 v2 v5 v6 M)
  else
    (if v6 = 0 then
      (b223_311 a0 v1 v2 v5 v6 M)
    else
      (Option.bind (g_r M 12 29 (some a0)) fun o_102 =>
      Option.bind (al_i M 20 o_102 (((64 : Int32) * v5) + v7)) fun v_104 =>
      Option.bind (g_r M 12 31 (some a0)) fun o_106 =>
      Option.bind (al_i M 20 o_106 v7) fun v_108 =>
      if v_104 = v_108 then
        (b223_303 a0 v1 v2 v5 v7 (1 : Int32) M)
      else
        (b223_303 a0 v1 v2 v5 v7 (0 : Int32) M)))
def b223_386 (a0 : Nat) (v1 : Int32) (v2 : Int32) (v5 : Int32) (v8 : Int32) (M : hM) : Option xRes :=
  if v2 ≤ v8 then
    (Option.bind (g_r M 12 30 (some a0)) fun o_135 =>
    Option.bind (as_i M 20 o_135 v5 v2) fun M137 =>
    Option.bind (g_r M137 12 27 (some a0)) fun o_139 =>
    Option.bind (as_z M137 22 o_139 v5 (1 : Int32)) fun M141 =>
    Option.bind (g_r M141 12 28 (some a0)) fun o_143 =>
    Option.bind (g_i M141 12 3 (some a0)) fun v_145 =>
    Option.bind (as_i M141 20 o_143 v5 v_145) fun M147 =>
    Option.bind (g_r M147 12 4 (some a0)) fun o_149 =>
    Option.bind (al_i M147 20 o_149 (8 : Int32)) fun v_151 =>
    Option.bind (as_i M147 20 o_149 (8 : Int32) (v_151 + (1 : Int32))) fun M153 =>
    Option.bind (g_o M153 12 (some a0)) fun b_157 =>
    Option.bind (c_V (f222 [.inr (.inr (some b_157)), .inl v1, .inl v1, .inl (-1 : Int32)] M153)) fun q_155 =>
    some (.inl (none, q_155)))
  else
    (Option.bind (g_r M 12 29 (some a0)) fun o_159 =>
    Option.bind (g_r M 12 31 (some a0)) fun o_161 =>
    Option.bind (al_i M 20 o_161 v8) fun v_163 =>
    Option.bind (as_i M 20 o_159 (((64 : Int32) * v5) + v8) v_163) fun M165 =>
    some (.inr (386, [.inr (.inr (some a0)), .inl v1, .inl v2, .inl v5, .inl (v8 + (1 : Int32))], M165)))
def k223 (h : Nat) (as : List aV) (M : hM) : Option xRes :=
  if h = 29 then (match as with | [.inr (.inr (some a0)), .inl v1, .inl v2, .inl v3, .inl v4] => b223_29 a0 v1 v2 v3 v4 M | _ => none) else
  if h = 132 then (match as with | [.inr (.inr (some a0)), .inl v1, .inl v2, .inl v3, .inl v4, .inl v5] => b223_132 a0 v1 v2 v3 v4 v5 M | _ => none) else
  if h = 264 then (match as with | [.inr (.inr (some a0)), .inl v1, .inl v2, .inl v5, .inl v6, .inl v7] => b223_264 a0 v1 v2 v5 v6 v7 M | _ => none) else
  if h = 386 then (match as with | [.inr (.inr (some a0)), .inl v1, .inl v2, .inl v5, .inl v8] => b223_386 a0 v1 v2 v5 v8 M | _ => none) else
  none
def f223 (as : List aV) (M : hM) : xO := match as with
  | [.inr (.inr (some a0)), .inl v1] => x_go k223 (b223_0 a0 v1 M)
  | _ => none
theorem lb223_0 (G : gX) (l : Launch) (a0 : Nat) (v1 : Int32) (M : hM) {res : xRes} (h : b223_0 a0 v1 M = some res) : h_sz M ≤ r_sz res ∧ h_sl M ≤ r_sl res := by
  unfold b223_0 at h
  obtain ⟨o_1, h2, h⟩ := bd h
  obtain ⟨M3, h4, h⟩ := bd h
  have eh4 := as_i_sz h4
  obtain ⟨o_5, h6, h⟩ := bd h
  obtain ⟨o_7, h8, h⟩ := bd h
  obtain ⟨v_9, h10, h⟩ := bd h
  obtain ⟨M11, h12, h⟩ := bd h
  have eh12 := as_i_sz h12
  obtain rfl := Option.some.inj h
  show h_sz M ≤ h_sz M11 ∧ h_sl M ≤ h_sl M11
  omega
theorem lb223_108 (G : gX) (l : Launch) (a0 : Nat) (v1 : Int32) (v2 : Int32) (v3 : Int32) (v4 : Int32) (M : hM) {res : xRes} (h : b223_108 a0 v1 v2 v3 v4 M = some res) : h_sz M ≤ r_sz res ∧ h_sl M ≤ r_sl res := by
  unfold b223_108 at h
  obtain rfl := Option.some.inj h
  show h_sz M ≤ h_sz M ∧ h_sl M ≤ h_sl M
  omega
theorem lb223_29 (G : gX) (l : Launch) (a0 : Nat) (v1 : Int32) (v2 : Int32) (v3 : Int32) (v4 : Int32) (M : hM) {res : xRes} (h : b223_29 a0 v1 v2 v3 v4 M = some res) : h_sz M ≤ r_sz res ∧ h_sl M ≤ r_sl res := by
  unfold b223_29 at h
  by_cases q50 : (8 : Int32) ≤ v4
  · rw [if_pos q50] at h
    obtain ⟨o_13, h14, h⟩ := bd h
    obtain ⟨M15, h16, h⟩ := bd h
    have eh16 := as_i_sz h16
    obtain rfl := Option.some.inj h
    show h_sz M ≤ h_sz M15 ∧ h_sl M ≤ h_sl M15
    omega
  · rw [if_neg q50] at h
    obtain ⟨b_19, h20, h⟩ := bd h
    obtain ⟨q_17, h18, h⟩ := bd h
    have eh18 := (t175 G l (c_I_some h18)).1
    obtain ⟨o_21, h22, h⟩ := bd h
    obtain ⟨v_23, h24, h⟩ := bd h
    by_cases q49 : v_23 = (-1 : Int32)
    · rw [if_pos q49] at h
      have e := lb223_108 G l a0 v1 v2 v3 v4 q_17.2 h
      omega
    · rw [if_neg q49] at h
      obtain ⟨o_25, h26, h⟩ := bd h
      obtain ⟨M27, h28, h⟩ := bd h
      have eh28 := as_i_sz h28
      obtain ⟨o_29, h30, h⟩ := bd h
      obtain ⟨o_31, h32, h⟩ := bd h
      obtain ⟨v_33, h34, h⟩ := bd h
      obtain ⟨M35, h36, h⟩ := bd h
      have eh36 := as_i_sz h36
      obtain ⟨o_37, h38, h⟩ := bd h
      obtain ⟨o_39, h40, h⟩ := bd h
      obtain ⟨o_41, h42, h⟩ := bd h
      obtain ⟨v_43, h44, h⟩ := bd h
      obtain ⟨v_45, h46, h⟩ := bd h
      obtain ⟨M47, h48, h⟩ := bd h
      have eh48 := as_i_sz h48
      have e := lb223_108 G l a0 v1 (v2 + (3 : Int32)) (v3 + (1 : Int32)) v4 M47 h
      omega
theorem lb223_195 (G : gX) (l : Launch) (a0 : Nat) (v1 : Int32) (v2 : Int32) (v3 : Int32) (v4 : Int32) (v5 : Int32) (M : hM) {res : xRes} (h : b223_195 a0 v1 v2 v3 v4 v5 M = some res) : h_sz M ≤ r_sz res ∧ h_sl M ≤ r_sl res := by
  unfold b223_195 at h
  obtain rfl := Option.some.inj h
  show h_sz M ≤ h_sz M ∧ h_sl M ≤ h_sl M
  omega
theorem lb223_259 (G : gX) (l : Launch) (a0 : Nat) (v1 : Int32) (v2 : Int32) (v5 : Int32) (si0 : Int32) (M : hM) {res : xRes} (h : b223_259 a0 v1 v2 v5 si0 M = some res) : h_sz M ≤ r_sz res ∧ h_sl M ≤ r_sl res := by
  unfold b223_259 at h
  obtain rfl := Option.some.inj h
  show h_sz M ≤ h_sz M ∧ h_sl M ≤ h_sl M
  omega
theorem lb223_258 (G : gX) (l : Launch) (a0 : Nat) (v1 : Int32) (v2 : Int32) (v5 : Int32) (M : hM) {res : xRes} (h : b223_258 a0 v1 v2 v5 M = some res) : h_sz M ≤ r_sz res ∧ h_sl M ≤ r_sl res := by
  unfold b223_258 at h
  have e := lb223_259 G l a0 v1 v2 v5 (0 : Int32) M h
  omega
theorem lb223_132 (G : gX) (l : Launch) (a0 : Nat) (v1 : Int32) (v2 : Int32) (v3 : Int32) (v4 : Int32) (v5 : Int32) (M : hM) {res : xRes} (h : b223_132 a0 v1 v2 v3 v4 v5 M = some res) : h_sz M ≤ r_sz res ∧ h_sl M ≤ r_sl res := by
  unfold b223_132 at h
  by_cases q101 : (8 : Int32) ≤ v5
  · rw [if_pos q101] at h
    obtain ⟨o_51, h52, h⟩ := bd h
    obtain ⟨M53, h54, h⟩ := bd h
    have eh54 := as_i_sz h54
    obtain ⟨o_55, h56, h⟩ := bd h
    obtain ⟨v_57, h58, h⟩ := bd h
    by_cases q71 : v_57 = 0
    · rw [if_pos q71] at h
      have e := lb223_258 G l a0 v1 v2 (((5 : Int32) * v1) + v1) M53 h
      omega
    · rw [if_neg q71] at h
      obtain ⟨o_59, h60, h⟩ := bd h
      obtain ⟨v_61, h62, h⟩ := bd h
      by_cases q70 : v_61 = v2
      · rw [if_pos q70] at h
        obtain ⟨v_63, h64, h⟩ := bd h
        obtain ⟨o_65, h66, h⟩ := bd h
        obtain ⟨v_67, h68, h⟩ := bd h
        by_cases q69 : (40 : Int32) ≤ (v_63 - v_67)
        · rw [if_pos q69] at h
          have e := lb223_258 G l a0 v1 v2 (((5 : Int32) * v1) + v1) M53 h
          omega
        · rw [if_neg q69] at h
          have e := lb223_259 G l a0 v1 v2 (((5 : Int32) * v1) + v1) (1 : Int32) M53 h
          omega
      · rw [if_neg q70] at h
        have e := lb223_258 G l a0 v1 v2 (((5 : Int32) * v1) + v1) M53 h
        omega
  · rw [if_neg q101] at h
    obtain ⟨o_72, h73, h⟩ := bd h
    obtain ⟨b_76, h77, h⟩ := bd h
    obtain ⟨q_74, h75, h⟩ := bd h
    have eh75 := (t175 G l (c_I_some h75)).1
    obtain ⟨v_78, h79, h⟩ := bd h
    by_cases q100 : v_78 = 0
    · rw [if_pos q100] at h
      have e := lb223_195 G l a0 v1 v2 v3 v4 v5 q_74.2 h
      omega
    · rw [if_neg q100] at h
      obtain ⟨o_80, h81, h⟩ := bd h
      obtain ⟨o_82, h83, h⟩ := bd h
      obtain ⟨b_86, h87, h⟩ := bd h
      obtain ⟨q_84, h85, h⟩ := bd h
      have eh85 := (t175 G l (c_I_some h85)).1
      obtain ⟨v_88, h89, h⟩ := bd h
      obtain ⟨b_92, h93, h⟩ := bd h
      obtain ⟨q_90, h91, h⟩ := bd h
      have eh91 := (t189 G l (c_I_some h91)).1
      obtain ⟨M94, h95, h⟩ := bd h
      have eh95 := as_i_sz h95
      obtain ⟨o_96, h97, h⟩ := bd h
      obtain ⟨M98, h99, h⟩ := bd h
      have eh99 := as_i_sz h99
      have e := lb223_195 G l a0 v1 (v2 + (2 : Int32)) (v3 + (1 : Int32)) v4 v5 M98 h
      omega
theorem lb223_303 (G : gX) (l : Launch) (a0 : Nat) (v1 : Int32) (v2 : Int32) (v5 : Int32) (v7 : Int32) (si0 : Int32) (M : hM) {res : xRes} (h : b223_303 a0 v1 v2 v5 v7 si0 M = some res) : h_sz M ≤ r_sz res ∧ h_sl M ≤ r_sl res := by
  unfold b223_303 at h
  obtain rfl := Option.some.inj h
  show h_sz M ≤ h_sz M ∧ h_sl M ≤ h_sl M
  omega
theorem lb223_339 (G : gX) (l : Launch) (a0 : Nat) (v1 : Int32) (v2 : Int32) (v5 : Int32) (si0 : Int32) (M : hM) {res : xRes} (h : b223_339 a0 v1 v2 v5 si0 M = some res) : h_sz M ≤ r_sz res ∧ h_sl M ≤ r_sl res := by
  unfold b223_339 at h
  obtain ⟨o_123, h124, h⟩ := bd h
  obtain ⟨M125, h126, h⟩ := bd h
  have eh126 := as_i_sz h126
  obtain ⟨o_127, h128, h⟩ := bd h
  obtain ⟨M129, h130, h⟩ := bd h
  have eh130 := as_i_sz h130
  obtain ⟨o_131, h132, h⟩ := bd h
  obtain ⟨M133, h134, h⟩ := bd h
  have eh134 := as_i_sz h134
  obtain rfl := Option.some.inj h
  show h_sz M ≤ h_sz M133 ∧ h_sl M ≤ h_sl M133
  omega
theorem lb223_311 (G : gX) (l : Launch) (a0 : Nat) (v1 : Int32) (v2 : Int32) (v5 : Int32) (v6 : Int32) (M : hM) {res : xRes} (h : b223_311 a0 v1 v2 v5 v6 M = some res) : h_sz M ≤ r_sz res ∧ h_sl M ≤ r_sl res := by
  unfold b223_311 at h
  by_cases q122 : v6 = 0
  · rw [if_pos q122] at h
    obtain ⟨o_113, h114, h⟩ := bd h
    obtain ⟨v_115, h116, h⟩ := bd h
    by_cases q121 : v_115 = 0
    · rw [if_pos q121] at h
      have e := lb223_339 G l a0 v1 v2 v5 (1 : Int32) M h
      omega
    · rw [if_neg q121] at h
      obtain ⟨b_119, h120, h⟩ := bd h
      obtain ⟨q_117, h118, h⟩ := bd h
      have eh118 := (t191 G l (c_I_some h118)).1
      have e := lb223_339 G l a0 v1 v2 v5 (q_117.1 + (1 : Int32)) q_117.2 h
      omega
  · rw [if_neg q122] at h
    obtain rfl := Option.some.inj h
    show h_sz M ≤ h_sz M ∧ h_sl M ≤ h_sl M
    omega
theorem lb223_264 (G : gX) (l : Launch) (a0 : Nat) (v1 : Int32) (v2 : Int32) (v5 : Int32) (v6 : Int32) (v7 : Int32) (M : hM) {res : xRes} (h : b223_264 a0 v1 v2 v5 v6 v7 M = some res) : h_sz M ≤ r_sz res ∧ h_sl M ≤ r_sl res := by
  unfold b223_264 at h
  by_cases q112 : v2 ≤ v7
  · rw [if_pos q112] at h
    have e := lb223_311 G l a0 v1 v2 v5 v6 M h
    omega
  · rw [if_neg q112] at h
    by_cases q111 : v6 = 0
    · rw [if_pos q111] at h
      have e := lb223_311 G l a0 v1 v2 v5 v6 M h
      omega
    · rw [if_neg q111] at h
      obtain ⟨o_102, h103, h⟩ := bd h
      obtain ⟨v_104, h105, h⟩ := bd h
      obtain ⟨o_106, h107, h⟩ := bd h
      obtain ⟨v_108, h109, h⟩ := bd h
      by_cases q110 : v_104 = v_108
      · rw [if_pos q110] at h
        have e := lb223_303 G l a0 v1 v2 v5 v7 (1 : Int32) M h
        omega
      · rw [if_neg q110] at h
        have e := lb223_303 G l a0 v1 v2 v5 v7 (0 : Int32) M h
        omega
theorem lb223_386 (G : gX) (l : Launch) (a0 : Nat) (v1 : Int32) (v2 : Int32) (v5 : Int32) (v8 : Int32) (M : hM) {res : xRes} (h : b223_386 a0 v1 v2 v5 v8 M = some res) : h_sz M ≤ r_sz res ∧ h_sl M ≤ r_sl res := by
  unfold b223_386 at h
  by_cases q167 : v2 ≤ v8
  · rw [if_pos q167] at h
    obtain ⟨o_135, h136, h⟩ := bd h
    obtain ⟨M137, h138, h⟩ := bd h
    have eh138 := as_i_sz h138
    obtain ⟨o_139, h140, h⟩ := bd h
    obtain ⟨M141, h142, h⟩ := bd h
    have eh142 := as_z_sz h142
    obtain ⟨o_143, h144, h⟩ := bd h
    obtain ⟨v_145, h146, h⟩ := bd h
    obtain ⟨M147, h148, h⟩ := bd h
    have eh148 := as_i_sz h148
    obtain ⟨o_149, h150, h⟩ := bd h
    obtain ⟨v_151, h152, h⟩ := bd h
    obtain ⟨M153, h154, h⟩ := bd h
    have eh154 := as_i_sz h154
    obtain ⟨b_157, h158, h⟩ := bd h
    obtain ⟨q_155, h156, h⟩ := bd h
    have eh156 := (t222 G l (c_V_some h156)).1
    obtain rfl := Option.some.inj h
    show h_sz M ≤ h_sz q_155 ∧ h_sl M ≤ h_sl q_155
    omega
  · rw [if_neg q167] at h
    obtain ⟨o_159, h160, h⟩ := bd h
    obtain ⟨o_161, h162, h⟩ := bd h
    obtain ⟨v_163, h164, h⟩ := bd h
    obtain ⟨M165, h166, h⟩ := bd h
    have eh166 := as_i_sz h166
    obtain rfl := Option.some.inj h
    show h_sz M ≤ h_sz M165 ∧ h_sl M ≤ h_sl M165
    omega
section
variable {p : Program} {l : Launch} {e : Env} {s : State} {m : MethodId} {args : Array Value} {below : List Frame} {meth : Method} {c : Code} {G : gX} {z0 y0 : Nat} {r : Option aV} {M' : hM}
def pg223 (p : Program) (l : Launch) (e : Env) (s : State) (m : MethodId) (args : Array Value) (below : List Frame) (meth : Method) (c : Code) (G : gX) (z0 y0 : Nat) (r : Option aV) (M' : hM) (h : Nat) (as : List aV) (M : hM) : Prop :=
  if h = 29 then (match as with | [.inr (.inr (some a0)), .inl v1, .inl v2, .inl v3, .inl v4] => xV G p l e (xRm 5 (h_sz M' - z0) (h_sl M' - y0)) s m args below meth c z0 y0 (h_sz M') (h_sl M') 9 (MQ below (xQc G r M') args s (h_sz M' - z0) (h_sl M' - y0) (xFr G)) 29 [(0, .inr (.inr (some a0))), (1, .inl v1), (2, .inl v2), (3, .inl v3), (4, .inl v4)] [] M | _ => False) else
  if h = 132 then (match as with | [.inr (.inr (some a0)), .inl v1, .inl v2, .inl v3, .inl v4, .inl v5] => xV G p l e (xRm 5 (h_sz M' - z0) (h_sl M' - y0)) s m args below meth c z0 y0 (h_sz M') (h_sl M') 9 (MQ below (xQc G r M') args s (h_sz M' - z0) (h_sl M' - y0) (xFr G)) 132 [(0, .inr (.inr (some a0))), (1, .inl v1), (2, .inl v2), (3, .inl v3), (4, .inl v4), (5, .inl v5)] [] M | _ => False) else
  if h = 264 then (match as with | [.inr (.inr (some a0)), .inl v1, .inl v2, .inl v5, .inl v6, .inl v7] => xV G p l e (xRm 5 (h_sz M' - z0) (h_sl M' - y0)) s m args below meth c z0 y0 (h_sz M') (h_sl M') 9 (MQ below (xQc G r M') args s (h_sz M' - z0) (h_sl M' - y0) (xFr G)) 264 [(0, .inr (.inr (some a0))), (1, .inl v1), (2, .inl v2), (5, .inl v5), (6, .inl v6), (7, .inl v7)] [] M | _ => False) else
  if h = 386 then (match as with | [.inr (.inr (some a0)), .inl v1, .inl v2, .inl v5, .inl v8] => xV G p l e (xRm 5 (h_sz M' - z0) (h_sl M' - y0)) s m args below meth c z0 y0 (h_sz M') (h_sl M') 9 (MQ below (xQc G r M') args s (h_sz M' - z0) (h_sl M' - y0) (xFr G)) 386 [(0, .inr (.inr (some a0))), (1, .inl v1), (2, .inl v2), (5, .inl v5), (8, .inl v8)] [] M | _ => False) else
  False
theorem sb223_0 (E : xE G p (xRm 5 (h_sz M' - z0) (h_sl M' - y0)) s m args c prog_14_method_43_code "ZonedFabricModel" z0 y0 (h_sz M') (h_sl M') 9) (B : xB ym223 none meth) (a0 : Nat) (v1 : Int32) (M : hM) {res : xRes} (h : b223_0 a0 v1 M = some res) (hN : xN (pg223 p l e s m args below meth c G z0 y0 r M') r M' res) : xV G p l e (xRm 5 (h_sz M' - z0) (h_sl M' - y0)) s m args below meth c z0 y0 (h_sz M') (h_sl M') 9 (MQ below (xQc G r M') args s (h_sz M' - z0) (h_sl M' - y0) (xFr G)) 0 [(0, .inr (.inr (some a0))), (1, .inl v1)] [] M := by
  unfold b223_0 at h
  refine xv_b E [.iconst 0, .istore_n 2, .aload_n 0] (pc' := 3) (lv' := [(2, .inl (0 : Int32)), (0, .inr (.inr (some a0))), (1, .inl v1)]) (st' := [.inr (.inr (some a0))]) (by decide +kernel) rfl rfl ?_
  obtain ⟨o_1, h2, h⟩ := bd h
  refine xg_r E 12 31 h2 mw891 (show decode prog_14_method_43_code 3 = .ok (.getfield 88, 3) by decide +kernel) ?_
  refine xv_b E [.iconst 0, .iload_n 1] (pc' := 8) (lv' := [(2, .inl (0 : Int32)), (0, .inr (.inr (some a0))), (1, .inl v1)]) (st' := [.inl v1, .inl (0 : Int32), .inr (.inr o_1)]) (by decide +kernel) rfl rfl ?_
  obtain ⟨M3, h4, h⟩ := bd h
  refine xs_i E h4 (show decode prog_14_method_43_code 8 = .ok (.iastore, 1) by decide +kernel) ?_
  refine xv_b E [.aload_n 0] (pc' := 10) (lv' := [(2, .inl (0 : Int32)), (0, .inr (.inr (some a0))), (1, .inl v1)]) (st' := [.inr (.inr (some a0))]) (by decide +kernel) rfl rfl ?_
  obtain ⟨o_5, h6, h⟩ := bd h
  refine xg_r E 12 31 h6 mw891 (show decode prog_14_method_43_code 10 = .ok (.getfield 88, 3) by decide +kernel) ?_
  refine xv_b E [.iconst 4, .aload_n 0] (pc' := 15) (lv' := [(2, .inl (0 : Int32)), (0, .inr (.inr (some a0))), (1, .inl v1)]) (st' := [.inr (.inr (some a0)), .inl (4 : Int32), .inr (.inr o_5)]) (by decide +kernel) rfl rfl ?_
  obtain ⟨o_7, h8, h⟩ := bd h
  refine xg_r E 12 26 h8 mw886 (show decode prog_14_method_43_code 15 = .ok (.getfield 73, 3) by decide +kernel) ?_
  refine xv_b E [.iload_n 1] (pc' := 19) (lv' := [(2, .inl (0 : Int32)), (0, .inr (.inr (some a0))), (1, .inl v1)]) (st' := [.inl v1, .inr (.inr o_7), .inl (4 : Int32), .inr (.inr o_5)]) (by decide +kernel) rfl rfl ?_
  obtain ⟨v_9, h10, h⟩ := bd h
  refine xa_i E h10 (show decode prog_14_method_43_code 19 = .ok (.iaload, 1) by decide +kernel) ?_
  obtain ⟨M11, h12, h⟩ := bd h
  refine xs_i E h12 (show decode prog_14_method_43_code 20 = .ok (.iastore, 1) by decide +kernel) ?_
  refine xv_b E [.bipush 6, .istore_n 2, .iconst 0, .istore_n 3, .iconst 0, .istore 4] (pc' := 29) (lv' := [(4, .inl (0 : Int32)), (3, .inl (0 : Int32)), (2, .inl (6 : Int32)), (0, .inr (.inr (some a0))), (1, .inl v1)]) (st' := []) (by decide +kernel) rfl rfl ?_
  obtain rfl := Option.some.inj h
  exact xv_w hN rfl
theorem sb223_108 (E : xE G p (xRm 5 (h_sz M' - z0) (h_sl M' - y0)) s m args c prog_14_method_43_code "ZonedFabricModel" z0 y0 (h_sz M') (h_sl M') 9) (B : xB ym223 none meth) (a0 : Nat) (v1 : Int32) (v2 : Int32) (v3 : Int32) (v4 : Int32) (M : hM) {res : xRes} (h : b223_108 a0 v1 v2 v3 v4 M = some res) (hN : xN (pg223 p l e s m args below meth c G z0 y0 r M') r M' res) : xV G p l e (xRm 5 (h_sz M' - z0) (h_sl M' - y0)) s m args below meth c z0 y0 (h_sz M') (h_sl M') 9 (MQ below (xQc G r M') args s (h_sz M' - z0) (h_sl M' - y0) (xFr G)) 108 [(0, .inr (.inr (some a0))), (1, .inl v1), (2, .inl v2), (3, .inl v3), (4, .inl v4)] [] M := by
  unfold b223_108 at h
  refine xv_b E [.iinc 4 1] (pc' := 111) (lv' := [(4, .inl (v4 + (1 : Int32))), (0, .inr (.inr (some a0))), (1, .inl v1), (2, .inl v2), (3, .inl v3)]) (st' := []) (by decide +kernel) rfl rfl ?_
  refine xv_goto E 29 (show decode prog_14_method_43_code 111 = .ok (.goto (-82), 3) by decide +kernel) rfl ?_
  obtain rfl := Option.some.inj h
  exact xv_w hN rfl
theorem sb223_29 (E : xE G p (xRm 5 (h_sz M' - z0) (h_sl M' - y0)) s m args c prog_14_method_43_code "ZonedFabricModel" z0 y0 (h_sz M') (h_sl M') 9) (B : xB ym223 none meth) (a0 : Nat) (v1 : Int32) (v2 : Int32) (v3 : Int32) (v4 : Int32) (M : hM) {res : xRes} (h : b223_29 a0 v1 v2 v3 v4 M = some res) (hN : xN (pg223 p l e s m args below meth c G z0 y0 r M') r M' res) : xV G p l e (xRm 5 (h_sz M' - z0) (h_sl M' - y0)) s m args below meth c z0 y0 (h_sz M') (h_sl M') 9 (MQ below (xQc G r M') args s (h_sz M' - z0) (h_sl M' - y0) (xFr G)) 29 [(0, .inr (.inr (some a0))), (1, .inl v1), (2, .inl v2), (3, .inl v3), (4, .inl v4)] [] M := by
  unfold b223_29 at h
  refine xv_b E [.iload 4, .bipush 8] (pc' := 33) (lv' := [(0, .inr (.inr (some a0))), (1, .inl v1), (2, .inl v2), (3, .inl v3), (4, .inl v4)]) (st' := [.inl (8 : Int32), .inl v4]) (by decide +kernel) rfl rfl ?_
  by_cases q50 : (8 : Int32) ≤ v4
  · rw [if_pos q50] at h
    refine xv_icmp_ge E 114 (show decode prog_14_method_43_code 33 = .ok (.if_icmp .ge (81), 3) by decide +kernel) rfl (fun _ => ?_) (fun z => absurd q50 z)
    refine xv_b E [.aload_n 0] (pc' := 115) (lv' := [(0, .inr (.inr (some a0))), (1, .inl v1), (2, .inl v2), (3, .inl v3), (4, .inl v4)]) (st' := [.inr (.inr (some a0))]) (by decide +kernel) rfl rfl ?_
    obtain ⟨o_13, h14, h⟩ := bd h
    refine xg_r E 12 31 h14 mw891 (show decode prog_14_method_43_code 115 = .ok (.getfield 88, 3) by decide +kernel) ?_
    refine xv_b E [.iconst 5, .iload_n 3] (pc' := 120) (lv' := [(0, .inr (.inr (some a0))), (1, .inl v1), (2, .inl v2), (3, .inl v3), (4, .inl v4)]) (st' := [.inl v3, .inl (5 : Int32), .inr (.inr o_13)]) (by decide +kernel) rfl rfl ?_
    obtain ⟨M15, h16, h⟩ := bd h
    refine xs_i E h16 (show decode prog_14_method_43_code 120 = .ok (.iastore, 1) by decide +kernel) ?_
    refine xv_b E [.iload_n 2, .istore 4, .iinc 2 1, .iconst 0, .istore_n 3, .iconst 0, .istore 5] (pc' := 132) (lv' := [(5, .inl (0 : Int32)), (3, .inl (0 : Int32)), (2, .inl (v2 + (1 : Int32))), (4, .inl v2), (0, .inr (.inr (some a0))), (1, .inl v1)]) (st' := []) (by decide +kernel) rfl rfl ?_
    obtain rfl := Option.some.inj h
    exact xv_w hN rfl
  · rw [if_neg q50] at h
    refine xv_icmp_ge E 114 (show decode prog_14_method_43_code 33 = .ok (.if_icmp .ge (81), 3) by decide +kernel) rfl (fun z => absurd z q50) (fun _ => ?_)
    refine xv_b E [.aload_n 0, .iload_n 1, .iload 4] (pc' := 40) (lv' := [(0, .inr (.inr (some a0))), (1, .inl v1), (2, .inl v2), (3, .inl v3), (4, .inl v4)]) (st' := [.inl v4, .inl v1, .inr (.inr (some a0))]) (by decide +kernel) rfl rfl ?_
    obtain ⟨b_19, h20, h⟩ := bd h
    obtain ⟨eh20, th20⟩ := g_o_some h20
    obtain ⟨q_17, h18, h⟩ := bd h
    refine xv_cvo E eh20 12 (as := [.inl v1, .inl v4]) (t175 G l (c_I_some h18)) cd175 mw1134 mw1135 mw1136 (show decode prog_14_method_43_code 40 = .ok (.invokevirtual 288, 3) by decide +kernel) th20 rfl rfl (Nat.le_of_ble_eq_true rfl) ⟨Nat.le_of_ble_eq_true rfl, Nat.le_of_ble_eq_true rfl⟩ ?_
    refine xv_b E [.istore 5, .aload_n 0] (pc' := 46) (lv' := [(5, .inl q_17.1), (0, .inr (.inr (some a0))), (1, .inl v1), (2, .inl v2), (3, .inl v3), (4, .inl v4)]) (st' := [.inr (.inr (some a0))]) (by decide +kernel) rfl rfl ?_
    obtain ⟨o_21, h22, h⟩ := bd h
    refine xg_r E 12 23 h22 mw883 (show decode prog_14_method_43_code 46 = .ok (.getfield 64, 3) by decide +kernel) ?_
    refine xv_b E [.iload 5] (pc' := 51) (lv' := [(5, .inl q_17.1), (0, .inr (.inr (some a0))), (1, .inl v1), (2, .inl v2), (3, .inl v3), (4, .inl v4)]) (st' := [.inl q_17.1, .inr (.inr o_21)]) (by decide +kernel) rfl rfl ?_
    obtain ⟨v_23, h24, h⟩ := bd h
    refine xa_i E h24 (show decode prog_14_method_43_code 51 = .ok (.iaload, 1) by decide +kernel) ?_
    refine xv_b E [.iconst (-1)] (pc' := 53) (lv' := [(5, .inl q_17.1), (0, .inr (.inr (some a0))), (1, .inl v1), (2, .inl v2), (3, .inl v3), (4, .inl v4)]) (st' := [.inl (-1 : Int32), .inl v_23]) (by decide +kernel) rfl rfl ?_
    by_cases q49 : v_23 = (-1 : Int32)
    · rw [if_pos q49] at h
      refine xv_icmp_ne E 59 (show decode prog_14_method_43_code 53 = .ok (.if_icmp .ne (6), 3) by decide +kernel) rfl (fun z => absurd q49 z) (fun _ => ?_)
      refine xv_goto E 108 (show decode prog_14_method_43_code 56 = .ok (.goto (52), 3) by decide +kernel) rfl ?_
      exact xv_w (sb223_108 E B a0 v1 v2 v3 v4 q_17.2 h hN) rfl
    · rw [if_neg q49] at h
      refine xv_icmp_ne E 59 (show decode prog_14_method_43_code 53 = .ok (.if_icmp .ne (6), 3) by decide +kernel) rfl (fun _ => ?_) (fun z => absurd z q49)
      refine xv_b E [.aload_n 0] (pc' := 60) (lv' := [(5, .inl q_17.1), (0, .inr (.inr (some a0))), (1, .inl v1), (2, .inl v2), (3, .inl v3), (4, .inl v4)]) (st' := [.inr (.inr (some a0))]) (by decide +kernel) rfl rfl ?_
      obtain ⟨o_25, h26, h⟩ := bd h
      refine xg_r E 12 31 h26 mw891 (show decode prog_14_method_43_code 60 = .ok (.getfield 88, 3) by decide +kernel) ?_
      refine xv_b E [.iload_n 2, .iload 4] (pc' := 66) (lv' := [(5, .inl q_17.1), (0, .inr (.inr (some a0))), (1, .inl v1), (2, .inl v2), (3, .inl v3), (4, .inl v4)]) (st' := [.inl v4, .inl v2, .inr (.inr o_25)]) (by decide +kernel) rfl rfl ?_
      obtain ⟨M27, h28, h⟩ := bd h
      refine xs_i E h28 (show decode prog_14_method_43_code 66 = .ok (.iastore, 1) by decide +kernel) ?_
      refine xv_b E [.aload_n 0] (pc' := 68) (lv' := [(5, .inl q_17.1), (0, .inr (.inr (some a0))), (1, .inl v1), (2, .inl v2), (3, .inl v3), (4, .inl v4)]) (st' := [.inr (.inr (some a0))]) (by decide +kernel) rfl rfl ?_
      obtain ⟨o_29, h30, h⟩ := bd h
      refine xg_r E 12 31 h30 mw891 (show decode prog_14_method_43_code 68 = .ok (.getfield 88, 3) by decide +kernel) ?_
      refine xv_b E [.iload_n 2, .iconst 1, .iadd, .aload_n 0] (pc' := 75) (lv' := [(5, .inl q_17.1), (0, .inr (.inr (some a0))), (1, .inl v1), (2, .inl v2), (3, .inl v3), (4, .inl v4)]) (st' := [.inr (.inr (some a0)), .inl (v2 + (1 : Int32)), .inr (.inr o_29)]) (by decide +kernel) rfl rfl ?_
      obtain ⟨o_31, h32, h⟩ := bd h
      refine xg_r E 12 23 h32 mw883 (show decode prog_14_method_43_code 75 = .ok (.getfield 64, 3) by decide +kernel) ?_
      refine xv_b E [.iload 5] (pc' := 80) (lv' := [(5, .inl q_17.1), (0, .inr (.inr (some a0))), (1, .inl v1), (2, .inl v2), (3, .inl v3), (4, .inl v4)]) (st' := [.inl q_17.1, .inr (.inr o_31), .inl (v2 + (1 : Int32)), .inr (.inr o_29)]) (by decide +kernel) rfl rfl ?_
      obtain ⟨v_33, h34, h⟩ := bd h
      refine xa_i E h34 (show decode prog_14_method_43_code 80 = .ok (.iaload, 1) by decide +kernel) ?_
      obtain ⟨M35, h36, h⟩ := bd h
      refine xs_i E h36 (show decode prog_14_method_43_code 81 = .ok (.iastore, 1) by decide +kernel) ?_
      refine xv_b E [.aload_n 0] (pc' := 83) (lv' := [(5, .inl q_17.1), (0, .inr (.inr (some a0))), (1, .inl v1), (2, .inl v2), (3, .inl v3), (4, .inl v4)]) (st' := [.inr (.inr (some a0))]) (by decide +kernel) rfl rfl ?_
      obtain ⟨o_37, h38, h⟩ := bd h
      refine xg_r E 12 31 h38 mw891 (show decode prog_14_method_43_code 83 = .ok (.getfield 88, 3) by decide +kernel) ?_
      refine xv_b E [.iload_n 2, .iconst 2, .iadd, .aload_n 0] (pc' := 90) (lv' := [(5, .inl q_17.1), (0, .inr (.inr (some a0))), (1, .inl v1), (2, .inl v2), (3, .inl v3), (4, .inl v4)]) (st' := [.inr (.inr (some a0)), .inl (v2 + (2 : Int32)), .inr (.inr o_37)]) (by decide +kernel) rfl rfl ?_
      obtain ⟨o_39, h40, h⟩ := bd h
      refine xg_r E 12 11 h40 mw871 (show decode prog_14_method_43_code 90 = .ok (.getfield 30, 3) by decide +kernel) ?_
      refine xv_b E [.aload_n 0] (pc' := 94) (lv' := [(5, .inl q_17.1), (0, .inr (.inr (some a0))), (1, .inl v1), (2, .inl v2), (3, .inl v3), (4, .inl v4)]) (st' := [.inr (.inr (some a0)), .inr (.inr o_39), .inl (v2 + (2 : Int32)), .inr (.inr o_37)]) (by decide +kernel) rfl rfl ?_
      obtain ⟨o_41, h42, h⟩ := bd h
      refine xg_r E 12 14 h42 mw874 (show decode prog_14_method_43_code 94 = .ok (.getfield 37, 3) by decide +kernel) ?_
      refine xv_b E [.iload 5] (pc' := 99) (lv' := [(5, .inl q_17.1), (0, .inr (.inr (some a0))), (1, .inl v1), (2, .inl v2), (3, .inl v3), (4, .inl v4)]) (st' := [.inl q_17.1, .inr (.inr o_41), .inr (.inr o_39), .inl (v2 + (2 : Int32)), .inr (.inr o_37)]) (by decide +kernel) rfl rfl ?_
      obtain ⟨v_43, h44, h⟩ := bd h
      refine xa_i E h44 (show decode prog_14_method_43_code 99 = .ok (.iaload, 1) by decide +kernel) ?_
      obtain ⟨v_45, h46, h⟩ := bd h
      refine xa_i E h46 (show decode prog_14_method_43_code 100 = .ok (.iaload, 1) by decide +kernel) ?_
      obtain ⟨M47, h48, h⟩ := bd h
      refine xs_i E h48 (show decode prog_14_method_43_code 101 = .ok (.iastore, 1) by decide +kernel) ?_
      refine xv_b E [.iinc 2 3, .iinc 3 1] (pc' := 108) (lv' := [(3, .inl (v3 + (1 : Int32))), (2, .inl (v2 + (3 : Int32))), (5, .inl q_17.1), (0, .inr (.inr (some a0))), (1, .inl v1), (4, .inl v4)]) (st' := []) (by decide +kernel) rfl rfl ?_
      exact xv_w (sb223_108 E B a0 v1 (v2 + (3 : Int32)) (v3 + (1 : Int32)) v4 M47 h hN) rfl
theorem sb223_195 (E : xE G p (xRm 5 (h_sz M' - z0) (h_sl M' - y0)) s m args c prog_14_method_43_code "ZonedFabricModel" z0 y0 (h_sz M') (h_sl M') 9) (B : xB ym223 none meth) (a0 : Nat) (v1 : Int32) (v2 : Int32) (v3 : Int32) (v4 : Int32) (v5 : Int32) (M : hM) {res : xRes} (h : b223_195 a0 v1 v2 v3 v4 v5 M = some res) (hN : xN (pg223 p l e s m args below meth c G z0 y0 r M') r M' res) : xV G p l e (xRm 5 (h_sz M' - z0) (h_sl M' - y0)) s m args below meth c z0 y0 (h_sz M') (h_sl M') 9 (MQ below (xQc G r M') args s (h_sz M' - z0) (h_sl M' - y0) (xFr G)) 195 [(0, .inr (.inr (some a0))), (1, .inl v1), (2, .inl v2), (3, .inl v3), (4, .inl v4), (5, .inl v5)] [] M := by
  unfold b223_195 at h
  refine xv_b E [.iinc 5 1] (pc' := 198) (lv' := [(5, .inl (v5 + (1 : Int32))), (0, .inr (.inr (some a0))), (1, .inl v1), (2, .inl v2), (3, .inl v3), (4, .inl v4)]) (st' := []) (by decide +kernel) rfl rfl ?_
  refine xv_goto E 132 (show decode prog_14_method_43_code 198 = .ok (.goto (-66), 3) by decide +kernel) rfl ?_
  obtain rfl := Option.some.inj h
  exact xv_w hN rfl
theorem sb223_259 (E : xE G p (xRm 5 (h_sz M' - z0) (h_sl M' - y0)) s m args c prog_14_method_43_code "ZonedFabricModel" z0 y0 (h_sz M') (h_sl M') 9) (B : xB ym223 none meth) (a0 : Nat) (v1 : Int32) (v2 : Int32) (v5 : Int32) (si0 : Int32) (M : hM) {res : xRes} (h : b223_259 a0 v1 v2 v5 si0 M = some res) (hN : xN (pg223 p l e s m args below meth c G z0 y0 r M') r M' res) : xV G p l e (xRm 5 (h_sz M' - z0) (h_sl M' - y0)) s m args below meth c z0 y0 (h_sz M') (h_sl M') 9 (MQ below (xQc G r M') args s (h_sz M' - z0) (h_sl M' - y0) (xFr G)) 259 [(0, .inr (.inr (some a0))), (1, .inl v1), (2, .inl v2), (5, .inl v5)] [.inl si0] M := by
  unfold b223_259 at h
  refine xv_b E [.istore 6, .iconst 4, .istore 7] (pc' := 264) (lv' := [(7, .inl (4 : Int32)), (6, .inl si0), (0, .inr (.inr (some a0))), (1, .inl v1), (2, .inl v2), (5, .inl v5)]) (st' := []) (by decide +kernel) rfl rfl ?_
  obtain rfl := Option.some.inj h
  exact xv_w hN rfl
theorem sb223_258 (E : xE G p (xRm 5 (h_sz M' - z0) (h_sl M' - y0)) s m args c prog_14_method_43_code "ZonedFabricModel" z0 y0 (h_sz M') (h_sl M') 9) (B : xB ym223 none meth) (a0 : Nat) (v1 : Int32) (v2 : Int32) (v5 : Int32) (M : hM) {res : xRes} (h : b223_258 a0 v1 v2 v5 M = some res) (hN : xN (pg223 p l e s m args below meth c G z0 y0 r M') r M' res) : xV G p l e (xRm 5 (h_sz M' - z0) (h_sl M' - y0)) s m args below meth c z0 y0 (h_sz M') (h_sl M') 9 (MQ below (xQc G r M') args s (h_sz M' - z0) (h_sl M' - y0) (xFr G)) 258 [(0, .inr (.inr (some a0))), (1, .inl v1), (2, .inl v2), (5, .inl v5)] [] M := by
  unfold b223_258 at h
  refine xv_b E [.iconst 0] (pc' := 259) (lv' := [(0, .inr (.inr (some a0))), (1, .inl v1), (2, .inl v2), (5, .inl v5)]) (st' := [.inl (0 : Int32)]) (by decide +kernel) rfl rfl ?_
  exact xv_w (sb223_259 E B a0 v1 v2 v5 (0 : Int32) M h hN) rfl
theorem sb223_132 (E : xE G p (xRm 5 (h_sz M' - z0) (h_sl M' - y0)) s m args c prog_14_method_43_code "ZonedFabricModel" z0 y0 (h_sz M') (h_sl M') 9) (B : xB ym223 none meth) (a0 : Nat) (v1 : Int32) (v2 : Int32) (v3 : Int32) (v4 : Int32) (v5 : Int32) (M : hM) {res : xRes} (h : b223_132 a0 v1 v2 v3 v4 v5 M = some res) (hN : xN (pg223 p l e s m args below meth c G z0 y0 r M') r M' res) : xV G p l e (xRm 5 (h_sz M' - z0) (h_sl M' - y0)) s m args below meth c z0 y0 (h_sz M') (h_sl M') 9 (MQ below (xQc G r M') args s (h_sz M' - z0) (h_sl M' - y0) (xFr G)) 132 [(0, .inr (.inr (some a0))), (1, .inl v1), (2, .inl v2), (3, .inl v3), (4, .inl v4), (5, .inl v5)] [] M := by
  unfold b223_132 at h
  refine xv_b E [.iload 5, .bipush 8] (pc' := 136) (lv' := [(0, .inr (.inr (some a0))), (1, .inl v1), (2, .inl v2), (3, .inl v3), (4, .inl v4), (5, .inl v5)]) (st' := [.inl (8 : Int32), .inl v5]) (by decide +kernel) rfl rfl ?_
  by_cases q101 : (8 : Int32) ≤ v5
  · rw [if_pos q101] at h
    refine xv_icmp_ge E 201 (show decode prog_14_method_43_code 136 = .ok (.if_icmp .ge (65), 3) by decide +kernel) rfl (fun _ => ?_) (fun z => absurd q101 z)
    refine xv_b E [.aload_n 0] (pc' := 202) (lv' := [(0, .inr (.inr (some a0))), (1, .inl v1), (2, .inl v2), (3, .inl v3), (4, .inl v4), (5, .inl v5)]) (st' := [.inr (.inr (some a0))]) (by decide +kernel) rfl rfl ?_
    obtain ⟨o_51, h52, h⟩ := bd h
    refine xg_r E 12 31 h52 mw891 (show decode prog_14_method_43_code 202 = .ok (.getfield 88, 3) by decide +kernel) ?_
    refine xv_b E [.iload 4, .iload_n 3] (pc' := 208) (lv' := [(0, .inr (.inr (some a0))), (1, .inl v1), (2, .inl v2), (3, .inl v3), (4, .inl v4), (5, .inl v5)]) (st' := [.inl v3, .inl v4, .inr (.inr o_51)]) (by decide +kernel) rfl rfl ?_
    obtain ⟨M53, h54, h⟩ := bd h
    refine xs_i E h54 (show decode prog_14_method_43_code 208 = .ok (.iastore, 1) by decide +kernel) ?_
    refine xv_b E [.iconst 5, .iload_n 1, .imul, .iload_n 1, .iadd, .istore 5, .aload_n 0] (pc' := 217) (lv' := [(5, .inl (((5 : Int32) * v1) + v1)), (0, .inr (.inr (some a0))), (1, .inl v1), (2, .inl v2), (3, .inl v3), (4, .inl v4)]) (st' := [.inr (.inr (some a0))]) (by decide +kernel) rfl rfl ?_
    obtain ⟨o_55, h56, h⟩ := bd h
    refine xg_r E 12 27 h56 mw887 (show decode prog_14_method_43_code 217 = .ok (.getfield 76, 3) by decide +kernel) ?_
    refine xv_b E [.iload 5] (pc' := 222) (lv' := [(5, .inl (((5 : Int32) * v1) + v1)), (0, .inr (.inr (some a0))), (1, .inl v1), (2, .inl v2), (3, .inl v3), (4, .inl v4)]) (st' := [.inl (((5 : Int32) * v1) + v1), .inr (.inr o_55)]) (by decide +kernel) rfl rfl ?_
    obtain ⟨v_57, h58, h⟩ := bd h
    refine xa_z E h58 (show decode prog_14_method_43_code 222 = .ok (.baload, 1) by decide +kernel) ?_
    by_cases q71 : v_57 = 0
    · rw [if_pos q71] at h
      refine xv_if_eq E 258 (show decode prog_14_method_43_code 223 = .ok (.ifCond .eq (35), 3) by decide +kernel) rfl (fun _ => ?_) (fun z => absurd q71 z)
      exact xv_w (sb223_258 E B a0 v1 v2 (((5 : Int32) * v1) + v1) M53 h hN) rfl
    · rw [if_neg q71] at h
      refine xv_if_eq E 258 (show decode prog_14_method_43_code 223 = .ok (.ifCond .eq (35), 3) by decide +kernel) rfl (fun z => absurd z q71) (fun _ => ?_)
      refine xv_b E [.aload_n 0] (pc' := 227) (lv' := [(5, .inl (((5 : Int32) * v1) + v1)), (0, .inr (.inr (some a0))), (1, .inl v1), (2, .inl v2), (3, .inl v3), (4, .inl v4)]) (st' := [.inr (.inr (some a0))]) (by decide +kernel) rfl rfl ?_
      obtain ⟨o_59, h60, h⟩ := bd h
      refine xg_r E 12 30 h60 mw890 (show decode prog_14_method_43_code 227 = .ok (.getfield 85, 3) by decide +kernel) ?_
      refine xv_b E [.iload 5] (pc' := 232) (lv' := [(5, .inl (((5 : Int32) * v1) + v1)), (0, .inr (.inr (some a0))), (1, .inl v1), (2, .inl v2), (3, .inl v3), (4, .inl v4)]) (st' := [.inl (((5 : Int32) * v1) + v1), .inr (.inr o_59)]) (by decide +kernel) rfl rfl ?_
      obtain ⟨v_61, h62, h⟩ := bd h
      refine xa_i E h62 (show decode prog_14_method_43_code 232 = .ok (.iaload, 1) by decide +kernel) ?_
      refine xv_b E [.iload_n 2] (pc' := 234) (lv' := [(5, .inl (((5 : Int32) * v1) + v1)), (0, .inr (.inr (some a0))), (1, .inl v1), (2, .inl v2), (3, .inl v3), (4, .inl v4)]) (st' := [.inl v2, .inl v_61]) (by decide +kernel) rfl rfl ?_
      by_cases q70 : v_61 = v2
      · rw [if_pos q70] at h
        refine xv_icmp_ne E 258 (show decode prog_14_method_43_code 234 = .ok (.if_icmp .ne (24), 3) by decide +kernel) rfl (fun z => absurd q70 z) (fun _ => ?_)
        refine xv_b E [.aload_n 0] (pc' := 238) (lv' := [(5, .inl (((5 : Int32) * v1) + v1)), (0, .inr (.inr (some a0))), (1, .inl v1), (2, .inl v2), (3, .inl v3), (4, .inl v4)]) (st' := [.inr (.inr (some a0))]) (by decide +kernel) rfl rfl ?_
        obtain ⟨v_63, h64, h⟩ := bd h
        refine xg_i E 12 3 h64 mw1047 (show decode prog_14_method_43_code 238 = .ok (.getfield 276, 3) by decide +kernel) ?_
        refine xv_b E [.aload_n 0] (pc' := 242) (lv' := [(5, .inl (((5 : Int32) * v1) + v1)), (0, .inr (.inr (some a0))), (1, .inl v1), (2, .inl v2), (3, .inl v3), (4, .inl v4)]) (st' := [.inr (.inr (some a0)), .inl v_63]) (by decide +kernel) rfl rfl ?_
        obtain ⟨o_65, h66, h⟩ := bd h
        refine xg_r E 12 28 h66 mw888 (show decode prog_14_method_43_code 242 = .ok (.getfield 79, 3) by decide +kernel) ?_
        refine xv_b E [.iload 5] (pc' := 247) (lv' := [(5, .inl (((5 : Int32) * v1) + v1)), (0, .inr (.inr (some a0))), (1, .inl v1), (2, .inl v2), (3, .inl v3), (4, .inl v4)]) (st' := [.inl (((5 : Int32) * v1) + v1), .inr (.inr o_65), .inl v_63]) (by decide +kernel) rfl rfl ?_
        obtain ⟨v_67, h68, h⟩ := bd h
        refine xa_i E h68 (show decode prog_14_method_43_code 247 = .ok (.iaload, 1) by decide +kernel) ?_
        refine xv_b E [.isub, .bipush 40] (pc' := 251) (lv' := [(5, .inl (((5 : Int32) * v1) + v1)), (0, .inr (.inr (some a0))), (1, .inl v1), (2, .inl v2), (3, .inl v3), (4, .inl v4)]) (st' := [.inl (40 : Int32), .inl (v_63 - v_67)]) (by decide +kernel) rfl rfl ?_
        by_cases q69 : (40 : Int32) ≤ (v_63 - v_67)
        · rw [if_pos q69] at h
          refine xv_icmp_ge E 258 (show decode prog_14_method_43_code 251 = .ok (.if_icmp .ge (7), 3) by decide +kernel) rfl (fun _ => ?_) (fun z => absurd q69 z)
          exact xv_w (sb223_258 E B a0 v1 v2 (((5 : Int32) * v1) + v1) M53 h hN) rfl
        · rw [if_neg q69] at h
          refine xv_icmp_ge E 258 (show decode prog_14_method_43_code 251 = .ok (.if_icmp .ge (7), 3) by decide +kernel) rfl (fun z => absurd z q69) (fun _ => ?_)
          refine xv_b E [.iconst 1] (pc' := 255) (lv' := [(5, .inl (((5 : Int32) * v1) + v1)), (0, .inr (.inr (some a0))), (1, .inl v1), (2, .inl v2), (3, .inl v3), (4, .inl v4)]) (st' := [.inl (1 : Int32)]) (by decide +kernel) rfl rfl ?_
          refine xv_goto E 259 (show decode prog_14_method_43_code 255 = .ok (.goto (4), 3) by decide +kernel) rfl ?_
          exact xv_w (sb223_259 E B a0 v1 v2 (((5 : Int32) * v1) + v1) (1 : Int32) M53 h hN) rfl
      · rw [if_neg q70] at h
        refine xv_icmp_ne E 258 (show decode prog_14_method_43_code 234 = .ok (.if_icmp .ne (24), 3) by decide +kernel) rfl (fun _ => ?_) (fun z => absurd z q70)
        exact xv_w (sb223_258 E B a0 v1 v2 (((5 : Int32) * v1) + v1) M53 h hN) rfl
  · rw [if_neg q101] at h
    refine xv_icmp_ge E 201 (show decode prog_14_method_43_code 136 = .ok (.if_icmp .ge (65), 3) by decide +kernel) rfl (fun z => absurd z q101) (fun _ => ?_)
    refine xv_b E [.aload_n 0] (pc' := 140) (lv' := [(0, .inr (.inr (some a0))), (1, .inl v1), (2, .inl v2), (3, .inl v3), (4, .inl v4), (5, .inl v5)]) (st' := [.inr (.inr (some a0))]) (by decide +kernel) rfl rfl ?_
    obtain ⟨o_72, h73, h⟩ := bd h
    refine xg_r E 12 25 h73 mw885 (show decode prog_14_method_43_code 140 = .ok (.getfield 70, 3) by decide +kernel) ?_
    refine xv_b E [.aload_n 0, .iload_n 1, .iload 5] (pc' := 147) (lv' := [(0, .inr (.inr (some a0))), (1, .inl v1), (2, .inl v2), (3, .inl v3), (4, .inl v4), (5, .inl v5)]) (st' := [.inl v5, .inl v1, .inr (.inr (some a0)), .inr (.inr o_72)]) (by decide +kernel) rfl rfl ?_
    obtain ⟨b_76, h77, h⟩ := bd h
    obtain ⟨eh77, th77⟩ := g_o_some h77
    obtain ⟨q_74, h75, h⟩ := bd h
    refine xv_cvo E eh77 12 (as := [.inl v1, .inl v5]) (t175 G l (c_I_some h75)) cd175 mw1134 mw1135 mw1136 (show decode prog_14_method_43_code 147 = .ok (.invokevirtual 288, 3) by decide +kernel) th77 rfl rfl (Nat.le_of_ble_eq_true rfl) ⟨Nat.le_of_ble_eq_true rfl, Nat.le_of_ble_eq_true rfl⟩ ?_
    obtain ⟨v_78, h79, h⟩ := bd h
    refine xa_i E h79 (show decode prog_14_method_43_code 150 = .ok (.iaload, 1) by decide +kernel) ?_
    by_cases q100 : v_78 = 0
    · rw [if_pos q100] at h
      refine xv_if_ne E 157 (show decode prog_14_method_43_code 151 = .ok (.ifCond .ne (6), 3) by decide +kernel) rfl (fun z => absurd q100 z) (fun _ => ?_)
      refine xv_goto E 195 (show decode prog_14_method_43_code 154 = .ok (.goto (41), 3) by decide +kernel) rfl ?_
      exact xv_w (sb223_195 E B a0 v1 v2 v3 v4 v5 q_74.2 h hN) rfl
    · rw [if_neg q100] at h
      refine xv_if_ne E 157 (show decode prog_14_method_43_code 151 = .ok (.ifCond .ne (6), 3) by decide +kernel) rfl (fun _ => ?_) (fun z => absurd z q100)
      refine xv_b E [.aload_n 0] (pc' := 158) (lv' := [(0, .inr (.inr (some a0))), (1, .inl v1), (2, .inl v2), (3, .inl v3), (4, .inl v4), (5, .inl v5)]) (st' := [.inr (.inr (some a0))]) (by decide +kernel) rfl rfl ?_
      obtain ⟨o_80, h81, h⟩ := bd h
      refine xg_r E 12 31 h81 mw891 (show decode prog_14_method_43_code 158 = .ok (.getfield 88, 3) by decide +kernel) ?_
      refine xv_b E [.iload_n 2, .aload_n 0, .aload_n 0] (pc' := 164) (lv' := [(0, .inr (.inr (some a0))), (1, .inl v1), (2, .inl v2), (3, .inl v3), (4, .inl v4), (5, .inl v5)]) (st' := [.inr (.inr (some a0)), .inr (.inr (some a0)), .inl v2, .inr (.inr o_80)]) (by decide +kernel) rfl rfl ?_
      obtain ⟨o_82, h83, h⟩ := bd h
      refine xg_r E 12 25 h83 mw885 (show decode prog_14_method_43_code 164 = .ok (.getfield 70, 3) by decide +kernel) ?_
      refine xv_b E [.aload_n 0, .iload_n 1, .iload 5] (pc' := 171) (lv' := [(0, .inr (.inr (some a0))), (1, .inl v1), (2, .inl v2), (3, .inl v3), (4, .inl v4), (5, .inl v5)]) (st' := [.inl v5, .inl v1, .inr (.inr (some a0)), .inr (.inr o_82), .inr (.inr (some a0)), .inl v2, .inr (.inr o_80)]) (by decide +kernel) rfl rfl ?_
      obtain ⟨b_86, h87, h⟩ := bd h
      obtain ⟨eh87, th87⟩ := g_o_some h87
      obtain ⟨q_84, h85, h⟩ := bd h
      refine xv_cvo E eh87 12 (as := [.inl v1, .inl v5]) (t175 G l (c_I_some h85)) cd175 mw1134 mw1135 mw1136 (show decode prog_14_method_43_code 171 = .ok (.invokevirtual 288, 3) by decide +kernel) th87 rfl rfl (Nat.le_of_ble_eq_true rfl) ⟨Nat.le_of_ble_eq_true rfl, Nat.le_of_ble_eq_true rfl⟩ ?_
      obtain ⟨v_88, h89, h⟩ := bd h
      refine xa_i E h89 (show decode prog_14_method_43_code 174 = .ok (.iaload, 1) by decide +kernel) ?_
      obtain ⟨b_92, h93, h⟩ := bd h
      obtain ⟨eh93, th93⟩ := g_o_some h93
      obtain ⟨q_90, h91, h⟩ := bd h
      refine xv_cvo E eh93 12 (as := [.inl v_88]) (t189 G l (c_I_some h91)) cd189 mw1074 mw1075 mw1076 (show decode prog_14_method_43_code 175 = .ok (.invokevirtual 309, 3) by decide +kernel) th93 rfl rfl (Nat.le_of_ble_eq_true rfl) ⟨Nat.le_of_ble_eq_true rfl, Nat.le_of_ble_eq_true rfl⟩ ?_
      obtain ⟨M94, h95, h⟩ := bd h
      refine xs_i E h95 (show decode prog_14_method_43_code 178 = .ok (.iastore, 1) by decide +kernel) ?_
      refine xv_b E [.aload_n 0] (pc' := 180) (lv' := [(0, .inr (.inr (some a0))), (1, .inl v1), (2, .inl v2), (3, .inl v3), (4, .inl v4), (5, .inl v5)]) (st' := [.inr (.inr (some a0))]) (by decide +kernel) rfl rfl ?_
      obtain ⟨o_96, h97, h⟩ := bd h
      refine xg_r E 12 31 h97 mw891 (show decode prog_14_method_43_code 180 = .ok (.getfield 88, 3) by decide +kernel) ?_
      refine xv_b E [.iload_n 2, .iconst 1, .iadd, .iload 5] (pc' := 188) (lv' := [(0, .inr (.inr (some a0))), (1, .inl v1), (2, .inl v2), (3, .inl v3), (4, .inl v4), (5, .inl v5)]) (st' := [.inl v5, .inl (v2 + (1 : Int32)), .inr (.inr o_96)]) (by decide +kernel) rfl rfl ?_
      obtain ⟨M98, h99, h⟩ := bd h
      refine xs_i E h99 (show decode prog_14_method_43_code 188 = .ok (.iastore, 1) by decide +kernel) ?_
      refine xv_b E [.iinc 2 2, .iinc 3 1] (pc' := 195) (lv' := [(3, .inl (v3 + (1 : Int32))), (2, .inl (v2 + (2 : Int32))), (0, .inr (.inr (some a0))), (1, .inl v1), (4, .inl v4), (5, .inl v5)]) (st' := []) (by decide +kernel) rfl rfl ?_
      exact xv_w (sb223_195 E B a0 v1 (v2 + (2 : Int32)) (v3 + (1 : Int32)) v4 v5 M98 h hN) rfl
theorem sb223_303 (E : xE G p (xRm 5 (h_sz M' - z0) (h_sl M' - y0)) s m args c prog_14_method_43_code "ZonedFabricModel" z0 y0 (h_sz M') (h_sl M') 9) (B : xB ym223 none meth) (a0 : Nat) (v1 : Int32) (v2 : Int32) (v5 : Int32) (v7 : Int32) (si0 : Int32) (M : hM) {res : xRes} (h : b223_303 a0 v1 v2 v5 v7 si0 M = some res) (hN : xN (pg223 p l e s m args below meth c G z0 y0 r M') r M' res) : xV G p l e (xRm 5 (h_sz M' - z0) (h_sl M' - y0)) s m args below meth c z0 y0 (h_sz M') (h_sl M') 9 (MQ below (xQc G r M') args s (h_sz M' - z0) (h_sl M' - y0) (xFr G)) 303 [(0, .inr (.inr (some a0))), (1, .inl v1), (2, .inl v2), (5, .inl v5), (7, .inl v7)] [.inl si0] M := by
  unfold b223_303 at h
  refine xv_b E [.istore 6, .iinc 7 1] (pc' := 308) (lv' := [(7, .inl (v7 + (1 : Int32))), (6, .inl si0), (0, .inr (.inr (some a0))), (1, .inl v1), (2, .inl v2), (5, .inl v5)]) (st' := []) (by decide +kernel) rfl rfl ?_
  refine xv_goto E 264 (show decode prog_14_method_43_code 308 = .ok (.goto (-44), 3) by decide +kernel) rfl ?_
  obtain rfl := Option.some.inj h
  exact xv_w hN rfl
theorem sb223_339 (E : xE G p (xRm 5 (h_sz M' - z0) (h_sl M' - y0)) s m args c prog_14_method_43_code "ZonedFabricModel" z0 y0 (h_sz M') (h_sl M') 9) (B : xB ym223 none meth) (a0 : Nat) (v1 : Int32) (v2 : Int32) (v5 : Int32) (si0 : Int32) (M : hM) {res : xRes} (h : b223_339 a0 v1 v2 v5 si0 M = some res) (hN : xN (pg223 p l e s m args below meth c G z0 y0 r M') r M' res) : xV G p l e (xRm 5 (h_sz M' - z0) (h_sl M' - y0)) s m args below meth c z0 y0 (h_sz M') (h_sl M') 9 (MQ below (xQc G r M') args s (h_sz M' - z0) (h_sl M' - y0) (xFr G)) 339 [(0, .inr (.inr (some a0))), (1, .inl v1), (2, .inl v2), (5, .inl v5)] [.inl si0] M := by
  unfold b223_339 at h
  refine xv_b E [.istore 7, .aload_n 0] (pc' := 342) (lv' := [(7, .inl si0), (0, .inr (.inr (some a0))), (1, .inl v1), (2, .inl v2), (5, .inl v5)]) (st' := [.inr (.inr (some a0))]) (by decide +kernel) rfl rfl ?_
  obtain ⟨o_123, h124, h⟩ := bd h
  refine xg_r E 12 31 h124 mw891 (show decode prog_14_method_43_code 342 = .ok (.getfield 88, 3) by decide +kernel) ?_
  refine xv_b E [.iconst 1, .iload 7, .bipush 16, .ishr, .sipush 255, .iand] (pc' := 355) (lv' := [(7, .inl si0), (0, .inr (.inr (some a0))), (1, .inl v1), (2, .inl v2), (5, .inl v5)]) (st' := [.inl ((si0 >>> ((16 : Int32) &&& 31)) &&& (255 : Int32)), .inl (1 : Int32), .inr (.inr o_123)]) (by decide +kernel) rfl rfl ?_
  obtain ⟨M125, h126, h⟩ := bd h
  refine xs_i E h126 (show decode prog_14_method_43_code 355 = .ok (.iastore, 1) by decide +kernel) ?_
  refine xv_b E [.aload_n 0] (pc' := 357) (lv' := [(7, .inl si0), (0, .inr (.inr (some a0))), (1, .inl v1), (2, .inl v2), (5, .inl v5)]) (st' := [.inr (.inr (some a0))]) (by decide +kernel) rfl rfl ?_
  obtain ⟨o_127, h128, h⟩ := bd h
  refine xg_r E 12 31 h128 mw891 (show decode prog_14_method_43_code 357 = .ok (.getfield 88, 3) by decide +kernel) ?_
  refine xv_b E [.iconst 2, .iload 7, .bipush 8, .ishr, .sipush 255, .iand] (pc' := 370) (lv' := [(7, .inl si0), (0, .inr (.inr (some a0))), (1, .inl v1), (2, .inl v2), (5, .inl v5)]) (st' := [.inl ((si0 >>> ((8 : Int32) &&& 31)) &&& (255 : Int32)), .inl (2 : Int32), .inr (.inr o_127)]) (by decide +kernel) rfl rfl ?_
  obtain ⟨M129, h130, h⟩ := bd h
  refine xs_i E h130 (show decode prog_14_method_43_code 370 = .ok (.iastore, 1) by decide +kernel) ?_
  refine xv_b E [.aload_n 0] (pc' := 372) (lv' := [(7, .inl si0), (0, .inr (.inr (some a0))), (1, .inl v1), (2, .inl v2), (5, .inl v5)]) (st' := [.inr (.inr (some a0))]) (by decide +kernel) rfl rfl ?_
  obtain ⟨o_131, h132, h⟩ := bd h
  refine xg_r E 12 31 h132 mw891 (show decode prog_14_method_43_code 372 = .ok (.getfield 88, 3) by decide +kernel) ?_
  refine xv_b E [.iconst 3, .iload 7, .sipush 255, .iand] (pc' := 382) (lv' := [(7, .inl si0), (0, .inr (.inr (some a0))), (1, .inl v1), (2, .inl v2), (5, .inl v5)]) (st' := [.inl (si0 &&& (255 : Int32)), .inl (3 : Int32), .inr (.inr o_131)]) (by decide +kernel) rfl rfl ?_
  obtain ⟨M133, h134, h⟩ := bd h
  refine xs_i E h134 (show decode prog_14_method_43_code 382 = .ok (.iastore, 1) by decide +kernel) ?_
  refine xv_b E [.iconst 0, .istore 8] (pc' := 386) (lv' := [(8, .inl (0 : Int32)), (7, .inl si0), (0, .inr (.inr (some a0))), (1, .inl v1), (2, .inl v2), (5, .inl v5)]) (st' := []) (by decide +kernel) rfl rfl ?_
  obtain rfl := Option.some.inj h
  exact xv_w hN rfl
theorem sb223_311 (E : xE G p (xRm 5 (h_sz M' - z0) (h_sl M' - y0)) s m args c prog_14_method_43_code "ZonedFabricModel" z0 y0 (h_sz M') (h_sl M') 9) (B : xB ym223 none meth) (a0 : Nat) (v1 : Int32) (v2 : Int32) (v5 : Int32) (v6 : Int32) (M : hM) {res : xRes} (h : b223_311 a0 v1 v2 v5 v6 M = some res) (hN : xN (pg223 p l e s m args below meth c G z0 y0 r M') r M' res) : xV G p l e (xRm 5 (h_sz M' - z0) (h_sl M' - y0)) s m args below meth c z0 y0 (h_sz M') (h_sl M') 9 (MQ below (xQc G r M') args s (h_sz M' - z0) (h_sl M' - y0) (xFr G)) 311 [(0, .inr (.inr (some a0))), (1, .inl v1), (2, .inl v2), (5, .inl v5), (6, .inl v6)] [] M := by
  unfold b223_311 at h
  refine xv_b E [.iload 6] (pc' := 313) (lv' := [(0, .inr (.inr (some a0))), (1, .inl v1), (2, .inl v2), (5, .inl v5), (6, .inl v6)]) (st' := [.inl v6]) (by decide +kernel) rfl rfl ?_
  by_cases q122 : v6 = 0
  · rw [if_pos q122] at h
    refine xv_if_eq E 317 (show decode prog_14_method_43_code 313 = .ok (.ifCond .eq (4), 3) by decide +kernel) rfl (fun _ => ?_) (fun z => absurd q122 z)
    refine xv_b E [.aload_n 0] (pc' := 318) (lv' := [(0, .inr (.inr (some a0))), (1, .inl v1), (2, .inl v2), (5, .inl v5), (6, .inl v6)]) (st' := [.inr (.inr (some a0))]) (by decide +kernel) rfl rfl ?_
    obtain ⟨o_113, h114, h⟩ := bd h
    refine xg_r E 12 27 h114 mw887 (show decode prog_14_method_43_code 318 = .ok (.getfield 76, 3) by decide +kernel) ?_
    refine xv_b E [.iload 5] (pc' := 323) (lv' := [(0, .inr (.inr (some a0))), (1, .inl v1), (2, .inl v2), (5, .inl v5), (6, .inl v6)]) (st' := [.inl v5, .inr (.inr o_113)]) (by decide +kernel) rfl rfl ?_
    obtain ⟨v_115, h116, h⟩ := bd h
    refine xa_z E h116 (show decode prog_14_method_43_code 323 = .ok (.baload, 1) by decide +kernel) ?_
    by_cases q121 : v_115 = 0
    · rw [if_pos q121] at h
      refine xv_if_eq E 338 (show decode prog_14_method_43_code 324 = .ok (.ifCond .eq (14), 3) by decide +kernel) rfl (fun _ => ?_) (fun z => absurd q121 z)
      refine xv_b E [.iconst 1] (pc' := 339) (lv' := [(0, .inr (.inr (some a0))), (1, .inl v1), (2, .inl v2), (5, .inl v5), (6, .inl v6)]) (st' := [.inl (1 : Int32)]) (by decide +kernel) rfl rfl ?_
      exact xv_w (sb223_339 E B a0 v1 v2 v5 (1 : Int32) M h hN) rfl
    · rw [if_neg q121] at h
      refine xv_if_eq E 338 (show decode prog_14_method_43_code 324 = .ok (.ifCond .eq (14), 3) by decide +kernel) rfl (fun z => absurd z q121) (fun _ => ?_)
      refine xv_b E [.aload_n 0, .iload_n 1, .iload_n 1] (pc' := 330) (lv' := [(0, .inr (.inr (some a0))), (1, .inl v1), (2, .inl v2), (5, .inl v5), (6, .inl v6)]) (st' := [.inl v1, .inl v1, .inr (.inr (some a0))]) (by decide +kernel) rfl rfl ?_
      obtain ⟨b_119, h120, h⟩ := bd h
      obtain ⟨eh120, th120⟩ := g_o_some h120
      obtain ⟨q_117, h118, h⟩ := bd h
      refine xv_cvo E eh120 12 (as := [.inl v1, .inl v1]) (t191 G l (c_I_some h118)) cd191 mw1141 mw1142 mw1143 (show decode prog_14_method_43_code 330 = .ok (.invokevirtual 312, 3) by decide +kernel) th120 rfl rfl (Nat.le_of_ble_eq_true rfl) ⟨Nat.le_of_ble_eq_true rfl, Nat.le_of_ble_eq_true rfl⟩ ?_
      refine xv_b E [.iconst 1, .iadd] (pc' := 335) (lv' := [(0, .inr (.inr (some a0))), (1, .inl v1), (2, .inl v2), (5, .inl v5), (6, .inl v6)]) (st' := [.inl (q_117.1 + (1 : Int32))]) (by decide +kernel) rfl rfl ?_
      refine xv_goto E 339 (show decode prog_14_method_43_code 335 = .ok (.goto (4), 3) by decide +kernel) rfl ?_
      exact xv_w (sb223_339 E B a0 v1 v2 v5 (q_117.1 + (1 : Int32)) q_117.2 h hN) rfl
  · rw [if_neg q122] at h
    refine xv_if_eq E 317 (show decode prog_14_method_43_code 313 = .ok (.ifCond .eq (4), 3) by decide +kernel) rfl (fun z => absurd z q122) (fun _ => ?_)
    obtain rfl := Option.some.inj h
    obtain ⟨rfl, rfl⟩ := Prod.mk.inj (show ((none : Option aV), M) = (r, M') from hN)
    exact xv_rv E B.1 B.2.1 (show decode prog_14_method_43_code 316 = .ok (.return_, 1) by decide +kernel) rfl rfl
theorem sb223_264 (E : xE G p (xRm 5 (h_sz M' - z0) (h_sl M' - y0)) s m args c prog_14_method_43_code "ZonedFabricModel" z0 y0 (h_sz M') (h_sl M') 9) (B : xB ym223 none meth) (a0 : Nat) (v1 : Int32) (v2 : Int32) (v5 : Int32) (v6 : Int32) (v7 : Int32) (M : hM) {res : xRes} (h : b223_264 a0 v1 v2 v5 v6 v7 M = some res) (hN : xN (pg223 p l e s m args below meth c G z0 y0 r M') r M' res) : xV G p l e (xRm 5 (h_sz M' - z0) (h_sl M' - y0)) s m args below meth c z0 y0 (h_sz M') (h_sl M') 9 (MQ below (xQc G r M') args s (h_sz M' - z0) (h_sl M' - y0) (xFr G)) 264 [(0, .inr (.inr (some a0))), (1, .inl v1), (2, .inl v2), (5, .inl v5), (6, .inl v6), (7, .inl v7)] [] M := by
  unfold b223_264 at h
  refine xv_b E [.iload 7, .iload_n 2] (pc' := 267) (lv' := [(0, .inr (.inr (some a0))), (1, .inl v1), (2, .inl v2), (5, .inl v5), (6, .inl v6), (7, .inl v7)]) (st' := [.inl v2, .inl v7]) (by decide +kernel) rfl rfl ?_
  by_cases q112 : v2 ≤ v7
  · rw [if_pos q112] at h
    refine xv_icmp_ge E 311 (show decode prog_14_method_43_code 267 = .ok (.if_icmp .ge (44), 3) by decide +kernel) rfl (fun _ => ?_) (fun z => absurd q112 z)
    exact xv_w (sb223_311 E B a0 v1 v2 v5 v6 M h hN) rfl
  · rw [if_neg q112] at h
    refine xv_icmp_ge E 311 (show decode prog_14_method_43_code 267 = .ok (.if_icmp .ge (44), 3) by decide +kernel) rfl (fun z => absurd z q112) (fun _ => ?_)
    refine xv_b E [.iload 6] (pc' := 272) (lv' := [(0, .inr (.inr (some a0))), (1, .inl v1), (2, .inl v2), (5, .inl v5), (6, .inl v6), (7, .inl v7)]) (st' := [.inl v6]) (by decide +kernel) rfl rfl ?_
    by_cases q111 : v6 = 0
    · rw [if_pos q111] at h
      refine xv_if_eq E 311 (show decode prog_14_method_43_code 272 = .ok (.ifCond .eq (39), 3) by decide +kernel) rfl (fun _ => ?_) (fun z => absurd q111 z)
      exact xv_w (sb223_311 E B a0 v1 v2 v5 v6 M h hN) rfl
    · rw [if_neg q111] at h
      refine xv_if_eq E 311 (show decode prog_14_method_43_code 272 = .ok (.ifCond .eq (39), 3) by decide +kernel) rfl (fun z => absurd z q111) (fun _ => ?_)
      refine xv_b E [.aload_n 0] (pc' := 276) (lv' := [(0, .inr (.inr (some a0))), (1, .inl v1), (2, .inl v2), (5, .inl v5), (6, .inl v6), (7, .inl v7)]) (st' := [.inr (.inr (some a0))]) (by decide +kernel) rfl rfl ?_
      obtain ⟨o_102, h103, h⟩ := bd h
      refine xg_r E 12 29 h103 mw889 (show decode prog_14_method_43_code 276 = .ok (.getfield 82, 3) by decide +kernel) ?_
      refine xv_b E [.bipush 64, .iload 5, .imul, .iload 7, .iadd] (pc' := 287) (lv' := [(0, .inr (.inr (some a0))), (1, .inl v1), (2, .inl v2), (5, .inl v5), (6, .inl v6), (7, .inl v7)]) (st' := [.inl (((64 : Int32) * v5) + v7), .inr (.inr o_102)]) (by decide +kernel) rfl rfl ?_
      obtain ⟨v_104, h105, h⟩ := bd h
      refine xa_i E h105 (show decode prog_14_method_43_code 287 = .ok (.iaload, 1) by decide +kernel) ?_
      refine xv_b E [.aload_n 0] (pc' := 289) (lv' := [(0, .inr (.inr (some a0))), (1, .inl v1), (2, .inl v2), (5, .inl v5), (6, .inl v6), (7, .inl v7)]) (st' := [.inr (.inr (some a0)), .inl v_104]) (by decide +kernel) rfl rfl ?_
      obtain ⟨o_106, h107, h⟩ := bd h
      refine xg_r E 12 31 h107 mw891 (show decode prog_14_method_43_code 289 = .ok (.getfield 88, 3) by decide +kernel) ?_
      refine xv_b E [.iload 7] (pc' := 294) (lv' := [(0, .inr (.inr (some a0))), (1, .inl v1), (2, .inl v2), (5, .inl v5), (6, .inl v6), (7, .inl v7)]) (st' := [.inl v7, .inr (.inr o_106), .inl v_104]) (by decide +kernel) rfl rfl ?_
      obtain ⟨v_108, h109, h⟩ := bd h
      refine xa_i E h109 (show decode prog_14_method_43_code 294 = .ok (.iaload, 1) by decide +kernel) ?_
      by_cases q110 : v_104 = v_108
      · rw [if_pos q110] at h
        refine xv_icmp_ne E 302 (show decode prog_14_method_43_code 295 = .ok (.if_icmp .ne (7), 3) by decide +kernel) rfl (fun z => absurd q110 z) (fun _ => ?_)
        refine xv_b E [.iconst 1] (pc' := 299) (lv' := [(0, .inr (.inr (some a0))), (1, .inl v1), (2, .inl v2), (5, .inl v5), (6, .inl v6), (7, .inl v7)]) (st' := [.inl (1 : Int32)]) (by decide +kernel) rfl rfl ?_
        refine xv_goto E 303 (show decode prog_14_method_43_code 299 = .ok (.goto (4), 3) by decide +kernel) rfl ?_
        exact xv_w (sb223_303 E B a0 v1 v2 v5 v7 (1 : Int32) M h hN) rfl
      · rw [if_neg q110] at h
        refine xv_icmp_ne E 302 (show decode prog_14_method_43_code 295 = .ok (.if_icmp .ne (7), 3) by decide +kernel) rfl (fun _ => ?_) (fun z => absurd z q110)
        refine xv_b E [.iconst 0] (pc' := 303) (lv' := [(0, .inr (.inr (some a0))), (1, .inl v1), (2, .inl v2), (5, .inl v5), (6, .inl v6), (7, .inl v7)]) (st' := [.inl (0 : Int32)]) (by decide +kernel) rfl rfl ?_
        exact xv_w (sb223_303 E B a0 v1 v2 v5 v7 (0 : Int32) M h hN) rfl
theorem sb223_386 (E : xE G p (xRm 5 (h_sz M' - z0) (h_sl M' - y0)) s m args c prog_14_method_43_code "ZonedFabricModel" z0 y0 (h_sz M') (h_sl M') 9) (B : xB ym223 none meth) (a0 : Nat) (v1 : Int32) (v2 : Int32) (v5 : Int32) (v8 : Int32) (M : hM) {res : xRes} (h : b223_386 a0 v1 v2 v5 v8 M = some res) (hN : xN (pg223 p l e s m args below meth c G z0 y0 r M') r M' res) : xV G p l e (xRm 5 (h_sz M' - z0) (h_sl M' - y0)) s m args below meth c z0 y0 (h_sz M') (h_sl M') 9 (MQ below (xQc G r M') args s (h_sz M' - z0) (h_sl M' - y0) (xFr G)) 386 [(0, .inr (.inr (some a0))), (1, .inl v1), (2, .inl v2), (5, .inl v5), (8, .inl v8)] [] M := by
  unfold b223_386 at h
  refine xv_b E [.iload 8, .iload_n 2] (pc' := 389) (lv' := [(0, .inr (.inr (some a0))), (1, .inl v1), (2, .inl v2), (5, .inl v5), (8, .inl v8)]) (st' := [.inl v2, .inl v8]) (by decide +kernel) rfl rfl ?_
  by_cases q167 : v2 ≤ v8
  · rw [if_pos q167] at h
    refine xv_icmp_ge E 418 (show decode prog_14_method_43_code 389 = .ok (.if_icmp .ge (29), 3) by decide +kernel) rfl (fun _ => ?_) (fun z => absurd q167 z)
    refine xv_b E [.aload_n 0] (pc' := 419) (lv' := [(0, .inr (.inr (some a0))), (1, .inl v1), (2, .inl v2), (5, .inl v5), (8, .inl v8)]) (st' := [.inr (.inr (some a0))]) (by decide +kernel) rfl rfl ?_
    obtain ⟨o_135, h136, h⟩ := bd h
    refine xg_r E 12 30 h136 mw890 (show decode prog_14_method_43_code 419 = .ok (.getfield 85, 3) by decide +kernel) ?_
    refine xv_b E [.iload 5, .iload_n 2] (pc' := 425) (lv' := [(0, .inr (.inr (some a0))), (1, .inl v1), (2, .inl v2), (5, .inl v5), (8, .inl v8)]) (st' := [.inl v2, .inl v5, .inr (.inr o_135)]) (by decide +kernel) rfl rfl ?_
    obtain ⟨M137, h138, h⟩ := bd h
    refine xs_i E h138 (show decode prog_14_method_43_code 425 = .ok (.iastore, 1) by decide +kernel) ?_
    refine xv_b E [.aload_n 0] (pc' := 427) (lv' := [(0, .inr (.inr (some a0))), (1, .inl v1), (2, .inl v2), (5, .inl v5), (8, .inl v8)]) (st' := [.inr (.inr (some a0))]) (by decide +kernel) rfl rfl ?_
    obtain ⟨o_139, h140, h⟩ := bd h
    refine xg_r E 12 27 h140 mw887 (show decode prog_14_method_43_code 427 = .ok (.getfield 76, 3) by decide +kernel) ?_
    refine xv_b E [.iload 5, .iconst 1] (pc' := 433) (lv' := [(0, .inr (.inr (some a0))), (1, .inl v1), (2, .inl v2), (5, .inl v5), (8, .inl v8)]) (st' := [.inl (1 : Int32), .inl v5, .inr (.inr o_139)]) (by decide +kernel) rfl rfl ?_
    obtain ⟨M141, h142, h⟩ := bd h
    refine xs_z E h142 (show decode prog_14_method_43_code 433 = .ok (.bastore, 1) by decide +kernel) ?_
    refine xv_b E [.aload_n 0] (pc' := 435) (lv' := [(0, .inr (.inr (some a0))), (1, .inl v1), (2, .inl v2), (5, .inl v5), (8, .inl v8)]) (st' := [.inr (.inr (some a0))]) (by decide +kernel) rfl rfl ?_
    obtain ⟨o_143, h144, h⟩ := bd h
    refine xg_r E 12 28 h144 mw888 (show decode prog_14_method_43_code 435 = .ok (.getfield 79, 3) by decide +kernel) ?_
    refine xv_b E [.iload 5, .aload_n 0] (pc' := 441) (lv' := [(0, .inr (.inr (some a0))), (1, .inl v1), (2, .inl v2), (5, .inl v5), (8, .inl v8)]) (st' := [.inr (.inr (some a0)), .inl v5, .inr (.inr o_143)]) (by decide +kernel) rfl rfl ?_
    obtain ⟨v_145, h146, h⟩ := bd h
    refine xg_i E 12 3 h146 mw1047 (show decode prog_14_method_43_code 441 = .ok (.getfield 276, 3) by decide +kernel) ?_
    obtain ⟨M147, h148, h⟩ := bd h
    refine xs_i E h148 (show decode prog_14_method_43_code 444 = .ok (.iastore, 1) by decide +kernel) ?_
    refine xv_b E [.aload_n 0] (pc' := 446) (lv' := [(0, .inr (.inr (some a0))), (1, .inl v1), (2, .inl v2), (5, .inl v5), (8, .inl v8)]) (st' := [.inr (.inr (some a0))]) (by decide +kernel) rfl rfl ?_
    obtain ⟨o_149, h150, h⟩ := bd h
    refine xg_r E 12 4 h150 mw865 (show decode prog_14_method_43_code 446 = .ok (.getfield 7, 3) by decide +kernel) ?_
    refine xv_b E [.bipush 8, .dup2] (pc' := 452) (lv' := [(0, .inr (.inr (some a0))), (1, .inl v1), (2, .inl v2), (5, .inl v5), (8, .inl v8)]) (st' := [.inl (8 : Int32), .inr (.inr o_149), .inl (8 : Int32), .inr (.inr o_149)]) (by decide +kernel) rfl rfl ?_
    obtain ⟨v_151, h152, h⟩ := bd h
    refine xa_i E h152 (show decode prog_14_method_43_code 452 = .ok (.iaload, 1) by decide +kernel) ?_
    refine xv_b E [.iconst 1, .iadd] (pc' := 455) (lv' := [(0, .inr (.inr (some a0))), (1, .inl v1), (2, .inl v2), (5, .inl v5), (8, .inl v8)]) (st' := [.inl (v_151 + (1 : Int32)), .inl (8 : Int32), .inr (.inr o_149)]) (by decide +kernel) rfl rfl ?_
    obtain ⟨M153, h154, h⟩ := bd h
    refine xs_i E h154 (show decode prog_14_method_43_code 455 = .ok (.iastore, 1) by decide +kernel) ?_
    refine xv_b E [.aload_n 0, .iload_n 1, .iload_n 1, .iconst (-1)] (pc' := 460) (lv' := [(0, .inr (.inr (some a0))), (1, .inl v1), (2, .inl v2), (5, .inl v5), (8, .inl v8)]) (st' := [.inl (-1 : Int32), .inl v1, .inl v1, .inr (.inr (some a0))]) (by decide +kernel) rfl rfl ?_
    obtain ⟨b_157, h158, h⟩ := bd h
    obtain ⟨eh158, th158⟩ := g_o_some h158
    obtain ⟨q_155, h156, h⟩ := bd h
    refine xv_cvo E eh158 12 (as := [.inl v1, .inl v1, .inl (-1 : Int32)]) (t222 G l (c_V_some h156)) cd222 mw1144 mw1145 mw1146 (show decode prog_14_method_43_code 460 = .ok (.invokevirtual 315, 3) by decide +kernel) th158 rfl rfl (Nat.le_of_ble_eq_true rfl) ⟨Nat.le_of_ble_eq_true rfl, Nat.le_of_ble_eq_true rfl⟩ ?_
    obtain rfl := Option.some.inj h
    obtain ⟨rfl, rfl⟩ := Prod.mk.inj (show ((none : Option aV), q_155) = (r, M') from hN)
    exact xv_rv E B.1 B.2.1 (show decode prog_14_method_43_code 463 = .ok (.return_, 1) by decide +kernel) rfl rfl
  · rw [if_neg q167] at h
    refine xv_icmp_ge E 418 (show decode prog_14_method_43_code 389 = .ok (.if_icmp .ge (29), 3) by decide +kernel) rfl (fun z => absurd z q167) (fun _ => ?_)
    refine xv_b E [.aload_n 0] (pc' := 393) (lv' := [(0, .inr (.inr (some a0))), (1, .inl v1), (2, .inl v2), (5, .inl v5), (8, .inl v8)]) (st' := [.inr (.inr (some a0))]) (by decide +kernel) rfl rfl ?_
    obtain ⟨o_159, h160, h⟩ := bd h
    refine xg_r E 12 29 h160 mw889 (show decode prog_14_method_43_code 393 = .ok (.getfield 82, 3) by decide +kernel) ?_
    refine xv_b E [.bipush 64, .iload 5, .imul, .iload 8, .iadd, .aload_n 0] (pc' := 405) (lv' := [(0, .inr (.inr (some a0))), (1, .inl v1), (2, .inl v2), (5, .inl v5), (8, .inl v8)]) (st' := [.inr (.inr (some a0)), .inl (((64 : Int32) * v5) + v8), .inr (.inr o_159)]) (by decide +kernel) rfl rfl ?_
    obtain ⟨o_161, h162, h⟩ := bd h
    refine xg_r E 12 31 h162 mw891 (show decode prog_14_method_43_code 405 = .ok (.getfield 88, 3) by decide +kernel) ?_
    refine xv_b E [.iload 8] (pc' := 410) (lv' := [(0, .inr (.inr (some a0))), (1, .inl v1), (2, .inl v2), (5, .inl v5), (8, .inl v8)]) (st' := [.inl v8, .inr (.inr o_161), .inl (((64 : Int32) * v5) + v8), .inr (.inr o_159)]) (by decide +kernel) rfl rfl ?_
    obtain ⟨v_163, h164, h⟩ := bd h
    refine xa_i E h164 (show decode prog_14_method_43_code 410 = .ok (.iaload, 1) by decide +kernel) ?_
    obtain ⟨M165, h166, h⟩ := bd h
    refine xs_i E h166 (show decode prog_14_method_43_code 411 = .ok (.iastore, 1) by decide +kernel) ?_
    refine xv_b E [.iinc 8 1] (pc' := 415) (lv' := [(8, .inl (v8 + (1 : Int32))), (0, .inr (.inr (some a0))), (1, .inl v1), (2, .inl v2), (5, .inl v5)]) (st' := []) (by decide +kernel) rfl rfl ?_
    refine xv_goto E 386 (show decode prog_14_method_43_code 415 = .ok (.goto (-29), 3) by decide +kernel) rfl ?_
    obtain rfl := Option.some.inj h
    exact xv_w hN rfl
end
theorem t223 (G : gX) (l : Launch) {as : List aV} {M : hM} {r : Option aV} {M' : hM} (h : f223 as M = some (r, M')) : xM G l ym223 prog_14_method_43_code 9 none 5 as M r M' := by
  unfold f223 at h
  split at h
  · have hle : ∀ h as M res, k223 h as M = some res → h_sz M ≤ r_sz res ∧ h_sl M ≤ r_sl res := by
      intro h as M res hb
      unfold k223 at hb
      by_cases e0 : h = 29
      · rw [if_pos e0] at hb
        split at hb
        · exact lb223_29 G l _ _ _ _ _ M hb
        · cases hb
      · rw [if_neg e0] at hb
        by_cases e1 : h = 132
        · rw [if_pos e1] at hb
          split at hb
          · exact lb223_132 G l _ _ _ _ _ _ M hb
          · cases hb
        · rw [if_neg e1] at hb
          by_cases e2 : h = 264
          · rw [if_pos e2] at hb
            split at hb
            · exact lb223_264 G l _ _ _ _ _ _ M hb
            · cases hb
          · rw [if_neg e2] at hb
            by_cases e3 : h = 386
            · rw [if_pos e3] at hb
              split at hb
              · exact lb223_386 G l _ _ _ _ _ M hb
              · cases hb
            · rw [if_neg e3] at hb
              cases hb
    obtain ⟨res, hx, hres⟩ := x_go_ok h
    refine xM_of (by decide) (Nat.le_of_ble_eq_true rfl) ?_ ?_
    · have e1 := lb223_0 G l _ _ M hx
      have e2 := x_go_le hle hres
      omega
    · intro p e s m args below meth c E B
      refine sb223_0 E B _ _ M hx (hres _ ?_)
      intro h as M res hb hN
      unfold k223 at hb
      unfold pg223
      by_cases e0 : h = 29
      · rw [if_pos e0] at hb ⊢
        split at hb
        · exact sb223_29 E B _ _ _ _ _ M hb hN
        · cases hb
      · rw [if_neg e0] at hb ⊢
        by_cases e1 : h = 132
        · rw [if_pos e1] at hb ⊢
          split at hb
          · exact sb223_132 E B _ _ _ _ _ _ M hb hN
          · cases hb
        · rw [if_neg e1] at hb ⊢
          by_cases e2 : h = 264
          · rw [if_pos e2] at hb ⊢
            split at hb
            · exact sb223_264 E B _ _ _ _ _ _ M hb hN
            · cases hb
          · rw [if_neg e2] at hb ⊢
            by_cases e3 : h = 386
            · rw [if_pos e3] at hb ⊢
              split at hb
              · exact sb223_386 E B _ _ _ _ _ M hb hN
              · cases hb
            · rw [if_neg e3] at hb ⊢
              cases hb
  · cases h
