theorem mw1106 : Cond.code ⟨"ZonedFabricModel", "gets", "(II)V"⟩ prog_14_method_57_code 3 none ∈ xTs := xTs_in (tk7 (List.mem_of_getElem? (i := 160) (by decide +kernel))) rfl
theorem mw1107 : Cond.methodLink "ZonedFabricModel" 384 ⟨"ZonedFabricModel", "hostGets", "(II)V"⟩ ∈ xTs := xTs_in (tk7 (List.mem_of_getElem? (i := 198) (by decide +kernel))) rfl
theorem mw1108 : Cond.instanceMethod ⟨"ZonedFabricModel", "hostGets", "(II)V"⟩ ∈ xTs := xTs_in (tk7 (List.mem_of_getElem? (i := 200) (by decide +kernel))) rfl
theorem mw1109 : Cond.selects "ZonedFabricModel" ⟨"ZonedFabricModel", "hostGets", "(II)V"⟩ ⟨"ZonedFabricModel", "hostGets", "(II)V"⟩ ∈ xTs := xTs_in (List.mem_append_left _ (List.mem_of_getElem? (i := 120) (by decide +kernel))) rfl
theorem mw1110 : Cond.methodLink "ZonedFabricModel" 381 ⟨"ZonedFabricModel", "discGets", "(II)V"⟩ ∈ xTs := xTs_in (tk7 (List.mem_of_getElem? (i := 161) (by decide +kernel))) rfl
theorem mw1111 : Cond.instanceMethod ⟨"ZonedFabricModel", "discGets", "(II)V"⟩ ∈ xTs := xTs_in (tk7 (List.mem_of_getElem? (i := 163) (by decide +kernel))) rfl
theorem mw1112 : Cond.selects "ZonedFabricModel" ⟨"ZonedFabricModel", "discGets", "(II)V"⟩ ⟨"ZonedFabricModel", "discGets", "(II)V"⟩ ∈ xTs := xTs_in (List.mem_append_left _ (List.mem_of_getElem? (i := 111) (by decide +kernel))) rfl
theorem mw1113 : Cond.code ⟨"ZonedFabricModel", "welcomes", "(II)V"⟩ prog_14_method_51_code 3 none ∈ xTs := xTs_in (tk7 (List.mem_of_getElem? (i := 156) (by decide +kernel))) rfl
theorem mw1114 : Cond.code ⟨"ZonedFabricModel", "nodeTicks", "(I)V"⟩ prog_14_method_50_code 5 none ∈ xTs := xTs_in (tk7 (List.mem_of_getElem? (i := 152) (by decide +kernel))) rfl
theorem mw1115 : Cond.methodLink "ZonedFabricModel" 361 ⟨"ZonedFabricModel", "nodeTimers", "(I)V"⟩ ∈ xTs := xTs_in (tk7 (List.mem_of_getElem? (i := 218) (by decide +kernel))) rfl
theorem mw1116 : Cond.instanceMethod ⟨"ZonedFabricModel", "nodeTimers", "(I)V"⟩ ∈ xTs := xTs_in (tk7 (List.mem_of_getElem? (i := 220) (by decide +kernel))) rfl
theorem mw1117 : Cond.selects "ZonedFabricModel" ⟨"ZonedFabricModel", "nodeTimers", "(I)V"⟩ ⟨"ZonedFabricModel", "nodeTimers", "(I)V"⟩ ∈ xTs := xTs_in (List.mem_append_left _ (List.mem_of_getElem? (i := 125) (by decide +kernel))) rfl
theorem mw1118 : Cond.methodLink "ZonedFabricModel" 291 ⟨"ZonedFabricModel", "sendsQueued", "(I)V"⟩ ∈ xTs := xTs_in (tk7 (List.mem_of_getElem? (i := 80) (by decide +kernel))) rfl
theorem mw1119 : Cond.instanceMethod ⟨"ZonedFabricModel", "sendsQueued", "(I)V"⟩ ∈ xTs := xTs_in (tk7 (List.mem_of_getElem? (i := 82) (by decide +kernel))) rfl
theorem mw1120 : Cond.selects "ZonedFabricModel" ⟨"ZonedFabricModel", "sendsQueued", "(I)V"⟩ ⟨"ZonedFabricModel", "sendsQueued", "(I)V"⟩ ∈ xTs := xTs_in (List.mem_append_left _ (List.mem_of_getElem? (i := 91) (by decide +kernel))) rfl
theorem mw1121 : Cond.methodLink "ZonedFabricModel" 325 ⟨"ZonedFabricModel", "leaves", "(I)I"⟩ ∈ xTs := xTs_in (tk7 (List.mem_of_getElem? (i := 116) (by decide +kernel))) rfl
theorem mw1122 : Cond.instanceMethod ⟨"ZonedFabricModel", "leaves", "(I)I"⟩ ∈ xTs := xTs_in (tk7 (List.mem_of_getElem? (i := 118) (by decide +kernel))) rfl
theorem mw1123 : Cond.selects "ZonedFabricModel" ⟨"ZonedFabricModel", "leaves", "(I)I"⟩ ⟨"ZonedFabricModel", "leaves", "(I)I"⟩ ∈ xTs := xTs_in (List.mem_append_left _ (List.mem_of_getElem? (i := 100) (by decide +kernel))) rfl
theorem mw1124 : Cond.methodLink "ZonedFabricModel" 322 ⟨"ZonedFabricModel", "isTrue", "(I)Z"⟩ ∈ xTs := xTs_in (tk7 (List.mem_of_getElem? (i := 104) (by decide +kernel))) rfl
theorem mw1125 : Cond.instanceMethod ⟨"ZonedFabricModel", "isTrue", "(I)Z"⟩ ∈ xTs := xTs_in (tk7 (List.mem_of_getElem? (i := 106) (by decide +kernel))) rfl
theorem mw1126 : Cond.selects "ZonedFabricModel" ⟨"ZonedFabricModel", "isTrue", "(I)Z"⟩ ⟨"ZonedFabricModel", "isTrue", "(I)Z"⟩ ∈ xTs := xTs_in (List.mem_append_left _ (List.mem_of_getElem? (i := 97) (by decide +kernel))) rfl
theorem mw1127 : Cond.methodLink "ZonedFabricModel" 355 ⟨"ZonedFabricModel", "welcomes", "(II)V"⟩ ∈ xTs := xTs_in (tk7 (List.mem_of_getElem? (i := 153) (by decide +kernel))) rfl
theorem mw1128 : Cond.instanceMethod ⟨"ZonedFabricModel", "welcomes", "(II)V"⟩ ∈ xTs := xTs_in (tk7 (List.mem_of_getElem? (i := 155) (by decide +kernel))) rfl
theorem mw1129 : Cond.selects "ZonedFabricModel" ⟨"ZonedFabricModel", "welcomes", "(II)V"⟩ ⟨"ZonedFabricModel", "welcomes", "(II)V"⟩ ∈ xTs := xTs_in (List.mem_append_left _ (List.mem_of_getElem? (i := 109) (by decide +kernel))) rfl
theorem mw1130 : Cond.methodLink "ZonedFabricModel" 358 ⟨"ZonedFabricModel", "gets", "(II)V"⟩ ∈ xTs := xTs_in (tk7 (List.mem_of_getElem? (i := 157) (by decide +kernel))) rfl
theorem mw1131 : Cond.instanceMethod ⟨"ZonedFabricModel", "gets", "(II)V"⟩ ∈ xTs := xTs_in (tk7 (List.mem_of_getElem? (i := 159) (by decide +kernel))) rfl
theorem mw1132 : Cond.selects "ZonedFabricModel" ⟨"ZonedFabricModel", "gets", "(II)V"⟩ ⟨"ZonedFabricModel", "gets", "(II)V"⟩ ∈ xTs := xTs_in (List.mem_append_left _ (List.mem_of_getElem? (i := 110) (by decide +kernel))) rfl
theorem mw1133 : Cond.code ⟨"ZonedFabricModel", "floods", "(III)V"⟩ prog_14_method_44_code 6 none ∈ xTs := xTs_in (tk7 (List.mem_of_getElem? (i := 75) (by decide +kernel))) rfl
theorem mw1134 : Cond.methodLink "ZonedFabricModel" 288 ⟨"ZonedFabricModel", "side", "(II)I"⟩ ∈ xTs := xTs_in (tk6 (List.mem_of_getElem? (i := 159) (by decide +kernel))) rfl
theorem mw1135 : Cond.instanceMethod ⟨"ZonedFabricModel", "side", "(II)I"⟩ ∈ xTs := xTs_in (tk6 (List.mem_of_getElem? (i := 161) (by decide +kernel))) rfl
theorem mw1136 : Cond.selects "ZonedFabricModel" ⟨"ZonedFabricModel", "side", "(II)I"⟩ ⟨"ZonedFabricModel", "side", "(II)I"⟩ ∈ xTs := xTs_in (List.mem_append_left _ (List.mem_of_getElem? (i := 59) (by decide +kernel))) rfl
theorem mw1137 : Cond.methodLink "ZonedFabricModel" 319 ⟨"ZonedFabricModel", "recordFrame", "(II)I"⟩ ∈ xTs := xTs_in (tk7 (List.mem_of_getElem? (i := 76) (by decide +kernel))) rfl
theorem mw1138 : Cond.instanceMethod ⟨"ZonedFabricModel", "recordFrame", "(II)I"⟩ ∈ xTs := xTs_in (tk7 (List.mem_of_getElem? (i := 78) (by decide +kernel))) rfl
theorem mw1139 : Cond.selects "ZonedFabricModel" ⟨"ZonedFabricModel", "recordFrame", "(II)I"⟩ ⟨"ZonedFabricModel", "recordFrame", "(II)I"⟩ ∈ xTs := xTs_in (List.mem_append_left _ (List.mem_of_getElem? (i := 90) (by decide +kernel))) rfl
theorem mw1140 : Cond.code ⟨"ZonedFabricModel", "issues", "(I)V"⟩ prog_14_method_43_code 9 none ∈ xTs := xTs_in (tk7 (List.mem_of_getElem? (i := 63) (by decide +kernel))) rfl
theorem mw1141 : Cond.methodLink "ZonedFabricModel" 312 ⟨"ZonedFabricModel", "issue", "(II)I"⟩ ∈ xTs := xTs_in (tk7 (List.mem_of_getElem? (i := 68) (by decide +kernel))) rfl
theorem mw1142 : Cond.instanceMethod ⟨"ZonedFabricModel", "issue", "(II)I"⟩ ∈ xTs := xTs_in (tk7 (List.mem_of_getElem? (i := 70) (by decide +kernel))) rfl
theorem mw1143 : Cond.selects "ZonedFabricModel" ⟨"ZonedFabricModel", "issue", "(II)I"⟩ ⟨"ZonedFabricModel", "issue", "(II)I"⟩ ∈ xTs := xTs_in (List.mem_append_left _ (List.mem_of_getElem? (i := 88) (by decide +kernel))) rfl
theorem mw1144 : Cond.methodLink "ZonedFabricModel" 315 ⟨"ZonedFabricModel", "floods", "(III)V"⟩ ∈ xTs := xTs_in (tk7 (List.mem_of_getElem? (i := 72) (by decide +kernel))) rfl
theorem mw1145 : Cond.instanceMethod ⟨"ZonedFabricModel", "floods", "(III)V"⟩ ∈ xTs := xTs_in (tk7 (List.mem_of_getElem? (i := 74) (by decide +kernel))) rfl
theorem mw1146 : Cond.selects "ZonedFabricModel" ⟨"ZonedFabricModel", "floods", "(III)V"⟩ ⟨"ZonedFabricModel", "floods", "(III)V"⟩ ∈ xTs := xTs_in (List.mem_append_left _ (List.mem_of_getElem? (i := 89) (by decide +kernel))) rfl
theorem mw1147 : Cond.code ⟨"ZonedFabricModel", "timers", "(I)V"⟩ prog_14_method_42_code 5 none ∈ xTs := xTs_in (tk6 (List.mem_of_getElem? (i := 226) (by decide +kernel))) rfl
theorem mw1148 : Cond.methodLink "ZonedFabricModel" 297 ⟨"ZonedFabricModel", "isOffItself", "(I)Z"⟩ ∈ xTs := xTs_in (tk6 (List.mem_of_getElem? (i := 227) (by decide +kernel))) rfl
theorem mw1149 : Cond.instanceMethod ⟨"ZonedFabricModel", "isOffItself", "(I)Z"⟩ ∈ xTs := xTs_in (tk6 (List.mem_of_getElem? (i := 229) (by decide +kernel))) rfl
theorem mw1150 : Cond.selects "ZonedFabricModel" ⟨"ZonedFabricModel", "isOffItself", "(I)Z"⟩ ⟨"ZonedFabricModel", "isOffItself", "(I)Z"⟩ ∈ xTs := xTs_in (List.mem_append_left _ (List.mem_of_getElem? (i := 69) (by decide +kernel))) rfl
theorem mw1151 : Cond.methodLink "ZonedFabricModel" 306 ⟨"ZonedFabricModel", "issues", "(I)V"⟩ ∈ xTs := xTs_in (tk7 (List.mem_of_getElem? (i := 60) (by decide +kernel))) rfl
theorem mw1152 : Cond.instanceMethod ⟨"ZonedFabricModel", "issues", "(I)V"⟩ ∈ xTs := xTs_in (tk7 (List.mem_of_getElem? (i := 62) (by decide +kernel))) rfl
theorem mw1153 : Cond.selects "ZonedFabricModel" ⟨"ZonedFabricModel", "issues", "(I)V"⟩ ⟨"ZonedFabricModel", "issues", "(I)V"⟩ ∈ xTs := xTs_in (List.mem_append_left _ (List.mem_of_getElem? (i := 86) (by decide +kernel))) rfl
theorem mw1154 : Cond.methodLink "ZonedFabricModel" 303 ⟨"ZonedFabricModel", "nodeAt", "(I)I"⟩ ∈ xTs := xTs_in (tk7 (List.mem_of_getElem? (i := 55) (by decide +kernel))) rfl
theorem mw1155 : Cond.instanceMethod ⟨"ZonedFabricModel", "nodeAt", "(I)I"⟩ ∈ xTs := xTs_in (tk7 (List.mem_of_getElem? (i := 57) (by decide +kernel))) rfl
theorem mw1156 : Cond.selects "ZonedFabricModel" ⟨"ZonedFabricModel", "nodeAt", "(I)I"⟩ ⟨"ZonedFabricModel", "nodeAt", "(I)I"⟩ ∈ xTs := xTs_in (List.mem_append_left _ (List.mem_of_getElem? (i := 85) (by decide +kernel))) rfl
theorem mw1157 : Cond.code ⟨"ZonedFabricModel", "wayOn", "(IIII)I"⟩ prog_14_method_46_code 9 (some FieldType.int) ∈ xTs := xTs_in (tk7 (List.mem_of_getElem? (i := 144) (by decide +kernel))) rfl
theorem mw1158 : Cond.methodLink "ZonedFabricModel" 336 ⟨"ZonedFabricModel", "common", "(II)Z"⟩ ∈ xTs := xTs_in (tk7 (List.mem_of_getElem? (i := 125) (by decide +kernel))) rfl
theorem mw1159 : Cond.instanceMethod ⟨"ZonedFabricModel", "common", "(II)Z"⟩ ∈ xTs := xTs_in (tk7 (List.mem_of_getElem? (i := 127) (by decide +kernel))) rfl
theorem mw1160 : Cond.selects "ZonedFabricModel" ⟨"ZonedFabricModel", "common", "(II)Z"⟩ ⟨"ZonedFabricModel", "common", "(II)Z"⟩ ∈ xTs := xTs_in (List.mem_append_left _ (List.mem_of_getElem? (i := 102) (by decide +kernel))) rfl
theorem mw1161 : Cond.methodLink "ZonedFabricModel" 339 ⟨"ZonedFabricModel", "wayOut", "(II)I"⟩ ∈ xTs := xTs_in (tk7 (List.mem_of_getElem? (i := 145) (by decide +kernel))) rfl
theorem mw1162 : Cond.instanceMethod ⟨"ZonedFabricModel", "wayOut", "(II)I"⟩ ∈ xTs := xTs_in (tk7 (List.mem_of_getElem? (i := 147) (by decide +kernel))) rfl
theorem mw1163 : Cond.selects "ZonedFabricModel" ⟨"ZonedFabricModel", "wayOut", "(II)I"⟩ ⟨"ZonedFabricModel", "wayOut", "(II)I"⟩ ∈ xTs := xTs_in (List.mem_append_left _ (List.mem_of_getElem? (i := 107) (by decide +kernel))) rfl
/-! ZFModel.gets(II)V -/
def ym219 : MethodName := ⟨"ZonedFabricModel", "gets", "(II)V"⟩
theorem cd219 : xCd ym219 prog_14_method_57_code 3 none 2 := ⟨mw1106, mw864, by decide, by decide, by decide +kernel⟩
def b219_24  (M : hM) : Option xRes :=
  some (.inl (none, M))
def b219_0 (a0 : Nat) (v1 : Int32) (v2 : Int32) (M : hM) : Option xRes :=
  Option.bind (g_r M 12 33 (some a0)) fun o_1 =>
  Option.bind (al_i M 22 o_1 v1) fun v_3 =>
  if v_3 = 0 then
    (Option.bind (g_o M 12 (some a0)) fun b_7 =>
    Option.bind (c_V (f211 [.inr (.inr (some b_7)), .inl v1, .inl v2] M)) fun q_5 =>
    b219_24  q_5)
  else
    (Option.bind (g_o M 12 (some a0)) fun b_11 =>
    Option.bind (c_V (f218 [.inr (.inr (some b_11)), .inl v1, .inl v2] M)) fun q_9 =>
    b219_24  q_9)
def f219 (as : List aV) (M : hM) : xO := match as with
  | [.inr (.inr (some a0)), .inl v1, .inl v2] => x_out (b219_0 a0 v1 v2 M)
  | _ => none
theorem lb219_24 (G : gX) (l : Launch)  (M : hM) {res : xRes} (h : b219_24  M = some res) : h_sz M ≤ r_sz res ∧ h_sl M ≤ r_sl res := by
  unfold b219_24 at h
  obtain rfl := Option.some.inj h
  show h_sz M ≤ h_sz M ∧ h_sl M ≤ h_sl M
  omega
theorem lb219_0 (G : gX) (l : Launch) (a0 : Nat) (v1 : Int32) (v2 : Int32) (M : hM) {res : xRes} (h : b219_0 a0 v1 v2 M = some res) : h_sz M ≤ r_sz res ∧ h_sl M ≤ r_sl res := by
  unfold b219_0 at h
  obtain ⟨o_1, h2, h⟩ := bd h
  obtain ⟨v_3, h4, h⟩ := bd h
  by_cases q13 : v_3 = 0
  · rw [if_pos q13] at h
    obtain ⟨b_7, h8, h⟩ := bd h
    obtain ⟨q_5, h6, h⟩ := bd h
    have eh6 := (t211 G l (c_V_some h6)).1
    have e := lb219_24 G l  q_5 h
    omega
  · rw [if_neg q13] at h
    obtain ⟨b_11, h12, h⟩ := bd h
    obtain ⟨q_9, h10, h⟩ := bd h
    have eh10 := (t218 G l (c_V_some h10)).1
    have e := lb219_24 G l  q_9 h
    omega
section
variable {p : Program} {l : Launch} {e : Env} {s : State} {m : MethodId} {args : Array Value} {below : List Frame} {meth : Method} {c : Code} {G : gX} {z0 y0 : Nat} {r : Option aV} {M' : hM}
theorem sb219_24 (E : xE G p (xRm 8 (h_sz M' - z0) (h_sl M' - y0)) s m args c prog_14_method_57_code "ZonedFabricModel" z0 y0 (h_sz M') (h_sl M') 3) (B : xB ym219 none meth)  (M : hM) {res : xRes} (h : b219_24  M = some res) (hN : xN (fun _ _ _ => False) r M' res) : xV G p l e (xRm 8 (h_sz M' - z0) (h_sl M' - y0)) s m args below meth c z0 y0 (h_sz M') (h_sl M') 3 (MQ below (xQc G r M') args s (h_sz M' - z0) (h_sl M' - y0) (xFr G)) 24 [] [] M := by
  unfold b219_24 at h
  obtain rfl := Option.some.inj h
  obtain ⟨rfl, rfl⟩ := Prod.mk.inj (show ((none : Option aV), M) = (r, M') from hN)
  exact xv_rv E B.1 B.2.1 (show decode prog_14_method_57_code 24 = .ok (.return_, 1) by decide +kernel) rfl rfl
theorem sb219_0 (E : xE G p (xRm 8 (h_sz M' - z0) (h_sl M' - y0)) s m args c prog_14_method_57_code "ZonedFabricModel" z0 y0 (h_sz M') (h_sl M') 3) (B : xB ym219 none meth) (a0 : Nat) (v1 : Int32) (v2 : Int32) (M : hM) {res : xRes} (h : b219_0 a0 v1 v2 M = some res) (hN : xN (fun _ _ _ => False) r M' res) : xV G p l e (xRm 8 (h_sz M' - z0) (h_sl M' - y0)) s m args below meth c z0 y0 (h_sz M') (h_sl M') 3 (MQ below (xQc G r M') args s (h_sz M' - z0) (h_sl M' - y0) (xFr G)) 0 [(0, .inr (.inr (some a0))), (1, .inl v1), (2, .inl v2)] [] M := by
  unfold b219_0 at h
  refine xv_b E [.aload_n 0] (pc' := 1) (lv' := [(0, .inr (.inr (some a0))), (1, .inl v1), (2, .inl v2)]) (st' := [.inr (.inr (some a0))]) (by decide +kernel) rfl rfl ?_
  obtain ⟨o_1, h2, h⟩ := bd h
  refine xg_r E 12 33 h2 mw893 (show decode prog_14_method_57_code 1 = .ok (.getfield 94, 3) by decide +kernel) ?_
  refine xv_b E [.iload_n 1] (pc' := 5) (lv' := [(0, .inr (.inr (some a0))), (1, .inl v1), (2, .inl v2)]) (st' := [.inl v1, .inr (.inr o_1)]) (by decide +kernel) rfl rfl ?_
  obtain ⟨v_3, h4, h⟩ := bd h
  refine xa_z E h4 (show decode prog_14_method_57_code 5 = .ok (.baload, 1) by decide +kernel) ?_
  by_cases q13 : v_3 = 0
  · rw [if_pos q13] at h
    refine xv_if_eq E 18 (show decode prog_14_method_57_code 6 = .ok (.ifCond .eq (12), 3) by decide +kernel) rfl (fun _ => ?_) (fun z => absurd q13 z)
    refine xv_b E [.aload_n 0, .iload_n 1, .iload_n 2] (pc' := 21) (lv' := [(0, .inr (.inr (some a0))), (1, .inl v1), (2, .inl v2)]) (st' := [.inl v2, .inl v1, .inr (.inr (some a0))]) (by decide +kernel) rfl rfl ?_
    obtain ⟨b_7, h8, h⟩ := bd h
    obtain ⟨eh8, th8⟩ := g_o_some h8
    obtain ⟨q_5, h6, h⟩ := bd h
    refine xv_cvo E eh8 12 (as := [.inl v1, .inl v2]) (t211 G l (c_V_some h6)) cd211 mw1107 mw1108 mw1109 (show decode prog_14_method_57_code 21 = .ok (.invokevirtual 384, 3) by decide +kernel) th8 rfl rfl (Nat.le_of_ble_eq_true rfl) ⟨Nat.le_of_ble_eq_true rfl, Nat.le_of_ble_eq_true rfl⟩ ?_
    exact xv_w (sb219_24 E B  q_5 h hN) rfl
  · rw [if_neg q13] at h
    refine xv_if_eq E 18 (show decode prog_14_method_57_code 6 = .ok (.ifCond .eq (12), 3) by decide +kernel) rfl (fun z => absurd z q13) (fun _ => ?_)
    refine xv_b E [.aload_n 0, .iload_n 1, .iload_n 2] (pc' := 12) (lv' := [(0, .inr (.inr (some a0))), (1, .inl v1), (2, .inl v2)]) (st' := [.inl v2, .inl v1, .inr (.inr (some a0))]) (by decide +kernel) rfl rfl ?_
    obtain ⟨b_11, h12, h⟩ := bd h
    obtain ⟨eh12, th12⟩ := g_o_some h12
    obtain ⟨q_9, h10, h⟩ := bd h
    refine xv_cvo E eh12 12 (as := [.inl v1, .inl v2]) (t218 G l (c_V_some h10)) cd218 mw1110 mw1111 mw1112 (show decode prog_14_method_57_code 12 = .ok (.invokevirtual 381, 3) by decide +kernel) th12 rfl rfl (Nat.le_of_ble_eq_true rfl) ⟨Nat.le_of_ble_eq_true rfl, Nat.le_of_ble_eq_true rfl⟩ ?_
    refine xv_goto E 24 (show decode prog_14_method_57_code 15 = .ok (.goto (9), 3) by decide +kernel) rfl ?_
    exact xv_w (sb219_24 E B  q_9 h hN) rfl
end
theorem t219 (G : gX) (l : Launch) {as : List aV} {M : hM} {r : Option aV} {M' : hM} (h : f219 as M = some (r, M')) : xM G l ym219 prog_14_method_57_code 3 none 8 as M r M' := by
  unfold f219 at h
  split at h
  · have h := x_out_ok h
    refine xM_of (by decide) (Nat.le_of_ble_eq_true rfl) (lb219_0 G l _ _ _ M h) ?_
    intro p e s m args below meth c E B
    exact sb219_0 E B _ _ _ M h rfl
  · cases h
/-! ZFModel.welcomes(II)V -/
def ym220 : MethodName := ⟨"ZonedFabricModel", "welcomes", "(II)V"⟩
theorem cd220 : xCd ym220 prog_14_method_51_code 3 none 2 := ⟨mw1113, mw864, by decide, by decide, by decide +kernel⟩
def b220_24 (a0 : Nat) (v1 : Int32) (v2 : Int32) (M : hM) : Option xRes :=
  Option.bind (g_r M 12 35 (some a0)) fun o_15 =>
  Option.bind (as_i M 20 o_15 v1 v2) fun M17 =>
  some (.inl (none, M17))
def b220_0 (a0 : Nat) (v1 : Int32) (v2 : Int32) (M : hM) : Option xRes :=
  Option.bind (g_r M 12 35 (some a0)) fun o_1 =>
  Option.bind (al_i M 20 o_1 v1) fun v_3 =>
  if v_3 = 0 then
    (b220_24 a0 v1 v2 M)
  else
    (Option.bind (g_r M 12 35 (some a0)) fun o_5 =>
    Option.bind (al_i M 20 o_5 v1) fun v_7 =>
    if v_7 = v2 then
      (b220_24 a0 v1 v2 M)
    else
      (Option.bind (g_o M 12 (some a0)) fun b_11 =>
      Option.bind (c_V (f186 [.inr (.inr (some b_11)), .inl v1] M)) fun q_9 =>
      b220_24 a0 v1 v2 q_9))
def f220 (as : List aV) (M : hM) : xO := match as with
  | [.inr (.inr (some a0)), .inl v1, .inl v2] => x_out (b220_0 a0 v1 v2 M)
  | _ => none
theorem lb220_24 (G : gX) (l : Launch) (a0 : Nat) (v1 : Int32) (v2 : Int32) (M : hM) {res : xRes} (h : b220_24 a0 v1 v2 M = some res) : h_sz M ≤ r_sz res ∧ h_sl M ≤ r_sl res := by
  unfold b220_24 at h
  obtain ⟨o_15, h16, h⟩ := bd h
  obtain ⟨M17, h18, h⟩ := bd h
  have eh18 := as_i_sz h18
  obtain rfl := Option.some.inj h
  show h_sz M ≤ h_sz M17 ∧ h_sl M ≤ h_sl M17
  omega
theorem lb220_0 (G : gX) (l : Launch) (a0 : Nat) (v1 : Int32) (v2 : Int32) (M : hM) {res : xRes} (h : b220_0 a0 v1 v2 M = some res) : h_sz M ≤ r_sz res ∧ h_sl M ≤ r_sl res := by
  unfold b220_0 at h
  obtain ⟨o_1, h2, h⟩ := bd h
  obtain ⟨v_3, h4, h⟩ := bd h
  by_cases q14 : v_3 = 0
  · rw [if_pos q14] at h
    have e := lb220_24 G l a0 v1 v2 M h
    omega
  · rw [if_neg q14] at h
    obtain ⟨o_5, h6, h⟩ := bd h
    obtain ⟨v_7, h8, h⟩ := bd h
    by_cases q13 : v_7 = v2
    · rw [if_pos q13] at h
      have e := lb220_24 G l a0 v1 v2 M h
      omega
    · rw [if_neg q13] at h
      obtain ⟨b_11, h12, h⟩ := bd h
      obtain ⟨q_9, h10, h⟩ := bd h
      have eh10 := (t186 G l (c_V_some h10)).1
      have e := lb220_24 G l a0 v1 v2 q_9 h
      omega
section
variable {p : Program} {l : Launch} {e : Env} {s : State} {m : MethodId} {args : Array Value} {below : List Frame} {meth : Method} {c : Code} {G : gX} {z0 y0 : Nat} {r : Option aV} {M' : hM}
theorem sb220_24 (E : xE G p (xRm 1 (h_sz M' - z0) (h_sl M' - y0)) s m args c prog_14_method_51_code "ZonedFabricModel" z0 y0 (h_sz M') (h_sl M') 3) (B : xB ym220 none meth) (a0 : Nat) (v1 : Int32) (v2 : Int32) (M : hM) {res : xRes} (h : b220_24 a0 v1 v2 M = some res) (hN : xN (fun _ _ _ => False) r M' res) : xV G p l e (xRm 1 (h_sz M' - z0) (h_sl M' - y0)) s m args below meth c z0 y0 (h_sz M') (h_sl M') 3 (MQ below (xQc G r M') args s (h_sz M' - z0) (h_sl M' - y0) (xFr G)) 24 [(0, .inr (.inr (some a0))), (1, .inl v1), (2, .inl v2)] [] M := by
  unfold b220_24 at h
  refine xv_b E [.aload_n 0] (pc' := 25) (lv' := [(0, .inr (.inr (some a0))), (1, .inl v1), (2, .inl v2)]) (st' := [.inr (.inr (some a0))]) (by decide +kernel) rfl rfl ?_
  obtain ⟨o_15, h16, h⟩ := bd h
  refine xg_r E 12 35 h16 mw895 (show decode prog_14_method_51_code 25 = .ok (.getfield 100, 3) by decide +kernel) ?_
  refine xv_b E [.iload_n 1, .iload_n 2] (pc' := 30) (lv' := [(0, .inr (.inr (some a0))), (1, .inl v1), (2, .inl v2)]) (st' := [.inl v2, .inl v1, .inr (.inr o_15)]) (by decide +kernel) rfl rfl ?_
  obtain ⟨M17, h18, h⟩ := bd h
  refine xs_i E h18 (show decode prog_14_method_51_code 30 = .ok (.iastore, 1) by decide +kernel) ?_
  obtain rfl := Option.some.inj h
  obtain ⟨rfl, rfl⟩ := Prod.mk.inj (show ((none : Option aV), M17) = (r, M') from hN)
  exact xv_rv E B.1 B.2.1 (show decode prog_14_method_51_code 31 = .ok (.return_, 1) by decide +kernel) rfl rfl
theorem sb220_0 (E : xE G p (xRm 1 (h_sz M' - z0) (h_sl M' - y0)) s m args c prog_14_method_51_code "ZonedFabricModel" z0 y0 (h_sz M') (h_sl M') 3) (B : xB ym220 none meth) (a0 : Nat) (v1 : Int32) (v2 : Int32) (M : hM) {res : xRes} (h : b220_0 a0 v1 v2 M = some res) (hN : xN (fun _ _ _ => False) r M' res) : xV G p l e (xRm 1 (h_sz M' - z0) (h_sl M' - y0)) s m args below meth c z0 y0 (h_sz M') (h_sl M') 3 (MQ below (xQc G r M') args s (h_sz M' - z0) (h_sl M' - y0) (xFr G)) 0 [(0, .inr (.inr (some a0))), (1, .inl v1), (2, .inl v2)] [] M := by
  unfold b220_0 at h
  refine xv_b E [.aload_n 0] (pc' := 1) (lv' := [(0, .inr (.inr (some a0))), (1, .inl v1), (2, .inl v2)]) (st' := [.inr (.inr (some a0))]) (by decide +kernel) rfl rfl ?_
  obtain ⟨o_1, h2, h⟩ := bd h
  refine xg_r E 12 35 h2 mw895 (show decode prog_14_method_51_code 1 = .ok (.getfield 100, 3) by decide +kernel) ?_
  refine xv_b E [.iload_n 1] (pc' := 5) (lv' := [(0, .inr (.inr (some a0))), (1, .inl v1), (2, .inl v2)]) (st' := [.inl v1, .inr (.inr o_1)]) (by decide +kernel) rfl rfl ?_
  obtain ⟨v_3, h4, h⟩ := bd h
  refine xa_i E h4 (show decode prog_14_method_51_code 5 = .ok (.iaload, 1) by decide +kernel) ?_
  by_cases q14 : v_3 = 0
  · rw [if_pos q14] at h
    refine xv_if_eq E 24 (show decode prog_14_method_51_code 6 = .ok (.ifCond .eq (18), 3) by decide +kernel) rfl (fun _ => ?_) (fun z => absurd q14 z)
    exact xv_w (sb220_24 E B a0 v1 v2 M h hN) rfl
  · rw [if_neg q14] at h
    refine xv_if_eq E 24 (show decode prog_14_method_51_code 6 = .ok (.ifCond .eq (18), 3) by decide +kernel) rfl (fun z => absurd z q14) (fun _ => ?_)
    refine xv_b E [.aload_n 0] (pc' := 10) (lv' := [(0, .inr (.inr (some a0))), (1, .inl v1), (2, .inl v2)]) (st' := [.inr (.inr (some a0))]) (by decide +kernel) rfl rfl ?_
    obtain ⟨o_5, h6, h⟩ := bd h
    refine xg_r E 12 35 h6 mw895 (show decode prog_14_method_51_code 10 = .ok (.getfield 100, 3) by decide +kernel) ?_
    refine xv_b E [.iload_n 1] (pc' := 14) (lv' := [(0, .inr (.inr (some a0))), (1, .inl v1), (2, .inl v2)]) (st' := [.inl v1, .inr (.inr o_5)]) (by decide +kernel) rfl rfl ?_
    obtain ⟨v_7, h8, h⟩ := bd h
    refine xa_i E h8 (show decode prog_14_method_51_code 14 = .ok (.iaload, 1) by decide +kernel) ?_
    refine xv_b E [.iload_n 2] (pc' := 16) (lv' := [(0, .inr (.inr (some a0))), (1, .inl v1), (2, .inl v2)]) (st' := [.inl v2, .inl v_7]) (by decide +kernel) rfl rfl ?_
    by_cases q13 : v_7 = v2
    · rw [if_pos q13] at h
      refine xv_icmp_eq E 24 (show decode prog_14_method_51_code 16 = .ok (.if_icmp .eq (8), 3) by decide +kernel) rfl (fun _ => ?_) (fun z => absurd q13 z)
      exact xv_w (sb220_24 E B a0 v1 v2 M h hN) rfl
    · rw [if_neg q13] at h
      refine xv_icmp_eq E 24 (show decode prog_14_method_51_code 16 = .ok (.if_icmp .eq (8), 3) by decide +kernel) rfl (fun z => absurd z q13) (fun _ => ?_)
      refine xv_b E [.aload_n 0, .iload_n 1] (pc' := 21) (lv' := [(0, .inr (.inr (some a0))), (1, .inl v1), (2, .inl v2)]) (st' := [.inl v1, .inr (.inr (some a0))]) (by decide +kernel) rfl rfl ?_
      obtain ⟨b_11, h12, h⟩ := bd h
      obtain ⟨eh12, th12⟩ := g_o_some h12
      obtain ⟨q_9, h10, h⟩ := bd h
      refine xv_cvo E eh12 12 (as := [.inl v1]) (t186 G l (c_V_some h10)) cd186 mw988 mw989 mw990 (show decode prog_14_method_51_code 21 = .ok (.invokevirtual 234, 3) by decide +kernel) th12 rfl rfl (Nat.le_of_ble_eq_true rfl) ⟨Nat.le_of_ble_eq_true rfl, Nat.le_of_ble_eq_true rfl⟩ ?_
      exact xv_w (sb220_24 E B a0 v1 v2 q_9 h hN) rfl
end
theorem t220 (G : gX) (l : Launch) {as : List aV} {M : hM} {r : Option aV} {M' : hM} (h : f220 as M = some (r, M')) : xM G l ym220 prog_14_method_51_code 3 none 1 as M r M' := by
  unfold f220 at h
  split at h
  · have h := x_out_ok h
    refine xM_of (by decide) (Nat.le_of_ble_eq_true rfl) (lb220_0 G l _ _ _ M h) ?_
    intro p e s m args below meth c E B
    exact sb220_0 E B _ _ _ M h rfl
  · cases h
/-! ZFModel.nodeTicks(I)V -/
def ym221 : MethodName := ⟨"ZonedFabricModel", "nodeTicks", "(I)V"⟩
theorem cd221 : xCd ym221 prog_14_method_50_code 5 none 1 := ⟨mw1114, mw864, by decide, by decide, by decide +kernel⟩
def b221_0 (a0 : Nat) (v1 : Int32) (M : hM) : Option xRes :=
  Option.bind (g_o M 12 (some a0)) fun b_3 =>
  Option.bind (c_I (f176 [.inr (.inr (some b_3)), .inl v1] M)) fun q_1 =>
  some (.inr (6, [.inr (.inr (some a0)), .inl v1, .inl q_1.1], q_1.2))
def b221_110 (a0 : Nat) (v1 : Int32) (v2 : Int32) (v3 : Int32) (M : hM) : Option xRes :=
  Option.bind (g_o M 12 (some a0)) fun b_67 =>
  Option.bind (c_V (f171 [.inr (.inr (some b_67)), .inl v3] M)) fun q_65 =>
  some (.inr (6, [.inr (.inr (some a0)), .inl v1, .inl v2], q_65))
def b221_84 (a0 : Nat) (v1 : Int32) (v2 : Int32) (v3 : Int32) (v4 : Int32) (M : hM) : Option xRes :=
  Option.bind (g_r M 12 35 (some a0)) fun o_51 =>
  Option.bind (al_i M 20 o_51 v1) fun v_53 =>
  if v_53 = 0 then
    (b221_110 a0 v1 v2 v3 M)
  else
    (Option.bind (g_r M 12 35 (some a0)) fun o_55 =>
    Option.bind (al_i M 20 o_55 v1) fun v_57 =>
    if v4 = v_57 then
      (Option.bind (g_o M 12 (some a0)) fun b_61 =>
      Option.bind (c_V (f219 [.inr (.inr (some b_61)), .inl v1, .inl v3] M)) fun q_59 =>
      b221_110 a0 v1 v2 v3 q_59)
    else
      (b221_110 a0 v1 v2 v3 M))
def b221_6 (a0 : Nat) (v1 : Int32) (v2 : Int32) (M : hM) : Option xRes :=
  Option.bind (g_r M 12 17 (some a0)) fun o_5 =>
  Option.bind (al_i M 20 o_5 v2) fun v_7 =>
  if v_7 ≤ 0 then
    (Option.bind (g_o M 12 (some a0)) fun b_11 =>
    Option.bind (c_V (f208 [.inr (.inr (some b_11)), .inl v1] M)) fun q_9 =>
    Option.bind (g_o q_9 12 (some a0)) fun b_15 =>
    Option.bind (c_V (f184 [.inr (.inr (some b_15)), .inl v2] q_9)) fun q_13 =>
    some (.inl (none, q_13)))
  else
    (Option.bind (g_o M 12 (some a0)) fun b_19 =>
    Option.bind (c_I (f185 [.inr (.inr (some b_19)), .inl v2] M)) fun q_17 =>
    Option.bind (g_o q_17.2 12 (some a0)) fun b_23 =>
    Option.bind (c_I (f166 [.inr (.inr (some b_23)), .inl q_17.1, .inl (1 : Int32), .inl (3 : Int32)] q_17.2)) fun q_21 =>
    Option.bind (g_o q_21.2 12 (some a0)) fun b_27 =>
    Option.bind (c_I (f174 [.inr (.inr (some b_27)), .inl q_17.1] q_21.2)) fun q_25 =>
    if q_25.1 = 0 then
      (Option.bind (g_r q_25.2 12 4 (some a0)) fun o_43 =>
      Option.bind (al_i q_25.2 20 o_43 (1 : Int32)) fun v_45 =>
      Option.bind (as_i q_25.2 20 o_43 (1 : Int32) (v_45 + (1 : Int32))) fun M47 =>
      b221_110 a0 v1 v2 q_17.1 M47)
    else
      (Option.bind (g_o q_25.2 12 (some a0)) fun b_31 =>
      Option.bind (c_I (f165 [.inr (.inr (some b_31)), .inl q_17.1, .inl (0 : Int32)] q_25.2)) fun q_29 =>
      if q_29.1 = (4 : Int32) then
        (Option.bind (g_o q_29.2 12 (some a0)) fun b_35 =>
        Option.bind (c_I (f166 [.inr (.inr (some b_35)), .inl q_17.1, .inl (4 : Int32), .inl (3 : Int32)] q_29.2)) fun q_33 =>
        if q_33.1 = (16777214 : Int32) then
          (Option.bind (g_o q_33.2 12 (some a0)) fun b_39 =>
          Option.bind (c_V (f220 [.inr (.inr (some b_39)), .inl v1, .inl q_21.1] q_33.2)) fun q_37 =>
          b221_110 a0 v1 v2 q_17.1 q_37)
        else
          (b221_84 a0 v1 v2 q_17.1 q_21.1 q_33.2))
      else
        (b221_84 a0 v1 v2 q_17.1 q_21.1 q_29.2)))
def k221 (h : Nat) (as : List aV) (M : hM) : Option xRes :=
  if h = 6 then (match as with | [.inr (.inr (some a0)), .inl v1, .inl v2] => b221_6 a0 v1 v2 M | _ => none) else
  none
def f221 (as : List aV) (M : hM) : xO := match as with
  | [.inr (.inr (some a0)), .inl v1] => x_go k221 (b221_0 a0 v1 M)
  | _ => none
theorem lb221_0 (G : gX) (l : Launch) (a0 : Nat) (v1 : Int32) (M : hM) {res : xRes} (h : b221_0 a0 v1 M = some res) : h_sz M ≤ r_sz res ∧ h_sl M ≤ r_sl res := by
  unfold b221_0 at h
  obtain ⟨b_3, h4, h⟩ := bd h
  obtain ⟨q_1, h2, h⟩ := bd h
  have eh2 := (t176 G l (c_I_some h2)).1
  obtain rfl := Option.some.inj h
  show h_sz M ≤ h_sz q_1.2 ∧ h_sl M ≤ h_sl q_1.2
  omega
theorem lb221_110 (G : gX) (l : Launch) (a0 : Nat) (v1 : Int32) (v2 : Int32) (v3 : Int32) (M : hM) {res : xRes} (h : b221_110 a0 v1 v2 v3 M = some res) : h_sz M ≤ r_sz res ∧ h_sl M ≤ r_sl res := by
  unfold b221_110 at h
  obtain ⟨b_67, h68, h⟩ := bd h
  obtain ⟨q_65, h66, h⟩ := bd h
  have eh66 := (t171 G l (c_V_some h66)).1
  obtain rfl := Option.some.inj h
  show h_sz M ≤ h_sz q_65 ∧ h_sl M ≤ h_sl q_65
  omega
theorem lb221_84 (G : gX) (l : Launch) (a0 : Nat) (v1 : Int32) (v2 : Int32) (v3 : Int32) (v4 : Int32) (M : hM) {res : xRes} (h : b221_84 a0 v1 v2 v3 v4 M = some res) : h_sz M ≤ r_sz res ∧ h_sl M ≤ r_sl res := by
  unfold b221_84 at h
  obtain ⟨o_51, h52, h⟩ := bd h
  obtain ⟨v_53, h54, h⟩ := bd h
  by_cases q64 : v_53 = 0
  · rw [if_pos q64] at h
    have e := lb221_110 G l a0 v1 v2 v3 M h
    omega
  · rw [if_neg q64] at h
    obtain ⟨o_55, h56, h⟩ := bd h
    obtain ⟨v_57, h58, h⟩ := bd h
    by_cases q63 : v4 = v_57
    · rw [if_pos q63] at h
      obtain ⟨b_61, h62, h⟩ := bd h
      obtain ⟨q_59, h60, h⟩ := bd h
      have eh60 := (t219 G l (c_V_some h60)).1
      have e := lb221_110 G l a0 v1 v2 v3 q_59 h
      omega
    · rw [if_neg q63] at h
      have e := lb221_110 G l a0 v1 v2 v3 M h
      omega
theorem lb221_6 (G : gX) (l : Launch) (a0 : Nat) (v1 : Int32) (v2 : Int32) (M : hM) {res : xRes} (h : b221_6 a0 v1 v2 M = some res) : h_sz M ≤ r_sz res ∧ h_sl M ≤ r_sl res := by
  unfold b221_6 at h
  obtain ⟨o_5, h6, h⟩ := bd h
  obtain ⟨v_7, h8, h⟩ := bd h
  by_cases q50 : v_7 ≤ 0
  · rw [if_pos q50] at h
    obtain ⟨b_11, h12, h⟩ := bd h
    obtain ⟨q_9, h10, h⟩ := bd h
    have eh10 := (t208 G l (c_V_some h10)).1
    obtain ⟨b_15, h16, h⟩ := bd h
    obtain ⟨q_13, h14, h⟩ := bd h
    have eh14 := (t184 G l (c_V_some h14)).1
    obtain rfl := Option.some.inj h
    show h_sz M ≤ h_sz q_13 ∧ h_sl M ≤ h_sl q_13
    omega
  · rw [if_neg q50] at h
    obtain ⟨b_19, h20, h⟩ := bd h
    obtain ⟨q_17, h18, h⟩ := bd h
    have eh18 := (t185 G l (c_I_some h18)).1
    obtain ⟨b_23, h24, h⟩ := bd h
    obtain ⟨q_21, h22, h⟩ := bd h
    have eh22 := (t166 G l (c_I_some h22)).1
    obtain ⟨b_27, h28, h⟩ := bd h
    obtain ⟨q_25, h26, h⟩ := bd h
    have eh26 := (t174 G l (c_I_some h26)).1
    by_cases q49 : q_25.1 = 0
    · rw [if_pos q49] at h
      obtain ⟨o_43, h44, h⟩ := bd h
      obtain ⟨v_45, h46, h⟩ := bd h
      obtain ⟨M47, h48, h⟩ := bd h
      have eh48 := as_i_sz h48
      have e := lb221_110 G l a0 v1 v2 q_17.1 M47 h
      omega
    · rw [if_neg q49] at h
      obtain ⟨b_31, h32, h⟩ := bd h
      obtain ⟨q_29, h30, h⟩ := bd h
      have eh30 := (t165 G l (c_I_some h30)).1
      by_cases q42 : q_29.1 = (4 : Int32)
      · rw [if_pos q42] at h
        obtain ⟨b_35, h36, h⟩ := bd h
        obtain ⟨q_33, h34, h⟩ := bd h
        have eh34 := (t166 G l (c_I_some h34)).1
        by_cases q41 : q_33.1 = (16777214 : Int32)
        · rw [if_pos q41] at h
          obtain ⟨b_39, h40, h⟩ := bd h
          obtain ⟨q_37, h38, h⟩ := bd h
          have eh38 := (t220 G l (c_V_some h38)).1
          have e := lb221_110 G l a0 v1 v2 q_17.1 q_37 h
          omega
        · rw [if_neg q41] at h
          have e := lb221_84 G l a0 v1 v2 q_17.1 q_21.1 q_33.2 h
          omega
      · rw [if_neg q42] at h
        have e := lb221_84 G l a0 v1 v2 q_17.1 q_21.1 q_29.2 h
        omega
section
variable {p : Program} {l : Launch} {e : Env} {s : State} {m : MethodId} {args : Array Value} {below : List Frame} {meth : Method} {c : Code} {G : gX} {z0 y0 : Nat} {r : Option aV} {M' : hM}
def pg221 (p : Program) (l : Launch) (e : Env) (s : State) (m : MethodId) (args : Array Value) (below : List Frame) (meth : Method) (c : Code) (G : gX) (z0 y0 : Nat) (r : Option aV) (M' : hM) (h : Nat) (as : List aV) (M : hM) : Prop :=
  if h = 6 then (match as with | [.inr (.inr (some a0)), .inl v1, .inl v2] => xV G p l e (xRm 9 (h_sz M' - z0) (h_sl M' - y0)) s m args below meth c z0 y0 (h_sz M') (h_sl M') 5 (MQ below (xQc G r M') args s (h_sz M' - z0) (h_sl M' - y0) (xFr G)) 6 [(0, .inr (.inr (some a0))), (1, .inl v1), (2, .inl v2)] [] M | _ => False) else
  False
theorem sb221_0 (E : xE G p (xRm 9 (h_sz M' - z0) (h_sl M' - y0)) s m args c prog_14_method_50_code "ZonedFabricModel" z0 y0 (h_sz M') (h_sl M') 5) (B : xB ym221 none meth) (a0 : Nat) (v1 : Int32) (M : hM) {res : xRes} (h : b221_0 a0 v1 M = some res) (hN : xN (pg221 p l e s m args below meth c G z0 y0 r M') r M' res) : xV G p l e (xRm 9 (h_sz M' - z0) (h_sl M' - y0)) s m args below meth c z0 y0 (h_sz M') (h_sl M') 5 (MQ below (xQc G r M') args s (h_sz M' - z0) (h_sl M' - y0) (xFr G)) 0 [(0, .inr (.inr (some a0))), (1, .inl v1)] [] M := by
  unfold b221_0 at h
  refine xv_b E [.aload_n 0, .iload_n 1] (pc' := 2) (lv' := [(0, .inr (.inr (some a0))), (1, .inl v1)]) (st' := [.inl v1, .inr (.inr (some a0))]) (by decide +kernel) rfl rfl ?_
  obtain ⟨b_3, h4, h⟩ := bd h
  obtain ⟨eh4, th4⟩ := g_o_some h4
  obtain ⟨q_1, h2, h⟩ := bd h
  refine xv_cvo E eh4 12 (as := [.inl v1]) (t176 G l (c_I_some h2)) cd176 mw1040 mw1041 mw1042 (show decode prog_14_method_50_code 2 = .ok (.invokevirtual 352, 3) by decide +kernel) th4 rfl rfl (Nat.le_of_ble_eq_true rfl) ⟨Nat.le_of_ble_eq_true rfl, Nat.le_of_ble_eq_true rfl⟩ ?_
  refine xv_b E [.istore_n 2] (pc' := 6) (lv' := [(2, .inl q_1.1), (0, .inr (.inr (some a0))), (1, .inl v1)]) (st' := []) (by decide +kernel) rfl rfl ?_
  obtain rfl := Option.some.inj h
  exact xv_w hN rfl
theorem sb221_110 (E : xE G p (xRm 9 (h_sz M' - z0) (h_sl M' - y0)) s m args c prog_14_method_50_code "ZonedFabricModel" z0 y0 (h_sz M') (h_sl M') 5) (B : xB ym221 none meth) (a0 : Nat) (v1 : Int32) (v2 : Int32) (v3 : Int32) (M : hM) {res : xRes} (h : b221_110 a0 v1 v2 v3 M = some res) (hN : xN (pg221 p l e s m args below meth c G z0 y0 r M') r M' res) : xV G p l e (xRm 9 (h_sz M' - z0) (h_sl M' - y0)) s m args below meth c z0 y0 (h_sz M') (h_sl M') 5 (MQ below (xQc G r M') args s (h_sz M' - z0) (h_sl M' - y0) (xFr G)) 110 [(0, .inr (.inr (some a0))), (1, .inl v1), (2, .inl v2), (3, .inl v3)] [] M := by
  unfold b221_110 at h
  refine xv_b E [.aload_n 0, .iload_n 3] (pc' := 112) (lv' := [(0, .inr (.inr (some a0))), (1, .inl v1), (2, .inl v2), (3, .inl v3)]) (st' := [.inl v3, .inr (.inr (some a0))]) (by decide +kernel) rfl rfl ?_
  obtain ⟨b_67, h68, h⟩ := bd h
  obtain ⟨eh68, th68⟩ := g_o_some h68
  obtain ⟨q_65, h66, h⟩ := bd h
  refine xv_cvo E eh68 12 (as := [.inl v3]) (t171 G l (c_V_some h66)) cd171 mw975 mw976 mw977 (show decode prog_14_method_50_code 112 = .ok (.invokevirtual 224, 3) by decide +kernel) th68 rfl rfl (Nat.le_of_ble_eq_true rfl) ⟨Nat.le_of_ble_eq_true rfl, Nat.le_of_ble_eq_true rfl⟩ ?_
  refine xv_goto E 6 (show decode prog_14_method_50_code 115 = .ok (.goto (-109), 3) by decide +kernel) rfl ?_
  obtain rfl := Option.some.inj h
  exact xv_w hN rfl
theorem sb221_84 (E : xE G p (xRm 9 (h_sz M' - z0) (h_sl M' - y0)) s m args c prog_14_method_50_code "ZonedFabricModel" z0 y0 (h_sz M') (h_sl M') 5) (B : xB ym221 none meth) (a0 : Nat) (v1 : Int32) (v2 : Int32) (v3 : Int32) (v4 : Int32) (M : hM) {res : xRes} (h : b221_84 a0 v1 v2 v3 v4 M = some res) (hN : xN (pg221 p l e s m args below meth c G z0 y0 r M') r M' res) : xV G p l e (xRm 9 (h_sz M' - z0) (h_sl M' - y0)) s m args below meth c z0 y0 (h_sz M') (h_sl M') 5 (MQ below (xQc G r M') args s (h_sz M' - z0) (h_sl M' - y0) (xFr G)) 84 [(0, .inr (.inr (some a0))), (1, .inl v1), (2, .inl v2), (3, .inl v3), (4, .inl v4)] [] M := by
  unfold b221_84 at h
  refine xv_b E [.aload_n 0] (pc' := 85) (lv' := [(0, .inr (.inr (some a0))), (1, .inl v1), (2, .inl v2), (3, .inl v3), (4, .inl v4)]) (st' := [.inr (.inr (some a0))]) (by decide +kernel) rfl rfl ?_
  obtain ⟨o_51, h52, h⟩ := bd h
  refine xg_r E 12 35 h52 mw895 (show decode prog_14_method_50_code 85 = .ok (.getfield 100, 3) by decide +kernel) ?_
  refine xv_b E [.iload_n 1] (pc' := 89) (lv' := [(0, .inr (.inr (some a0))), (1, .inl v1), (2, .inl v2), (3, .inl v3), (4, .inl v4)]) (st' := [.inl v1, .inr (.inr o_51)]) (by decide +kernel) rfl rfl ?_
  obtain ⟨v_53, h54, h⟩ := bd h
  refine xa_i E h54 (show decode prog_14_method_50_code 89 = .ok (.iaload, 1) by decide +kernel) ?_
  by_cases q64 : v_53 = 0
  · rw [if_pos q64] at h
    refine xv_if_eq E 110 (show decode prog_14_method_50_code 90 = .ok (.ifCond .eq (20), 3) by decide +kernel) rfl (fun _ => ?_) (fun z => absurd q64 z)
    exact xv_w (sb221_110 E B a0 v1 v2 v3 M h hN) rfl
  · rw [if_neg q64] at h
    refine xv_if_eq E 110 (show decode prog_14_method_50_code 90 = .ok (.ifCond .eq (20), 3) by decide +kernel) rfl (fun z => absurd z q64) (fun _ => ?_)
    refine xv_b E [.iload 4, .aload_n 0] (pc' := 96) (lv' := [(0, .inr (.inr (some a0))), (1, .inl v1), (2, .inl v2), (3, .inl v3), (4, .inl v4)]) (st' := [.inr (.inr (some a0)), .inl v4]) (by decide +kernel) rfl rfl ?_
    obtain ⟨o_55, h56, h⟩ := bd h
    refine xg_r E 12 35 h56 mw895 (show decode prog_14_method_50_code 96 = .ok (.getfield 100, 3) by decide +kernel) ?_
    refine xv_b E [.iload_n 1] (pc' := 100) (lv' := [(0, .inr (.inr (some a0))), (1, .inl v1), (2, .inl v2), (3, .inl v3), (4, .inl v4)]) (st' := [.inl v1, .inr (.inr o_55), .inl v4]) (by decide +kernel) rfl rfl ?_
    obtain ⟨v_57, h58, h⟩ := bd h
    refine xa_i E h58 (show decode prog_14_method_50_code 100 = .ok (.iaload, 1) by decide +kernel) ?_
    by_cases q63 : v4 = v_57
    · rw [if_pos q63] at h
      refine xv_icmp_ne E 110 (show decode prog_14_method_50_code 101 = .ok (.if_icmp .ne (9), 3) by decide +kernel) rfl (fun z => absurd q63 z) (fun _ => ?_)
      refine xv_b E [.aload_n 0, .iload_n 1, .iload_n 3] (pc' := 107) (lv' := [(0, .inr (.inr (some a0))), (1, .inl v1), (2, .inl v2), (3, .inl v3), (4, .inl v4)]) (st' := [.inl v3, .inl v1, .inr (.inr (some a0))]) (by decide +kernel) rfl rfl ?_
      obtain ⟨b_61, h62, h⟩ := bd h
      obtain ⟨eh62, th62⟩ := g_o_some h62
      obtain ⟨q_59, h60, h⟩ := bd h
      refine xv_cvo E eh62 12 (as := [.inl v1, .inl v3]) (t219 G l (c_V_some h60)) cd219 mw1130 mw1131 mw1132 (show decode prog_14_method_50_code 107 = .ok (.invokevirtual 358, 3) by decide +kernel) th62 rfl rfl (Nat.le_of_ble_eq_true rfl) ⟨Nat.le_of_ble_eq_true rfl, Nat.le_of_ble_eq_true rfl⟩ ?_
      exact xv_w (sb221_110 E B a0 v1 v2 v3 q_59 h hN) rfl
    · rw [if_neg q63] at h
      refine xv_icmp_ne E 110 (show decode prog_14_method_50_code 101 = .ok (.if_icmp .ne (9), 3) by decide +kernel) rfl (fun _ => ?_) (fun z => absurd z q63)
      exact xv_w (sb221_110 E B a0 v1 v2 v3 M h hN) rfl
theorem sb221_6 (E : xE G p (xRm 9 (h_sz M' - z0) (h_sl M' - y0)) s m args c prog_14_method_50_code "ZonedFabricModel" z0 y0 (h_sz M') (h_sl M') 5) (B : xB ym221 none meth) (a0 : Nat) (v1 : Int32) (v2 : Int32) (M : hM) {res : xRes} (h : b221_6 a0 v1 v2 M = some res) (hN : xN (pg221 p l e s m args below meth c G z0 y0 r M') r M' res) : xV G p l e (xRm 9 (h_sz M' - z0) (h_sl M' - y0)) s m args below meth c z0 y0 (h_sz M') (h_sl M') 5 (MQ below (xQc G r M') args s (h_sz M' - z0) (h_sl M' - y0) (xFr G)) 6 [(0, .inr (.inr (some a0))), (1, .inl v1), (2, .inl v2)] [] M := by
  unfold b221_6 at h
  refine xv_b E [.aload_n 0] (pc' := 7) (lv' := [(0, .inr (.inr (some a0))), (1, .inl v1), (2, .inl v2)]) (st' := [.inr (.inr (some a0))]) (by decide +kernel) rfl rfl ?_
  obtain ⟨o_5, h6, h⟩ := bd h
  refine xg_r E 12 17 h6 mw877 (show decode prog_14_method_50_code 7 = .ok (.getfield 46, 3) by decide +kernel) ?_
  refine xv_b E [.iload_n 2] (pc' := 11) (lv' := [(0, .inr (.inr (some a0))), (1, .inl v1), (2, .inl v2)]) (st' := [.inl v2, .inr (.inr o_5)]) (by decide +kernel) rfl rfl ?_
  obtain ⟨v_7, h8, h⟩ := bd h
  refine xa_i E h8 (show decode prog_14_method_50_code 11 = .ok (.iaload, 1) by decide +kernel) ?_
  by_cases q50 : v_7 ≤ 0
  · rw [if_pos q50] at h
    refine xv_if_le E 118 (show decode prog_14_method_50_code 12 = .ok (.ifCond .le (106), 3) by decide +kernel) rfl (fun _ => ?_) (fun z => absurd q50 z)
    refine xv_b E [.aload_n 0, .iload_n 1] (pc' := 120) (lv' := [(0, .inr (.inr (some a0))), (1, .inl v1), (2, .inl v2)]) (st' := [.inl v1, .inr (.inr (some a0))]) (by decide +kernel) rfl rfl ?_
    obtain ⟨b_11, h12, h⟩ := bd h
    obtain ⟨eh12, th12⟩ := g_o_some h12
    obtain ⟨q_9, h10, h⟩ := bd h
    refine xv_cvo E eh12 12 (as := [.inl v1]) (t208 G l (c_V_some h10)) cd208 mw1115 mw1116 mw1117 (show decode prog_14_method_50_code 120 = .ok (.invokevirtual 361, 3) by decide +kernel) th12 rfl rfl (Nat.le_of_ble_eq_true rfl) ⟨Nat.le_of_ble_eq_true rfl, Nat.le_of_ble_eq_true rfl⟩ ?_
    refine xv_b E [.aload_n 0, .iload_n 2] (pc' := 125) (lv' := [(0, .inr (.inr (some a0))), (1, .inl v1), (2, .inl v2)]) (st' := [.inl v2, .inr (.inr (some a0))]) (by decide +kernel) rfl rfl ?_
    obtain ⟨b_15, h16, h⟩ := bd h
    obtain ⟨eh16, th16⟩ := g_o_some h16
    obtain ⟨q_13, h14, h⟩ := bd h
    refine xv_cvo E eh16 12 (as := [.inl v2]) (t184 G l (c_V_some h14)) cd184 mw1118 mw1119 mw1120 (show decode prog_14_method_50_code 125 = .ok (.invokevirtual 291, 3) by decide +kernel) th16 rfl rfl (Nat.le_of_ble_eq_true rfl) ⟨Nat.le_of_ble_eq_true rfl, Nat.le_of_ble_eq_true rfl⟩ ?_
    obtain rfl := Option.some.inj h
    obtain ⟨rfl, rfl⟩ := Prod.mk.inj (show ((none : Option aV), q_13) = (r, M') from hN)
    exact xv_rv E B.1 B.2.1 (show decode prog_14_method_50_code 128 = .ok (.return_, 1) by decide +kernel) rfl rfl
  · rw [if_neg q50] at h
    refine xv_if_le E 118 (show decode prog_14_method_50_code 12 = .ok (.ifCond .le (106), 3) by decide +kernel) rfl (fun z => absurd z q50) (fun _ => ?_)
    refine xv_b E [.aload_n 0, .iload_n 2] (pc' := 17) (lv' := [(0, .inr (.inr (some a0))), (1, .inl v1), (2, .inl v2)]) (st' := [.inl v2, .inr (.inr (some a0))]) (by decide +kernel) rfl rfl ?_
    obtain ⟨b_19, h20, h⟩ := bd h
    obtain ⟨eh20, th20⟩ := g_o_some h20
    obtain ⟨q_17, h18, h⟩ := bd h
    refine xv_cvo E eh20 12 (as := [.inl v2]) (t185 G l (c_I_some h18)) cd185 mw1121 mw1122 mw1123 (show decode prog_14_method_50_code 17 = .ok (.invokevirtual 325, 3) by decide +kernel) th20 rfl rfl (Nat.le_of_ble_eq_true rfl) ⟨Nat.le_of_ble_eq_true rfl, Nat.le_of_ble_eq_true rfl⟩ ?_
    refine xv_b E [.istore_n 3, .aload_n 0, .iload_n 3, .iconst 1, .iconst 3] (pc' := 25) (lv' := [(3, .inl q_17.1), (0, .inr (.inr (some a0))), (1, .inl v1), (2, .inl v2)]) (st' := [.inl (3 : Int32), .inl (1 : Int32), .inl q_17.1, .inr (.inr (some a0))]) (by decide +kernel) rfl rfl ?_
    obtain ⟨b_23, h24, h⟩ := bd h
    obtain ⟨eh24, th24⟩ := g_o_some h24
    obtain ⟨q_21, h22, h⟩ := bd h
    refine xv_cvo E eh24 12 (as := [.inl q_17.1, .inl (1 : Int32), .inl (3 : Int32)]) (t166 G l (c_I_some h22)) cd166 mw947 mw948 mw949 (show decode prog_14_method_50_code 25 = .ok (.invokevirtual 198, 3) by decide +kernel) th24 rfl rfl (Nat.le_of_ble_eq_true rfl) ⟨Nat.le_of_ble_eq_true rfl, Nat.le_of_ble_eq_true rfl⟩ ?_
    refine xv_b E [.istore 4, .aload_n 0, .iload_n 3] (pc' := 32) (lv' := [(4, .inl q_21.1), (3, .inl q_17.1), (0, .inr (.inr (some a0))), (1, .inl v1), (2, .inl v2)]) (st' := [.inl q_17.1, .inr (.inr (some a0))]) (by decide +kernel) rfl rfl ?_
    obtain ⟨b_27, h28, h⟩ := bd h
    obtain ⟨eh28, th28⟩ := g_o_some h28
    obtain ⟨q_25, h26, h⟩ := bd h
    refine xv_cvo E eh28 12 (as := [.inl q_17.1]) (t174 G l (c_I_some h26)) cd174 mw1124 mw1125 mw1126 (show decode prog_14_method_50_code 32 = .ok (.invokevirtual 322, 3) by decide +kernel) th28 rfl rfl (Nat.le_of_ble_eq_true rfl) ⟨Nat.le_of_ble_eq_true rfl, Nat.le_of_ble_eq_true rfl⟩ ?_
    by_cases q49 : q_25.1 = 0
    · rw [if_pos q49] at h
      refine xv_if_ne E 51 (show decode prog_14_method_50_code 35 = .ok (.ifCond .ne (16), 3) by decide +kernel) rfl (fun z => absurd q49 z) (fun _ => ?_)
      refine xv_b E [.aload_n 0] (pc' := 39) (lv' := [(4, .inl q_21.1), (3, .inl q_17.1), (0, .inr (.inr (some a0))), (1, .inl v1), (2, .inl v2)]) (st' := [.inr (.inr (some a0))]) (by decide +kernel) rfl rfl ?_
      obtain ⟨o_43, h44, h⟩ := bd h
      refine xg_r E 12 4 h44 mw865 (show decode prog_14_method_50_code 39 = .ok (.getfield 7, 3) by decide +kernel) ?_
      refine xv_b E [.iconst 1, .dup2] (pc' := 44) (lv' := [(4, .inl q_21.1), (3, .inl q_17.1), (0, .inr (.inr (some a0))), (1, .inl v1), (2, .inl v2)]) (st' := [.inl (1 : Int32), .inr (.inr o_43), .inl (1 : Int32), .inr (.inr o_43)]) (by decide +kernel) rfl rfl ?_
      obtain ⟨v_45, h46, h⟩ := bd h
      refine xa_i E h46 (show decode prog_14_method_50_code 44 = .ok (.iaload, 1) by decide +kernel) ?_
      refine xv_b E [.iconst 1, .iadd] (pc' := 47) (lv' := [(4, .inl q_21.1), (3, .inl q_17.1), (0, .inr (.inr (some a0))), (1, .inl v1), (2, .inl v2)]) (st' := [.inl (v_45 + (1 : Int32)), .inl (1 : Int32), .inr (.inr o_43)]) (by decide +kernel) rfl rfl ?_
      obtain ⟨M47, h48, h⟩ := bd h
      refine xs_i E h48 (show decode prog_14_method_50_code 47 = .ok (.iastore, 1) by decide +kernel) ?_
      refine xv_goto E 110 (show decode prog_14_method_50_code 48 = .ok (.goto (62), 3) by decide +kernel) rfl ?_
      exact xv_w (sb221_110 E B a0 v1 v2 q_17.1 M47 h hN) rfl
    · rw [if_neg q49] at h
      refine xv_if_ne E 51 (show decode prog_14_method_50_code 35 = .ok (.ifCond .ne (16), 3) by decide +kernel) rfl (fun _ => ?_) (fun z => absurd z q49)
      refine xv_b E [.aload_n 0, .iload_n 3, .iconst 0] (pc' := 54) (lv' := [(4, .inl q_21.1), (3, .inl q_17.1), (0, .inr (.inr (some a0))), (1, .inl v1), (2, .inl v2)]) (st' := [.inl (0 : Int32), .inl q_17.1, .inr (.inr (some a0))]) (by decide +kernel) rfl rfl ?_
      obtain ⟨b_31, h32, h⟩ := bd h
      obtain ⟨eh32, th32⟩ := g_o_some h32
      obtain ⟨q_29, h30, h⟩ := bd h
      refine xv_cvo E eh32 12 (as := [.inl q_17.1, .inl (0 : Int32)]) (t165 G l (c_I_some h30)) cd165 mw927 mw928 mw929 (show decode prog_14_method_50_code 54 = .ok (.invokevirtual 186, 3) by decide +kernel) th32 rfl rfl (Nat.le_of_ble_eq_true rfl) ⟨Nat.le_of_ble_eq_true rfl, Nat.le_of_ble_eq_true rfl⟩ ?_
      refine xv_b E [.iconst 4] (pc' := 58) (lv' := [(4, .inl q_21.1), (3, .inl q_17.1), (0, .inr (.inr (some a0))), (1, .inl v1), (2, .inl v2)]) (st' := [.inl (4 : Int32), .inl q_29.1]) (by decide +kernel) rfl rfl ?_
      by_cases q42 : q_29.1 = (4 : Int32)
      · rw [if_pos q42] at h
        refine xv_icmp_ne E 84 (show decode prog_14_method_50_code 58 = .ok (.if_icmp .ne (26), 3) by decide +kernel) rfl (fun z => absurd q42 z) (fun _ => ?_)
        refine xv_b E [.aload_n 0, .iload_n 3, .iconst 4, .iconst 3] (pc' := 65) (lv' := [(4, .inl q_21.1), (3, .inl q_17.1), (0, .inr (.inr (some a0))), (1, .inl v1), (2, .inl v2)]) (st' := [.inl (3 : Int32), .inl (4 : Int32), .inl q_17.1, .inr (.inr (some a0))]) (by decide +kernel) rfl rfl ?_
        obtain ⟨b_35, h36, h⟩ := bd h
        obtain ⟨eh36, th36⟩ := g_o_some h36
        obtain ⟨q_33, h34, h⟩ := bd h
        refine xv_cvo E eh36 12 (as := [.inl q_17.1, .inl (4 : Int32), .inl (3 : Int32)]) (t166 G l (c_I_some h34)) cd166 mw947 mw948 mw949 (show decode prog_14_method_50_code 65 = .ok (.invokevirtual 198, 3) by decide +kernel) th36 rfl rfl (Nat.le_of_ble_eq_true rfl) ⟨Nat.le_of_ble_eq_true rfl, Nat.le_of_ble_eq_true rfl⟩ ?_
        refine xv_ldcw E (16777214 : Int32) mw1060 (show decode prog_14_method_50_code 68 = .ok (.ldc_w 300, 3) by decide +kernel) ?_
        by_cases q41 : q_33.1 = (16777214 : Int32)
        · rw [if_pos q41] at h
          refine xv_icmp_ne E 84 (show decode prog_14_method_50_code 71 = .ok (.if_icmp .ne (13), 3) by decide +kernel) rfl (fun z => absurd q41 z) (fun _ => ?_)
          refine xv_b E [.aload_n 0, .iload_n 1, .iload 4] (pc' := 78) (lv' := [(4, .inl q_21.1), (3, .inl q_17.1), (0, .inr (.inr (some a0))), (1, .inl v1), (2, .inl v2)]) (st' := [.inl q_21.1, .inl v1, .inr (.inr (some a0))]) (by decide +kernel) rfl rfl ?_
          obtain ⟨b_39, h40, h⟩ := bd h
          obtain ⟨eh40, th40⟩ := g_o_some h40
          obtain ⟨q_37, h38, h⟩ := bd h
          refine xv_cvo E eh40 12 (as := [.inl v1, .inl q_21.1]) (t220 G l (c_V_some h38)) cd220 mw1127 mw1128 mw1129 (show decode prog_14_method_50_code 78 = .ok (.invokevirtual 355, 3) by decide +kernel) th40 rfl rfl (Nat.le_of_ble_eq_true rfl) ⟨Nat.le_of_ble_eq_true rfl, Nat.le_of_ble_eq_true rfl⟩ ?_
          refine xv_goto E 110 (show decode prog_14_method_50_code 81 = .ok (.goto (29), 3) by decide +kernel) rfl ?_
          exact xv_w (sb221_110 E B a0 v1 v2 q_17.1 q_37 h hN) rfl
        · rw [if_neg q41] at h
          refine xv_icmp_ne E 84 (show decode prog_14_method_50_code 71 = .ok (.if_icmp .ne (13), 3) by decide +kernel) rfl (fun _ => ?_) (fun z => absurd z q41)
          exact xv_w (sb221_84 E B a0 v1 v2 q_17.1 q_21.1 q_33.2 h hN) rfl
      · rw [if_neg q42] at h
        refine xv_icmp_ne E 84 (show decode prog_14_method_50_code 58 = .ok (.if_icmp .ne (26), 3) by decide +kernel) rfl (fun _ => ?_) (fun z => absurd z q42)
        exact xv_w (sb221_84 E B a0 v1 v2 q_17.1 q_21.1 q_29.2 h hN) rfl
end
theorem t221 (G : gX) (l : Launch) {as : List aV} {M : hM} {r : Option aV} {M' : hM} (h : f221 as M = some (r, M')) : xM G l ym221 prog_14_method_50_code 5 none 9 as M r M' := by
  unfold f221 at h
  split at h
  · have hle : ∀ h as M res, k221 h as M = some res → h_sz M ≤ r_sz res ∧ h_sl M ≤ r_sl res := by
      intro h as M res hb
      unfold k221 at hb
      by_cases e0 : h = 6
      · rw [if_pos e0] at hb
        split at hb
        · exact lb221_6 G l _ _ _ M hb
        · cases hb
      · rw [if_neg e0] at hb
        cases hb
    obtain ⟨res, hx, hres⟩ := x_go_ok h
    refine xM_of (by decide) (Nat.le_of_ble_eq_true rfl) ?_ ?_
    · have e1 := lb221_0 G l _ _ M hx
      have e2 := x_go_le hle hres
      omega
    · intro p e s m args below meth c E B
      refine sb221_0 E B _ _ M hx (hres _ ?_)
      intro h as M res hb hN
      unfold k221 at hb
      unfold pg221
      by_cases e0 : h = 6
      · rw [if_pos e0] at hb ⊢
        split at hb
        · exact sb221_6 E B _ _ _ M hb hN
        · cases hb
      · rw [if_neg e0] at hb ⊢
        cases hb
  · cases h
/-! ZFModel.floods(III)V -/
def ym222 : MethodName := ⟨"ZonedFabricModel", "floods", "(III)V"⟩
theorem cd222 : xCd ym222 prog_14_method_44_code 6 none 3 := ⟨mw1133, mw864, by decide, by decide, by decide +kernel⟩
def b222_0 (a0 : Nat) (v1 : Int32) (v2 : Int32) (v3 : Int32) (M : hM) : Option xRes :=
  some (.inr (3, [.inr (.inr (some a0)), .inl v1, .inl v2, .inl v3, .inl (0 : Int32)], M))
def b222_48 (a0 : Nat) (v1 : Int32) (v2 : Int32) (v3 : Int32) (v4 : Int32) (M : hM) : Option xRes :=
  some (.inr (3, [.inr (.inr (some a0)), .inl v1, .inl v2, .inl v3, .inl (v4 + (1 : Int32))], M))
def b222_3 (a0 : Nat) (v1 : Int32) (v2 : Int32) (v3 : Int32) (v4 : Int32) (M : hM) : Option xRes :=
  if (8 : Int32) ≤ v4 then
    (some (.inl (none, M)))
  else
    (Option.bind (g_o M 12 (some a0)) fun b_3 =>
    Option.bind (c_I (f175 [.inr (.inr (some b_3)), .inl v1, .inl v4] M)) fun q_1 =>
    Option.bind (g_r q_1.2 12 23 (some a0)) fun o_5 =>
    Option.bind (al_i q_1.2 20 o_5 q_1.1) fun v_7 =>
    if v_7 = (-1 : Int32) then
      (b222_48 a0 v1 v2 v3 v4 q_1.2)
    else
      (if q_1.1 = v3 then
        (b222_48 a0 v1 v2 v3 v4 q_1.2)
      else
        (Option.bind (g_o q_1.2 12 (some a0)) fun b_11 =>
        Option.bind (c_I (f202 [.inr (.inr (some b_11)), .inl v1, .inl v2] q_1.2)) fun q_9 =>
        Option.bind (g_o q_9.2 12 (some a0)) fun b_15 =>
        Option.bind (c_V (f183 [.inr (.inr (some b_15)), .inl q_1.1, .inl q_9.1] q_9.2)) fun q_13 =>
        b222_48 a0 v1 v2 v3 v4 q_13)))
def k222 (h : Nat) (as : List aV) (M : hM) : Option xRes :=
  if h = 3 then (match as with | [.inr (.inr (some a0)), .inl v1, .inl v2, .inl v3, .inl v4] => b222_3 a0 v1 v2 v3 v4 M | _ => none) else
  none
def f222 (as : List aV) (M : hM) : xO := match as with
  | [.inr (.inr (some a0)), .inl v1, .inl v2, .inl v3] => x_go k222 (b222_0 a0 v1 v2 v3 M)
  | _ => none
theorem lb222_0 (G : gX) (l : Launch) (a0 : Nat) (v1 : Int32) (v2 : Int32) (v3 : Int32) (M : hM) {res : xRes} (h : b222_0 a0 v1 v2 v3 M = some res) : h_sz M ≤ r_sz res ∧ h_sl M ≤ r_sl res := by
  unfold b222_0 at h
  obtain rfl := Option.some.inj h
  show h_sz M ≤ h_sz M ∧ h_sl M ≤ h_sl M
  omega
theorem lb222_48 (G : gX) (l : Launch) (a0 : Nat) (v1 : Int32) (v2 : Int32) (v3 : Int32) (v4 : Int32) (M : hM) {res : xRes} (h : b222_48 a0 v1 v2 v3 v4 M = some res) : h_sz M ≤ r_sz res ∧ h_sl M ≤ r_sl res := by
  unfold b222_48 at h
  obtain rfl := Option.some.inj h
  show h_sz M ≤ h_sz M ∧ h_sl M ≤ h_sl M
  omega
theorem lb222_3 (G : gX) (l : Launch) (a0 : Nat) (v1 : Int32) (v2 : Int32) (v3 : Int32) (v4 : Int32) (M : hM) {res : xRes} (h : b222_3 a0 v1 v2 v3 v4 M = some res) : h_sz M ≤ r_sz res ∧ h_sl M ≤ r_sl res := by
  unfold b222_3 at h
  by_cases q19 : (8 : Int32) ≤ v4
  · rw [if_pos q19] at h
    obtain rfl := Option.some.inj h
    show h_sz M ≤ h_sz M ∧ h_sl M ≤ h_sl M
    omega
  · rw [if_neg q19] at h
    obtain ⟨b_3, h4, h⟩ := bd h
    obtain ⟨q_1, h2, h⟩ := bd h
    have eh2 := (t175 G l (c_I_some h2)).1
    obtain ⟨o_5, h6, h⟩ := bd h
    obtain ⟨v_7, h8, h⟩ := bd h
    by_cases q18 : v_7 = (-1 : Int32)
    · rw [if_pos q18] at h
      have e := lb222_48 G l a0 v1 v2 v3 v4 q_1.2 h
      omega
    · rw [if_neg q18] at h
      by_cases q17 : q_1.1 = v3
      · rw [if_pos q17] at h
        have e := lb222_48 G l a0 v1 v2 v3 v4 q_1.2 h
        omega
      · rw [if_neg q17] at h
        obtain ⟨b_11, h12, h⟩ := bd h
        obtain ⟨q_9, h10, h⟩ := bd h
        have eh10 := (t202 G l (c_I_some h10)).1
        obtain ⟨b_15, h16, h⟩ := bd h
        obtain ⟨q_13, h14, h⟩ := bd h
        have eh14 := (t183 G l (c_V_some h14)).1
        have e := lb222_48 G l a0 v1 v2 v3 v4 q_13 h
        omega
section
variable {p : Program} {l : Launch} {e : Env} {s : State} {m : MethodId} {args : Array Value} {below : List Frame} {meth : Method} {c : Code} {G : gX} {z0 y0 : Nat} {r : Option aV} {M' : hM}
def pg222 (p : Program) (l : Launch) (e : Env) (s : State) (m : MethodId) (args : Array Value) (below : List Frame) (meth : Method) (c : Code) (G : gX) (z0 y0 : Nat) (r : Option aV) (M' : hM) (h : Nat) (as : List aV) (M : hM) : Prop :=
  if h = 3 then (match as with | [.inr (.inr (some a0)), .inl v1, .inl v2, .inl v3, .inl v4] => xV G p l e (xRm 4 (h_sz M' - z0) (h_sl M' - y0)) s m args below meth c z0 y0 (h_sz M') (h_sl M') 6 (MQ below (xQc G r M') args s (h_sz M' - z0) (h_sl M' - y0) (xFr G)) 3 [(0, .inr (.inr (some a0))), (1, .inl v1), (2, .inl v2), (3, .inl v3), (4, .inl v4)] [] M | _ => False) else
  False
theorem sb222_0 (E : xE G p (xRm 4 (h_sz M' - z0) (h_sl M' - y0)) s m args c prog_14_method_44_code "ZonedFabricModel" z0 y0 (h_sz M') (h_sl M') 6) (B : xB ym222 none meth) (a0 : Nat) (v1 : Int32) (v2 : Int32) (v3 : Int32) (M : hM) {res : xRes} (h : b222_0 a0 v1 v2 v3 M = some res) (hN : xN (pg222 p l e s m args below meth c G z0 y0 r M') r M' res) : xV G p l e (xRm 4 (h_sz M' - z0) (h_sl M' - y0)) s m args below meth c z0 y0 (h_sz M') (h_sl M') 6 (MQ below (xQc G r M') args s (h_sz M' - z0) (h_sl M' - y0) (xFr G)) 0 [(0, .inr (.inr (some a0))), (1, .inl v1), (2, .inl v2), (3, .inl v3)] [] M := by
  unfold b222_0 at h
  refine xv_b E [.iconst 0, .istore 4] (pc' := 3) (lv' := [(4, .inl (0 : Int32)), (0, .inr (.inr (some a0))), (1, .inl v1), (2, .inl v2), (3, .inl v3)]) (st' := []) (by decide +kernel) rfl rfl ?_
  obtain rfl := Option.some.inj h
  exact xv_w hN rfl
theorem sb222_48 (E : xE G p (xRm 4 (h_sz M' - z0) (h_sl M' - y0)) s m args c prog_14_method_44_code "ZonedFabricModel" z0 y0 (h_sz M') (h_sl M') 6) (B : xB ym222 none meth) (a0 : Nat) (v1 : Int32) (v2 : Int32) (v3 : Int32) (v4 : Int32) (M : hM) {res : xRes} (h : b222_48 a0 v1 v2 v3 v4 M = some res) (hN : xN (pg222 p l e s m args below meth c G z0 y0 r M') r M' res) : xV G p l e (xRm 4 (h_sz M' - z0) (h_sl M' - y0)) s m args below meth c z0 y0 (h_sz M') (h_sl M') 6 (MQ below (xQc G r M') args s (h_sz M' - z0) (h_sl M' - y0) (xFr G)) 48 [(0, .inr (.inr (some a0))), (1, .inl v1), (2, .inl v2), (3, .inl v3), (4, .inl v4)] [] M := by
  unfold b222_48 at h
  refine xv_b E [.iinc 4 1] (pc' := 51) (lv' := [(4, .inl (v4 + (1 : Int32))), (0, .inr (.inr (some a0))), (1, .inl v1), (2, .inl v2), (3, .inl v3)]) (st' := []) (by decide +kernel) rfl rfl ?_
  refine xv_goto E 3 (show decode prog_14_method_44_code 51 = .ok (.goto (-48), 3) by decide +kernel) rfl ?_
  obtain rfl := Option.some.inj h
  exact xv_w hN rfl
theorem sb222_3 (E : xE G p (xRm 4 (h_sz M' - z0) (h_sl M' - y0)) s m args c prog_14_method_44_code "ZonedFabricModel" z0 y0 (h_sz M') (h_sl M') 6) (B : xB ym222 none meth) (a0 : Nat) (v1 : Int32) (v2 : Int32) (v3 : Int32) (v4 : Int32) (M : hM) {res : xRes} (h : b222_3 a0 v1 v2 v3 v4 M = some res) (hN : xN (pg222 p l e s m args below meth c G z0 y0 r M') r M' res) : xV G p l e (xRm 4 (h_sz M' - z0) (h_sl M' - y0)) s m args below meth c z0 y0 (h_sz M') (h_sl M') 6 (MQ below (xQc G r M') args s (h_sz M' - z0) (h_sl M' - y0) (xFr G)) 3 [(0, .inr (.inr (some a0))), (1, .inl v1), (2, .inl v2), (3, .inl v3), (4, .inl v4)] [] M := by
  unfold b222_3 at h
  refine xv_b E [.iload 4, .bipush 8] (pc' := 7) (lv' := [(0, .inr (.inr (some a0))), (1, .inl v1), (2, .inl v2), (3, .inl v3), (4, .inl v4)]) (st' := [.inl (8 : Int32), .inl v4]) (by decide +kernel) rfl rfl ?_
  by_cases q19 : (8 : Int32) ≤ v4
  · rw [if_pos q19] at h
    refine xv_icmp_ge E 54 (show decode prog_14_method_44_code 7 = .ok (.if_icmp .ge (47), 3) by decide +kernel) rfl (fun _ => ?_) (fun z => absurd q19 z)
    obtain rfl := Option.some.inj h
    obtain ⟨rfl, rfl⟩ := Prod.mk.inj (show ((none : Option aV), M) = (r, M') from hN)
    exact xv_rv E B.1 B.2.1 (show decode prog_14_method_44_code 54 = .ok (.return_, 1) by decide +kernel) rfl rfl
  · rw [if_neg q19] at h
    refine xv_icmp_ge E 54 (show decode prog_14_method_44_code 7 = .ok (.if_icmp .ge (47), 3) by decide +kernel) rfl (fun z => absurd z q19) (fun _ => ?_)
    refine xv_b E [.aload_n 0, .iload_n 1, .iload 4] (pc' := 14) (lv' := [(0, .inr (.inr (some a0))), (1, .inl v1), (2, .inl v2), (3, .inl v3), (4, .inl v4)]) (st' := [.inl v4, .inl v1, .inr (.inr (some a0))]) (by decide +kernel) rfl rfl ?_
    obtain ⟨b_3, h4, h⟩ := bd h
    obtain ⟨eh4, th4⟩ := g_o_some h4
    obtain ⟨q_1, h2, h⟩ := bd h
    refine xv_cvo E eh4 12 (as := [.inl v1, .inl v4]) (t175 G l (c_I_some h2)) cd175 mw1134 mw1135 mw1136 (show decode prog_14_method_44_code 14 = .ok (.invokevirtual 288, 3) by decide +kernel) th4 rfl rfl (Nat.le_of_ble_eq_true rfl) ⟨Nat.le_of_ble_eq_true rfl, Nat.le_of_ble_eq_true rfl⟩ ?_
    refine xv_b E [.istore 5, .aload_n 0] (pc' := 20) (lv' := [(5, .inl q_1.1), (0, .inr (.inr (some a0))), (1, .inl v1), (2, .inl v2), (3, .inl v3), (4, .inl v4)]) (st' := [.inr (.inr (some a0))]) (by decide +kernel) rfl rfl ?_
    obtain ⟨o_5, h6, h⟩ := bd h
    refine xg_r E 12 23 h6 mw883 (show decode prog_14_method_44_code 20 = .ok (.getfield 64, 3) by decide +kernel) ?_
    refine xv_b E [.iload 5] (pc' := 25) (lv' := [(5, .inl q_1.1), (0, .inr (.inr (some a0))), (1, .inl v1), (2, .inl v2), (3, .inl v3), (4, .inl v4)]) (st' := [.inl q_1.1, .inr (.inr o_5)]) (by decide +kernel) rfl rfl ?_
    obtain ⟨v_7, h8, h⟩ := bd h
    refine xa_i E h8 (show decode prog_14_method_44_code 25 = .ok (.iaload, 1) by decide +kernel) ?_
    refine xv_b E [.iconst (-1)] (pc' := 27) (lv' := [(5, .inl q_1.1), (0, .inr (.inr (some a0))), (1, .inl v1), (2, .inl v2), (3, .inl v3), (4, .inl v4)]) (st' := [.inl (-1 : Int32), .inl v_7]) (by decide +kernel) rfl rfl ?_
    by_cases q18 : v_7 = (-1 : Int32)
    · rw [if_pos q18] at h
      refine xv_icmp_eq E 48 (show decode prog_14_method_44_code 27 = .ok (.if_icmp .eq (21), 3) by decide +kernel) rfl (fun _ => ?_) (fun z => absurd q18 z)
      exact xv_w (sb222_48 E B a0 v1 v2 v3 v4 q_1.2 h hN) rfl
    · rw [if_neg q18] at h
      refine xv_icmp_eq E 48 (show decode prog_14_method_44_code 27 = .ok (.if_icmp .eq (21), 3) by decide +kernel) rfl (fun z => absurd z q18) (fun _ => ?_)
      refine xv_b E [.iload 5, .iload_n 3] (pc' := 33) (lv' := [(5, .inl q_1.1), (0, .inr (.inr (some a0))), (1, .inl v1), (2, .inl v2), (3, .inl v3), (4, .inl v4)]) (st' := [.inl v3, .inl q_1.1]) (by decide +kernel) rfl rfl ?_
      by_cases q17 : q_1.1 = v3
      · rw [if_pos q17] at h
        refine xv_icmp_eq E 48 (show decode prog_14_method_44_code 33 = .ok (.if_icmp .eq (15), 3) by decide +kernel) rfl (fun _ => ?_) (fun z => absurd q17 z)
        exact xv_w (sb222_48 E B a0 v1 v2 v3 v4 q_1.2 h hN) rfl
      · rw [if_neg q17] at h
        refine xv_icmp_eq E 48 (show decode prog_14_method_44_code 33 = .ok (.if_icmp .eq (15), 3) by decide +kernel) rfl (fun z => absurd z q17) (fun _ => ?_)
        refine xv_b E [.aload_n 0, .iload 5, .aload_n 0, .iload_n 1, .iload_n 2] (pc' := 42) (lv' := [(5, .inl q_1.1), (0, .inr (.inr (some a0))), (1, .inl v1), (2, .inl v2), (3, .inl v3), (4, .inl v4)]) (st' := [.inl v2, .inl v1, .inr (.inr (some a0)), .inl q_1.1, .inr (.inr (some a0))]) (by decide +kernel) rfl rfl ?_
        obtain ⟨b_11, h12, h⟩ := bd h
        obtain ⟨eh12, th12⟩ := g_o_some h12
        obtain ⟨q_9, h10, h⟩ := bd h
        refine xv_cvo E eh12 12 (as := [.inl v1, .inl v2]) (t202 G l (c_I_some h10)) cd202 mw1137 mw1138 mw1139 (show decode prog_14_method_44_code 42 = .ok (.invokevirtual 319, 3) by decide +kernel) th12 rfl rfl (Nat.le_of_ble_eq_true rfl) ⟨Nat.le_of_ble_eq_true rfl, Nat.le_of_ble_eq_true rfl⟩ ?_
        obtain ⟨b_15, h16, h⟩ := bd h
        obtain ⟨eh16, th16⟩ := g_o_some h16
        obtain ⟨q_13, h14, h⟩ := bd h
        refine xv_cvo E eh16 12 (as := [.inl q_1.1, .inl q_9.1]) (t183 G l (c_V_some h14)) cd183 mw1043 mw1044 mw1045 (show decode prog_14_method_44_code 45 = .ok (.invokevirtual 301, 3) by decide +kernel) th16 rfl rfl (Nat.le_of_ble_eq_true rfl) ⟨Nat.le_of_ble_eq_true rfl, Nat.le_of_ble_eq_true rfl⟩ ?_
        exact xv_w (sb222_48 E B a0 v1 v2 v3 v4 q_13 h hN) rfl
end
theorem t222 (G : gX) (l : Launch) {as : List aV} {M : hM} {r : Option aV} {M' : hM} (h : f222 as M = some (r, M')) : xM G l ym222 prog_14_method_44_code 6 none 4 as M r M' := by
  unfold f222 at h
  split at h
  · have hle : ∀ h as M res, k222 h as M = some res → h_sz M ≤ r_sz res ∧ h_sl M ≤ r_sl res := by
      intro h as M res hb
      unfold k222 at hb
      by_cases e0 : h = 3
      · rw [if_pos e0] at hb
        split at hb
        · exact lb222_3 G l _ _ _ _ _ M hb
        · cases hb
      · rw [if_neg e0] at hb
        cases hb
    obtain ⟨res, hx, hres⟩ := x_go_ok h
    refine xM_of (by decide) (Nat.le_of_ble_eq_true rfl) ?_ ?_
    · have e1 := lb222_0 G l _ _ _ _ M hx
      have e2 := x_go_le hle hres
      omega
    · intro p e s m args below meth c E B
      refine sb222_0 E B _ _ _ _ M hx (hres _ ?_)
      intro h as M res hb hN
      unfold k222 at hb
      unfold pg222
      by_cases e0 : h = 3
      · rw [if_pos e0] at hb ⊢
        split at hb
        · exact sb222_3 E B _ _ _ _ _ M hb hN
        · cases hb
      · rw [if_neg e0] at hb ⊢
        cases hb
  · cases h
/-! ZFModel.issues(I)V -/
def ym223 : MethodName := ⟨"ZonedFabricModel", "issues", "(I)V"⟩
theorem cd223 : xCd ym223 prog_14_method_43_code 9 none 1 := ⟨mw1140, mw864, by decide, by decide, by decide +kernel⟩
def b223_0 (a0 : Nat) (v1 : Int32) (M : hM) : Option xRes :=
  Option.bind (g_r M 12 31 (some a0)) fun o_1 =>
  Option.bind (as_i M 20 o_1 (0 : Int32) v1) fun M3 =>
  Option.bind (g_r M3 12 31 (some a0)) fun o_5 =>
  Option.bind (g_r M3 12 26 (some a0)) fun o_7 =>
  Option.bind (al_i M3 20 o_7 v1) fun v_9 =>
  Option.bind (as_i M3 20 o_5 (4 : Int32) v_9) fun M11 =>
  some (.inr (29, [.inr (.inr (some a0)), .inl v1, .inl (6 : Int32), .inl (0 : Int32), .inl (0 : Int32)], M11))
def b223_108 (a0 : Nat) (v1 : Int32) (v2 : Int32) (v3 : Int32) (v4 : Int32) (M : hM) : Option xRes :=
  some (.inr (29, [.inr (.inr (some a0)), .inl v1, .inl v2, .inl v3, .inl (v4 + (1 : Int32))], M))
def b223_29 (a0 : Nat) (v1 : Int32) (v2 : Int32) (v3 : Int32) (v4 : Int32) (M : hM) : Option xRes :=
  if (8 : Int32) ≤ v4 then
    (Option.bind (g_r M 12 31 (some a0)) fun o_13 =>
    Option.bind (as_i M 20 o_13 (5 : Int32) v3) fun M15 =>
    some (.inr (132, [.inr (.inr (some a0)), .inl v1, .inl (v2 + (1 : Int32)), .inl (0 : Int32), .inl v2, .inl (0 : Int32)], M15)))
  else
    (Option.bind (g_o M 12 (some a0)) fun b_19 =>
    Option.bind (c_I (f175 [.inr (.inr (some b_19)), .inl v1, .inl v4] M)) fun q_17 =>
    Option.bind (g_r q_17.2 12 23 (some a0)) fun o_21 =>
    Option.bind (al_i q_17.2 20 o_21 q_17.1) fun v_23 =>
    if v_23 = (-1 : Int32) then
      (b223_108 a0 v1 v2 v3 v4 q_17.2)
    else
      (Option.bind (g_r q_17.2 12 31 (some a0)) fun o_25 =>
      Option.bind (as_i q_17.2 20 o_25 v2 v4) fun M27 =>
      Option.bind (g_r M27 12 31 (some a0)) fun o_29 =>
      Option.bind (g_r M27 12 23 (some a0)) fun o_31 =>
      Option.bind (al_i M27 20 o_31 q_17.1) fun v_33 =>
      Option.bind (as_i M27 20 o_29 (v2 + (1 : Int32)) v_33) fun M35 =>
      Option.bind (g_r M35 12 31 (some a0)) fun o_37 =>
      Option.bind (g_r M35 12 11 (some a0)) fun o_39 =>
      Option.bind (g_r M35 12 14 (some a0)) fun o_41 =>
      Option.bind (al_i M35 20 o_41 q_17.1) fun v_43 =>
      Option.bind (al_i M35 20 o_39 v_43) fun v_45 =>
      Option.bind (as_i M35 20 o_37 (v2 + (2 : Int32)) v_45) fun M47 =>
      b223_108 a0 v1 (v2 + (3 : Int32)) (v3 + (1 : Int32)) v4 M47))
def b223_195 (a0 : Nat) (v1 : Int32) (v2 : Int32) (v3 : Int32) (v4 : Int32) (v5 : Int32) (M : hM) : Option xRes :=
  some (.inr (132, [.inr (.inr (some a0)), .inl v1, .inl v2, .inl v3, .inl v4, .inl (v5 + (1 : Int32))], M))
def b223_259 (a0 : Nat) (v1 : Int32) (v2 : Int32) (v5 : Int32) (si0 : Int32) (M : hM) : Option xRes :=
  some (.inr (264, [.inr (.inr (some a0)), .inl v1, .inl v2, .inl v5, .inl si0, .inl (4 : Int32)], M))
def b223_258 (a0 : Nat) (v1 : Int32) (v2 : Int32) (v5 : Int32) (M : hM) : Option xRes :=
  b223_259 a0 v1 v2 v5 (0 : Int32) M
def b223_132 (a0 : Nat) (v1 : Int32) (v2 : Int32) (v3 : Int32) (v4 : Int32) (v5 : Int32) (M : hM) : Option xRes :=
  if (8 : Int32) ≤ v5 then
    (Option.bind (g_r M 12 31 (some a0)) fun o_51 =>
    Option.bind (as_i M 20 o_51 v4 v3) fun M53 =>
    Option.bind (g_r M53 12 27 (some a0)) fun o_55 =>
    Option.bind (al_i M53 22 o_55 (((5 : Int32) * v1) + v1)) fun v_57 =>
    if v_57 = 0 then
      (b223_258 a0 v1 v2 (((5 : Int32) * v1) + v1) M53)
    else
      (Option.bind (g_r M53 12 30 (some a0)) fun o_59 =>
      Option.bind (al_i M53 20 o_59 (((5 : Int32) * v1) + v1)) fun v_61 =>
      if v_61 = v2 then
        (Option.bind (g_i M53 12 3 (some a0)) fun v_63 =>
        Option.bind (g_r M53 12 28 (some a0)) fun o_65 =>
        Option.bind (al_i M53 20 o_65 (((5 : Int32) * v1) + v1)) fun v_67 =>
        if (40 : Int32) ≤ (v_63 - v_67) then
          (b223_258 a0 v1 v2 (((5 : Int32) * v1) + v1) M53)
        else
          (b223_259 a0 v1 v2 (((5 : Int32) * v1) + v1) (1 : Int32) M53))
      else
        (b223_258 a0 v1 v2 (((5 : Int32) * v1) + v1) M53)))
  else
    (Option.bind (g_r M 12 25 (some a0)) fun o_72 =>
    Option.bind (g_o M 12 (some a0)) fun b_76 =>
    Option.bind (c_I (f175 [.inr (.inr (some b_76)), .inl v1, .inl v5] M)) fun q_74 =>
    Option.bind (al_i q_74.2 20 o_72 q_74.1) fun v_78 =>
    if v_78 = 0 then
      (b223_195 a0 v1 v2 v3 v4 v5 q_74.2)
    else
      (Option.bind (g_r q_74.2 12 31 (some a0)) fun o_80 =>
      Option.bind (g_r q_74.2 12 25 (some a0)) fun o_82 =>
      Option.bind (g_o q_74.2 12 (some a0)) fun b_86 =>
      Option.bind (c_I (f175 [.inr (.inr (some b_86)), .inl v1, .inl v5] q_74.2)) fun q_84 =>
      Option.bind (al_i q_84.2 20 o_82 q_84.1) fun v_88 =>
      Option.bind (g_o q_84.2 12 (some a0)) fun b_92 =>
      Option.bind (c_I (f189 [.inr (.inr (some b_92)), .inl v_88] q_84.2)) fun q_90 =>
      Option.bind (as_i q_90.2 20 o_80 v2 q_90.1) fun M94 =>
      Option.bind (g_r M94 12 31 (some a0)) fun o_96 =>
      Option.bind (as_i M94 20 o_96 (v2 + (1 : Int32)) v5) fun M98 =>
      b223_195 a0 v1 (v2 + (2 : Int32)) (v3 + (1 : Int32)) v4 v5 M98))
def b223_303 (a0 : Nat) (v1 : Int32) (v2 : Int32) (v5 : Int32) (v7 : Int32) (si0 : Int32) (M : hM) : Option xRes :=
  some (.inr (264, [.inr (.inr (some a0)), .inl v1, .inl v2, .inl v5, .inl si0, .inl (v7 + (1 : Int32))], M))
def b223_339 (a0 : Nat) (v1 : Int32) (v2 : Int32) (v5 : Int32) (si0 : Int32) (M : hM) : Option xRes :=
  Option.bind (g_r M 12 31 (some a0)) fun o_123 =>
  Option.bind (as_i M 20 o_123 (1 : Int32) ((si0 >>> ((16 : Int32) &&& 31)) &&& (255 : Int32))) fun M125 =>
  Option.bind (g_r M125 12 31 (some a0)) fun o_127 =>
  Option.bind (as_i M125 20 o_127 (2 : Int32) ((si0 >>> ((8 : Int32) &&& 31)) &&& (255 : Int32))) fun M129 =>
  Option.bind (g_r M129 12 31 (some a0)) fun o_131 =>
  Option.bind (as_i M129 20 o_131 (3 : Int32) (si0 &&& (255 : Int32))) fun M133 =>
  some (.inr (386, [.inr (.inr (some a0)), .inl v1, .inl v2, .inl v5, .inl (0 : Int32)], M133))
def b223_311 (a0 : Nat) (v1 : Int32) (v2 : Int32) (v5 : Int32) (v6 : Int32) (M : hM) : Option xRes :=
  if v6 = 0 then
    (Option.bind (g_r M 12 27 (some a0)) fun o_113 =>
    Option.bind (al_i M 22 o_113 v5) fun v_115 =>
    if v_115 = 0 then
      (b223_339 a0 v1 v2 v5 (1 : Int32) M)
    else
      (Option.bind (g_o M 12 (some a0)) fun b_119 =>
      Option.bind (c_I (f191 [.inr (.inr (some b_119)), .inl v1, .inl v1] M)) fun q_117 =>
      b223_339 a0 v1 v2 v5 (q_117.1 + (1 : Int32)) q_117.2))
  else
    (some (.inl (none, M)))
def b223_264 (a0 : Nat) (v1 : Int32) (v2 : Int32) (v5 : Int32) (v6 : Int32) (v7 : Int32) (M : hM) : Option xRes :=
  if v2 ≤ v7 then
    (b223_311 a0 v1 v2 v5 v6 M)
  else
    (if v6 = 0 then
      (b223_311 a0 v1 v2 v5 v6 M)
    else
      (Option.bind (g_r M 12 29 (some a0)) fun o_102 =>
      Option.bind (al_i M 20 o_102 (((64 : Int32) * v5) + v7)) fun v_104 =>
      Option.bind (g_r M 12 31 (some a0)) fun o_106 =>
      Option.bind (al_i M 20 o_106 v7) fun v_108 =>
      if v_104 = v_108 then
        (b223_303 a0 v1 v2 v5 v7 (1 : Int32) M)
      else
        (b223_303 a0 v1 v2 v5 v7 (0 : Int32) M)))
def b223_386 (a0 : Nat) (v1 : Int32) (v2 : Int32) (v5 : Int32) (v8 : Int32) (M : hM) : Option xRes :=
  if v2 ≤ v8 then
    (Option.bind (g_r M 12 30 (some a0)) fun o_135 =>
    Option.bind (as_i M 20 o_135 v5 v2) fun M137 =>
    Option.bind (g_r M137 12 27 (some a0)) fun o_139 =>
    Option.bind (as_z M137 22 o_139 v5 (1 : Int32)) fun M141 =>
    Option.bind (g_r M141 12 28 (some a0)) fun o_143 =>
    Option.bind (g_i M141 12 3 (some a0)) fun v_145 =>
    Option.bind (as_i M141 20 o_143 v5 v_145) fun M147 =>
    Option.bind (g_r M147 12 4 (some a0)) fun o_149 =>
    Option.bind (al_i M147 20 o_149 (8 : Int32)) fun v_151 =>
    Option.bind (as_i M147 20 o_149 (8 : Int32) (v_151 + (1 : Int32))) fun M153 =>
    Option.bind (g_o M153 12 (some a0)) fun b_157 =>
    Option.bind (c_V (f222 [.inr (.inr (some b_157)), .inl v1, .inl v1, .inl (-1 : Int32)] M153)) fun q_155 =>
    some (.inl (none, q_155)))
  else
    (Option.bind (g_r M 12 29 (some a0)) fun o_159 =>
    Option.bind (g_r M 12 31 (some a0)) fun o_161 =>
    Option.bind (al_i M 20 o_161 v8) fun v_163 =>
    Option.bind (as_i M 20 o_159 (((64 : Int32) * v5) + v8) v_163) fun M165 =>
    some (.inr (386, [.inr (.inr (some a0)), .inl v1, .inl v2, .inl v5, .inl (v8 + (1 : Int32))], M165)))
def k223 (h : Nat) (as : List aV) (M : hM) : Option xRes :=
  if h = 29 then (match as with | [.inr (.inr (some a0)), .inl v1, .inl v2, .inl v3, .inl v4] => b223_29 a0 v1 v2 v3 v4 M | _ => none) else
  if h = 132 then (match as with | [.inr (.inr (some a0)), .inl v1, .inl v2, .inl v3, .inl v4, .inl v5] => b223_132 a0 v1 v2 v3 v4 v5 M | _ => none) else
  if h = 264 then (match as with | [.inr (.inr (some a0)), .inl v1, .inl v2, .inl v5, .inl v6, .inl v7] => b223_264 a0 v1 v2 v5 v6 v7 M | _ => none) else
  if h = 386 then (match as with | [.inr (.inr (some a0)), .inl v1, .inl v2, .inl v5, .inl v8] => b223_386 a0 v1 v2 v5 v8 M | _ => none) else
  none
def f223 (as : List aV) (M : hM) : xO := match as with
  | [.inr (.inr (some a0)), .inl v1] => x_go k223 (b223_0 a0 v1 M)
  | _ => none
theorem lb223_0 (G : gX) (l : Launch) (a0 : Nat) (v1 : Int32) (M : hM) {res : xRes} (h : b223_0 a0 v1 M = some res) : h_sz M ≤ r_sz res ∧ h_sl M ≤ r_sl res := by
  unfold b223_0 at h
  obtain ⟨o_1, h2, h⟩ := bd h
  obtain ⟨M3, h4, h⟩ := bd h
  have eh4 := as_i_sz h4
  obtain ⟨o_5, h6, h⟩ := bd h
  obtain ⟨o_7, h8, h⟩ := bd h
  obtain ⟨v_9, h10, h⟩ := bd h
  obtain ⟨M11, h12, h⟩ := bd h
  have eh12 := as_i_sz h12
  obtain rfl := Option.some.inj h
  show h_sz M ≤ h_sz M11 ∧ h_sl M ≤ h_sl M11
  omega
theorem lb223_108 (G : gX) (l : Launch) (a0 : Nat) (v1 : Int32) (v2 : Int32) (v3 : Int32) (v4 : Int32) (M : hM) {res : xRes} (h : b223_108 a0 v1 v2 v3 v4 M = some res) : h_sz M ≤ r_sz res ∧ h_sl M ≤ r_sl res := by
  unfold b223_108 at h
  obtain rfl := Option.some.inj h
  show h_sz M ≤ h_sz M ∧ h_sl M ≤ h_sl M
  omega
theorem lb223_29 (G : gX) (l : Launch) (a0 : Nat) (v1 : Int32) (v2 : Int32) (v3 : Int32) (v4 : Int32) (M : hM) {res : xRes} (h : b223_29 a0 v1 v2 v3 v4 M = some res) : h_sz M ≤ r_sz res ∧ h_sl M ≤ r_sl res := by
  unfold b223_29 at h
  by_cases q50 : (8 : Int32) ≤ v4
  · rw [if_pos q50] at h
    obtain ⟨o_13, h14, h⟩ := bd h
    obtain ⟨M15, h16, h⟩ := bd h
    have eh16 := as_i_sz h16
    obtain rfl := Option.some.inj h
    show h_sz M ≤ h_sz M15 ∧ h_sl M ≤ h_sl M15
    omega
  · rw [if_neg q50] at h
    obtain ⟨b_19, h20, h⟩ := bd h
    obtain ⟨q_17, h18, h⟩ := bd h
    have eh18 := (t175 G l (c_I_some h18)).1
    obtain ⟨o_21, h22, h⟩ := bd h
    obtain ⟨v_23, h24, h⟩ := bd h
    by_cases q49 : v_23 = (-1 : Int32)
    · rw [if_pos q49] at h
      have e := lb223_108 G l a0 v1 v2 v3 v4 q_17.2 h
      omega
    · rw [if_neg q49] at h
      obtain ⟨o_25, h26, h⟩ := bd h
      obtain ⟨M27, h28, h⟩ := bd h
      have eh28 := as_i_sz h28
      obtain ⟨o_29, h30, h⟩ := bd h
      obtain ⟨o_31, h32, h⟩ := bd h
      obtain ⟨v_33, h34, h⟩ := bd h
      obtain ⟨M35, h36, h⟩ := bd h
      have eh36 := as_i_sz h36
      obtain ⟨o_37, h38, h⟩ := bd h
      obtain ⟨o_39, h40, h⟩ := bd h
      obtain ⟨o_41, h42, h⟩ := bd h
      obtain ⟨v_43, h44, h⟩ := bd h
      obtain ⟨v_45, h46, h⟩ := bd h
      obtain ⟨M47, h48, h⟩ := bd h
      have eh48 := as_i_sz h48
      have e := lb223_108 G l a0 v1 (v2 + (3 : Int32)) (v3 + (1 : Int32)) v4 M47 h
      omega
theorem lb223_195 (G : gX) (l : Launch) (a0 : Nat) (v1 : Int32) (v2 : Int32) (v3 : Int32) (v4 : Int32) (v5 : Int32) (M : hM) {res : xRes} (h : b223_195 a0 v1 v2 v3 v4 v5 M = some res) : h_sz M ≤ r_sz res ∧ h_sl M ≤ r_sl res := by
  unfold b223_195 at h
  obtain rfl := Option.some.inj h
  show h_sz M ≤ h_sz M ∧ h_sl M ≤ h_sl M
  omega
theorem lb223_259 (G : gX) (l : Launch) (a0 : Nat) (v1 : Int32) (v2 : Int32) (v5 : Int32) (si0 : Int32) (M : hM) {res : xRes} (h : b223_259 a0 v1 v2 v5 si0 M = some res) : h_sz M ≤ r_sz res ∧ h_sl M ≤ r_sl res := by
  unfold b223_259 at h
  obtain rfl := Option.some.inj h
  show h_sz M ≤ h_sz M ∧ h_sl M ≤ h_sl M
  omega
theorem lb223_258 (G : gX) (l : Launch) (a0 : Nat) (v1 : Int32) (v2 : Int32) (v5 : Int32) (M : hM) {res : xRes} (h : b223_258 a0 v1 v2 v5 M = some res) : h_sz M ≤ r_sz res ∧ h_sl M ≤ r_sl res := by
  unfold b223_258 at h
  have e := lb223_259 G l a0 v1 v2 v5 (0 : Int32) M h
  omega
theorem lb223_132 (G : gX) (l : Launch) (a0 : Nat) (v1 : Int32) (v2 : Int32) (v3 : Int32) (v4 : Int32) (v5 : Int32) (M : hM) {res : xRes} (h : b223_132 a0 v1 v2 v3 v4 v5 M = some res) : h_sz M ≤ r_sz res ∧ h_sl M ≤ r_sl res := by
  unfold b223_132 at h
  by_cases q101 : (8 : Int32) ≤ v5
  · rw [if_pos q101] at h
    obtain ⟨o_51, h52, h⟩ := bd h
    obtain ⟨M53, h54, h⟩ := bd h
    have eh54 := as_i_sz h54
    obtain ⟨o_55, h56, h⟩ := bd h
    obtain ⟨v_57, h58, h⟩ := bd h
    by_cases q71 : v_57 = 0
    · rw [if_pos q71] at h
      have e := lb223_258 G l a0 v1 v2 (((5 : Int32) * v1) + v1) M53 h
      omega
    · rw [if_neg q71] at h
      obtain ⟨o_59, h60, h⟩ := bd h
      obtain ⟨v_61, h62, h⟩ := bd h
      by_cases q70 : v_61 = v2
      · rw [if_pos q70] at h
        obtain ⟨v_63, h64, h⟩ := bd h
        obtain ⟨o_65, h66, h⟩ := bd h
        obtain ⟨v_67, h68, h⟩ := bd h
        by_cases q69 : (40 : Int32) ≤ (v_63 - v_67)
        · rw [if_pos q69] at h
          have e := lb223_258 G l a0 v1 v2 (((5 : Int32) * v1) + v1) M53 h
          omega
        · rw [if_neg q69] at h
          have e := lb223_259 G l a0 v1 v2 (((5 : Int32) * v1) + v1) (1 : Int32) M53 h
          omega
      · rw [if_neg q70] at h
        have e := lb223_258 G l a0 v1 v2 (((5 : Int32) * v1) + v1) M53 h
        omega
  · rw [if_neg q101] at h
    obtain ⟨o_72, h73, h⟩ := bd h
    obtain ⟨b_76, h77, h⟩ := bd h
    obtain ⟨q_74, h75, h⟩ := bd h
    have eh75 := (t175 G l (c_I_some h75)).1
    obtain ⟨v_78, h79, h⟩ := bd h
    by_cases q100 : v_78 = 0
    · rw [if_pos q100] at h
      have e := lb223_195 G l a0 v1 v2 v3 v4 v5 q_74.2 h
      omega
    · rw [if_neg q100] at h
      obtain ⟨o_80, h81, h⟩ := bd h
      obtain ⟨o_82, h83, h⟩ := bd h
      obtain ⟨b_86, h87, h⟩ := bd h
      obtain ⟨q_84, h85, h⟩ := bd h
      have eh85 := (t175 G l (c_I_some h85)).1
      obtain ⟨v_88, h89, h⟩ := bd h
      obtain ⟨b_92, h93, h⟩ := bd h
      obtain ⟨q_90, h91, h⟩ := bd h
      have eh91 := (t189 G l (c_I_some h91)).1
      obtain ⟨M94, h95, h⟩ := bd h
      have eh95 := as_i_sz h95
      obtain ⟨o_96, h97, h⟩ := bd h
      obtain ⟨M98, h99, h⟩ := bd h
      have eh99 := as_i_sz h99
      have e := lb223_195 G l a0 v1 (v2 + (2 : Int32)) (v3 + (1 : Int32)) v4 v5 M98 h
      omega
theorem lb223_303 (G : gX) (l : Launch) (a0 : Nat) (v1 : Int32) (v2 : Int32) (v5 : Int32) (v7 : Int32) (si0 : Int32) (M : hM) {res : xRes} (h : b223_303 a0 v1 v2 v5 v7 si0 M = some res) : h_sz M ≤ r_sz res ∧ h_sl M ≤ r_sl res := by
  unfold b223_303 at h
  obtain rfl := Option.some.inj h
  show h_sz M ≤ h_sz M ∧ h_sl M ≤ h_sl M
  omega
theorem lb223_339 (G : gX) (l : Launch) (a0 : Nat) (v1 : Int32) (v2 : Int32) (v5 : Int32) (si0 : Int32) (M : hM) {res : xRes} (h : b223_339 a0 v1 v2 v5 si0 M = some res) : h_sz M ≤ r_sz res ∧ h_sl M ≤ r_sl res := by
  unfold b223_339 at h
  obtain ⟨o_123, h124, h⟩ := bd h
  obtain ⟨M125, h126, h⟩ := bd h
  have eh126 := as_i_sz h126
  obtain ⟨o_127, h128, h⟩ := bd h
  obtain ⟨M129, h130, h⟩ := bd h
  have eh130 := as_i_sz h130
  obtain ⟨o_131, h132, h⟩ := bd h
  obtain ⟨M133, h134, h⟩ := bd h
  have eh134 := as_i_sz h134
  obtain rfl := Option.some.inj h
  show h_sz M ≤ h_sz M133 ∧ h_sl M ≤ h_sl M133
  omega
theorem lb223_311 (G : gX) (l : Launch) (a0 : Nat) (v1 : Int32) (v2 : Int32) (v5 : Int32) (v6 : Int32) (M : hM) {res : xRes} (h : b223_311 a0 v1 v2 v5 v6 M = some res) : h_sz M ≤ r_sz res ∧ h_sl M ≤ r_sl res := by
  unfold b223_311 at h
  by_cases q122 : v6 = 0
  · rw [if_pos q122] at h
    obtain ⟨o_113, h114, h⟩ := bd h
    obtain ⟨v_115, h116, h⟩ := bd h
    by_cases q121 : v_115 = 0
    · rw [if_pos q121] at h
      have e := lb223_339 G l a0 v1 v2 v5 (1 : Int32) M h
      omega
    · rw [if_neg q121] at h
      obtain ⟨b_119, h120, h⟩ := bd h
      obtain ⟨q_117, h118, h⟩ := bd h
      have eh118 := (t191 G l (c_I_some h118)).1
      have e := lb223_339 G l a0 v1 v2 v5 (q_117.1 + (1 : Int32)) q_117.2 h
      omega
  · rw [if_neg q122] at h
    obtain rfl := Option.some.inj h
    show h_sz M ≤ h_sz M ∧ h_sl M ≤ h_sl M
    omega
theorem lb223_264 (G : gX) (l : Launch) (a0 : Nat) (v1 : Int32) (v2 : Int32) (v5 : Int32) (v6 : Int32) (v7 : Int32) (M : hM) {res : xRes} (h : b223_264 a0 v1 v2 v5 v6 v7 M = some res) : h_sz M ≤ r_sz res ∧ h_sl M ≤ r_sl res := by
  unfold b223_264 at h
  by_cases q112 : v2 ≤ v7
  · rw [if_pos q112] at h
    have e := lb223_311 G l a0 v1 v2 v5 v6 M h
    omega
  · rw [if_neg q112] at h
    by_cases q111 : v6 = 0
    · rw [if_pos q111] at h
      have e := lb223_311 G l a0 v1 v2 v5 v6 M h
      omega
    · rw [if_neg q111] at h
      obtain ⟨o_102, h103, h⟩ := bd h
      obtain ⟨v_104, h105, h⟩ := bd h
      obtain ⟨o_106, h107, h⟩ := bd h
      obtain ⟨v_108, h109, h⟩ := bd h
      by_cases q110 : v_104 = v_108
      · rw [if_pos q110] at h
        have e := lb223_303 G l a0 v1 v2 v5 v7 (1 : Int32) M h
        omega
      · rw [if_neg q110] at h
        have e := lb223_303 G l a0 v1 v2 v5 v7 (0 : Int32) M h
        omega
theorem lb223_386 (G : gX) (l : Launch) (a0 : Nat) (v1 : Int32) (v2 : Int32) (v5 : Int32) (v8 : Int32) (M : hM) {res : xRes} (h : b223_386 a0 v1 v2 v5 v8 M = some res) : h_sz M ≤ r_sz res ∧ h_sl M ≤ r_sl res := by
  unfold b223_386 at h
  by_cases q167 : v2 ≤ v8
  · rw [if_pos q167] at h
    obtain ⟨o_135, h136, h⟩ := bd h
    obtain ⟨M137, h138, h⟩ := bd h
    have eh138 := as_i_sz h138
    obtain ⟨o_139, h140, h⟩ := bd h
    obtain ⟨M141, h142, h⟩ := bd h
    have eh142 := as_z_sz h142
    obtain ⟨o_143, h144, h⟩ := bd h
    obtain ⟨v_145, h146, h⟩ := bd h
    obtain ⟨M147, h148, h⟩ := bd h
    have eh148 := as_i_sz h148
    obtain ⟨o_149, h150, h⟩ := bd h
    obtain ⟨v_151, h152, h⟩ := bd h
    obtain ⟨M153, h154, h⟩ := bd h
    have eh154 := as_i_sz h154
    obtain ⟨b_157, h158, h⟩ := bd h
    obtain ⟨q_155, h156, h⟩ := bd h
    have eh156 := (t222 G l (c_V_some h156)).1
    obtain rfl := Option.some.inj h
    show h_sz M ≤ h_sz q_155 ∧ h_sl M ≤ h_sl q_155
    omega
  · rw [if_neg q167] at h
    obtain ⟨o_159, h160, h⟩ := bd h
    obtain ⟨o_161, h162, h⟩ := bd h
    obtain ⟨v_163, h164, h⟩ := bd h
    obtain ⟨M165, h166, h⟩ := bd h
    have eh166 := as_i_sz h166
    obtain rfl := Option.some.inj h
    show h_sz M ≤ h_sz M165 ∧ h_sl M ≤ h_sl M165
    omega
section
variable {p : Program} {l : Launch} {e : Env} {s : State} {m : MethodId} {args : Array Value} {below : List Frame} {meth : Method} {c : Code} {G : gX} {z0 y0 : Nat} {r : Option aV} {M' : hM}
def pg223 (p : Program) (l : Launch) (e : Env) (s : State) (m : MethodId) (args : Array Value) (below : List Frame) (meth : Method) (c : Code) (G : gX) (z0 y0 : Nat) (r : Option aV) (M' : hM) (h : Nat) (as : List aV) (M : hM) : Prop :=
  if h = 29 then (match as with | [.inr (.inr (some a0)), .inl v1, .inl v2, .inl v3, .inl v4] => xV G p l e (xRm 5 (h_sz M' - z0) (h_sl M' - y0)) s m args below meth c z0 y0 (h_sz M') (h_sl M') 9 (MQ below (xQc G r M') args s (h_sz M' - z0) (h_sl M' - y0) (xFr G)) 29 [(0, .inr (.inr (some a0))), (1, .inl v1), (2, .inl v2), (3, .inl v3), (4, .inl v4)] [] M | _ => False) else
  if h = 132 then (match as with | [.inr (.inr (some a0)), .inl v1, .inl v2, .inl v3, .inl v4, .inl v5] => xV G p l e (xRm 5 (h_sz M' - z0) (h_sl M' - y0)) s m args below meth c z0 y0 (h_sz M') (h_sl M') 9 (MQ below (xQc G r M') args s (h_sz M' - z0) (h_sl M' - y0) (xFr G)) 132 [(0, .inr (.inr (some a0))), (1, .inl v1), (2, .inl v2), (3, .inl v3), (4, .inl v4), (5, .inl v5)] [] M | _ => False) else
  if h = 264 then (match as with | [.inr (.inr (some a0)), .inl v1, .inl v2, .inl v5, .inl v6, .inl v7] => xV G p l e (xRm 5 (h_sz M' - z0) (h_sl M' - y0)) s m args below meth c z0 y0 (h_sz M') (h_sl M') 9 (MQ below (xQc G r M') args s (h_sz M' - z0) (h_sl M' - y0) (xFr G)) 264 [(0, .inr (.inr (some a0))), (1, .inl v1), (2, .inl v2), (5, .inl v5), (6, .inl v6), (7, .inl v7)] [] M | _ => False) else
  if h = 386 then (match as with | [.inr (.inr (some a0)), .inl v1, .inl v2, .inl v5, .inl v8] => xV G p l e (xRm 5 (h_sz M' - z0) (h_sl M' - y0)) s m args below meth c z0 y0 (h_sz M') (h_sl M') 9 (MQ below (xQc G r M') args s (h_sz M' - z0) (h_sl M' - y0) (xFr G)) 386 [(0, .inr (.inr (some a0))), (1, .inl v1), (2, .inl v2), (5, .inl v5), (8, .inl v8)] [] M | _ => False) else
  False
theorem sb223_0 (E : xE G p (xRm 5 (h_sz M' - z0) (h_sl M' - y0)) s m args c prog_14_method_43_code "ZonedFabricModel" z0 y0 (h_sz M') (h_sl M') 9) (B : xB ym223 none meth) (a0 : Nat) (v1 : Int32) (M : hM) {res : xRes} (h : b223_0 a0 v1 M = some res) (hN : xN (pg223 p l e s m args below meth c G z0 y0 r M') r M' res) : xV G p l e (xRm 5 (h_sz M' - z0) (h_sl M' - y0)) s m args below meth c z0 y0 (h_sz M') (h_sl M') 9 (MQ below (xQc G r M') args s (h_sz M' - z0) (h_sl M' - y0) (xFr G)) 0 [(0, .inr (.inr (some a0))), (1, .inl v1)] [] M := by
  unfold b223_0 at h
  refine xv_b E [.iconst 0, .istore_n 2, .aload_n 0] (pc' := 3) (lv' := [(2, .inl (0 : Int32)), (0, .inr (.inr (some a0))), (1, .inl v1)]) (st' := [.inr (.inr (some a0))]) (by decide +kernel) rfl rfl ?_
  obtain ⟨o_1, h2, h⟩ := bd h
  refine xg_r E 12 31 h2 mw891 (show decode prog_14_method_43_code 3 = .ok (.getfield 88, 3) by decide +kernel) ?_
  refine xv_b E [.iconst 0, .iload_n 1] (pc' := 8) (lv' := [(2, .inl (0 : Int32)), (0, .inr (.inr (some a0))), (1, .inl v1)]) (st' := [.inl v1, .inl (0 : Int32), .inr (.inr o_1)]) (by decide +kernel) rfl rfl ?_
  obtain ⟨M3, h4, h⟩ := bd h
  refine xs_i E h4 (show decode prog_14_method_43_code 8 = .ok (.iastore, 1) by decide +kernel) ?_
  refine xv_b E [.aload_n 0] (pc' := 10) (lv' := [(2, .inl (0 : Int32)), (0, .inr (.inr (some a0))), (1, .inl v1)]) (st' := [.inr (.inr (some a0))]) (by decide +kernel) rfl rfl ?_
  obtain ⟨o_5, h6, h⟩ := bd h
  refine xg_r E 12 31 h6 mw891 (show decode prog_14_method_43_code 10 = .ok (.getfield 88, 3) by decide +kernel) ?_
  refine xv_b E [.iconst 4, .aload_n 0] (pc' := 15) (lv' := [(2, .inl (0 : Int32)), (0, .inr (.inr (some a0))), (1, .inl v1)]) (st' := [.inr (.inr (some a0)), .inl (4 : Int32), .inr (.inr o_5)]) (by decide +kernel) rfl rfl ?_
  obtain ⟨o_7, h8, h⟩ := bd h
  refine xg_r E 12 26 h8 mw886 (show decode prog_14_method_43_code 15 = .ok (.getfield 73, 3) by decide +kernel) ?_
  refine xv_b E [.iload_n 1] (pc' := 19) (lv' := [(2, .inl (0 : Int32)), (0, .inr (.inr (some a0))), (1, .inl v1)]) (st' := [.inl v1, .inr (.inr o_7), .inl (4 : Int32), .inr (.inr o_5)]) (by decide +kernel) rfl rfl ?_
  obtain ⟨v_9, h10, h⟩ := bd h
  refine xa_i E h10 (show decode prog_14_method_43_code 19 = .ok (.iaload, 1) by decide +kernel) ?_
  obtain ⟨M11, h12, h⟩ := bd h
  refine xs_i E h12 (show decode prog_14_method_43_code 20 = .ok (.iastore, 1) by decide +kernel) ?_
  refine xv_b E [.bipush 6, .istore_n 2, .iconst 0, .istore_n 3, .iconst 0, .istore 4] (pc' := 29) (lv' := [(4, .inl (0 : Int32)), (3, .inl (0 : Int32)), (2, .inl (6 : Int32)), (0, .inr (.inr (some a0))), (1, .inl v1)]) (st' := []) (by decide +kernel) rfl rfl ?_
  obtain rfl := Option.some.inj h
  exact xv_w hN rfl
theorem sb223_108 (E : xE G p (xRm 5 (h_sz M' - z0) (h_sl M' - y0)) s m args c prog_14_method_43_code "ZonedFabricModel" z0 y0 (h_sz M') (h_sl M') 9) (B : xB ym223 none meth) (a0 : Nat) (v1 : Int32) (v2 : Int32) (v3 : Int32) (v4 : Int32) (M : hM) {res : xRes} (h : b223_108 a0 v1 v2 v3 v4 M = some res) (hN : xN (pg223 p l e s m args below meth c G z0 y0 r M') r M' res) : xV G p l e (xRm 5 (h_sz M' - z0) (h_sl M' - y0)) s m args below meth c z0 y0 (h_sz M') (h_sl M') 9 (MQ below (xQc G r M') args s (h_sz M' - z0) (h_sl M' - y0) (xFr G)) 108 [(0, .inr (.inr (some a0))), (1, .inl v1), (2, .inl v2), (3, .inl v3), (4, .inl v4)] [] M := by
  unfold b223_108 at h
  refine xv_b E [.iinc 4 1] (pc' := 111) (lv' := [(4, .inl (v4 + (1 : Int32))), (0, .inr (.inr (some a0))), (1, .inl v1), (2, .inl v2), (3, .inl v3)]) (st' := []) (by decide +kernel) rfl rfl ?_
  refine xv_goto E 29 (show decode prog_14_method_43_code 111 = .ok (.goto (-82), 3) by decide +kernel) rfl ?_
  obtain rfl := Option.some.inj h
  exact xv_w hN rfl
theorem sb223_29 (E : xE G p (xRm 5 (h_sz M' - z0) (h_sl M' - y0)) s m args c prog_14_method_43_code "ZonedFabricModel" z0 y0 (h_sz M') (h_sl M') 9) (B : xB ym223 none meth) (a0 : Nat) (v1 : Int32) (v2 : Int32) (v3 : Int32) (v4 : Int32) (M : hM) {res : xRes} (h : b223_29 a0 v1 v2 v3 v4 M = some res) (hN : xN (pg223 p l e s m args below meth c G z0 y0 r M') r M' res) : xV G p l e (xRm 5 (h_sz M' - z0) (h_sl M' - y0)) s m args below meth c z0 y0 (h_sz M') (h_sl M') 9 (MQ below (xQc G r M') args s (h_sz M' - z0) (h_sl M' - y0) (xFr G)) 29 [(0, .inr (.inr (some a0))), (1, .inl v1), (2, .inl v2), (3, .inl v3), (4, .inl v4)] [] M := by
  unfold b223_29 at h
  refine xv_b E [.iload 4, .bipush 8] (pc' := 33) (lv' := [(0, .inr (.inr (some a0))), (1, .inl v1), (2, .inl v2), (3, .inl v3), (4, .inl v4)]) (st' := [.inl (8 : Int32), .inl v4]) (by decide +kernel) rfl rfl ?_
  by_cases q50 : (8 : Int32) ≤ v4
  · rw [if_pos q50] at h
    refine xv_icmp_ge E 114 (show decode prog_14_method_43_code 33 = .ok (.if_icmp .ge (81), 3) by decide +kernel) rfl (fun _ => ?_) (fun z => absurd q50 z)
    refine xv_b E [.aload_n 0] (pc' := 115) (lv' := [(0, .inr (.inr (some a0))), (1, .inl v1), (2, .inl v2), (3, .inl v3), (4, .inl v4)]) (st' := [.inr (.inr (some a0))]) (by decide +kernel) rfl rfl ?_
    obtain ⟨o_13, h14, h⟩ := bd h
    refine xg_r E 12 31 h14 mw891 (show decode prog_14_method_43_code 115 = .ok (.getfield 88, 3) by decide +kernel) ?_
    refine xv_b E [.iconst 5, .iload_n 3] (pc' := 120) (lv' := [(0, .inr (.inr (some a0))), (1, .inl v1), (2, .inl v2), (3, .inl v3), (4, .inl v4)]) (st' := [.inl v3, .inl (5 : Int32), .inr (.inr o_13)]) (by decide +kernel) rfl rfl ?_
    obtain ⟨M15, h16, h⟩ := bd h
    refine xs_i E h16 (show decode prog_14_method_43_code 120 = .ok (.iastore, 1) by decide +kernel) ?_
    refine xv_b E [.iload_n 2, .istore 4, .iinc 2 1, .iconst 0, .istore_n 3, .iconst 0, .istore 5] (pc' := 132) (lv' := [(5, .inl (0 : Int32)), (3, .inl (0 : Int32)), (2, .inl (v2 + (1 : Int32))), (4, .inl v2), (0, .inr (.inr (some a0))), (1, .inl v1)]) (st' := []) (by decide +kernel) rfl rfl ?_
    obtain rfl := Option.some.inj h
    exact xv_w hN rfl
  · rw [if_neg q50] at h
    refine xv_icmp_ge E 114 (show decode prog_14_method_43_code 33 = .ok (.if_icmp .ge (81), 3) by decide +kernel) rfl (fun z => absurd z q50) (fun _ => ?_)
    refine xv_b E [.aload_n 0, .iload_n 1, .iload 4] (pc' := 40) (lv' := [(0, .inr (.inr (some a0))), (1, .inl v1), (2, .inl v2), (3, .inl v3), (4, .inl v4)]) (st' := [.inl v4, .inl v1, .inr (.inr (some a0))]) (by decide +kernel) rfl rfl ?_
    obtain ⟨b_19, h20, h⟩ := bd h
    obtain ⟨eh20, th20⟩ := g_o_some h20
    obtain ⟨q_17, h18, h⟩ := bd h
    refine xv_cvo E eh20 12 (as := [.inl v1, .inl v4]) (t175 G l (c_I_some h18)) cd175 mw1134 mw1135 mw1136 (show decode prog_14_method_43_code 40 = .ok (.invokevirtual 288, 3) by decide +kernel) th20 rfl rfl (Nat.le_of_ble_eq_true rfl) ⟨Nat.le_of_ble_eq_true rfl, Nat.le_of_ble_eq_true rfl⟩ ?_
    refine xv_b E [.istore 5, .aload_n 0] (pc' := 46) (lv' := [(5, .inl q_17.1), (0, .inr (.inr (some a0))), (1, .inl v1), (2, .inl v2), (3, .inl v3), (4, .inl v4)]) (st' := [.inr (.inr (some a0))]) (by decide +kernel) rfl rfl ?_
    obtain ⟨o_21, h22, h⟩ := bd h
    refine xg_r E 12 23 h22 mw883 (show decode prog_14_method_43_code 46 = .ok (.getfield 64, 3) by decide +kernel) ?_
    refine xv_b E [.iload 5] (pc' := 51) (lv' := [(5, .inl q_17.1), (0, .inr (.inr (some a0))), (1, .inl v1), (2, .inl v2), (3, .inl v3), (4, .inl v4)]) (st' := [.inl q_17.1, .inr (.inr o_21)]) (by decide +kernel) rfl rfl ?_
    obtain ⟨v_23, h24, h⟩ := bd h
    refine xa_i E h24 (show decode prog_14_method_43_code 51 = .ok (.iaload, 1) by decide +kernel) ?_
    refine xv_b E [.iconst (-1)] (pc' := 53) (lv' := [(5, .inl q_17.1), (0, .inr (.inr (some a0))), (1, .inl v1), (2, .inl v2), (3, .inl v3), (4, .inl v4)]) (st' := [.inl (-1 : Int32), .inl v_23]) (by decide +kernel) rfl rfl ?_
    by_cases q49 : v_23 = (-1 : Int32)
    · rw [if_pos q49] at h
      refine xv_icmp_ne E 59 (show decode prog_14_method_43_code 53 = .ok (.if_icmp .ne (6), 3) by decide +kernel) rfl (fun z => absurd q49 z) (fun _ => ?_)
      refine xv_goto E 108 (show decode prog_14_method_43_code 56 = .ok (.goto (52), 3) by decide +kernel) rfl ?_
      exact xv_w (sb223_108 E B a0 v1 v2 v3 v4 q_17.2 h hN) rfl
    · rw [if_neg q49] at h
      refine xv_icmp_ne E 59 (show decode prog_14_method_43_code 53 = .ok (.if_icmp .ne (6), 3) by decide +kernel) rfl (fun _ => ?_) (fun z => absurd z q49)
      refine xv_b E [.aload_n 0] (pc' := 60) (lv' := [(5, .inl q_17.1), (0, .inr (.inr (some a0))), (1, .inl v1), (2, .inl v2), (3, .inl v3), (4, .inl v4)]) (st' := [.inr (.inr (some a0))]) (by decide +kernel) rfl rfl ?_
      obtain ⟨o_25, h26, h⟩ := bd h
      refine xg_r E 12 31 h26 mw891 (show decode prog_14_method_43_code 60 = .ok (.getfield 88, 3) by decide +kernel) ?_
      refine xv_b E [.iload_n 2, .iload 4] (pc' := 66) (lv' := [(5, .inl q_17.1), (0, .inr (.inr (some a0))), (1, .inl v1), (2, .inl v2), (3, .inl v3), (4, .inl v4)]) (st' := [.inl v4, .inl v2, .inr (.inr o_25)]) (by decide +kernel) rfl rfl ?_
      obtain ⟨M27, h28, h⟩ := bd h
      refine xs_i E h28 (show decode prog_14_method_43_code 66 = .ok (.iastore, 1) by decide +kernel) ?_
      refine xv_b E [.aload_n 0] (pc' := 68) (lv' := [(5, .inl q_17.1), (0, .inr (.inr (some a0))), (1, .inl v1), (2, .inl v2), (3, .inl v3), (4, .inl v4)]) (st' := [.inr (.inr (some a0))]) (by decide +kernel) rfl rfl ?_
      obtain ⟨o_29, h30, h⟩ := bd h
      refine xg_r E 12 31 h30 mw891 (show decode prog_14_method_43_code 68 = .ok (.getfield 88, 3) by decide +kernel) ?_
      refine xv_b E [.iload_n 2, .iconst 1, .iadd, .aload_n 0] (pc' := 75) (lv' := [(5, .inl q_17.1), (0, .inr (.inr (some a0))), (1, .inl v1), (2, .inl v2), (3, .inl v3), (4, .inl v4)]) (st' := [.inr (.inr (some a0)), .inl (v2 + (1 : Int32)), .inr (.inr o_29)]) (by decide +kernel) rfl rfl ?_
      obtain ⟨o_31, h32, h⟩ := bd h
      refine xg_r E 12 23 h32 mw883 (show decode prog_14_method_43_code 75 = .ok (.getfield 64, 3) by decide +kernel) ?_
      refine xv_b E [.iload 5] (pc' := 80) (lv' := [(5, .inl q_17.1), (0, .inr (.inr (some a0))), (1, .inl v1), (2, .inl v2), (3, .inl v3), (4, .inl v4)]) (st' := [.inl q_17.1, .inr (.inr o_31), .inl (v2 + (1 : Int32)), .inr (.inr o_29)]) (by decide +kernel) rfl rfl ?_
      obtain ⟨v_33, h34, h⟩ := bd h
      refine xa_i E h34 (show decode prog_14_method_43_code 80 = .ok (.iaload, 1) by decide +kernel) ?_
      obtain ⟨M35, h36, h⟩ := bd h
      refine xs_i E h36 (show decode prog_14_method_43_code 81 = .ok (.iastore, 1) by decide +kernel) ?_
      refine xv_b E [.aload_n 0] (pc' := 83) (lv' := [(5, .inl q_17.1), (0, .inr (.inr (some a0))), (1, .inl v1), (2, .inl v2), (3, .inl v3), (4, .inl v4)]) (st' := [.inr (.inr (some a0))]) (by decide +kernel) rfl rfl ?_
      obtain ⟨o_37, h38, h⟩ := bd h
      refine xg_r E 12 31 h38 mw891 (show decode prog_14_method_43_code 83 = .ok (.getfield 88, 3) by decide +kernel) ?_
      refine xv_b E [.iload_n 2, .iconst 2, .iadd, .aload_n 0] (pc' := 90) (lv' := [(5, .inl q_17.1), (0, .inr (.inr (some a0))), (1, .inl v1), (2, .inl v2), (3, .inl v3), (4, .inl v4)]) (st' := [.inr (.inr (some a0)), .inl (v2 + (2 : Int32)), .inr (.inr o_37)]) (by decide +kernel) rfl rfl ?_
      obtain ⟨o_39, h40, h⟩ := bd h
      refine xg_r E 12 11 h40 mw871 (show decode prog_14_method_43_code 90 = .ok (.getfield 30, 3) by decide +kernel) ?_
      refine xv_b E [.aload_n 0] (pc' := 94) (lv' := [(5, .inl q_17.1), (0, .inr (.inr (some a0))), (1, .inl v1), (2, .inl v2), (3, .inl v3), (4, .inl v4)]) (st' := [.inr (.inr (some a0)), .inr (.inr o_39), .inl (v2 + (2 : Int32)), .inr (.inr o_37)]) (by decide +kernel) rfl rfl ?_
      obtain ⟨o_41, h42, h⟩ := bd h
      refine xg_r E 12 14 h42 mw874 (show decode prog_14_method_43_code 94 = .ok (.getfield 37, 3) by decide +kernel) ?_
      refine xv_b E [.iload 5] (pc' := 99) (lv' := [(5, .inl q_17.1), (0, .inr (.inr (some a0))), (1, .inl v1), (2, .inl v2), (3, .inl v3), (4, .inl v4)]) (st' := [.inl q_17.1, .inr (.inr o_41), .inr (.inr o_39), .inl (v2 + (2 : Int32)), .inr (.inr o_37)]) (by decide +kernel) rfl rfl ?_
      obtain ⟨v_43, h44, h⟩ := bd h
      refine xa_i E h44 (show decode prog_14_method_43_code 99 = .ok (.iaload, 1) by decide +kernel) ?_
      obtain ⟨v_45, h46, h⟩ := bd h
      refine xa_i E h46 (show decode prog_14_method_43_code 100 = .ok (.iaload, 1) by decide +kernel) ?_
      obtain ⟨M47, h48, h⟩ := bd h
      refine xs_i E h48 (show decode prog_14_method_43_code 101 = .ok (.iastore, 1) by decide +kernel) ?_
      refine xv_b E [.iinc 2 3, .iinc 3 1] (pc' := 108) (lv' := [(3, .inl (v3 + (1 : Int32))), (2, .inl (v2 + (3 : Int32))), (5, .inl q_17.1), (0, .inr (.inr (some a0))), (1, .inl v1), (4, .inl v4)]) (st' := []) (by decide +kernel) rfl rfl ?_
      exact xv_w (sb223_108 E B a0 v1 (v2 + (3 : Int32)) (v3 + (1 : Int32)) v4 M47 h hN) rfl
theorem sb223_195 (E : xE G p (xRm 5 (h_sz M' - z0) (h_sl M' - y0)) s m args c prog_14_method_43_code "ZonedFabricModel" z0 y0 (h_sz M') (h_sl M') 9) (B : xB ym223 none meth) (a0 : Nat) (v1 : Int32) (v2 : Int32) (v3 : Int32) (v4 : Int32) (v5 : Int32) (M : hM) {res : xRes} (h : b223_195 a0 v1 v2 v3 v4 v5 M = some res) (hN : xN (pg223 p l e s m args below meth c G z0 y0 r M') r M' res) : xV G p l e (xRm 5 (h_sz M' - z0) (h_sl M' - y0)) s m args below meth c z0 y0 (h_sz M') (h_sl M') 9 (MQ below (xQc G r M') args s (h_sz M' - z0) (h_sl M' - y0) (xFr G)) 195 [(0, .inr (.inr (some a0))), (1, .inl v1), (2, .inl v2), (3, .inl v3), (4, .inl v4), (5, .inl v5)] [] M := by
  unfold b223_195 at h
  refine xv_b E [.iinc 5 1] (pc' := 198) (lv' := [(5, .inl (v5 + (1 : Int32))), (0, .inr (.inr (some a0))), (1, .inl v1), (2, .inl v2), (3, .inl v3), (4, .inl v4)]) (st' := []) (by decide +kernel) rfl rfl ?_
  refine xv_goto E 132 (show decode prog_14_method_43_code 198 = .ok (.goto (-66), 3) by decide +kernel) rfl ?_
  obtain rfl := Option.some.inj h
  exact xv_w hN rfl
theorem sb223_259 (E : xE G p (xRm 5 (h_sz M' - z0) (h_sl M' - y0)) s m args c prog_14_method_43_code "ZonedFabricModel" z0 y0 (h_sz M') (h_sl M') 9) (B : xB ym223 none meth) (a0 : Nat) (v1 : Int32) (v2 : Int32) (v5 : Int32) (si0 : Int32) (M : hM) {res : xRes} (h : b223_259 a0 v1 v2 v5 si0 M = some res) (hN : xN (pg223 p l e s m args below meth c G z0 y0 r M') r M' res) : xV G p l e (xRm 5 (h_sz M' - z0) (h_sl M' - y0)) s m args below meth c z0 y0 (h_sz M') (h_sl M') 9 (MQ below (xQc G r M') args s (h_sz M' - z0) (h_sl M' - y0) (xFr G)) 259 [(0, .inr (.inr (some a0))), (1, .inl v1), (2, .inl v2), (5, .inl v5)] [.inl si0] M := by
  unfold b223_259 at h
  refine xv_b E [.istore 6, .iconst 4, .istore 7] (pc' := 264) (lv' := [(7, .inl (4 : Int32)), (6, .inl si0), (0, .inr (.inr (some a0))), (1, .inl v1), (2, .inl v2), (5, .inl v5)]) (st' := []) (by decide +kernel) rfl rfl ?_
  obtain rfl := Option.some.inj h
  exact xv_w hN rfl
theorem sb223_258 (E : xE G p (xRm 5 (h_sz M' - z0) (h_sl M' - y0)) s m args c prog_14_method_43_code "ZonedFabricModel" z0 y0 (h_sz M') (h_sl M') 9) (B : xB ym223 none meth) (a0 : Nat) (v1 : Int32) (v2 : Int32) (v5 : Int32) (M : hM) {res : xRes} (h : b223_258 a0 v1 v2 v5 M = some res) (hN : xN (pg223 p l e s m args below meth c G z0 y0 r M') r M' res) : xV G p l e (xRm 5 (h_sz M' - z0) (h_sl M' - y0)) s m args below meth c z0 y0 (h_sz M') (h_sl M') 9 (MQ below (xQc G r M') args s (h_sz M' - z0) (h_sl M' - y0) (xFr G)) 258 [(0, .inr (.inr (some a0))), (1, .inl v1), (2, .inl v2), (5, .inl v5)] [] M := by
  unfold b223_258 at h
  refine xv_b E [.iconst 0] (pc' := 259) (lv' := [(0, .inr (.inr (some a0))), (1, .inl v1), (2, .inl v2), (5, .inl v5)]) (st' := [.inl (0 : Int32)]) (by decide +kernel) rfl rfl ?_
  exact xv_w (sb223_259 E B a0 v1 v2 v5 (0 : Int32) M h hN) rfl
theorem sb223_132 (E : xE G p (xRm 5 (h_sz M' - z0) (h_sl M' - y0)) s m args c prog_14_method_43_code "ZonedFabricModel" z0 y0 (h_sz M') (h_sl M') 9) (B : xB ym223 none meth) (a0 : Nat) (v1 : Int32) (v2 : Int32) (v3 : Int32) (v4 : Int32) (v5 : Int32) (M : hM) {res : xRes} (h : b223_132 a0 v1 v2 v3 v4 v5 M = some res) (hN : xN (pg223 p l e s m args below meth c G z0 y0 r M') r M' res) : xV G p l e (xRm 5 (h_sz M' - z0) (h_sl M' - y0)) s m args below meth c z0 y0 (h_sz M') (h_sl M') 9 (MQ below (xQc G r M') args s (h_sz M' - z0) (h_sl M' - y0) (xFr G)) 132 [(0, .inr (.inr (some a0))), (1, .inl v1), (2, .inl v2), (3, .inl v3), (4, .inl v4), (5, .inl v5)] [] M := by
  unfold b223_132 at h
  refine xv_b E [.iload 5, .bipush 8] (pc' := 136) (lv' := [(0, .inr (.inr (some a0))), (1, .inl v1), (2, .inl v2), (3, .inl v3), (4, .inl v4), (5, .inl v5)]) (st' := [.inl (8 : Int32), .inl v5]) (by decide +kernel) rfl rfl ?_
  by_cases q101 : (8 : Int32) ≤ v5
  · rw [if_pos q101] at h
    refine xv_icmp_ge E 201 (show decode prog_14_method_43_code 136 = .ok (.if_icmp .ge (65), 3) by decide +kernel) rfl (fun _ => ?_) (fun z => absurd q101 z)
    refine xv_b E [.aload_n 0] (pc' := 202) (lv' := [(0, .inr (.inr (some a0))), (1, .inl v1), (2, .inl v2), (3, .inl v3), (4, .inl v4), (5, .inl v5)]) (st' := [.inr (.inr (some a0))]) (by decide +kernel) rfl rfl ?_
    obtain ⟨o_51, h52, h⟩ := bd h
    refine xg_r E 12 31 h52 mw891 (show decode prog_14_method_43_code 202 = .ok (.getfield 88, 3) by decide +kernel) ?_
    refine xv_b E [.iload 4, .iload_n 3] (pc' := 208) (lv' := [(0, .inr (.inr (some a0))), (1, .inl v1), (2, .inl v2), (3, .inl v3), (4, .inl v4), (5, .inl v5)]) (st' := [.inl v3, .inl v4, .inr (.inr o_51)]) (by decide +kernel) rfl rfl ?_
    obtain ⟨M53, h54, h⟩ := bd h
    refine xs_i E h54 (show decode prog_14_method_43_code 208 = .ok (.iastore, 1) by decide +kernel) ?_
    refine xv_b E [.iconst 5, .iload_n 1, .imul, .iload_n 1, .iadd, .istore 5, .aload_n 0] (pc' := 217) (lv' := [(5, .inl (((5 : Int32) * v1) + v1)), (0, .inr (.inr (some a0))), (1, .inl v1), (2, .inl v2), (3, .inl v3), (4, .inl v4)]) (st' := [.inr (.inr (some a0))]) (by decide +kernel) rfl rfl ?_
    obtain ⟨o_55, h56, h⟩ := bd h
    refine xg_r E 12 27 h56 mw887 (show decode prog_14_method_43_code 217 = .ok (.getfield 76, 3) by decide +kernel) ?_
    refine xv_b E [.iload 5] (pc' := 222) (lv' := [(5, .inl (((5 : Int32) * v1) + v1)), (0, .inr (.inr (some a0))), (1, .inl v1), (2, .inl v2), (3, .inl v3), (4, .inl v4)]) (st' := [.inl (((5 : Int32) * v1) + v1), .inr (.inr o_55)]) (by decide +kernel) rfl rfl ?_
    obtain ⟨v_57, h58, h⟩ := bd h
    refine xa_z E h58 (show decode prog_14_method_43_code 222 = .ok (.baload, 1) by decide +kernel) ?_
    by_cases q71 : v_57 = 0
    · rw [if_pos q71] at h
      refine xv_if_eq E 258 (show decode prog_14_method_43_code 223 = .ok (.ifCond .eq (35), 3) by decide +kernel) rfl (fun _ => ?_) (fun z => absurd q71 z)
      exact xv_w (sb223_258 E B a0 v1 v2 (((5 : Int32) * v1) + v1) M53 h hN) rfl
    · rw [if_neg q71] at h
      refine xv_if_eq E 258 (show decode prog_14_method_43_code 223 = .ok (.ifCond .eq (35), 3) by decide +kernel) rfl (fun z => absurd z q71) (fun _ => ?_)
      refine xv_b E [.aload_n 0] (pc' := 227) (lv' := [(5, .inl (((5 : Int32) * v1) + v1)), (0, .inr (.inr (some a0))), (1, .inl v1), (2, .inl v2), (3, .inl v3), (4, .inl v4)]) (st' := [.inr (.inr (some a0))]) (by decide +kernel) rfl rfl ?_
      obtain ⟨o_59, h60, h⟩ := bd h
      refine xg_r E 12 30 h60 mw890 (show decode prog_14_method_43_code 227 = .ok (.getfield 85, 3) by decide +kernel) ?_
      refine xv_b E [.iload 5] (pc' := 232) (lv' := [(5, .inl (((5 : Int32) * v1) + v1)), (0, .inr (.inr (some a0))), (1, .inl v1), (2, .inl v2), (3, .inl v3), (4, .inl v4)]) (st' := [.inl (((5 : Int32) * v1) + v1), .inr (.inr o_59)]) (by decide +kernel) rfl rfl ?_
      obtain ⟨v_61, h62, h⟩ := bd h
      refine xa_i E h62 (show decode prog_14_method_43_code 232 = .ok (.iaload, 1) by decide +kernel) ?_
      refine xv_b E [.iload_n 2] (pc' := 234) (lv' := [(5, .inl (((5 : Int32) * v1) + v1)), (0, .inr (.inr (some a0))), (1, .inl v1), (2, .inl v2), (3, .inl v3), (4, .inl v4)]) (st' := [.inl v2, .inl v_61]) (by decide +kernel) rfl rfl ?_
      by_cases q70 : v_61 = v2
      · rw [if_pos q70] at h
        refine xv_icmp_ne E 258 (show decode prog_14_method_43_code 234 = .ok (.if_icmp .ne (24), 3) by decide +kernel) rfl (fun z => absurd q70 z) (fun _ => ?_)
        refine xv_b E [.aload_n 0] (pc' := 238) (lv' := [(5, .inl (((5 : Int32) * v1) + v1)), (0, .inr (.inr (some a0))), (1, .inl v1), (2, .inl v2), (3, .inl v3), (4, .inl v4)]) (st' := [.inr (.inr (some a0))]) (by decide +kernel) rfl rfl ?_
        obtain ⟨v_63, h64, h⟩ := bd h
        refine xg_i E 12 3 h64 mw1047 (show decode prog_14_method_43_code 238 = .ok (.getfield 276, 3) by decide +kernel) ?_
        refine xv_b E [.aload_n 0] (pc' := 242) (lv' := [(5, .inl (((5 : Int32) * v1) + v1)), (0, .inr (.inr (some a0))), (1, .inl v1), (2, .inl v2), (3, .inl v3), (4, .inl v4)]) (st' := [.inr (.inr (some a0)), .inl v_63]) (by decide +kernel) rfl rfl ?_
        obtain ⟨o_65, h66, h⟩ := bd h
        refine xg_r E 12 28 h66 mw888 (show decode prog_14_method_43_code 242 = .ok (.getfield 79, 3) by decide +kernel) ?_
        refine xv_b E [.iload 5] (pc' := 247) (lv' := [(5, .inl (((5 : Int32) * v1) + v1)), (0, .inr (.inr (some a0))), (1, .inl v1), (2, .inl v2), (3, .inl v3), (4, .inl v4)]) (st' := [.inl (((5 : Int32) * v1) + v1), .inr (.inr o_65), .inl v_63]) (by decide +kernel) rfl rfl ?_
        obtain ⟨v_67, h68, h⟩ := bd h
        refine xa_i E h68 (show decode prog_14_method_43_code 247 = .ok (.iaload, 1) by decide +kernel) ?_
        refine xv_b E [.isub, .bipush 40] (pc' := 251) (lv' := [(5, .inl (((5 : Int32) * v1) + v1)), (0, .inr (.inr (some a0))), (1, .inl v1), (2, .inl v2), (3, .inl v3), (4, .inl v4)]) (st' := [.inl (40 : Int32), .inl (v_63 - v_67)]) (by decide +kernel) rfl rfl ?_
        by_cases q69 : (40 : Int32) ≤ (v_63 - v_67)
        · rw [if_pos q69] at h
          refine xv_icmp_ge E 258 (show decode prog_14_method_43_code 251 = .ok (.if_icmp .ge (7), 3) by decide +kernel) rfl (fun _ => ?_) (fun z => absurd q69 z)
          exact xv_w (sb223_258 E B a0 v1 v2 (((5 : Int32) * v1) + v1) M53 h hN) rfl
        · rw [if_neg q69] at h
          refine xv_icmp_ge E 258 (show decode prog_14_method_43_code 251 = .ok (.if_icmp .ge (7), 3) by decide +kernel) rfl (fun z => absurd z q69) (fun _ => ?_)
          refine xv_b E [.iconst 1] (pc' := 255) (lv' := [(5, .inl (((5 : Int32) * v1) + v1)), (0, .inr (.inr (some a0))), (1, .inl v1), (2, .inl v2), (3, .inl v3), (4, .inl v4)]) (st' := [.inl (1 : Int32)]) (by decide +kernel) rfl rfl ?_
          refine xv_goto E 259 (show decode prog_14_method_43_code 255 = .ok (.goto (4), 3) by decide +kernel) rfl ?_
          exact xv_w (sb223_259 E B a0 v1 v2 (((5 : Int32) * v1) + v1) (1 : Int32) M53 h hN) rfl
      · rw [if_neg q70] at h
        refine xv_icmp_ne E 258 (show decode prog_14_method_43_code 234 = .ok (.if_icmp .ne (24), 3) by decide +kernel) rfl (fun _ => ?_) (fun z => absurd z q70)
        exact xv_w (sb223_258 E B a0 v1 v2 (((5 : Int32) * v1) + v1) M53 h hN) rfl
  · rw [if_neg q101] at h
    refine xv_icmp_ge E 201 (show decode prog_14_method_43_code 136 = .ok (.if_icmp .ge (65), 3) by decide +kernel) rfl (fun z => absurd z q101) (fun _ => ?_)
    refine xv_b E [.aload_n 0] (pc' := 140) (lv' := [(0, .inr (.inr (some a0))), (1, .inl v1), (2, .inl v2), (3, .inl v3), (4, .inl v4), (5, .inl v5)]) (st' := [.inr (.inr (some a0))]) (by decide +kernel) rfl rfl ?_
    obtain ⟨o_72, h73, h⟩ := bd h
    refine xg_r E 12 25 h73 mw885 (show decode prog_14_method_43_code 140 = .ok (.getfield 70, 3) by decide +kernel) ?_
    refine xv_b E [.aload_n 0, .iload_n 1, .iload 5] (pc' := 147) (lv' := [(0, .inr (.inr (some a0))), (1, .inl v1), (2, .inl v2), (3, .inl v3), (4, .inl v4), (5, .inl v5)]) (st' := [.inl v5, .inl v1, .inr (.inr (some a0)), .inr (.inr o_72)]) (by decide +kernel) rfl rfl ?_
    obtain ⟨b_76, h77, h⟩ := bd h
    obtain ⟨eh77, th77⟩ := g_o_some h77
    obtain ⟨q_74, h75, h⟩ := bd h
    refine xv_cvo E eh77 12 (as := [.inl v1, .inl v5]) (t175 G l (c_I_some h75)) cd175 mw1134 mw1135 mw1136 (show decode prog_14_method_43_code 147 = .ok (.invokevirtual 288, 3) by decide +kernel) th77 rfl rfl (Nat.le_of_ble_eq_true rfl) ⟨Nat.le_of_ble_eq_true rfl, Nat.le_of_ble_eq_true rfl⟩ ?_
    obtain ⟨v_78, h79, h⟩ := bd h
    refine xa_i E h79 (show decode prog_14_method_43_code 150 = .ok (.iaload, 1) by decide +kernel) ?_
    by_cases q100 : v_78 = 0
    · rw [if_pos q100] at h
      refine xv_if_ne E 157 (show decode prog_14_method_43_code 151 = .ok (.ifCond .ne (6), 3) by decide +kernel) rfl (fun z => absurd q100 z) (fun _ => ?_)
      refine xv_goto E 195 (show decode prog_14_method_43_code 154 = .ok (.goto (41), 3) by decide +kernel) rfl ?_
      exact xv_w (sb223_195 E B a0 v1 v2 v3 v4 v5 q_74.2 h hN) rfl
    · rw [if_neg q100] at h
      refine xv_if_ne E 157 (show decode prog_14_method_43_code 151 = .ok (.ifCond .ne (6), 3) by decide +kernel) rfl (fun _ => ?_) (fun z => absurd z q100)
      refine xv_b E [.aload_n 0] (pc' := 158) (lv' := [(0, .inr (.inr (some a0))), (1, .inl v1), (2, .inl v2), (3, .inl v3), (4, .inl v4), (5, .inl v5)]) (st' := [.inr (.inr (some a0))]) (by decide +kernel) rfl rfl ?_
      obtain ⟨o_80, h81, h⟩ := bd h
      refine xg_r E 12 31 h81 mw891 (show decode prog_14_method_43_code 158 = .ok (.getfield 88, 3) by decide +kernel) ?_
      refine xv_b E [.iload_n 2, .aload_n 0, .aload_n 0] (pc' := 164) (lv' := [(0, .inr (.inr (some a0))), (1, .inl v1), (2, .inl v2), (3, .inl v3), (4, .inl v4), (5, .inl v5)]) (st' := [.inr (.inr (some a0)), .inr (.inr (some a0)), .inl v2, .inr (.inr o_80)]) (by decide +kernel) rfl rfl ?_
      obtain ⟨o_82, h83, h⟩ := bd h
      refine xg_r E 12 25 h83 mw885 (show decode prog_14_method_43_code 164 = .ok (.getfield 70, 3) by decide +kernel) ?_
      refine xv_b E [.aload_n 0, .iload_n 1, .iload 5] (pc' := 171) (lv' := [(0, .inr (.inr (some a0))), (1, .inl v1), (2, .inl v2), (3, .inl v3), (4, .inl v4), (5, .inl v5)]) (st' := [.inl v5, .inl v1, .inr (.inr (some a0)), .inr (.inr o_82), .inr (.inr (some a0)), .inl v2, .inr (.inr o_80)]) (by decide +kernel) rfl rfl ?_
      obtain ⟨b_86, h87, h⟩ := bd h
      obtain ⟨eh87, th87⟩ := g_o_some h87
      obtain ⟨q_84, h85, h⟩ := bd h
      refine xv_cvo E eh87 12 (as := [.inl v1, .inl v5]) (t175 G l (c_I_some h85)) cd175 mw1134 mw1135 mw1136 (show decode prog_14_method_43_code 171 = .ok (.invokevirtual 288, 3) by decide +kernel) th87 rfl rfl (Nat.le_of_ble_eq_true rfl) ⟨Nat.le_of_ble_eq_true rfl, Nat.le_of_ble_eq_true rfl⟩ ?_
      obtain ⟨v_88, h89, h⟩ := bd h
      refine xa_i E h89 (show decode prog_14_method_43_code 174 = .ok (.iaload, 1) by decide +kernel) ?_
      obtain ⟨b_92, h93, h⟩ := bd h
      obtain ⟨eh93, th93⟩ := g_o_some h93
      obtain ⟨q_90, h91, h⟩ := bd h
      refine xv_cvo E eh93 12 (as := [.inl v_88]) (t189 G l (c_I_some h91)) cd189 mw1074 mw1075 mw1076 (show decode prog_14_method_43_code 175 = .ok (.invokevirtual 309, 3) by decide +kernel) th93 rfl rfl (Nat.le_of_ble_eq_true rfl) ⟨Nat.le_of_ble_eq_true rfl, Nat.le_of_ble_eq_true rfl⟩ ?_
      obtain ⟨M94, h95, h⟩ := bd h
      refine xs_i E h95 (show decode prog_14_method_43_code 178 = .ok (.iastore, 1) by decide +kernel) ?_
      refine xv_b E [.aload_n 0] (pc' := 180) (lv' := [(0, .inr (.inr (some a0))), (1, .inl v1), (2, .inl v2), (3, .inl v3), (4, .inl v4), (5, .inl v5)]) (st' := [.inr (.inr (some a0))]) (by decide +kernel) rfl rfl ?_
      obtain ⟨o_96, h97, h⟩ := bd h
      refine xg_r E 12 31 h97 mw891 (show decode prog_14_method_43_code 180 = .ok (.getfield 88, 3) by decide +kernel) ?_
      refine xv_b E [.iload_n 2, .iconst 1, .iadd, .iload 5] (pc' := 188) (lv' := [(0, .inr (.inr (some a0))), (1, .inl v1), (2, .inl v2), (3, .inl v3), (4, .inl v4), (5, .inl v5)]) (st' := [.inl v5, .inl (v2 + (1 : Int32)), .inr (.inr o_96)]) (by decide +kernel) rfl rfl ?_
      obtain ⟨M98, h99, h⟩ := bd h
      refine xs_i E h99 (show decode prog_14_method_43_code 188 = .ok (.iastore, 1) by decide +kernel) ?_
      refine xv_b E [.iinc 2 2, .iinc 3 1] (pc' := 195) (lv' := [(3, .inl (v3 + (1 : Int32))), (2, .inl (v2 + (2 : Int32))), (0, .inr (.inr (some a0))), (1, .inl v1), (4, .inl v4), (5, .inl v5)]) (st' := []) (by decide +kernel) rfl rfl ?_
      exact xv_w (sb223_195 E B a0 v1 (v2 + (2 : Int32)) (v3 + (1 : Int32)) v4 v5 M98 h hN) rfl
theorem sb223_303 (E : xE G p (xRm 5 (h_sz M' - z0) (h_sl M' - y0)) s m args c prog_14_method_43_code "ZonedFabricModel" z0 y0 (h_sz M') (h_sl M') 9) (B : xB ym223 none meth) (a0 : Nat) (v1 : Int32) (v2 : Int32) (v5 : Int32) (v7 : Int32) (si0 : Int32) (M : hM) {res : xRes} (h : b223_303 a0 v1 v2 v5 v7 si0 M = some res) (hN : xN (pg223 p l e s m args below meth c G z0 y0 r M') r M' res) : xV G p l e (xRm 5 (h_sz M' - z0) (h_sl M' - y0)) s m args below meth c z0 y0 (h_sz M') (h_sl M') 9 (MQ below (xQc G r M') args s (h_sz M' - z0) (h_sl M' - y0) (xFr G)) 303 [(0, .inr (.inr (some a0))), (1, .inl v1), (2, .inl v2), (5, .inl v5), (7, .inl v7)] [.inl si0] M := by
  unfold b223_303 at h
  refine xv_b E [.istore 6, .iinc 7 1] (pc' := 308) (lv' := [(7, .inl (v7 + (1 : Int32))), (6, .inl si0), (0, .inr (.inr (some a0))), (1, .inl v1), (2, .inl v2), (5, .inl v5)]) (st' := []) (by decide +kernel) rfl rfl ?_
  refine xv_goto E 264 (show decode prog_14_method_43_code 308 = .ok (.goto (-44), 3) by decide +kernel) rfl ?_
  obtain rfl := Option.some.inj h
  exact xv_w hN rfl
theorem sb223_339 (E : xE G p (xRm 5 (h_sz M' - z0) (h_sl M' - y0)) s m args c prog_14_method_43_code "ZonedFabricModel" z0 y0 (h_sz M') (h_sl M') 9) (B : xB ym223 none meth) (a0 : Nat) (v1 : Int32) (v2 : Int32) (v5 : Int32) (si0 : Int32) (M : hM) {res : xRes} (h : b223_339 a0 v1 v2 v5 si0 M = some res) (hN : xN (pg223 p l e s m args below meth c G z0 y0 r M') r M' res) : xV G p l e (xRm 5 (h_sz M' - z0) (h_sl M' - y0)) s m args below meth c z0 y0 (h_sz M') (h_sl M') 9 (MQ below (xQc G r M') args s (h_sz M' - z0) (h_sl M' - y0) (xFr G)) 339 [(0, .inr (.inr (some a0))), (1, .inl v1), (2, .inl v2), (5, .inl v5)] [.inl si0] M := by
  unfold b223_339 at h
  refine xv_b E [.istore 7, .aload_n 0] (pc' := 342) (lv' := [(7, .inl si0), (0, .inr (.inr (some a0))), (1, .inl v1), (2, .inl v2), (5, .inl v5)]) (st' := [.inr (.inr (some a0))]) (by decide +kernel) rfl rfl ?_
  obtain ⟨o_123, h124, h⟩ := bd h
  refine xg_r E 12 31 h124 mw891 (show decode prog_14_method_43_code 342 = .ok (.getfield 88, 3) by decide +kernel) ?_
  refine xv_b E [.iconst 1, .iload 7, .bipush 16, .ishr, .sipush 255, .iand] (pc' := 355) (lv' := [(7, .inl si0), (0, .inr (.inr (some a0))), (1, .inl v1), (2, .inl v2), (5, .inl v5)]) (st' := [.inl ((si0 >>> ((16 : Int32) &&& 31)) &&& (255 : Int32)), .inl (1 : Int32), .inr (.inr o_123)]) (by decide +kernel) rfl rfl ?_
  obtain ⟨M125, h126, h⟩ := bd h
  refine xs_i E h126 (show decode prog_14_method_43_code 355 = .ok (.iastore, 1) by decide +kernel) ?_
  refine xv_b E [.aload_n 0] (pc' := 357) (lv' := [(7, .inl si0), (0, .inr (.inr (some a0))), (1, .inl v1), (2, .inl v2), (5, .inl v5)]) (st' := [.inr (.inr (some a0))]) (by decide +kernel) rfl rfl ?_
  obtain ⟨o_127, h128, h⟩ := bd h
  refine xg_r E 12 31 h128 mw891 (show decode prog_14_method_43_code 357 = .ok (.getfield 88, 3) by decide +kernel) ?_
  refine xv_b E [.iconst 2, .iload 7, .bipush 8, .ishr, .sipush 255, .iand] (pc' := 370) (lv' := [(7, .inl si0), (0, .inr (.inr (some a0))), (1, .inl v1), (2, .inl v2), (5, .inl v5)]) (st' := [.inl ((si0 >>> ((8 : Int32) &&& 31)) &&& (255 : Int32)), .inl (2 : Int32), .inr (.inr o_127)]) (by decide +kernel) rfl rfl ?_
  obtain ⟨M129, h130, h⟩ := bd h
  refine xs_i E h130 (show decode prog_14_method_43_code 370 = .ok (.iastore, 1) by decide +kernel) ?_
  refine xv_b E [.aload_n 0] (pc' := 372) (lv' := [(7, .inl si0), (0, .inr (.inr (some a0))), (1, .inl v1), (2, .inl v2), (5, .inl v5)]) (st' := [.inr (.inr (some a0))]) (by decide +kernel) rfl rfl ?_
  obtain ⟨o_131, h132, h⟩ := bd h
  refine xg_r E 12 31 h132 mw891 (show decode prog_14_method_43_code 372 = .ok (.getfield 88, 3) by decide +kernel) ?_
  refine xv_b E [.iconst 3, .iload 7, .sipush 255, .iand] (pc' := 382) (lv' := [(7, .inl si0), (0, .inr (.inr (some a0))), (1, .inl v1), (2, .inl v2), (5, .inl v5)]) (st' := [.inl (si0 &&& (255 : Int32)), .inl (3 : Int32), .inr (.inr o_131)]) (by decide +kernel) rfl rfl ?_
  obtain ⟨M133, h134, h⟩ := bd h
  refine xs_i E h134 (show decode prog_14_method_43_code 382 = .ok (.iastore, 1) by decide +kernel) ?_
  refine xv_b E [.iconst 0, .istore 8] (pc' := 386) (lv' := [(8, .inl (0 : Int32)), (7, .inl si0), (0, .inr (.inr (some a0))), (1, .inl v1), (2, .inl v2), (5, .inl v5)]) (st' := []) (by decide +kernel) rfl rfl ?_
  obtain rfl := Option.some.inj h
  exact xv_w hN rfl
theorem sb223_311 (E : xE G p (xRm 5 (h_sz M' - z0) (h_sl M' - y0)) s m args c prog_14_method_43_code "ZonedFabricModel" z0 y0 (h_sz M') (h_sl M') 9) (B : xB ym223 none meth) (a0 : Nat) (v1 : Int32) (v2 : Int32) (v5 : Int32) (v6 : Int32) (M : hM) {res : xRes} (h : b223_311 a0 v1 v2 v5 v6 M = some res) (hN : xN (pg223 p l e s m args below meth c G z0 y0 r M') r M' res) : xV G p l e (xRm 5 (h_sz M' - z0) (h_sl M' - y0)) s m args below meth c z0 y0 (h_sz M') (h_sl M') 9 (MQ below (xQc G r M') args s (h_sz M' - z0) (h_sl M' - y0) (xFr G)) 311 [(0, .inr (.inr (some a0))), (1, .inl v1), (2, .inl v2), (5, .inl v5), (6, .inl v6)] [] M := by
  unfold b223_311 at h
  refine xv_b E [.iload 6] (pc' := 313) (lv' := [(0, .inr (.inr (some a0))), (1, .inl v1), (2, .inl v2), (5, .inl v5), (6, .inl v6)]) (st' := [.inl v6]) (by decide +kernel) rfl rfl ?_
  by_cases q122 : v6 = 0
  · rw [if_pos q122] at h
    refine xv_if_eq E 317 (show decode prog_14_method_43_code 313 = .ok (.ifCond .eq (4), 3) by decide +kernel) rfl (fun _ => ?_) (fun z => absurd q122 z)
    refine xv_b E [.aload_n 0] (pc' := 318) (lv' := [(0, .inr (.inr (some a0))), (1, .inl v1), (2, .inl v2), (5, .inl v5), (6, .inl v6)]) (st' := [.inr (.inr (some a0))]) (by decide +kernel) rfl rfl ?_
    obtain ⟨o_113, h114, h⟩ := bd h
    refine xg_r E 12 27 h114 mw887 (show decode prog_14_method_43_code 318 = .ok (.getfield 76, 3) by decide +kernel) ?_
    refine xv_b E [.iload 5] (pc' := 323) (lv' := [(0, .inr (.inr (some a0))), (1, .inl v1), (2, .inl v2), (5, .inl v5), (6, .inl v6)]) (st' := [.inl v5, .inr (.inr o_113)]) (by decide +kernel) rfl rfl ?_
    obtain ⟨v_115, h116, h⟩ := bd h
    refine xa_z E h116 (show decode prog_14_method_43_code 323 = .ok (.baload, 1) by decide +kernel) ?_
    by_cases q121 : v_115 = 0
    · rw [if_pos q121] at h
      refine xv_if_eq E 338 (show decode prog_14_method_43_code 324 = .ok (.ifCond .eq (14), 3) by decide +kernel) rfl (fun _ => ?_) (fun z => absurd q121 z)
      refine xv_b E [.iconst 1] (pc' := 339) (lv' := [(0, .inr (.inr (some a0))), (1, .inl v1), (2, .inl v2), (5, .inl v5), (6, .inl v6)]) (st' := [.inl (1 : Int32)]) (by decide +kernel) rfl rfl ?_
      exact xv_w (sb223_339 E B a0 v1 v2 v5 (1 : Int32) M h hN) rfl
    · rw [if_neg q121] at h
      refine xv_if_eq E 338 (show decode prog_14_method_43_code 324 = .ok (.ifCond .eq (14), 3) by decide +kernel) rfl (fun z => absurd z q121) (fun _ => ?_)
      refine xv_b E [.aload_n 0, .iload_n 1, .iload_n 1] (pc' := 330) (lv' := [(0, .inr (.inr (some a0))), (1, .inl v1), (2, .inl v2), (5, .inl v5), (6, .inl v6)]) (st' := [.inl v1, .inl v1, .inr (.inr (some a0))]) (by decide +kernel) rfl rfl ?_
      obtain ⟨b_119, h120, h⟩ := bd h
      obtain ⟨eh120, th120⟩ := g_o_some h120
      obtain ⟨q_117, h118, h⟩ := bd h
      refine xv_cvo E eh120 12 (as := [.inl v1, .inl v1]) (t191 G l (c_I_some h118)) cd191 mw1141 mw1142 mw1143 (show decode prog_14_method_43_code 330 = .ok (.invokevirtual 312, 3) by decide +kernel) th120 rfl rfl (Nat.le_of_ble_eq_true rfl) ⟨Nat.le_of_ble_eq_true rfl, Nat.le_of_ble_eq_true rfl⟩ ?_
      refine xv_b E [.iconst 1, .iadd] (pc' := 335) (lv' := [(0, .inr (.inr (some a0))), (1, .inl v1), (2, .inl v2), (5, .inl v5), (6, .inl v6)]) (st' := [.inl (q_117.1 + (1 : Int32))]) (by decide +kernel) rfl rfl ?_
      refine xv_goto E 339 (show decode prog_14_method_43_code 335 = .ok (.goto (4), 3) by decide +kernel) rfl ?_
      exact xv_w (sb223_339 E B a0 v1 v2 v5 (q_117.1 + (1 : Int32)) q_117.2 h hN) rfl
  · rw [if_neg q122] at h
    refine xv_if_eq E 317 (show decode prog_14_method_43_code 313 = .ok (.ifCond .eq (4), 3) by decide +kernel) rfl (fun z => absurd z q122) (fun _ => ?_)
    obtain rfl := Option.some.inj h
    obtain ⟨rfl, rfl⟩ := Prod.mk.inj (show ((none : Option aV), M) = (r, M') from hN)
    exact xv_rv E B.1 B.2.1 (show decode prog_14_method_43_code 316 = .ok (.return_, 1) by decide +kernel) rfl rfl
theorem sb223_264 (E : xE G p (xRm 5 (h_sz M' - z0) (h_sl M' - y0)) s m args c prog_14_method_43_code "ZonedFabricModel" z0 y0 (h_sz M') (h_sl M') 9) (B : xB ym223 none meth) (a0 : Nat) (v1 : Int32) (v2 : Int32) (v5 : Int32) (v6 : Int32) (v7 : Int32) (M : hM) {res : xRes} (h : b223_264 a0 v1 v2 v5 v6 v7 M = some res) (hN : xN (pg223 p l e s m args below meth c G z0 y0 r M') r M' res) : xV G p l e (xRm 5 (h_sz M' - z0) (h_sl M' - y0)) s m args below meth c z0 y0 (h_sz M') (h_sl M') 9 (MQ below (xQc G r M') args s (h_sz M' - z0) (h_sl M' - y0) (xFr G)) 264 [(0, .inr (.inr (some a0))), (1, .inl v1), (2, .inl v2), (5, .inl v5), (6, .inl v6), (7, .inl v7)] [] M := by
  unfold b223_264 at h
  refine xv_b E [.iload 7, .iload_n 2] (pc' := 267) (lv' := [(0, .inr (.inr (some a0))), (1, .inl v1), (2, .inl v2), (5, .inl v5), (6, .inl v6), (7, .inl v7)]) (st' := [.inl v2, .inl v7]) (by decide +kernel) rfl rfl ?_
  by_cases q112 : v2 ≤ v7
  · rw [if_pos q112] at h
    refine xv_icmp_ge E 311 (show decode prog_14_method_43_code 267 = .ok (.if_icmp .ge (44), 3) by decide +kernel) rfl (fun _ => ?_) (fun z => absurd q112 z)
    exact xv_w (sb223_311 E B a0 v1 v2 v5 v6 M h hN) rfl
  · rw [if_neg q112] at h
    refine xv_icmp_ge E 311 (show decode prog_14_method_43_code 267 = .ok (.if_icmp .ge (44), 3) by decide +kernel) rfl (fun z => absurd z q112) (fun _ => ?_)
    refine xv_b E [.iload 6] (pc' := 272) (lv' := [(0, .inr (.inr (some a0))), (1, .inl v1), (2, .inl v2), (5, .inl v5), (6, .inl v6), (7, .inl v7)]) (st' := [.inl v6]) (by decide +kernel) rfl rfl ?_
    by_cases q111 : v6 = 0
    · rw [if_pos q111] at h
      refine xv_if_eq E 311 (show decode prog_14_method_43_code 272 = .ok (.ifCond .eq (39), 3) by decide +kernel) rfl (fun _ => ?_) (fun z => absurd q111 z)
      exact xv_w (sb223_311 E B a0 v1 v2 v5 v6 M h hN) rfl
    · rw [if_neg q111] at h
      refine xv_if_eq E 311 (show decode prog_14_method_43_code 272 = .ok (.ifCond .eq (39), 3) by decide +kernel) rfl (fun z => absurd z q111) (fun _ => ?_)
      refine xv_b E [.aload_n 0] (pc' := 276) (lv' := [(0, .inr (.inr (some a0))), (1, .inl v1), (2, .inl v2), (5, .inl v5), (6, .inl v6), (7, .inl v7)]) (st' := [.inr (.inr (some a0))]) (by decide +kernel) rfl rfl ?_
      obtain ⟨o_102, h103, h⟩ := bd h
      refine xg_r E 12 29 h103 mw889 (show decode prog_14_method_43_code 276 = .ok (.getfield 82, 3) by decide +kernel) ?_
      refine xv_b E [.bipush 64, .iload 5, .imul, .iload 7, .iadd] (pc' := 287) (lv' := [(0, .inr (.inr (some a0))), (1, .inl v1), (2, .inl v2), (5, .inl v5), (6, .inl v6), (7, .inl v7)]) (st' := [.inl (((64 : Int32) * v5) + v7), .inr (.inr o_102)]) (by decide +kernel) rfl rfl ?_
      obtain ⟨v_104, h105, h⟩ := bd h
      refine xa_i E h105 (show decode prog_14_method_43_code 287 = .ok (.iaload, 1) by decide +kernel) ?_
      refine xv_b E [.aload_n 0] (pc' := 289) (lv' := [(0, .inr (.inr (some a0))), (1, .inl v1), (2, .inl v2), (5, .inl v5), (6, .inl v6), (7, .inl v7)]) (st' := [.inr (.inr (some a0)), .inl v_104]) (by decide +kernel) rfl rfl ?_
      obtain ⟨o_106, h107, h⟩ := bd h
      refine xg_r E 12 31 h107 mw891 (show decode prog_14_method_43_code 289 = .ok (.getfield 88, 3) by decide +kernel) ?_
      refine xv_b E [.iload 7] (pc' := 294) (lv' := [(0, .inr (.inr (some a0))), (1, .inl v1), (2, .inl v2), (5, .inl v5), (6, .inl v6), (7, .inl v7)]) (st' := [.inl v7, .inr (.inr o_106), .inl v_104]) (by decide +kernel) rfl rfl ?_
      obtain ⟨v_108, h109, h⟩ := bd h
      refine xa_i E h109 (show decode prog_14_method_43_code 294 = .ok (.iaload, 1) by decide +kernel) ?_
      by_cases q110 : v_104 = v_108
      · rw [if_pos q110] at h
        refine xv_icmp_ne E 302 (show decode prog_14_method_43_code 295 = .ok (.if_icmp .ne (7), 3) by decide +kernel) rfl (fun z => absurd q110 z) (fun _ => ?_)
        refine xv_b E [.iconst 1] (pc' := 299) (lv' := [(0, .inr (.inr (some a0))), (1, .inl v1), (2, .inl v2), (5, .inl v5), (6, .inl v6), (7, .inl v7)]) (st' := [.inl (1 : Int32)]) (by decide +kernel) rfl rfl ?_
        refine xv_goto E 303 (show decode prog_14_method_43_code 299 = .ok (.goto (4), 3) by decide +kernel) rfl ?_
        exact xv_w (sb223_303 E B a0 v1 v2 v5 v7 (1 : Int32) M h hN) rfl
      · rw [if_neg q110] at h
        refine xv_icmp_ne E 302 (show decode prog_14_method_43_code 295 = .ok (.if_icmp .ne (7), 3) by decide +kernel) rfl (fun _ => ?_) (fun z => absurd z q110)
        refine xv_b E [.iconst 0] (pc' := 303) (lv' := [(0, .inr (.inr (some a0))), (1, .inl v1), (2, .inl v2), (5, .inl v5), (6, .inl v6), (7, .inl v7)]) (st' := [.inl (0 : Int32)]) (by decide +kernel) rfl rfl ?_
        exact xv_w (sb223_303 E B a0 v1 v2 v5 v7 (0 : Int32) M h hN) rfl
theorem sb223_386 (E : xE G p (xRm 5 (h_sz M' - z0) (h_sl M' - y0)) s m args c prog_14_method_43_code "ZonedFabricModel" z0 y0 (h_sz M') (h_sl M') 9) (B : xB ym223 none meth) (a0 : Nat) (v1 : Int32) (v2 : Int32) (v5 : Int32) (v8 : Int32) (M : hM) {res : xRes} (h : b223_386 a0 v1 v2 v5 v8 M = some res) (hN : xN (pg223 p l e s m args below meth c G z0 y0 r M') r M' res) : xV G p l e (xRm 5 (h_sz M' - z0) (h_sl M' - y0)) s m args below meth c z0 y0 (h_sz M') (h_sl M') 9 (MQ below (xQc G r M') args s (h_sz M' - z0) (h_sl M' - y0) (xFr G)) 386 [(0, .inr (.inr (some a0))), (1, .inl v1), (2, .inl v2), (5, .inl v5), (8, .inl v8)] [] M := by
  unfold b223_386 at h
  refine xv_b E [.iload 8, .iload_n 2] (pc' := 389) (lv' := [(0, .inr (.inr (some a0))), (1, .inl v1), (2, .inl v2), (5, .inl v5), (8, .inl v8)]) (st' := [.inl v2, .inl v8]) (by decide +kernel) rfl rfl ?_
  by_cases q167 : v2 ≤ v8
  · rw [if_pos q167] at h
    refine xv_icmp_ge E 418 (show decode prog_14_method_43_code 389 = .ok (.if_icmp .ge (29), 3) by decide +kernel) rfl (fun _ => ?_) (fun z => absurd q167 z)
    refine xv_b E [.aload_n 0] (pc' := 419) (lv' := [(0, .inr (.inr (some a0))), (1, .inl v1), (2, .inl v2), (5, .inl v5), (8, .inl v8)]) (st' := [.inr (.inr (some a0))]) (by decide +kernel) rfl rfl ?_
    obtain ⟨o_135, h136, h⟩ := bd h
    refine xg_r E 12 30 h136 mw890 (show decode prog_14_method_43_code 419 = .ok (.getfield 85, 3) by decide +kernel) ?_
    refine xv_b E [.iload 5, .iload_n 2] (pc' := 425) (lv' := [(0, .inr (.inr (some a0))), (1, .inl v1), (2, .inl v2), (5, .inl v5), (8, .inl v8)]) (st' := [.inl v2, .inl v5, .inr (.inr o_135)]) (by decide +kernel) rfl rfl ?_
    obtain ⟨M137, h138, h⟩ := bd h
    refine xs_i E h138 (show decode prog_14_method_43_code 425 = .ok (.iastore, 1) by decide +kernel) ?_
    refine xv_b E [.aload_n 0] (pc' := 427) (lv' := [(0, .inr (.inr (some a0))), (1, .inl v1), (2, .inl v2), (5, .inl v5), (8, .inl v8)]) (st' := [.inr (.inr (some a0))]) (by decide +kernel) rfl rfl ?_
    obtain ⟨o_139, h140, h⟩ := bd h
    refine xg_r E 12 27 h140 mw887 (show decode prog_14_method_43_code 427 = .ok (.getfield 76, 3) by decide +kernel) ?_
    refine xv_b E [.iload 5, .iconst 1] (pc' := 433) (lv' := [(0, .inr (.inr (some a0))), (1, .inl v1), (2, .inl v2), (5, .inl v5), (8, .inl v8)]) (st' := [.inl (1 : Int32), .inl v5, .inr (.inr o_139)]) (by decide +kernel) rfl rfl ?_
    obtain ⟨M141, h142, h⟩ := bd h
    refine xs_z E h142 (show decode prog_14_method_43_code 433 = .ok (.bastore, 1) by decide +kernel) ?_
    refine xv_b E [.aload_n 0] (pc' := 435) (lv' := [(0, .inr (.inr (some a0))), (1, .inl v1), (2, .inl v2), (5, .inl v5), (8, .inl v8)]) (st' := [.inr (.inr (some a0))]) (by decide +kernel) rfl rfl ?_
    obtain ⟨o_143, h144, h⟩ := bd h
    refine xg_r E 12 28 h144 mw888 (show decode prog_14_method_43_code 435 = .ok (.getfield 79, 3) by decide +kernel) ?_
    refine xv_b E [.iload 5, .aload_n 0] (pc' := 441) (lv' := [(0, .inr (.inr (some a0))), (1, .inl v1), (2, .inl v2), (5, .inl v5), (8, .inl v8)]) (st' := [.inr (.inr (some a0)), .inl v5, .inr (.inr o_143)]) (by decide +kernel) rfl rfl ?_
    obtain ⟨v_145, h146, h⟩ := bd h
    refine xg_i E 12 3 h146 mw1047 (show decode prog_14_method_43_code 441 = .ok (.getfield 276, 3) by decide +kernel) ?_
    obtain ⟨M147, h148, h⟩ := bd h
    refine xs_i E h148 (show decode prog_14_method_43_code 444 = .ok (.iastore, 1) by decide +kernel) ?_
    refine xv_b E [.aload_n 0] (pc' := 446) (lv' := [(0, .inr (.inr (some a0))), (1, .inl v1), (2, .inl v2), (5, .inl v5), (8, .inl v8)]) (st' := [.inr (.inr (some a0))]) (by decide +kernel) rfl rfl ?_
    obtain ⟨o_149, h150, h⟩ := bd h
    refine xg_r E 12 4 h150 mw865 (show decode prog_14_method_43_code 446 = .ok (.getfield 7, 3) by decide +kernel) ?_
    refine xv_b E [.bipush 8, .dup2] (pc' := 452) (lv' := [(0, .inr (.inr (some a0))), (1, .inl v1), (2, .inl v2), (5, .inl v5), (8, .inl v8)]) (st' := [.inl (8 : Int32), .inr (.inr o_149), .inl (8 : Int32), .inr (.inr o_149)]) (by decide +kernel) rfl rfl ?_
    obtain ⟨v_151, h152, h⟩ := bd h
    refine xa_i E h152 (show decode prog_14_method_43_code 452 = .ok (.iaload, 1) by decide +kernel) ?_
    refine xv_b E [.iconst 1, .iadd] (pc' := 455) (lv' := [(0, .inr (.inr (some a0))), (1, .inl v1), (2, .inl v2), (5, .inl v5), (8, .inl v8)]) (st' := [.inl (v_151 + (1 : Int32)), .inl (8 : Int32), .inr (.inr o_149)]) (by decide +kernel) rfl rfl ?_
    obtain ⟨M153, h154, h⟩ := bd h
    refine xs_i E h154 (show decode prog_14_method_43_code 455 = .ok (.iastore, 1) by decide +kernel) ?_
    refine xv_b E [.aload_n 0, .iload_n 1, .iload_n 1, .iconst (-1)] (pc' := 460) (lv' := [(0, .inr (.inr (some a0))), (1, .inl v1), (2, .inl v2), (5, .inl v5), (8, .inl v8)]) (st' := [.inl (-1 : Int32), .inl v1, .inl v1, .inr (.inr (some a0))]) (by decide +kernel) rfl rfl ?_
    obtain ⟨b_157, h158, h⟩ := bd h
    obtain ⟨eh158, th158⟩ := g_o_some h158
    obtain ⟨q_155, h156, h⟩ := bd h
    refine xv_cvo E eh158 12 (as := [.inl v1, .inl v1, .inl (-1 : Int32)]) (t222 G l (c_V_some h156)) cd222 mw1144 mw1145 mw1146 (show decode prog_14_method_43_code 460 = .ok (.invokevirtual 315, 3) by decide +kernel) th158 rfl rfl (Nat.le_of_ble_eq_true rfl) ⟨Nat.le_of_ble_eq_true rfl, Nat.le_of_ble_eq_true rfl⟩ ?_
    obtain rfl := Option.some.inj h
    obtain ⟨rfl, rfl⟩ := Prod.mk.inj (show ((none : Option aV), q_155) = (r, M') from hN)
    exact xv_rv E B.1 B.2.1 (show decode prog_14_method_43_code 463 = .ok (.return_, 1) by decide +kernel) rfl rfl
  · rw [if_neg q167] at h
    refine xv_icmp_ge E 418 (show decode prog_14_method_43_code 389 = .ok (.if_icmp .ge (29), 3) by decide +kernel) rfl (fun z => absurd z q167) (fun _ => ?_)
    refine xv_b E [.aload_n 0] (pc' := 393) (lv' := [(0, .inr (.inr (some a0))), (1, .inl v1), (2, .inl v2), (5, .inl v5), (8, .inl v8)]) (st' := [.inr (.inr (some a0))]) (by decide +kernel) rfl rfl ?_
    obtain ⟨o_159, h160, h⟩ := bd h
    refine xg_r E 12 29 h160 mw889 (show decode prog_14_method_43_code 393 = .ok (.getfield 82, 3) by decide +kernel) ?_
    refine xv_b E [.bipush 64, .iload 5, .imul, .iload 8, .iadd, .aload_n 0] (pc' := 405) (lv' := [(0, .inr (.inr (some a0))), (1, .inl v1), (2, .inl v2), (5, .inl v5), (8, .inl v8)]) (st' := [.inr (.inr (some a0)), .inl (((64 : Int32) * v5) + v8), .inr (.inr o_159)]) (by decide +kernel) rfl rfl ?_
    obtain ⟨o_161, h162, h⟩ := bd h
    refine xg_r E 12 31 h162 mw891 (show decode prog_14_method_43_code 405 = .ok (.getfield 88, 3) by decide +kernel) ?_
    refine xv_b E [.iload 8] (pc' := 410) (lv' := [(0, .inr (.inr (some a0))), (1, .inl v1), (2, .inl v2), (5, .inl v5), (8, .inl v8)]) (st' := [.inl v8, .inr (.inr o_161), .inl (((64 : Int32) * v5) + v8), .inr (.inr o_159)]) (by decide +kernel) rfl rfl ?_
    obtain ⟨v_163, h164, h⟩ := bd h
    refine xa_i E h164 (show decode prog_14_method_43_code 410 = .ok (.iaload, 1) by decide +kernel) ?_
    obtain ⟨M165, h166, h⟩ := bd h
    refine xs_i E h166 (show decode prog_14_method_43_code 411 = .ok (.iastore, 1) by decide +kernel) ?_
    refine xv_b E [.iinc 8 1] (pc' := 415) (lv' := [(8, .inl (v8 + (1 : Int32))), (0, .inr (.inr (some a0))), (1, .inl v1), (2, .inl v2), (5, .inl v5)]) (st' := []) (by decide +kernel) rfl rfl ?_
    refine xv_goto E 386 (show decode prog_14_method_43_code 415 = .ok (.goto (-29), 3) by decide +kernel) rfl ?_
    obtain rfl := Option.some.inj h
    exact xv_w hN rfl
end
theorem t223 (G : gX) (l : Launch) {as : List aV} {M : hM} {r : Option aV} {M' : hM} (h : f223 as M = some (r, M')) : xM G l ym223 prog_14_method_43_code 9 none 5 as M r M' := by
  unfold f223 at h
  split at h
  · have hle : ∀ h as M res, k223 h as M = some res → h_sz M ≤ r_sz res ∧ h_sl M ≤ r_sl res := by
      intro h as M res hb
      unfold k223 at hb
      by_cases e0 : h = 29
      · rw [if_pos e0] at hb
        split at hb
        · exact lb223_29 G l _ _ _ _ _ M hb
        · cases hb
      · rw [if_neg e0] at hb
        by_cases e1 : h = 132
        · rw [if_pos e1] at hb
          split at hb
          · exact lb223_132 G l _ _ _ _ _ _ M hb
          · cases hb
        · rw [if_neg e1] at hb
          by_cases e2 : h = 264
          · rw [if_pos e2] at hb
            split at hb
            · exact lb223_264 G l _ _ _ _ _ _ M hb
            · cases hb
          · rw [if_neg e2] at hb
            by_cases e3 : h = 386
            · rw [if_pos e3] at hb
              split at hb
              · exact lb223_386 G l _ _ _ _ _ M hb
              · cases hb
            · rw [if_neg e3] at hb
              cases hb
    obtain ⟨res, hx, hres⟩ := x_go_ok h
    refine xM_of (by decide) (Nat.le_of_ble_eq_true rfl) ?_ ?_
    · have e1 := lb223_0 G l _ _ M hx
      have e2 := x_go_le hle hres
      omega
    · intro p e s m args below meth c E B
      refine sb223_0 E B _ _ M hx (hres _ ?_)
      intro h as M res hb hN
      unfold k223 at hb
      unfold pg223
      by_cases e0 : h = 29
      · rw [if_pos e0] at hb ⊢
        split at hb
        · exact sb223_29 E B _ _ _ _ _ M hb hN
        · cases hb
      · rw [if_neg e0] at hb ⊢
        by_cases e1 : h = 132
        · rw [if_pos e1] at hb ⊢
          split at hb
          · exact sb223_132 E B _ _ _ _ _ _ M hb hN
          · cases hb
        · rw [if_neg e1] at hb ⊢
          by_cases e2 : h = 264
          · rw [if_pos e2] at hb ⊢
            split at hb
            · exact sb223_264 E B _ _ _ _ _ _ M hb hN
            · cases hb
          · rw [if_neg e2] at hb ⊢
            by_cases e3 : h = 386
            · rw [if_pos e3] at hb ⊢
              split at hb
              · exact sb223_386 E B _ _ _ _ _ M hb hN
              · cases hb
            · rw [if_neg e3] at hb ⊢
              cases hb
  · cases h
/-! ZFModel.timers(I)V -/
def ym224 : MethodName := ⟨"ZonedFabricModel", "timers", "(I)V"⟩
theorem cd224 : xCd ym224 prog_14_method_42_code 5 none 1 := ⟨mw1147, mw864, by decide, by decide, by decide +kernel⟩
def b224_0 (a0 : Nat) (v1 : Int32) (M : hM) : Option xRes :=
  some (.inr (2, [.inr (.inr (some a0)), .inl v1, .inl (0 : Int32)], M))
def b224_77 (a0 : Nat) (v1 : Int32) (v2 : Int32) (M : hM) : Option xRes :=
  some (.inr (2, [.inr (.inr (some a0)), .inl v1, .inl (v2 + (1 : Int32))], M))
def b224_53 (a0 : Nat) (v1 : Int32) (v2 : Int32) (v3 : Int32) (M : hM) : Option xRes :=
  Option.bind (g_r M 12 25 (some a0)) fun o_25 =>
  Option.bind (as_i M 20 o_25 v3 (0 : Int32)) fun M27 =>
  Option.bind (g_o M27 12 (some a0)) fun b_31 =>
  Option.bind (c_I (f168 [.inr (.inr (some b_31)), .inl (4 : Int32), .inl (0 : Int32), .inl (16777214 : Int32), .inl (0 : Int32), .inl (0 : Int32), .inl (0 : Int32)] M27)) fun q_29 =>
  Option.bind (g_o q_29.2 12 (some a0)) fun b_35 =>
  Option.bind (c_V (f183 [.inr (.inr (some b_35)), .inl v3, .inl q_29.1] q_29.2)) fun q_33 =>
  b224_77 a0 v1 v2 q_33
def b224_2 (a0 : Nat) (v1 : Int32) (v2 : Int32) (M : hM) : Option xRes :=
  if (8 : Int32) ≤ v2 then
    (some (.inr (85, [.inr (.inr (some a0)), .inl v1, .inl (0 : Int32)], M)))
  else
    (Option.bind (g_o M 12 (some a0)) fun b_3 =>
    Option.bind (c_I (f175 [.inr (.inr (some b_3)), .inl v1, .inl v2] M)) fun q_1 =>
    Option.bind (g_r q_1.2 12 25 (some a0)) fun o_5 =>
    Option.bind (al_i q_1.2 20 o_5 q_1.1) fun v_7 =>
    if v_7 = 0 then
      (b224_77 a0 v1 v2 q_1.2)
    else
      (Option.bind (g_r q_1.2 12 25 (some a0)) fun o_9 =>
      Option.bind (al_i q_1.2 20 o_9 q_1.1) fun v_11 =>
      Option.bind (g_r q_1.2 12 26 (some a0)) fun o_13 =>
      Option.bind (al_i q_1.2 20 o_13 v1) fun v_15 =>
      if (v_11 >>> ((16 : Int32) &&& 31)) = v_15 then
        (Option.bind (g_o q_1.2 12 (some a0)) fun b_19 =>
        Option.bind (c_I (f200 [.inr (.inr (some b_19)), .inl v1] q_1.2)) fun q_17 =>
        if q_17.1 = 0 then
          (b224_77 a0 v1 v2 q_17.2)
        else
          (b224_53 a0 v1 v2 q_1.1 q_17.2))
      else
        (b224_53 a0 v1 v2 q_1.1 q_1.2)))
def b224_143 (a0 : Nat) (v1 : Int32) (v2 : Int32) (M : hM) : Option xRes :=
  some (.inr (85, [.inr (.inr (some a0)), .inl v1, .inl (v2 + (1 : Int32))], M))
def b224_85 (a0 : Nat) (v1 : Int32) (v2 : Int32) (M : hM) : Option xRes :=
  Option.bind (g_i M 12 0 (some a0)) fun v_37 =>
  if v_37 ≤ v2 then
    (some (.inr (151, [.inr (.inr (some a0)), .inl v1, .inl (0 : Int32)], M)))
  else
    (if v2 = v1 then
      (b224_143 a0 v1 v2 M)
    else
      (Option.bind (g_r M 12 27 (some a0)) fun o_39 =>
      Option.bind (al_i M 22 o_39 (((5 : Int32) * v1) + v2)) fun v_41 =>
      if v_41 = 0 then
        (b224_143 a0 v1 v2 M)
      else
        (Option.bind (g_i M 12 3 (some a0)) fun v_43 =>
        Option.bind (g_r M 12 28 (some a0)) fun o_45 =>
        Option.bind (al_i M 20 o_45 (((5 : Int32) * v1) + v2)) fun v_47 =>
        if (v_43 - v_47) < (150 : Int32) then
          (b224_143 a0 v1 v2 M)
        else
          (Option.bind (g_r M 12 27 (some a0)) fun o_49 =>
          Option.bind (as_z M 22 o_49 (((5 : Int32) * v1) + v2) (0 : Int32)) fun M51 =>
          b224_143 a0 v1 v2 M51))))
def b224_252 (a0 : Nat) (v1 : Int32) (v2 : Int32) (M : hM) : Option xRes :=
  some (.inr (151, [.inr (.inr (some a0)), .inl v1, .inl (v2 + (1 : Int32))], M))
def b224_151 (a0 : Nat) (v1 : Int32) (v2 : Int32) (M : hM) : Option xRes :=
  if (8 : Int32) ≤ v2 then
    (Option.bind (g_o M 12 (some a0)) fun b_59 =>
    Option.bind (c_V (f223 [.inr (.inr (some b_59)), .inl v1] M)) fun q_57 =>
    some (.inl (none, q_57)))
  else
    (Option.bind (g_o M 12 (some a0)) fun b_63 =>
    Option.bind (c_I (f175 [.inr (.inr (some b_63)), .inl v1, .inl v2] M)) fun q_61 =>
    Option.bind (g_o q_61.2 12 (some a0)) fun b_67 =>
    Option.bind (c_I (f177 [.inr (.inr (some b_67)), .inl q_61.1] q_61.2)) fun q_65 =>
    if q_65.1 = 0 then
      (b224_252 a0 v1 v2 q_65.2)
    else
      (Option.bind (g_o q_65.2 12 (some a0)) fun b_71 =>
      Option.bind (c_I (f179 [.inr (.inr (some b_71)), .inl q_61.1] q_65.2)) fun q_69 =>
      if q_69.1 = (-1 : Int32) then
        (Option.bind (g_r q_69.2 12 23 (some a0)) fun o_73 =>
        Option.bind (al_i q_69.2 20 o_73 q_61.1) fun v_75 =>
        if v_75 = (-1 : Int32) then
          (Option.bind (g_i q_69.2 12 3 (some a0)) fun v_77 =>
          Option.bind (g_r q_69.2 12 24 (some a0)) fun o_79 =>
          Option.bind (al_i q_69.2 20 o_79 q_61.1) fun v_81 =>
          if (10 : Int32) < (v_77 - v_81) then
            (Option.bind (g_r q_69.2 12 24 (some a0)) fun o_83 =>
            Option.bind (g_i q_69.2 12 3 (some a0)) fun v_85 =>
            Option.bind (as_i q_69.2 20 o_83 q_61.1 v_85) fun M87 =>
            Option.bind (g_o M87 12 (some a0)) fun b_91 =>
            Option.bind (c_I (f168 [.inr (.inr (some b_91)), .inl (1 : Int32), .inl (16777213 : Int32), .inl (16777213 : Int32), .inl (0 : Int32), .inl (0 : Int32), .inl (0 : Int32)] M87)) fun q_89 =>
            Option.bind (g_o q_89.2 12 (some a0)) fun b_95 =>
            Option.bind (c_V (f167 [.inr (.inr (some b_95)), .inl q_89.1, .inr (.inl (Int32.toInt64 v1)), .inl (1 : Int32)] q_89.2)) fun q_93 =>
            Option.bind (g_o q_93 12 (some a0)) fun b_99 =>
            Option.bind (c_V (f183 [.inr (.inr (some b_99)), .inl q_61.1, .inl q_89.1] q_93)) fun q_97 =>
            b224_252 a0 v1 v2 q_97)
          else
            (b224_252 a0 v1 v2 q_69.2))
        else
          (b224_252 a0 v1 v2 q_69.2))
      else
        (b224_252 a0 v1 v2 q_69.2)))
def k224 (h : Nat) (as : List aV) (M : hM) : Option xRes :=
  if h = 2 then (match as with | [.inr (.inr (some a0)), .inl v1, .inl v2] => b224_2 a0 v1 v2 M | _ => none) else
  if h = 85 then (match as with | [.inr (.inr (some a0)), .inl v1, .inl v2] => b224_85 a0 v1 v2 M | _ => none) else
  if h = 151 then (match as with | [.inr (.inr (some a0)), .inl v1, .inl v2] => b224_151 a0 v1 v2 M | _ => none) else
  none
def f224 (as : List aV) (M : hM) : xO := match as with
  | [.inr (.inr (some a0)), .inl v1] => x_go k224 (b224_0 a0 v1 M)
  | _ => none
theorem lb224_0 (G : gX) (l : Launch) (a0 : Nat) (v1 : Int32) (M : hM) {res : xRes} (h : b224_0 a0 v1 M = some res) : h_sz M ≤ r_sz res ∧ h_sl M ≤ r_sl res := by
  unfold b224_0 at h
  obtain rfl := Option.some.inj h
  show h_sz M ≤ h_sz M ∧ h_sl M ≤ h_sl M
  omega
theorem lb224_77 (G : gX) (l : Launch) (a0 : Nat) (v1 : Int32) (v2 : Int32) (M : hM) {res : xRes} (h : b224_77 a0 v1 v2 M = some res) : h_sz M ≤ r_sz res ∧ h_sl M ≤ r_sl res := by
  unfold b224_77 at h
  obtain rfl := Option.some.inj h
  show h_sz M ≤ h_sz M ∧ h_sl M ≤ h_sl M
  omega
theorem lb224_53 (G : gX) (l : Launch) (a0 : Nat) (v1 : Int32) (v2 : Int32) (v3 : Int32) (M : hM) {res : xRes} (h : b224_53 a0 v1 v2 v3 M = some res) : h_sz M ≤ r_sz res ∧ h_sl M ≤ r_sl res := by
  unfold b224_53 at h
  obtain ⟨o_25, h26, h⟩ := bd h
  obtain ⟨M27, h28, h⟩ := bd h
  have eh28 := as_i_sz h28
  obtain ⟨b_31, h32, h⟩ := bd h
  obtain ⟨q_29, h30, h⟩ := bd h
  have eh30 := (t168 G l (c_I_some h30)).1
  obtain ⟨b_35, h36, h⟩ := bd h
  obtain ⟨q_33, h34, h⟩ := bd h
  have eh34 := (t183 G l (c_V_some h34)).1
  have e := lb224_77 G l a0 v1 v2 q_33 h
  omega
theorem lb224_2 (G : gX) (l : Launch) (a0 : Nat) (v1 : Int32) (v2 : Int32) (M : hM) {res : xRes} (h : b224_2 a0 v1 v2 M = some res) : h_sz M ≤ r_sz res ∧ h_sl M ≤ r_sl res := by
  unfold b224_2 at h
  by_cases q24 : (8 : Int32) ≤ v2
  · rw [if_pos q24] at h
    obtain rfl := Option.some.inj h
    show h_sz M ≤ h_sz M ∧ h_sl M ≤ h_sl M
    omega
  · rw [if_neg q24] at h
    obtain ⟨b_3, h4, h⟩ := bd h
    obtain ⟨q_1, h2, h⟩ := bd h
    have eh2 := (t175 G l (c_I_some h2)).1
    obtain ⟨o_5, h6, h⟩ := bd h
    obtain ⟨v_7, h8, h⟩ := bd h
    by_cases q23 : v_7 = 0
    · rw [if_pos q23] at h
      have e := lb224_77 G l a0 v1 v2 q_1.2 h
      omega
    · rw [if_neg q23] at h
      obtain ⟨o_9, h10, h⟩ := bd h
      obtain ⟨v_11, h12, h⟩ := bd h
      obtain ⟨o_13, h14, h⟩ := bd h
      obtain ⟨v_15, h16, h⟩ := bd h
      by_cases q22 : (v_11 >>> ((16 : Int32) &&& 31)) = v_15
      · rw [if_pos q22] at h
        obtain ⟨b_19, h20, h⟩ := bd h
        obtain ⟨q_17, h18, h⟩ := bd h
        have eh18 := (t200 G l (c_I_some h18)).1
        by_cases q21 : q_17.1 = 0
        · rw [if_pos q21] at h
          have e := lb224_77 G l a0 v1 v2 q_17.2 h
          omega
        · rw [if_neg q21] at h
          have e := lb224_53 G l a0 v1 v2 q_1.1 q_17.2 h
          omega
      · rw [if_neg q22] at h
        have e := lb224_53 G l a0 v1 v2 q_1.1 q_1.2 h
        omega
theorem lb224_143 (G : gX) (l : Launch) (a0 : Nat) (v1 : Int32) (v2 : Int32) (M : hM) {res : xRes} (h : b224_143 a0 v1 v2 M = some res) : h_sz M ≤ r_sz res ∧ h_sl M ≤ r_sl res := by
  unfold b224_143 at h
  obtain rfl := Option.some.inj h
  show h_sz M ≤ h_sz M ∧ h_sl M ≤ h_sl M
  omega
theorem lb224_85 (G : gX) (l : Launch) (a0 : Nat) (v1 : Int32) (v2 : Int32) (M : hM) {res : xRes} (h : b224_85 a0 v1 v2 M = some res) : h_sz M ≤ r_sz res ∧ h_sl M ≤ r_sl res := by
  unfold b224_85 at h
  obtain ⟨v_37, h38, h⟩ := bd h
  by_cases q56 : v_37 ≤ v2
  · rw [if_pos q56] at h
    obtain rfl := Option.some.inj h
    show h_sz M ≤ h_sz M ∧ h_sl M ≤ h_sl M
    omega
  · rw [if_neg q56] at h
    by_cases q55 : v2 = v1
    · rw [if_pos q55] at h
      have e := lb224_143 G l a0 v1 v2 M h
      omega
    · rw [if_neg q55] at h
      obtain ⟨o_39, h40, h⟩ := bd h
      obtain ⟨v_41, h42, h⟩ := bd h
      by_cases q54 : v_41 = 0
      · rw [if_pos q54] at h
        have e := lb224_143 G l a0 v1 v2 M h
        omega
      · rw [if_neg q54] at h
        obtain ⟨v_43, h44, h⟩ := bd h
        obtain ⟨o_45, h46, h⟩ := bd h
        obtain ⟨v_47, h48, h⟩ := bd h
        by_cases q53 : (v_43 - v_47) < (150 : Int32)
        · rw [if_pos q53] at h
          have e := lb224_143 G l a0 v1 v2 M h
          omega
        · rw [if_neg q53] at h
          obtain ⟨o_49, h50, h⟩ := bd h
          obtain ⟨M51, h52, h⟩ := bd h
          have eh52 := as_z_sz h52
          have e := lb224_143 G l a0 v1 v2 M51 h
          omega
theorem lb224_252 (G : gX) (l : Launch) (a0 : Nat) (v1 : Int32) (v2 : Int32) (M : hM) {res : xRes} (h : b224_252 a0 v1 v2 M = some res) : h_sz M ≤ r_sz res ∧ h_sl M ≤ r_sl res := by
  unfold b224_252 at h
  obtain rfl := Option.some.inj h
  show h_sz M ≤ h_sz M ∧ h_sl M ≤ h_sl M
  omega
theorem lb224_151 (G : gX) (l : Launch) (a0 : Nat) (v1 : Int32) (v2 : Int32) (M : hM) {res : xRes} (h : b224_151 a0 v1 v2 M = some res) : h_sz M ≤ r_sz res ∧ h_sl M ≤ r_sl res := by
  unfold b224_151 at h
  by_cases q105 : (8 : Int32) ≤ v2
  · rw [if_pos q105] at h
    obtain ⟨b_59, h60, h⟩ := bd h
    obtain ⟨q_57, h58, h⟩ := bd h
    have eh58 := (t223 G l (c_V_some h58)).1
    obtain rfl := Option.some.inj h
    show h_sz M ≤ h_sz q_57 ∧ h_sl M ≤ h_sl q_57
    omega
  · rw [if_neg q105] at h
    obtain ⟨b_63, h64, h⟩ := bd h
    obtain ⟨q_61, h62, h⟩ := bd h
    have eh62 := (t175 G l (c_I_some h62)).1
    obtain ⟨b_67, h68, h⟩ := bd h
    obtain ⟨q_65, h66, h⟩ := bd h
    have eh66 := (t177 G l (c_I_some h66)).1
    by_cases q104 : q_65.1 = 0
    · rw [if_pos q104] at h
      have e := lb224_252 G l a0 v1 v2 q_65.2 h
      omega
    · rw [if_neg q104] at h
      obtain ⟨b_71, h72, h⟩ := bd h
      obtain ⟨q_69, h70, h⟩ := bd h
      have eh70 := (t179 G l (c_I_some h70)).1
      by_cases q103 : q_69.1 = (-1 : Int32)
      · rw [if_pos q103] at h
        obtain ⟨o_73, h74, h⟩ := bd h
        obtain ⟨v_75, h76, h⟩ := bd h
        by_cases q102 : v_75 = (-1 : Int32)
        · rw [if_pos q102] at h
          obtain ⟨v_77, h78, h⟩ := bd h
          obtain ⟨o_79, h80, h⟩ := bd h
          obtain ⟨v_81, h82, h⟩ := bd h
          by_cases q101 : (10 : Int32) < (v_77 - v_81)
          · rw [if_pos q101] at h
            obtain ⟨o_83, h84, h⟩ := bd h
            obtain ⟨v_85, h86, h⟩ := bd h
            obtain ⟨M87, h88, h⟩ := bd h
            have eh88 := as_i_sz h88
            obtain ⟨b_91, h92, h⟩ := bd h
            obtain ⟨q_89, h90, h⟩ := bd h
            have eh90 := (t168 G l (c_I_some h90)).1
            obtain ⟨b_95, h96, h⟩ := bd h
            obtain ⟨q_93, h94, h⟩ := bd h
            have eh94 := (t167 G l (c_V_some h94)).1
            obtain ⟨b_99, h100, h⟩ := bd h
            obtain ⟨q_97, h98, h⟩ := bd h
            have eh98 := (t183 G l (c_V_some h98)).1
            have e := lb224_252 G l a0 v1 v2 q_97 h
            omega
          · rw [if_neg q101] at h
            have e := lb224_252 G l a0 v1 v2 q_69.2 h
            omega
        · rw [if_neg q102] at h
          have e := lb224_252 G l a0 v1 v2 q_69.2 h
          omega
      · rw [if_neg q103] at h
        have e := lb224_252 G l a0 v1 v2 q_69.2 h
        omega
section
variable {p : Program} {l : Launch} {e : Env} {s : State} {m : MethodId} {args : Array Value} {below : List Frame} {meth : Method} {c : Code} {G : gX} {z0 y0 : Nat} {r : Option aV} {M' : hM}
def pg224 (p : Program) (l : Launch) (e : Env) (s : State) (m : MethodId) (args : Array Value) (below : List Frame) (meth : Method) (c : Code) (G : gX) (z0 y0 : Nat) (r : Option aV) (M' : hM) (h : Nat) (as : List aV) (M : hM) : Prop :=
  if h = 2 then (match as with | [.inr (.inr (some a0)), .inl v1, .inl v2] => xV G p l e (xRm 7 (h_sz M' - z0) (h_sl M' - y0)) s m args below meth c z0 y0 (h_sz M') (h_sl M') 5 (MQ below (xQc G r M') args s (h_sz M' - z0) (h_sl M' - y0) (xFr G)) 2 [(0, .inr (.inr (some a0))), (1, .inl v1), (2, .inl v2)] [] M | _ => False) else
  if h = 85 then (match as with | [.inr (.inr (some a0)), .inl v1, .inl v2] => xV G p l e (xRm 7 (h_sz M' - z0) (h_sl M' - y0)) s m args below meth c z0 y0 (h_sz M') (h_sl M') 5 (MQ below (xQc G r M') args s (h_sz M' - z0) (h_sl M' - y0) (xFr G)) 85 [(0, .inr (.inr (some a0))), (1, .inl v1), (2, .inl v2)] [] M | _ => False) else
  if h = 151 then (match as with | [.inr (.inr (some a0)), .inl v1, .inl v2] => xV G p l e (xRm 7 (h_sz M' - z0) (h_sl M' - y0)) s m args below meth c z0 y0 (h_sz M') (h_sl M') 5 (MQ below (xQc G r M') args s (h_sz M' - z0) (h_sl M' - y0) (xFr G)) 151 [(0, .inr (.inr (some a0))), (1, .inl v1), (2, .inl v2)] [] M | _ => False) else
  False
theorem sb224_0 (E : xE G p (xRm 7 (h_sz M' - z0) (h_sl M' - y0)) s m args c prog_14_method_42_code "ZonedFabricModel" z0 y0 (h_sz M') (h_sl M') 5) (B : xB ym224 none meth) (a0 : Nat) (v1 : Int32) (M : hM) {res : xRes} (h : b224_0 a0 v1 M = some res) (hN : xN (pg224 p l e s m args below meth c G z0 y0 r M') r M' res) : xV G p l e (xRm 7 (h_sz M' - z0) (h_sl M' - y0)) s m args below meth c z0 y0 (h_sz M') (h_sl M') 5 (MQ below (xQc G r M') args s (h_sz M' - z0) (h_sl M' - y0) (xFr G)) 0 [(0, .inr (.inr (some a0))), (1, .inl v1)] [] M := by
  unfold b224_0 at h
  refine xv_b E [.iconst 0, .istore_n 2] (pc' := 2) (lv' := [(2, .inl (0 : Int32)), (0, .inr (.inr (some a0))), (1, .inl v1)]) (st' := []) (by decide +kernel) rfl rfl ?_
  obtain rfl := Option.some.inj h
  exact xv_w hN rfl
theorem sb224_77 (E : xE G p (xRm 7 (h_sz M' - z0) (h_sl M' - y0)) s m args c prog_14_method_42_code "ZonedFabricModel" z0 y0 (h_sz M') (h_sl M') 5) (B : xB ym224 none meth) (a0 : Nat) (v1 : Int32) (v2 : Int32) (M : hM) {res : xRes} (h : b224_77 a0 v1 v2 M = some res) (hN : xN (pg224 p l e s m args below meth c G z0 y0 r M') r M' res) : xV G p l e (xRm 7 (h_sz M' - z0) (h_sl M' - y0)) s m args below meth c z0 y0 (h_sz M') (h_sl M') 5 (MQ below (xQc G r M') args s (h_sz M' - z0) (h_sl M' - y0) (xFr G)) 77 [(0, .inr (.inr (some a0))), (1, .inl v1), (2, .inl v2)] [] M := by
  unfold b224_77 at h
  refine xv_b E [.iinc 2 1] (pc' := 80) (lv' := [(2, .inl (v2 + (1 : Int32))), (0, .inr (.inr (some a0))), (1, .inl v1)]) (st' := []) (by decide +kernel) rfl rfl ?_
  refine xv_goto E 2 (show decode prog_14_method_42_code 80 = .ok (.goto (-78), 3) by decide +kernel) rfl ?_
  obtain rfl := Option.some.inj h
  exact xv_w hN rfl
theorem sb224_53 (E : xE G p (xRm 7 (h_sz M' - z0) (h_sl M' - y0)) s m args c prog_14_method_42_code "ZonedFabricModel" z0 y0 (h_sz M') (h_sl M') 5) (B : xB ym224 none meth) (a0 : Nat) (v1 : Int32) (v2 : Int32) (v3 : Int32) (M : hM) {res : xRes} (h : b224_53 a0 v1 v2 v3 M = some res) (hN : xN (pg224 p l e s m args below meth c G z0 y0 r M') r M' res) : xV G p l e (xRm 7 (h_sz M' - z0) (h_sl M' - y0)) s m args below meth c z0 y0 (h_sz M') (h_sl M') 5 (MQ below (xQc G r M') args s (h_sz M' - z0) (h_sl M' - y0) (xFr G)) 53 [(0, .inr (.inr (some a0))), (1, .inl v1), (2, .inl v2), (3, .inl v3)] [] M := by
  unfold b224_53 at h
  refine xv_b E [.aload_n 0] (pc' := 54) (lv' := [(0, .inr (.inr (some a0))), (1, .inl v1), (2, .inl v2), (3, .inl v3)]) (st' := [.inr (.inr (some a0))]) (by decide +kernel) rfl rfl ?_
  obtain ⟨o_25, h26, h⟩ := bd h
  refine xg_r E 12 25 h26 mw885 (show decode prog_14_method_42_code 54 = .ok (.getfield 70, 3) by decide +kernel) ?_
  refine xv_b E [.iload_n 3, .iconst 0] (pc' := 59) (lv' := [(0, .inr (.inr (some a0))), (1, .inl v1), (2, .inl v2), (3, .inl v3)]) (st' := [.inl (0 : Int32), .inl v3, .inr (.inr o_25)]) (by decide +kernel) rfl rfl ?_
  obtain ⟨M27, h28, h⟩ := bd h
  refine xs_i E h28 (show decode prog_14_method_42_code 59 = .ok (.iastore, 1) by decide +kernel) ?_
  refine xv_b E [.aload_n 0, .iload_n 3, .aload_n 0, .iconst 4, .iconst 0] (pc' := 65) (lv' := [(0, .inr (.inr (some a0))), (1, .inl v1), (2, .inl v2), (3, .inl v3)]) (st' := [.inl (0 : Int32), .inl (4 : Int32), .inr (.inr (some a0)), .inl v3, .inr (.inr (some a0))]) (by decide +kernel) rfl rfl ?_
  refine xv_ldcw E (16777214 : Int32) mw1060 (show decode prog_14_method_42_code 65 = .ok (.ldc_w 300, 3) by decide +kernel) ?_
  refine xv_b E [.iconst 0, .iconst 0, .iconst 0] (pc' := 71) (lv' := [(0, .inr (.inr (some a0))), (1, .inl v1), (2, .inl v2), (3, .inl v3)]) (st' := [.inl (0 : Int32), .inl (0 : Int32), .inl (0 : Int32), .inl (16777214 : Int32), .inl (0 : Int32), .inl (4 : Int32), .inr (.inr (some a0)), .inl v3, .inr (.inr (some a0))]) (by decide +kernel) rfl rfl ?_
  obtain ⟨b_31, h32, h⟩ := bd h
  obtain ⟨eh32, th32⟩ := g_o_some h32
  obtain ⟨q_29, h30, h⟩ := bd h
  refine xv_cvo E eh32 12 (as := [.inl (4 : Int32), .inl (0 : Int32), .inl (16777214 : Int32), .inl (0 : Int32), .inl (0 : Int32), .inl (0 : Int32)]) (t168 G l (c_I_some h30)) cd168 mw1033 mw1034 mw1035 (show decode prog_14_method_42_code 71 = .ok (.invokevirtual 272, 3) by decide +kernel) th32 rfl rfl (Nat.le_of_ble_eq_true rfl) ⟨Nat.le_of_ble_eq_true rfl, Nat.le_of_ble_eq_true rfl⟩ ?_
  obtain ⟨b_35, h36, h⟩ := bd h
  obtain ⟨eh36, th36⟩ := g_o_some h36
  obtain ⟨q_33, h34, h⟩ := bd h
  refine xv_cvo E eh36 12 (as := [.inl v3, .inl q_29.1]) (t183 G l (c_V_some h34)) cd183 mw1043 mw1044 mw1045 (show decode prog_14_method_42_code 74 = .ok (.invokevirtual 301, 3) by decide +kernel) th36 rfl rfl (Nat.le_of_ble_eq_true rfl) ⟨Nat.le_of_ble_eq_true rfl, Nat.le_of_ble_eq_true rfl⟩ ?_
  exact xv_w (sb224_77 E B a0 v1 v2 q_33 h hN) rfl
theorem sb224_2 (E : xE G p (xRm 7 (h_sz M' - z0) (h_sl M' - y0)) s m args c prog_14_method_42_code "ZonedFabricModel" z0 y0 (h_sz M') (h_sl M') 5) (B : xB ym224 none meth) (a0 : Nat) (v1 : Int32) (v2 : Int32) (M : hM) {res : xRes} (h : b224_2 a0 v1 v2 M = some res) (hN : xN (pg224 p l e s m args below meth c G z0 y0 r M') r M' res) : xV G p l e (xRm 7 (h_sz M' - z0) (h_sl M' - y0)) s m args below meth c z0 y0 (h_sz M') (h_sl M') 5 (MQ below (xQc G r M') args s (h_sz M' - z0) (h_sl M' - y0) (xFr G)) 2 [(0, .inr (.inr (some a0))), (1, .inl v1), (2, .inl v2)] [] M := by
  unfold b224_2 at h
  refine xv_b E [.iload_n 2, .bipush 8] (pc' := 5) (lv' := [(0, .inr (.inr (some a0))), (1, .inl v1), (2, .inl v2)]) (st' := [.inl (8 : Int32), .inl v2]) (by decide +kernel) rfl rfl ?_
  by_cases q24 : (8 : Int32) ≤ v2
  · rw [if_pos q24] at h
    refine xv_icmp_ge E 83 (show decode prog_14_method_42_code 5 = .ok (.if_icmp .ge (78), 3) by decide +kernel) rfl (fun _ => ?_) (fun z => absurd q24 z)
    refine xv_b E [.iconst 0, .istore_n 2] (pc' := 85) (lv' := [(2, .inl (0 : Int32)), (0, .inr (.inr (some a0))), (1, .inl v1)]) (st' := []) (by decide +kernel) rfl rfl ?_
    obtain rfl := Option.some.inj h
    exact xv_w hN rfl
  · rw [if_neg q24] at h
    refine xv_icmp_ge E 83 (show decode prog_14_method_42_code 5 = .ok (.if_icmp .ge (78), 3) by decide +kernel) rfl (fun z => absurd z q24) (fun _ => ?_)
    refine xv_b E [.aload_n 0, .iload_n 1, .iload_n 2] (pc' := 11) (lv' := [(0, .inr (.inr (some a0))), (1, .inl v1), (2, .inl v2)]) (st' := [.inl v2, .inl v1, .inr (.inr (some a0))]) (by decide +kernel) rfl rfl ?_
    obtain ⟨b_3, h4, h⟩ := bd h
    obtain ⟨eh4, th4⟩ := g_o_some h4
    obtain ⟨q_1, h2, h⟩ := bd h
    refine xv_cvo E eh4 12 (as := [.inl v1, .inl v2]) (t175 G l (c_I_some h2)) cd175 mw1134 mw1135 mw1136 (show decode prog_14_method_42_code 11 = .ok (.invokevirtual 288, 3) by decide +kernel) th4 rfl rfl (Nat.le_of_ble_eq_true rfl) ⟨Nat.le_of_ble_eq_true rfl, Nat.le_of_ble_eq_true rfl⟩ ?_
    refine xv_b E [.istore_n 3, .aload_n 0] (pc' := 16) (lv' := [(3, .inl q_1.1), (0, .inr (.inr (some a0))), (1, .inl v1), (2, .inl v2)]) (st' := [.inr (.inr (some a0))]) (by decide +kernel) rfl rfl ?_
    obtain ⟨o_5, h6, h⟩ := bd h
    refine xg_r E 12 25 h6 mw885 (show decode prog_14_method_42_code 16 = .ok (.getfield 70, 3) by decide +kernel) ?_
    refine xv_b E [.iload_n 3] (pc' := 20) (lv' := [(3, .inl q_1.1), (0, .inr (.inr (some a0))), (1, .inl v1), (2, .inl v2)]) (st' := [.inl q_1.1, .inr (.inr o_5)]) (by decide +kernel) rfl rfl ?_
    obtain ⟨v_7, h8, h⟩ := bd h
    refine xa_i E h8 (show decode prog_14_method_42_code 20 = .ok (.iaload, 1) by decide +kernel) ?_
    by_cases q23 : v_7 = 0
    · rw [if_pos q23] at h
      refine xv_if_eq E 77 (show decode prog_14_method_42_code 21 = .ok (.ifCond .eq (56), 3) by decide +kernel) rfl (fun _ => ?_) (fun z => absurd q23 z)
      exact xv_w (sb224_77 E B a0 v1 v2 q_1.2 h hN) rfl
    · rw [if_neg q23] at h
      refine xv_if_eq E 77 (show decode prog_14_method_42_code 21 = .ok (.ifCond .eq (56), 3) by decide +kernel) rfl (fun z => absurd z q23) (fun _ => ?_)
      refine xv_b E [.aload_n 0] (pc' := 25) (lv' := [(3, .inl q_1.1), (0, .inr (.inr (some a0))), (1, .inl v1), (2, .inl v2)]) (st' := [.inr (.inr (some a0))]) (by decide +kernel) rfl rfl ?_
      obtain ⟨o_9, h10, h⟩ := bd h
      refine xg_r E 12 25 h10 mw885 (show decode prog_14_method_42_code 25 = .ok (.getfield 70, 3) by decide +kernel) ?_
      refine xv_b E [.iload_n 3] (pc' := 29) (lv' := [(3, .inl q_1.1), (0, .inr (.inr (some a0))), (1, .inl v1), (2, .inl v2)]) (st' := [.inl q_1.1, .inr (.inr o_9)]) (by decide +kernel) rfl rfl ?_
      obtain ⟨v_11, h12, h⟩ := bd h
      refine xa_i E h12 (show decode prog_14_method_42_code 29 = .ok (.iaload, 1) by decide +kernel) ?_
      refine xv_b E [.bipush 16, .ishr, .aload_n 0] (pc' := 34) (lv' := [(3, .inl q_1.1), (0, .inr (.inr (some a0))), (1, .inl v1), (2, .inl v2)]) (st' := [.inr (.inr (some a0)), .inl (v_11 >>> ((16 : Int32) &&& 31))]) (by decide +kernel) rfl rfl ?_
      obtain ⟨o_13, h14, h⟩ := bd h
      refine xg_r E 12 26 h14 mw886 (show decode prog_14_method_42_code 34 = .ok (.getfield 73, 3) by decide +kernel) ?_
      refine xv_b E [.iload_n 1] (pc' := 38) (lv' := [(3, .inl q_1.1), (0, .inr (.inr (some a0))), (1, .inl v1), (2, .inl v2)]) (st' := [.inl v1, .inr (.inr o_13), .inl (v_11 >>> ((16 : Int32) &&& 31))]) (by decide +kernel) rfl rfl ?_
      obtain ⟨v_15, h16, h⟩ := bd h
      refine xa_i E h16 (show decode prog_14_method_42_code 38 = .ok (.iaload, 1) by decide +kernel) ?_
      by_cases q22 : (v_11 >>> ((16 : Int32) &&& 31)) = v_15
      · rw [if_pos q22] at h
        refine xv_icmp_ne E 53 (show decode prog_14_method_42_code 39 = .ok (.if_icmp .ne (14), 3) by decide +kernel) rfl (fun z => absurd q22 z) (fun _ => ?_)
        refine xv_b E [.aload_n 0, .iload_n 1] (pc' := 44) (lv' := [(3, .inl q_1.1), (0, .inr (.inr (some a0))), (1, .inl v1), (2, .inl v2)]) (st' := [.inl v1, .inr (.inr (some a0))]) (by decide +kernel) rfl rfl ?_
        obtain ⟨b_19, h20, h⟩ := bd h
        obtain ⟨eh20, th20⟩ := g_o_some h20
        obtain ⟨q_17, h18, h⟩ := bd h
        refine xv_cvo E eh20 12 (as := [.inl v1]) (t200 G l (c_I_some h18)) cd200 mw1148 mw1149 mw1150 (show decode prog_14_method_42_code 44 = .ok (.invokevirtual 297, 3) by decide +kernel) th20 rfl rfl (Nat.le_of_ble_eq_true rfl) ⟨Nat.le_of_ble_eq_true rfl, Nat.le_of_ble_eq_true rfl⟩ ?_
        by_cases q21 : q_17.1 = 0
        · rw [if_pos q21] at h
          refine xv_if_ne E 53 (show decode prog_14_method_42_code 47 = .ok (.ifCond .ne (6), 3) by decide +kernel) rfl (fun z => absurd q21 z) (fun _ => ?_)
          refine xv_goto E 77 (show decode prog_14_method_42_code 50 = .ok (.goto (27), 3) by decide +kernel) rfl ?_
          exact xv_w (sb224_77 E B a0 v1 v2 q_17.2 h hN) rfl
        · rw [if_neg q21] at h
          refine xv_if_ne E 53 (show decode prog_14_method_42_code 47 = .ok (.ifCond .ne (6), 3) by decide +kernel) rfl (fun _ => ?_) (fun z => absurd z q21)
          exact xv_w (sb224_53 E B a0 v1 v2 q_1.1 q_17.2 h hN) rfl
      · rw [if_neg q22] at h
        refine xv_icmp_ne E 53 (show decode prog_14_method_42_code 39 = .ok (.if_icmp .ne (14), 3) by decide +kernel) rfl (fun _ => ?_) (fun z => absurd z q22)
        exact xv_w (sb224_53 E B a0 v1 v2 q_1.1 q_1.2 h hN) rfl
theorem sb224_143 (E : xE G p (xRm 7 (h_sz M' - z0) (h_sl M' - y0)) s m args c prog_14_method_42_code "ZonedFabricModel" z0 y0 (h_sz M') (h_sl M') 5) (B : xB ym224 none meth) (a0 : Nat) (v1 : Int32) (v2 : Int32) (M : hM) {res : xRes} (h : b224_143 a0 v1 v2 M = some res) (hN : xN (pg224 p l e s m args below meth c G z0 y0 r M') r M' res) : xV G p l e (xRm 7 (h_sz M' - z0) (h_sl M' - y0)) s m args below meth c z0 y0 (h_sz M') (h_sl M') 5 (MQ below (xQc G r M') args s (h_sz M' - z0) (h_sl M' - y0) (xFr G)) 143 [(0, .inr (.inr (some a0))), (1, .inl v1), (2, .inl v2)] [] M := by
  unfold b224_143 at h
  refine xv_b E [.iinc 2 1] (pc' := 146) (lv' := [(2, .inl (v2 + (1 : Int32))), (0, .inr (.inr (some a0))), (1, .inl v1)]) (st' := []) (by decide +kernel) rfl rfl ?_
  refine xv_goto E 85 (show decode prog_14_method_42_code 146 = .ok (.goto (-61), 3) by decide +kernel) rfl ?_
  obtain rfl := Option.some.inj h
  exact xv_w hN rfl
theorem sb224_85 (E : xE G p (xRm 7 (h_sz M' - z0) (h_sl M' - y0)) s m args c prog_14_method_42_code "ZonedFabricModel" z0 y0 (h_sz M') (h_sl M') 5) (B : xB ym224 none meth) (a0 : Nat) (v1 : Int32) (v2 : Int32) (M : hM) {res : xRes} (h : b224_85 a0 v1 v2 M = some res) (hN : xN (pg224 p l e s m args below meth c G z0 y0 r M') r M' res) : xV G p l e (xRm 7 (h_sz M' - z0) (h_sl M' - y0)) s m args below meth c z0 y0 (h_sz M') (h_sl M') 5 (MQ below (xQc G r M') args s (h_sz M' - z0) (h_sl M' - y0) (xFr G)) 85 [(0, .inr (.inr (some a0))), (1, .inl v1), (2, .inl v2)] [] M := by
  unfold b224_85 at h
  refine xv_b E [.iload_n 2, .aload_n 0] (pc' := 87) (lv' := [(0, .inr (.inr (some a0))), (1, .inl v1), (2, .inl v2)]) (st' := [.inr (.inr (some a0)), .inl v2]) (by decide +kernel) rfl rfl ?_
  obtain ⟨v_37, h38, h⟩ := bd h
  refine xg_i E 12 0 h38 mw921 (show decode prog_14_method_42_code 87 = .ok (.getfield 173, 3) by decide +kernel) ?_
  by_cases q56 : v_37 ≤ v2
  · rw [if_pos q56] at h
    refine xv_icmp_ge E 149 (show decode prog_14_method_42_code 90 = .ok (.if_icmp .ge (59), 3) by decide +kernel) rfl (fun _ => ?_) (fun z => absurd q56 z)
    refine xv_b E [.iconst 0, .istore_n 2] (pc' := 151) (lv' := [(2, .inl (0 : Int32)), (0, .inr (.inr (some a0))), (1, .inl v1)]) (st' := []) (by decide +kernel) rfl rfl ?_
    obtain rfl := Option.some.inj h
    exact xv_w hN rfl
  · rw [if_neg q56] at h
    refine xv_icmp_ge E 149 (show decode prog_14_method_42_code 90 = .ok (.if_icmp .ge (59), 3) by decide +kernel) rfl (fun z => absurd z q56) (fun _ => ?_)
    refine xv_b E [.iload_n 2, .iload_n 1] (pc' := 95) (lv' := [(0, .inr (.inr (some a0))), (1, .inl v1), (2, .inl v2)]) (st' := [.inl v1, .inl v2]) (by decide +kernel) rfl rfl ?_
    by_cases q55 : v2 = v1
    · rw [if_pos q55] at h
      refine xv_icmp_eq E 143 (show decode prog_14_method_42_code 95 = .ok (.if_icmp .eq (48), 3) by decide +kernel) rfl (fun _ => ?_) (fun z => absurd q55 z)
      exact xv_w (sb224_143 E B a0 v1 v2 M h hN) rfl
    · rw [if_neg q55] at h
      refine xv_icmp_eq E 143 (show decode prog_14_method_42_code 95 = .ok (.if_icmp .eq (48), 3) by decide +kernel) rfl (fun z => absurd z q55) (fun _ => ?_)
      refine xv_b E [.aload_n 0] (pc' := 99) (lv' := [(0, .inr (.inr (some a0))), (1, .inl v1), (2, .inl v2)]) (st' := [.inr (.inr (some a0))]) (by decide +kernel) rfl rfl ?_
      obtain ⟨o_39, h40, h⟩ := bd h
      refine xg_r E 12 27 h40 mw887 (show decode prog_14_method_42_code 99 = .ok (.getfield 76, 3) by decide +kernel) ?_
      refine xv_b E [.iconst 5, .iload_n 1, .imul, .iload_n 2, .iadd] (pc' := 107) (lv' := [(0, .inr (.inr (some a0))), (1, .inl v1), (2, .inl v2)]) (st' := [.inl (((5 : Int32) * v1) + v2), .inr (.inr o_39)]) (by decide +kernel) rfl rfl ?_
      obtain ⟨v_41, h42, h⟩ := bd h
      refine xa_z E h42 (show decode prog_14_method_42_code 107 = .ok (.baload, 1) by decide +kernel) ?_
      by_cases q54 : v_41 = 0
      · rw [if_pos q54] at h
        refine xv_if_eq E 143 (show decode prog_14_method_42_code 108 = .ok (.ifCond .eq (35), 3) by decide +kernel) rfl (fun _ => ?_) (fun z => absurd q54 z)
        exact xv_w (sb224_143 E B a0 v1 v2 M h hN) rfl
      · rw [if_neg q54] at h
        refine xv_if_eq E 143 (show decode prog_14_method_42_code 108 = .ok (.ifCond .eq (35), 3) by decide +kernel) rfl (fun z => absurd z q54) (fun _ => ?_)
        refine xv_b E [.aload_n 0] (pc' := 112) (lv' := [(0, .inr (.inr (some a0))), (1, .inl v1), (2, .inl v2)]) (st' := [.inr (.inr (some a0))]) (by decide +kernel) rfl rfl ?_
        obtain ⟨v_43, h44, h⟩ := bd h
        refine xg_i E 12 3 h44 mw1047 (show decode prog_14_method_42_code 112 = .ok (.getfield 276, 3) by decide +kernel) ?_
        refine xv_b E [.aload_n 0] (pc' := 116) (lv' := [(0, .inr (.inr (some a0))), (1, .inl v1), (2, .inl v2)]) (st' := [.inr (.inr (some a0)), .inl v_43]) (by decide +kernel) rfl rfl ?_
        obtain ⟨o_45, h46, h⟩ := bd h
        refine xg_r E 12 28 h46 mw888 (show decode prog_14_method_42_code 116 = .ok (.getfield 79, 3) by decide +kernel) ?_
        refine xv_b E [.iconst 5, .iload_n 1, .imul, .iload_n 2, .iadd] (pc' := 124) (lv' := [(0, .inr (.inr (some a0))), (1, .inl v1), (2, .inl v2)]) (st' := [.inl (((5 : Int32) * v1) + v2), .inr (.inr o_45), .inl v_43]) (by decide +kernel) rfl rfl ?_
        obtain ⟨v_47, h48, h⟩ := bd h
        refine xa_i E h48 (show decode prog_14_method_42_code 124 = .ok (.iaload, 1) by decide +kernel) ?_
        refine xv_b E [.isub, .sipush 150] (pc' := 129) (lv' := [(0, .inr (.inr (some a0))), (1, .inl v1), (2, .inl v2)]) (st' := [.inl (150 : Int32), .inl (v_43 - v_47)]) (by decide +kernel) rfl rfl ?_
        by_cases q53 : (v_43 - v_47) < (150 : Int32)
        · rw [if_pos q53] at h
          refine xv_icmp_lt E 143 (show decode prog_14_method_42_code 129 = .ok (.if_icmp .lt (14), 3) by decide +kernel) rfl (fun _ => ?_) (fun z => absurd q53 z)
          exact xv_w (sb224_143 E B a0 v1 v2 M h hN) rfl
        · rw [if_neg q53] at h
          refine xv_icmp_lt E 143 (show decode prog_14_method_42_code 129 = .ok (.if_icmp .lt (14), 3) by decide +kernel) rfl (fun z => absurd z q53) (fun _ => ?_)
          refine xv_b E [.aload_n 0] (pc' := 133) (lv' := [(0, .inr (.inr (some a0))), (1, .inl v1), (2, .inl v2)]) (st' := [.inr (.inr (some a0))]) (by decide +kernel) rfl rfl ?_
          obtain ⟨o_49, h50, h⟩ := bd h
          refine xg_r E 12 27 h50 mw887 (show decode prog_14_method_42_code 133 = .ok (.getfield 76, 3) by decide +kernel) ?_
          refine xv_b E [.iconst 5, .iload_n 1, .imul, .iload_n 2, .iadd, .iconst 0] (pc' := 142) (lv' := [(0, .inr (.inr (some a0))), (1, .inl v1), (2, .inl v2)]) (st' := [.inl (0 : Int32), .inl (((5 : Int32) * v1) + v2), .inr (.inr o_49)]) (by decide +kernel) rfl rfl ?_
          obtain ⟨M51, h52, h⟩ := bd h
          refine xs_z E h52 (show decode prog_14_method_42_code 142 = .ok (.bastore, 1) by decide +kernel) ?_
          exact xv_w (sb224_143 E B a0 v1 v2 M51 h hN) rfl
theorem sb224_252 (E : xE G p (xRm 7 (h_sz M' - z0) (h_sl M' - y0)) s m args c prog_14_method_42_code "ZonedFabricModel" z0 y0 (h_sz M') (h_sl M') 5) (B : xB ym224 none meth) (a0 : Nat) (v1 : Int32) (v2 : Int32) (M : hM) {res : xRes} (h : b224_252 a0 v1 v2 M = some res) (hN : xN (pg224 p l e s m args below meth c G z0 y0 r M') r M' res) : xV G p l e (xRm 7 (h_sz M' - z0) (h_sl M' - y0)) s m args below meth c z0 y0 (h_sz M') (h_sl M') 5 (MQ below (xQc G r M') args s (h_sz M' - z0) (h_sl M' - y0) (xFr G)) 252 [(0, .inr (.inr (some a0))), (1, .inl v1), (2, .inl v2)] [] M := by
  unfold b224_252 at h
  refine xv_b E [.iinc 2 1] (pc' := 255) (lv' := [(2, .inl (v2 + (1 : Int32))), (0, .inr (.inr (some a0))), (1, .inl v1)]) (st' := []) (by decide +kernel) rfl rfl ?_
  refine xv_goto E 151 (show decode prog_14_method_42_code 255 = .ok (.goto (-104), 3) by decide +kernel) rfl ?_
  obtain rfl := Option.some.inj h
  exact xv_w hN rfl
theorem sb224_151 (E : xE G p (xRm 7 (h_sz M' - z0) (h_sl M' - y0)) s m args c prog_14_method_42_code "ZonedFabricModel" z0 y0 (h_sz M') (h_sl M') 5) (B : xB ym224 none meth) (a0 : Nat) (v1 : Int32) (v2 : Int32) (M : hM) {res : xRes} (h : b224_151 a0 v1 v2 M = some res) (hN : xN (pg224 p l e s m args below meth c G z0 y0 r M') r M' res) : xV G p l e (xRm 7 (h_sz M' - z0) (h_sl M' - y0)) s m args below meth c z0 y0 (h_sz M') (h_sl M') 5 (MQ below (xQc G r M') args s (h_sz M' - z0) (h_sl M' - y0) (xFr G)) 151 [(0, .inr (.inr (some a0))), (1, .inl v1), (2, .inl v2)] [] M := by
  unfold b224_151 at h
  refine xv_b E [.iload_n 2, .bipush 8] (pc' := 154) (lv' := [(0, .inr (.inr (some a0))), (1, .inl v1), (2, .inl v2)]) (st' := [.inl (8 : Int32), .inl v2]) (by decide +kernel) rfl rfl ?_
  by_cases q105 : (8 : Int32) ≤ v2
  · rw [if_pos q105] at h
    refine xv_icmp_ge E 258 (show decode prog_14_method_42_code 154 = .ok (.if_icmp .ge (104), 3) by decide +kernel) rfl (fun _ => ?_) (fun z => absurd q105 z)
    refine xv_b E [.aload_n 0, .iload_n 1] (pc' := 260) (lv' := [(0, .inr (.inr (some a0))), (1, .inl v1), (2, .inl v2)]) (st' := [.inl v1, .inr (.inr (some a0))]) (by decide +kernel) rfl rfl ?_
    obtain ⟨b_59, h60, h⟩ := bd h
    obtain ⟨eh60, th60⟩ := g_o_some h60
    obtain ⟨q_57, h58, h⟩ := bd h
    refine xv_cvo E eh60 12 (as := [.inl v1]) (t223 G l (c_V_some h58)) cd223 mw1151 mw1152 mw1153 (show decode prog_14_method_42_code 260 = .ok (.invokevirtual 306, 3) by decide +kernel) th60 rfl rfl (Nat.le_of_ble_eq_true rfl) ⟨Nat.le_of_ble_eq_true rfl, Nat.le_of_ble_eq_true rfl⟩ ?_
    obtain rfl := Option.some.inj h
    obtain ⟨rfl, rfl⟩ := Prod.mk.inj (show ((none : Option aV), q_57) = (r, M') from hN)
    exact xv_rv E B.1 B.2.1 (show decode prog_14_method_42_code 263 = .ok (.return_, 1) by decide +kernel) rfl rfl
  · rw [if_neg q105] at h
    refine xv_icmp_ge E 258 (show decode prog_14_method_42_code 154 = .ok (.if_icmp .ge (104), 3) by decide +kernel) rfl (fun z => absurd z q105) (fun _ => ?_)
    refine xv_b E [.aload_n 0, .iload_n 1, .iload_n 2] (pc' := 160) (lv' := [(0, .inr (.inr (some a0))), (1, .inl v1), (2, .inl v2)]) (st' := [.inl v2, .inl v1, .inr (.inr (some a0))]) (by decide +kernel) rfl rfl ?_
    obtain ⟨b_63, h64, h⟩ := bd h
    obtain ⟨eh64, th64⟩ := g_o_some h64
    obtain ⟨q_61, h62, h⟩ := bd h
    refine xv_cvo E eh64 12 (as := [.inl v1, .inl v2]) (t175 G l (c_I_some h62)) cd175 mw1134 mw1135 mw1136 (show decode prog_14_method_42_code 160 = .ok (.invokevirtual 288, 3) by decide +kernel) th64 rfl rfl (Nat.le_of_ble_eq_true rfl) ⟨Nat.le_of_ble_eq_true rfl, Nat.le_of_ble_eq_true rfl⟩ ?_
    refine xv_b E [.istore_n 3, .aload_n 0, .iload_n 3] (pc' := 166) (lv' := [(3, .inl q_61.1), (0, .inr (.inr (some a0))), (1, .inl v1), (2, .inl v2)]) (st' := [.inl q_61.1, .inr (.inr (some a0))]) (by decide +kernel) rfl rfl ?_
    obtain ⟨b_67, h68, h⟩ := bd h
    obtain ⟨eh68, th68⟩ := g_o_some h68
    obtain ⟨q_65, h66, h⟩ := bd h
    refine xv_cvo E eh68 12 (as := [.inl q_61.1]) (t177 G l (c_I_some h66)) cd177 mw963 mw964 mw965 (show decode prog_14_method_42_code 166 = .ok (.invokevirtual 213, 3) by decide +kernel) th68 rfl rfl (Nat.le_of_ble_eq_true rfl) ⟨Nat.le_of_ble_eq_true rfl, Nat.le_of_ble_eq_true rfl⟩ ?_
    by_cases q104 : q_65.1 = 0
    · rw [if_pos q104] at h
      refine xv_if_eq E 252 (show decode prog_14_method_42_code 169 = .ok (.ifCond .eq (83), 3) by decide +kernel) rfl (fun _ => ?_) (fun z => absurd q104 z)
      exact xv_w (sb224_252 E B a0 v1 v2 q_65.2 h hN) rfl
    · rw [if_neg q104] at h
      refine xv_if_eq E 252 (show decode prog_14_method_42_code 169 = .ok (.ifCond .eq (83), 3) by decide +kernel) rfl (fun z => absurd z q104) (fun _ => ?_)
      refine xv_b E [.aload_n 0, .iload_n 3] (pc' := 174) (lv' := [(3, .inl q_61.1), (0, .inr (.inr (some a0))), (1, .inl v1), (2, .inl v2)]) (st' := [.inl q_61.1, .inr (.inr (some a0))]) (by decide +kernel) rfl rfl ?_
      obtain ⟨b_71, h72, h⟩ := bd h
      obtain ⟨eh72, th72⟩ := g_o_some h72
      obtain ⟨q_69, h70, h⟩ := bd h
      refine xv_cvo E eh72 12 (as := [.inl q_61.1]) (t179 G l (c_I_some h70)) cd179 mw1154 mw1155 mw1156 (show decode prog_14_method_42_code 174 = .ok (.invokevirtual 303, 3) by decide +kernel) th72 rfl rfl (Nat.le_of_ble_eq_true rfl) ⟨Nat.le_of_ble_eq_true rfl, Nat.le_of_ble_eq_true rfl⟩ ?_
      refine xv_b E [.iconst (-1)] (pc' := 178) (lv' := [(3, .inl q_61.1), (0, .inr (.inr (some a0))), (1, .inl v1), (2, .inl v2)]) (st' := [.inl (-1 : Int32), .inl q_69.1]) (by decide +kernel) rfl rfl ?_
      by_cases q103 : q_69.1 = (-1 : Int32)
      · rw [if_pos q103] at h
        refine xv_icmp_ne E 252 (show decode prog_14_method_42_code 178 = .ok (.if_icmp .ne (74), 3) by decide +kernel) rfl (fun z => absurd q103 z) (fun _ => ?_)
        refine xv_b E [.aload_n 0] (pc' := 182) (lv' := [(3, .inl q_61.1), (0, .inr (.inr (some a0))), (1, .inl v1), (2, .inl v2)]) (st' := [.inr (.inr (some a0))]) (by decide +kernel) rfl rfl ?_
        obtain ⟨o_73, h74, h⟩ := bd h
        refine xg_r E 12 23 h74 mw883 (show decode prog_14_method_42_code 182 = .ok (.getfield 64, 3) by decide +kernel) ?_
        refine xv_b E [.iload_n 3] (pc' := 186) (lv' := [(3, .inl q_61.1), (0, .inr (.inr (some a0))), (1, .inl v1), (2, .inl v2)]) (st' := [.inl q_61.1, .inr (.inr o_73)]) (by decide +kernel) rfl rfl ?_
        obtain ⟨v_75, h76, h⟩ := bd h
        refine xa_i E h76 (show decode prog_14_method_42_code 186 = .ok (.iaload, 1) by decide +kernel) ?_
        refine xv_b E [.iconst (-1)] (pc' := 188) (lv' := [(3, .inl q_61.1), (0, .inr (.inr (some a0))), (1, .inl v1), (2, .inl v2)]) (st' := [.inl (-1 : Int32), .inl v_75]) (by decide +kernel) rfl rfl ?_
        by_cases q102 : v_75 = (-1 : Int32)
        · rw [if_pos q102] at h
          refine xv_icmp_ne E 252 (show decode prog_14_method_42_code 188 = .ok (.if_icmp .ne (64), 3) by decide +kernel) rfl (fun z => absurd q102 z) (fun _ => ?_)
          refine xv_b E [.aload_n 0] (pc' := 192) (lv' := [(3, .inl q_61.1), (0, .inr (.inr (some a0))), (1, .inl v1), (2, .inl v2)]) (st' := [.inr (.inr (some a0))]) (by decide +kernel) rfl rfl ?_
          obtain ⟨v_77, h78, h⟩ := bd h
          refine xg_i E 12 3 h78 mw1047 (show decode prog_14_method_42_code 192 = .ok (.getfield 276, 3) by decide +kernel) ?_
          refine xv_b E [.aload_n 0] (pc' := 196) (lv' := [(3, .inl q_61.1), (0, .inr (.inr (some a0))), (1, .inl v1), (2, .inl v2)]) (st' := [.inr (.inr (some a0)), .inl v_77]) (by decide +kernel) rfl rfl ?_
          obtain ⟨o_79, h80, h⟩ := bd h
          refine xg_r E 12 24 h80 mw884 (show decode prog_14_method_42_code 196 = .ok (.getfield 67, 3) by decide +kernel) ?_
          refine xv_b E [.iload_n 3] (pc' := 200) (lv' := [(3, .inl q_61.1), (0, .inr (.inr (some a0))), (1, .inl v1), (2, .inl v2)]) (st' := [.inl q_61.1, .inr (.inr o_79), .inl v_77]) (by decide +kernel) rfl rfl ?_
          obtain ⟨v_81, h82, h⟩ := bd h
          refine xa_i E h82 (show decode prog_14_method_42_code 200 = .ok (.iaload, 1) by decide +kernel) ?_
          refine xv_b E [.isub, .bipush 10] (pc' := 204) (lv' := [(3, .inl q_61.1), (0, .inr (.inr (some a0))), (1, .inl v1), (2, .inl v2)]) (st' := [.inl (10 : Int32), .inl (v_77 - v_81)]) (by decide +kernel) rfl rfl ?_
          by_cases q101 : (10 : Int32) < (v_77 - v_81)
          · rw [if_pos q101] at h
            refine xv_icmp_gt E 210 (show decode prog_14_method_42_code 204 = .ok (.if_icmp .gt (6), 3) by decide +kernel) rfl (fun _ => ?_) (fun z => absurd q101 z)
            refine xv_b E [.aload_n 0] (pc' := 211) (lv' := [(3, .inl q_61.1), (0, .inr (.inr (some a0))), (1, .inl v1), (2, .inl v2)]) (st' := [.inr (.inr (some a0))]) (by decide +kernel) rfl rfl ?_
            obtain ⟨o_83, h84, h⟩ := bd h
            refine xg_r E 12 24 h84 mw884 (show decode prog_14_method_42_code 211 = .ok (.getfield 67, 3) by decide +kernel) ?_
            refine xv_b E [.iload_n 3, .aload_n 0] (pc' := 216) (lv' := [(3, .inl q_61.1), (0, .inr (.inr (some a0))), (1, .inl v1), (2, .inl v2)]) (st' := [.inr (.inr (some a0)), .inl q_61.1, .inr (.inr o_83)]) (by decide +kernel) rfl rfl ?_
            obtain ⟨v_85, h86, h⟩ := bd h
            refine xg_i E 12 3 h86 mw1047 (show decode prog_14_method_42_code 216 = .ok (.getfield 276, 3) by decide +kernel) ?_
            obtain ⟨M87, h88, h⟩ := bd h
            refine xs_i E h88 (show decode prog_14_method_42_code 219 = .ok (.iastore, 1) by decide +kernel) ?_
            refine xv_b E [.aload_n 0, .iconst 1] (pc' := 222) (lv' := [(3, .inl q_61.1), (0, .inr (.inr (some a0))), (1, .inl v1), (2, .inl v2)]) (st' := [.inl (1 : Int32), .inr (.inr (some a0))]) (by decide +kernel) rfl rfl ?_
            refine xv_ldcw E (16777213 : Int32) mw1036 (show decode prog_14_method_42_code 222 = .ok (.ldc_w 271, 3) by decide +kernel) ?_
            refine xv_ldcw E (16777213 : Int32) mw1036 (show decode prog_14_method_42_code 225 = .ok (.ldc_w 271, 3) by decide +kernel) ?_
            refine xv_b E [.iconst 0, .iconst 0, .iconst 0] (pc' := 231) (lv' := [(3, .inl q_61.1), (0, .inr (.inr (some a0))), (1, .inl v1), (2, .inl v2)]) (st' := [.inl (0 : Int32), .inl (0 : Int32), .inl (0 : Int32), .inl (16777213 : Int32), .inl (16777213 : Int32), .inl (1 : Int32), .inr (.inr (some a0))]) (by decide +kernel) rfl rfl ?_
            obtain ⟨b_91, h92, h⟩ := bd h
            obtain ⟨eh92, th92⟩ := g_o_some h92
            obtain ⟨q_89, h90, h⟩ := bd h
            refine xv_cvo E eh92 12 (as := [.inl (1 : Int32), .inl (16777213 : Int32), .inl (16777213 : Int32), .inl (0 : Int32), .inl (0 : Int32), .inl (0 : Int32)]) (t168 G l (c_I_some h90)) cd168 mw1033 mw1034 mw1035 (show decode prog_14_method_42_code 231 = .ok (.invokevirtual 272, 3) by decide +kernel) th92 rfl rfl (Nat.le_of_ble_eq_true rfl) ⟨Nat.le_of_ble_eq_true rfl, Nat.le_of_ble_eq_true rfl⟩ ?_
            refine xv_b E [.istore 4, .aload_n 0, .iload 4, .iload_n 1, .i2l, .iconst 1] (pc' := 242) (lv' := [(4, .inl q_89.1), (3, .inl q_61.1), (0, .inr (.inr (some a0))), (1, .inl v1), (2, .inl v2)]) (st' := [.inl (1 : Int32), .inr (.inl (Int32.toInt64 v1)), .inl q_89.1, .inr (.inr (some a0))]) (by decide +kernel) rfl rfl ?_
            obtain ⟨b_95, h96, h⟩ := bd h
            obtain ⟨eh96, th96⟩ := g_o_some h96
            obtain ⟨q_93, h94, h⟩ := bd h
            refine xv_cvo E eh96 12 (as := [.inl q_89.1, .inr (.inl (Int32.toInt64 v1)), .inl (1 : Int32)]) (t167 G l (c_V_some h94)) cd167 mw932 mw933 mw934 (show decode prog_14_method_42_code 242 = .ok (.invokevirtual 190, 3) by decide +kernel) th96 rfl rfl (Nat.le_of_ble_eq_true rfl) ⟨Nat.le_of_ble_eq_true rfl, Nat.le_of_ble_eq_true rfl⟩ ?_
            refine xv_b E [.aload_n 0, .iload_n 3, .iload 4] (pc' := 249) (lv' := [(4, .inl q_89.1), (3, .inl q_61.1), (0, .inr (.inr (some a0))), (1, .inl v1), (2, .inl v2)]) (st' := [.inl q_89.1, .inl q_61.1, .inr (.inr (some a0))]) (by decide +kernel) rfl rfl ?_
            obtain ⟨b_99, h100, h⟩ := bd h
            obtain ⟨eh100, th100⟩ := g_o_some h100
            obtain ⟨q_97, h98, h⟩ := bd h
            refine xv_cvo E eh100 12 (as := [.inl q_61.1, .inl q_89.1]) (t183 G l (c_V_some h98)) cd183 mw1043 mw1044 mw1045 (show decode prog_14_method_42_code 249 = .ok (.invokevirtual 301, 3) by decide +kernel) th100 rfl rfl (Nat.le_of_ble_eq_true rfl) ⟨Nat.le_of_ble_eq_true rfl, Nat.le_of_ble_eq_true rfl⟩ ?_
            exact xv_w (sb224_252 E B a0 v1 v2 q_97 h hN) rfl
          · rw [if_neg q101] at h
            refine xv_icmp_gt E 210 (show decode prog_14_method_42_code 204 = .ok (.if_icmp .gt (6), 3) by decide +kernel) rfl (fun z => absurd z q101) (fun _ => ?_)
            refine xv_goto E 252 (show decode prog_14_method_42_code 207 = .ok (.goto (45), 3) by decide +kernel) rfl ?_
            exact xv_w (sb224_252 E B a0 v1 v2 q_69.2 h hN) rfl
        · rw [if_neg q102] at h
          refine xv_icmp_ne E 252 (show decode prog_14_method_42_code 188 = .ok (.if_icmp .ne (64), 3) by decide +kernel) rfl (fun _ => ?_) (fun z => absurd z q102)
          exact xv_w (sb224_252 E B a0 v1 v2 q_69.2 h hN) rfl
      · rw [if_neg q103] at h
        refine xv_icmp_ne E 252 (show decode prog_14_method_42_code 178 = .ok (.if_icmp .ne (74), 3) by decide +kernel) rfl (fun _ => ?_) (fun z => absurd z q103)
        exact xv_w (sb224_252 E B a0 v1 v2 q_69.2 h hN) rfl
end
theorem t224 (G : gX) (l : Launch) {as : List aV} {M : hM} {r : Option aV} {M' : hM} (h : f224 as M = some (r, M')) : xM G l ym224 prog_14_method_42_code 5 none 7 as M r M' := by
  unfold f224 at h
  split at h
  · have hle : ∀ h as M res, k224 h as M = some res → h_sz M ≤ r_sz res ∧ h_sl M ≤ r_sl res := by
      intro h as M res hb
      unfold k224 at hb
      by_cases e0 : h = 2
      · rw [if_pos e0] at hb
        split at hb
        · exact lb224_2 G l _ _ _ M hb
        · cases hb
      · rw [if_neg e0] at hb
        by_cases e1 : h = 85
        · rw [if_pos e1] at hb
          split at hb
          · exact lb224_85 G l _ _ _ M hb
          · cases hb
        · rw [if_neg e1] at hb
          by_cases e2 : h = 151
          · rw [if_pos e2] at hb
            split at hb
            · exact lb224_151 G l _ _ _ M hb
            · cases hb
          · rw [if_neg e2] at hb
            cases hb
    obtain ⟨res, hx, hres⟩ := x_go_ok h
    refine xM_of (by decide) (Nat.le_of_ble_eq_true rfl) ?_ ?_
    · have e1 := lb224_0 G l _ _ M hx
      have e2 := x_go_le hle hres
      omega
    · intro p e s m args below meth c E B
      refine sb224_0 E B _ _ M hx (hres _ ?_)
      intro h as M res hb hN
      unfold k224 at hb
      unfold pg224
      by_cases e0 : h = 2
      · rw [if_pos e0] at hb ⊢
        split at hb
        · exact sb224_2 E B _ _ _ M hb hN
        · cases hb
      · rw [if_neg e0] at hb ⊢
        by_cases e1 : h = 85
        · rw [if_pos e1] at hb ⊢
          split at hb
          · exact sb224_85 E B _ _ _ M hb hN
          · cases hb
        · rw [if_neg e1] at hb ⊢
          by_cases e2 : h = 151
          · rw [if_pos e2] at hb ⊢
            split at hb
            · exact sb224_151 E B _ _ _ M hb hN
            · cases hb
          · rw [if_neg e2] at hb ⊢
            cases hb
  · cases h
/-! ZFModel.wayOn(IIII)I -/
def ym225 : MethodName := ⟨"ZonedFabricModel", "wayOn", "(IIII)I"⟩
theorem cd225 : xCd ym225 prog_14_method_46_code 9 (some FieldType.int) 4 := ⟨mw1157, mw864, by decide, by decide, by decide +kernel⟩
def b225_57  (M : hM) : Option xRes :=
  some (.inl (some (.inl (2 : Int32)), M))
def b225_152  (M : hM) : Option xRes :=
  some (.inl (some (.inl (3 : Int32)), M))
def b225_182 (si0 : Int32) (M : hM) : Option xRes :=
  some (.inl (some (.inl si0), M))
def b225_207 (si0 : Int32) (M : hM) : Option xRes :=
  some (.inl (some (.inl si0), M))
def b225_183 (a0 : Nat) (v1 : Int32) (v7 : Int32) (M : hM) : Option xRes :=
  Option.bind (g_o M 12 (some a0)) fun b_86 =>
  Option.bind (c_I (f201 [.inr (.inr (some b_86)), .inl v1, .inl v7] M)) fun q_84 =>
  if q_84.1 = (-1 : Int32) then
    (b225_207 (3 : Int32) q_84.2)
  else
    (b225_207 ((16 : Int32) + q_84.1) q_84.2)
def b225_59 (a0 : Nat) (v1 : Int32) (v4 : Int32) (v5 : Int32) (M : hM) : Option xRes :=
  Option.bind (g_r M 12 26 (some a0)) fun o_29 =>
  Option.bind (al_i M 20 o_29 v1) fun v_31 =>
  if (v4 >>> ((16 : Int32) &&& 31)) = v_31 then
    (Option.bind (g_o M 12 (some a0)) fun b_35 =>
    Option.bind (c_I (f200 [.inr (.inr (some b_35)), .inl v1] M)) fun q_33 =>
    if q_33.1 = 0 then
      (if (7 : Int32) < ((v4 >>> ((8 : Int32) &&& 31)) &&& (255 : Int32)) then
        (b225_152  q_33.2)
      else
        (Option.bind (g_o q_33.2 12 (some a0)) fun b_39 =>
        Option.bind (c_I (f175 [.inr (.inr (some b_39)), .inl v1, .inl ((v4 >>> ((8 : Int32) &&& 31)) &&& (255 : Int32))] q_33.2)) fun q_37 =>
        Option.bind (g_o q_37.2 12 (some a0)) fun b_43 =>
        Option.bind (c_I (f177 [.inr (.inr (some b_43)), .inl q_37.1] q_37.2)) fun q_41 =>
        if q_41.1 = 0 then
          (b225_152  q_41.2)
        else
          (Option.bind (g_o q_41.2 12 (some a0)) fun b_47 =>
          Option.bind (c_I (f175 [.inr (.inr (some b_47)), .inl v1, .inl ((v4 >>> ((8 : Int32) &&& 31)) &&& (255 : Int32))] q_41.2)) fun q_45 =>
          Option.bind (g_o q_45.2 12 (some a0)) fun b_51 =>
          Option.bind (c_I (f179 [.inr (.inr (some b_51)), .inl q_45.1] q_45.2)) fun q_49 =>
          if q_49.1 = (-1 : Int32) then
            (b225_152  q_49.2)
          else
            (Option.bind (g_o q_49.2 12 (some a0)) fun b_55 =>
            Option.bind (c_I (f175 [.inr (.inr (some b_55)), .inl v1, .inl ((v4 >>> ((8 : Int32) &&& 31)) &&& (255 : Int32))] q_49.2)) fun q_53 =>
            Option.bind (g_o q_53.2 12 (some a0)) fun b_59 =>
            Option.bind (c_I (f179 [.inr (.inr (some b_59)), .inl q_53.1] q_53.2)) fun q_57 =>
            Option.bind (g_o q_57.2 12 (some a0)) fun b_63 =>
            Option.bind (c_I (f189 [.inr (.inr (some b_63)), .inl v4] q_57.2)) fun q_61 =>
            if q_57.1 = q_61.1 then
              (Option.bind (g_o q_61.2 12 (some a0)) fun b_67 =>
              Option.bind (c_I (f189 [.inr (.inr (some b_67)), .inl v5] q_61.2)) fun q_65 =>
              Option.bind (g_o q_65.2 12 (some a0)) fun b_71 =>
              Option.bind (c_I (f189 [.inr (.inr (some b_71)), .inl v4] q_65.2)) fun q_69 =>
              Option.bind (g_o q_69.2 12 (some a0)) fun b_75 =>
              Option.bind (c_I (f188 [.inr (.inr (some b_75)), .inl q_65.1, .inl q_69.1] q_69.2)) fun q_73 =>
              if q_73.1 = 0 then
                (b225_182 (2 : Int32) q_73.2)
              else
                (b225_182 ((16 : Int32) + ((v4 >>> ((8 : Int32) &&& 31)) &&& (255 : Int32))) q_73.2))
            else
              (b225_152  q_61.2)))))
    else
      (b225_183 a0 v1 (v4 >>> ((16 : Int32) &&& 31)) q_33.2))
  else
    (b225_183 a0 v1 (v4 >>> ((16 : Int32) &&& 31)) M)
def b225_0 (a0 : Nat) (v1 : Int32) (v2 : Int32) (v3 : Int32) (v4 : Int32) (M : hM) : Option xRes :=
  Option.bind (g_o M 12 (some a0)) fun b_3 =>
  Option.bind (c_I (f166 [.inr (.inr (some b_3)), .inl v3, .inl (4 : Int32), .inl (3 : Int32)] M)) fun q_1 =>
  Option.bind (g_o q_1.2 12 (some a0)) fun b_7 =>
  Option.bind (c_I (f179 [.inr (.inr (some b_7)), .inl v2] q_1.2)) fun q_5 =>
  if q_5.1 = (-1 : Int32) then
    (b225_59 a0 v1 v4 q_1.1 q_5.2)
  else
    (Option.bind (g_r q_5.2 12 25 (some a0)) fun o_9 =>
    Option.bind (al_i q_5.2 20 o_9 v2) fun v_11 =>
    if v_11 = 0 then
      (b225_57  q_5.2)
    else
      (Option.bind (g_r q_5.2 12 25 (some a0)) fun o_13 =>
      Option.bind (al_i q_5.2 20 o_13 v2) fun v_15 =>
      if q_1.1 = v_15 then
        (Option.bind (g_o q_5.2 12 (some a0)) fun b_19 =>
        Option.bind (c_I (f189 [.inr (.inr (some b_19)), .inl v4] q_5.2)) fun q_17 =>
        Option.bind (g_o q_17.2 12 (some a0)) fun b_23 =>
        Option.bind (c_I (f188 [.inr (.inr (some b_23)), .inl q_5.1, .inl q_17.1] q_17.2)) fun q_21 =>
        if q_21.1 = 0 then
          (b225_57  q_21.2)
        else
          (b225_59 a0 v1 v4 q_1.1 q_21.2))
      else
        (b225_57  q_5.2)))
def f225 (as : List aV) (M : hM) : xO := match as with
  | [.inr (.inr (some a0)), .inl v1, .inl v2, .inl v3, .inl v4] => x_out (b225_0 a0 v1 v2 v3 v4 M)
  | _ => none
theorem lb225_57 (G : gX) (l : Launch)  (M : hM) {res : xRes} (h : b225_57  M = some res) : h_sz M ≤ r_sz res ∧ h_sl M ≤ r_sl res := by
  unfold b225_57 at h
  obtain rfl := Option.some.inj h
  show h_sz M ≤ h_sz M ∧ h_sl M ≤ h_sl M
  omega
theorem lb225_152 (G : gX) (l : Launch)  (M : hM) {res : xRes} (h : b225_152  M = some res) : h_sz M ≤ r_sz res ∧ h_sl M ≤ r_sl res := by
  unfold b225_152 at h
  obtain rfl := Option.some.inj h
  show h_sz M ≤ h_sz M ∧ h_sl M ≤ h_sl M
  omega
theorem lb225_182 (G : gX) (l : Launch) (si0 : Int32) (M : hM) {res : xRes} (h : b225_182 si0 M = some res) : h_sz M ≤ r_sz res ∧ h_sl M ≤ r_sl res := by
  unfold b225_182 at h
  obtain rfl := Option.some.inj h
  show h_sz M ≤ h_sz M ∧ h_sl M ≤ h_sl M
  omega
theorem lb225_207 (G : gX) (l : Launch) (si0 : Int32) (M : hM) {res : xRes} (h : b225_207 si0 M = some res) : h_sz M ≤ r_sz res ∧ h_sl M ≤ r_sl res := by
  unfold b225_207 at h
  obtain rfl := Option.some.inj h
  show h_sz M ≤ h_sz M ∧ h_sl M ≤ h_sl M
  omega
theorem lb225_183 (G : gX) (l : Launch) (a0 : Nat) (v1 : Int32) (v7 : Int32) (M : hM) {res : xRes} (h : b225_183 a0 v1 v7 M = some res) : h_sz M ≤ r_sz res ∧ h_sl M ≤ r_sl res := by
  unfold b225_183 at h
  obtain ⟨b_86, h87, h⟩ := bd h
  obtain ⟨q_84, h85, h⟩ := bd h
  have eh85 := (t201 G l (c_I_some h85)).1
  by_cases q88 : q_84.1 = (-1 : Int32)
  · rw [if_pos q88] at h
    have e := lb225_207 G l (3 : Int32) q_84.2 h
    omega
  · rw [if_neg q88] at h
    have e := lb225_207 G l ((16 : Int32) + q_84.1) q_84.2 h
    omega
theorem lb225_59 (G : gX) (l : Launch) (a0 : Nat) (v1 : Int32) (v4 : Int32) (v5 : Int32) (M : hM) {res : xRes} (h : b225_59 a0 v1 v4 v5 M = some res) : h_sz M ≤ r_sz res ∧ h_sl M ≤ r_sl res := by
  unfold b225_59 at h
  obtain ⟨o_29, h30, h⟩ := bd h
  obtain ⟨v_31, h32, h⟩ := bd h
  by_cases q83 : (v4 >>> ((16 : Int32) &&& 31)) = v_31
  · rw [if_pos q83] at h
    obtain ⟨b_35, h36, h⟩ := bd h
    obtain ⟨q_33, h34, h⟩ := bd h
    have eh34 := (t200 G l (c_I_some h34)).1
    by_cases q82 : q_33.1 = 0
    · rw [if_pos q82] at h
      by_cases q81 : (7 : Int32) < ((v4 >>> ((8 : Int32) &&& 31)) &&& (255 : Int32))
      · rw [if_pos q81] at h
        have e := lb225_152 G l  q_33.2 h
        omega
      · rw [if_neg q81] at h
        obtain ⟨b_39, h40, h⟩ := bd h
        obtain ⟨q_37, h38, h⟩ := bd h
        have eh38 := (t175 G l (c_I_some h38)).1
        obtain ⟨b_43, h44, h⟩ := bd h
        obtain ⟨q_41, h42, h⟩ := bd h
        have eh42 := (t177 G l (c_I_some h42)).1
        by_cases q80 : q_41.1 = 0
        · rw [if_pos q80] at h
          have e := lb225_152 G l  q_41.2 h
          omega
        · rw [if_neg q80] at h
          obtain ⟨b_47, h48, h⟩ := bd h
          obtain ⟨q_45, h46, h⟩ := bd h
          have eh46 := (t175 G l (c_I_some h46)).1
          obtain ⟨b_51, h52, h⟩ := bd h
          obtain ⟨q_49, h50, h⟩ := bd h
          have eh50 := (t179 G l (c_I_some h50)).1
          by_cases q79 : q_49.1 = (-1 : Int32)
          · rw [if_pos q79] at h
            have e := lb225_152 G l  q_49.2 h
            omega
          · rw [if_neg q79] at h
            obtain ⟨b_55, h56, h⟩ := bd h
            obtain ⟨q_53, h54, h⟩ := bd h
            have eh54 := (t175 G l (c_I_some h54)).1
            obtain ⟨b_59, h60, h⟩ := bd h
            obtain ⟨q_57, h58, h⟩ := bd h
            have eh58 := (t179 G l (c_I_some h58)).1
            obtain ⟨b_63, h64, h⟩ := bd h
            obtain ⟨q_61, h62, h⟩ := bd h
            have eh62 := (t189 G l (c_I_some h62)).1
            by_cases q78 : q_57.1 = q_61.1
            · rw [if_pos q78] at h
              obtain ⟨b_67, h68, h⟩ := bd h
              obtain ⟨q_65, h66, h⟩ := bd h
              have eh66 := (t189 G l (c_I_some h66)).1
              obtain ⟨b_71, h72, h⟩ := bd h
              obtain ⟨q_69, h70, h⟩ := bd h
              have eh70 := (t189 G l (c_I_some h70)).1
              obtain ⟨b_75, h76, h⟩ := bd h
              obtain ⟨q_73, h74, h⟩ := bd h
              have eh74 := (t188 G l (c_I_some h74)).1
              by_cases q77 : q_73.1 = 0
              · rw [if_pos q77] at h
                have e := lb225_182 G l (2 : Int32) q_73.2 h
                omega
              · rw [if_neg q77] at h
                have e := lb225_182 G l ((16 : Int32) + ((v4 >>> ((8 : Int32) &&& 31)) &&& (255 : Int32))) q_73.2 h
                omega
            · rw [if_neg q78] at h
              have e := lb225_152 G l  q_61.2 h
              omega
    · rw [if_neg q82] at h
      have e := lb225_183 G l a0 v1 (v4 >>> ((16 : Int32) &&& 31)) q_33.2 h
      omega
  · rw [if_neg q83] at h
    have e := lb225_183 G l a0 v1 (v4 >>> ((16 : Int32) &&& 31)) M h
    omega
theorem lb225_0 (G : gX) (l : Launch) (a0 : Nat) (v1 : Int32) (v2 : Int32) (v3 : Int32) (v4 : Int32) (M : hM) {res : xRes} (h : b225_0 a0 v1 v2 v3 v4 M = some res) : h_sz M ≤ r_sz res ∧ h_sl M ≤ r_sl res := by
  unfold b225_0 at h
  obtain ⟨b_3, h4, h⟩ := bd h
  obtain ⟨q_1, h2, h⟩ := bd h
  have eh2 := (t166 G l (c_I_some h2)).1
  obtain ⟨b_7, h8, h⟩ := bd h
  obtain ⟨q_5, h6, h⟩ := bd h
  have eh6 := (t179 G l (c_I_some h6)).1
  by_cases q28 : q_5.1 = (-1 : Int32)
  · rw [if_pos q28] at h
    have e := lb225_59 G l a0 v1 v4 q_1.1 q_5.2 h
    omega
  · rw [if_neg q28] at h
    obtain ⟨o_9, h10, h⟩ := bd h
    obtain ⟨v_11, h12, h⟩ := bd h
    by_cases q27 : v_11 = 0
    · rw [if_pos q27] at h
      have e := lb225_57 G l  q_5.2 h
      omega
    · rw [if_neg q27] at h
      obtain ⟨o_13, h14, h⟩ := bd h
      obtain ⟨v_15, h16, h⟩ := bd h
      by_cases q26 : q_1.1 = v_15
      · rw [if_pos q26] at h
        obtain ⟨b_19, h20, h⟩ := bd h
        obtain ⟨q_17, h18, h⟩ := bd h
        have eh18 := (t189 G l (c_I_some h18)).1
        obtain ⟨b_23, h24, h⟩ := bd h
        obtain ⟨q_21, h22, h⟩ := bd h
        have eh22 := (t188 G l (c_I_some h22)).1
        by_cases q25 : q_21.1 = 0
        · rw [if_pos q25] at h
          have e := lb225_57 G l  q_21.2 h
          omega
        · rw [if_neg q25] at h
          have e := lb225_59 G l a0 v1 v4 q_1.1 q_21.2 h
          omega
      · rw [if_neg q26] at h
        have e := lb225_57 G l  q_5.2 h
        omega
section
variable {p : Program} {l : Launch} {e : Env} {s : State} {m : MethodId} {args : Array Value} {below : List Frame} {meth : Method} {c : Code} {G : gX} {z0 y0 : Nat} {r : Option aV} {M' : hM}
theorem sb225_57 (E : xE G p (xRm 7 (h_sz M' - z0) (h_sl M' - y0)) s m args c prog_14_method_46_code "ZonedFabricModel" z0 y0 (h_sz M') (h_sl M') 9) (B : xB ym225 (some FieldType.int) meth)  (M : hM) {res : xRes} (h : b225_57  M = some res) (hN : xN (fun _ _ _ => False) r M' res) : xV G p l e (xRm 7 (h_sz M' - z0) (h_sl M' - y0)) s m args below meth c z0 y0 (h_sz M') (h_sl M') 9 (MQ below (xQc G r M') args s (h_sz M' - z0) (h_sl M' - y0) (xFr G)) 57 [] [] M := by
  unfold b225_57 at h
  refine xv_b E [.iconst 2] (pc' := 58) (lv' := []) (st' := [.inl (2 : Int32)]) (by decide +kernel) rfl rfl ?_
  obtain rfl := Option.some.inj h
  obtain ⟨rfl, rfl⟩ := Prod.mk.inj (show ((some (.inl (2 : Int32)) : Option aV), M) = (r, M') from hN)
  exact xv_ri E B.1 rfl B.2.1 (show decode prog_14_method_46_code 58 = .ok (.ireturn, 1) by decide +kernel) rfl rfl
theorem sb225_152 (E : xE G p (xRm 7 (h_sz M' - z0) (h_sl M' - y0)) s m args c prog_14_method_46_code "ZonedFabricModel" z0 y0 (h_sz M') (h_sl M') 9) (B : xB ym225 (some FieldType.int) meth)  (M : hM) {res : xRes} (h : b225_152  M = some res) (hN : xN (fun _ _ _ => False) r M' res) : xV G p l e (xRm 7 (h_sz M' - z0) (h_sl M' - y0)) s m args below meth c z0 y0 (h_sz M') (h_sl M') 9 (MQ below (xQc G r M') args s (h_sz M' - z0) (h_sl M' - y0) (xFr G)) 152 [] [] M := by
  unfold b225_152 at h
  refine xv_b E [.iconst 3] (pc' := 153) (lv' := []) (st' := [.inl (3 : Int32)]) (by decide +kernel) rfl rfl ?_
  obtain rfl := Option.some.inj h
  obtain ⟨rfl, rfl⟩ := Prod.mk.inj (show ((some (.inl (3 : Int32)) : Option aV), M) = (r, M') from hN)
  exact xv_ri E B.1 rfl B.2.1 (show decode prog_14_method_46_code 153 = .ok (.ireturn, 1) by decide +kernel) rfl rfl
theorem sb225_182 (E : xE G p (xRm 7 (h_sz M' - z0) (h_sl M' - y0)) s m args c prog_14_method_46_code "ZonedFabricModel" z0 y0 (h_sz M') (h_sl M') 9) (B : xB ym225 (some FieldType.int) meth) (si0 : Int32) (M : hM) {res : xRes} (h : b225_182 si0 M = some res) (hN : xN (fun _ _ _ => False) r M' res) : xV G p l e (xRm 7 (h_sz M' - z0) (h_sl M' - y0)) s m args below meth c z0 y0 (h_sz M') (h_sl M') 9 (MQ below (xQc G r M') args s (h_sz M' - z0) (h_sl M' - y0) (xFr G)) 182 [] [.inl si0] M := by
  unfold b225_182 at h
  obtain rfl := Option.some.inj h
  obtain ⟨rfl, rfl⟩ := Prod.mk.inj (show ((some (.inl si0) : Option aV), M) = (r, M') from hN)
  exact xv_ri E B.1 rfl B.2.1 (show decode prog_14_method_46_code 182 = .ok (.ireturn, 1) by decide +kernel) rfl rfl
theorem sb225_207 (E : xE G p (xRm 7 (h_sz M' - z0) (h_sl M' - y0)) s m args c prog_14_method_46_code "ZonedFabricModel" z0 y0 (h_sz M') (h_sl M') 9) (B : xB ym225 (some FieldType.int) meth) (si0 : Int32) (M : hM) {res : xRes} (h : b225_207 si0 M = some res) (hN : xN (fun _ _ _ => False) r M' res) : xV G p l e (xRm 7 (h_sz M' - z0) (h_sl M' - y0)) s m args below meth c z0 y0 (h_sz M') (h_sl M') 9 (MQ below (xQc G r M') args s (h_sz M' - z0) (h_sl M' - y0) (xFr G)) 207 [] [.inl si0] M := by
  unfold b225_207 at h
  obtain rfl := Option.some.inj h
  obtain ⟨rfl, rfl⟩ := Prod.mk.inj (show ((some (.inl si0) : Option aV), M) = (r, M') from hN)
  exact xv_ri E B.1 rfl B.2.1 (show decode prog_14_method_46_code 207 = .ok (.ireturn, 1) by decide +kernel) rfl rfl
theorem sb225_183 (E : xE G p (xRm 7 (h_sz M' - z0) (h_sl M' - y0)) s m args c prog_14_method_46_code "ZonedFabricModel" z0 y0 (h_sz M') (h_sl M') 9) (B : xB ym225 (some FieldType.int) meth) (a0 : Nat) (v1 : Int32) (v7 : Int32) (M : hM) {res : xRes} (h : b225_183 a0 v1 v7 M = some res) (hN : xN (fun _ _ _ => False) r M' res) : xV G p l e (xRm 7 (h_sz M' - z0) (h_sl M' - y0)) s m args below meth c z0 y0 (h_sz M') (h_sl M') 9 (MQ below (xQc G r M') args s (h_sz M' - z0) (h_sl M' - y0) (xFr G)) 183 [(0, .inr (.inr (some a0))), (1, .inl v1), (7, .inl v7)] [] M := by
  unfold b225_183 at h
  refine xv_b E [.aload_n 0, .iload_n 1, .iload 7] (pc' := 187) (lv' := [(0, .inr (.inr (some a0))), (1, .inl v1), (7, .inl v7)]) (st' := [.inl v7, .inl v1, .inr (.inr (some a0))]) (by decide +kernel) rfl rfl ?_
  obtain ⟨b_86, h87, h⟩ := bd h
  obtain ⟨eh87, th87⟩ := g_o_some h87
  obtain ⟨q_84, h85, h⟩ := bd h
  refine xv_cvo E eh87 12 (as := [.inl v1, .inl v7]) (t201 G l (c_I_some h85)) cd201 mw1161 mw1162 mw1163 (show decode prog_14_method_46_code 187 = .ok (.invokevirtual 339, 3) by decide +kernel) th87 rfl rfl (Nat.le_of_ble_eq_true rfl) ⟨Nat.le_of_ble_eq_true rfl, Nat.le_of_ble_eq_true rfl⟩ ?_
  refine xv_b E [.istore 8, .iload 8, .iconst (-1)] (pc' := 195) (lv' := [(8, .inl q_84.1), (0, .inr (.inr (some a0))), (1, .inl v1), (7, .inl v7)]) (st' := [.inl (-1 : Int32), .inl q_84.1]) (by decide +kernel) rfl rfl ?_
  by_cases q88 : q_84.1 = (-1 : Int32)
  · rw [if_pos q88] at h
    refine xv_icmp_ne E 202 (show decode prog_14_method_46_code 195 = .ok (.if_icmp .ne (7), 3) by decide +kernel) rfl (fun z => absurd q88 z) (fun _ => ?_)
    refine xv_b E [.iconst 3] (pc' := 199) (lv' := [(8, .inl q_84.1), (0, .inr (.inr (some a0))), (1, .inl v1), (7, .inl v7)]) (st' := [.inl (3 : Int32)]) (by decide +kernel) rfl rfl ?_
    refine xv_goto E 207 (show decode prog_14_method_46_code 199 = .ok (.goto (8), 3) by decide +kernel) rfl ?_
    exact xv_w (sb225_207 E B (3 : Int32) q_84.2 h hN) rfl
  · rw [if_neg q88] at h
    refine xv_icmp_ne E 202 (show decode prog_14_method_46_code 195 = .ok (.if_icmp .ne (7), 3) by decide +kernel) rfl (fun _ => ?_) (fun z => absurd z q88)
    refine xv_b E [.bipush 16, .iload 8, .iadd] (pc' := 207) (lv' := [(8, .inl q_84.1), (0, .inr (.inr (some a0))), (1, .inl v1), (7, .inl v7)]) (st' := [.inl ((16 : Int32) + q_84.1)]) (by decide +kernel) rfl rfl ?_
    exact xv_w (sb225_207 E B ((16 : Int32) + q_84.1) q_84.2 h hN) rfl
theorem sb225_59 (E : xE G p (xRm 7 (h_sz M' - z0) (h_sl M' - y0)) s m args c prog_14_method_46_code "ZonedFabricModel" z0 y0 (h_sz M') (h_sl M') 9) (B : xB ym225 (some FieldType.int) meth) (a0 : Nat) (v1 : Int32) (v4 : Int32) (v5 : Int32) (M : hM) {res : xRes} (h : b225_59 a0 v1 v4 v5 M = some res) (hN : xN (fun _ _ _ => False) r M' res) : xV G p l e (xRm 7 (h_sz M' - z0) (h_sl M' - y0)) s m args below meth c z0 y0 (h_sz M') (h_sl M') 9 (MQ below (xQc G r M') args s (h_sz M' - z0) (h_sl M' - y0) (xFr G)) 59 [(0, .inr (.inr (some a0))), (1, .inl v1), (4, .inl v4), (5, .inl v5)] [] M := by
  unfold b225_59 at h
  refine xv_b E [.iload 4, .bipush 16, .ishr, .istore 7, .iload 7, .aload_n 0] (pc' := 69) (lv' := [(7, .inl (v4 >>> ((16 : Int32) &&& 31))), (0, .inr (.inr (some a0))), (1, .inl v1), (4, .inl v4), (5, .inl v5)]) (st' := [.inr (.inr (some a0)), .inl (v4 >>> ((16 : Int32) &&& 31))]) (by decide +kernel) rfl rfl ?_
  obtain ⟨o_29, h30, h⟩ := bd h
  refine xg_r E 12 26 h30 mw886 (show decode prog_14_method_46_code 69 = .ok (.getfield 73, 3) by decide +kernel) ?_
  refine xv_b E [.iload_n 1] (pc' := 73) (lv' := [(7, .inl (v4 >>> ((16 : Int32) &&& 31))), (0, .inr (.inr (some a0))), (1, .inl v1), (4, .inl v4), (5, .inl v5)]) (st' := [.inl v1, .inr (.inr o_29), .inl (v4 >>> ((16 : Int32) &&& 31))]) (by decide +kernel) rfl rfl ?_
  obtain ⟨v_31, h32, h⟩ := bd h
  refine xa_i E h32 (show decode prog_14_method_46_code 73 = .ok (.iaload, 1) by decide +kernel) ?_
  by_cases q83 : (v4 >>> ((16 : Int32) &&& 31)) = v_31
  · rw [if_pos q83] at h
    refine xv_icmp_ne E 183 (show decode prog_14_method_46_code 74 = .ok (.if_icmp .ne (109), 3) by decide +kernel) rfl (fun z => absurd q83 z) (fun _ => ?_)
    refine xv_b E [.aload_n 0, .iload_n 1] (pc' := 79) (lv' := [(7, .inl (v4 >>> ((16 : Int32) &&& 31))), (0, .inr (.inr (some a0))), (1, .inl v1), (4, .inl v4), (5, .inl v5)]) (st' := [.inl v1, .inr (.inr (some a0))]) (by decide +kernel) rfl rfl ?_
    obtain ⟨b_35, h36, h⟩ := bd h
    obtain ⟨eh36, th36⟩ := g_o_some h36
    obtain ⟨q_33, h34, h⟩ := bd h
    refine xv_cvo E eh36 12 (as := [.inl v1]) (t200 G l (c_I_some h34)) cd200 mw1148 mw1149 mw1150 (show decode prog_14_method_46_code 79 = .ok (.invokevirtual 297, 3) by decide +kernel) th36 rfl rfl (Nat.le_of_ble_eq_true rfl) ⟨Nat.le_of_ble_eq_true rfl, Nat.le_of_ble_eq_true rfl⟩ ?_
    by_cases q82 : q_33.1 = 0
    · rw [if_pos q82] at h
      refine xv_if_ne E 183 (show decode prog_14_method_46_code 82 = .ok (.ifCond .ne (101), 3) by decide +kernel) rfl (fun z => absurd q82 z) (fun _ => ?_)
      refine xv_b E [.iload 4, .bipush 8, .ishr, .sipush 255, .iand, .istore 8, .iload 8, .bipush 7] (pc' := 100) (lv' := [(8, .inl ((v4 >>> ((8 : Int32) &&& 31)) &&& (255 : Int32))), (7, .inl (v4 >>> ((16 : Int32) &&& 31))), (0, .inr (.inr (some a0))), (1, .inl v1), (4, .inl v4), (5, .inl v5)]) (st' := [.inl (7 : Int32), .inl ((v4 >>> ((8 : Int32) &&& 31)) &&& (255 : Int32))]) (by decide +kernel) rfl rfl ?_
      by_cases q81 : (7 : Int32) < ((v4 >>> ((8 : Int32) &&& 31)) &&& (255 : Int32))
      · rw [if_pos q81] at h
        refine xv_icmp_gt E 152 (show decode prog_14_method_46_code 100 = .ok (.if_icmp .gt (52), 3) by decide +kernel) rfl (fun _ => ?_) (fun z => absurd q81 z)
        exact xv_w (sb225_152 E B  q_33.2 h hN) rfl
      · rw [if_neg q81] at h
        refine xv_icmp_gt E 152 (show decode prog_14_method_46_code 100 = .ok (.if_icmp .gt (52), 3) by decide +kernel) rfl (fun z => absurd z q81) (fun _ => ?_)
        refine xv_b E [.aload_n 0, .aload_n 0, .iload_n 1, .iload 8] (pc' := 108) (lv' := [(8, .inl ((v4 >>> ((8 : Int32) &&& 31)) &&& (255 : Int32))), (7, .inl (v4 >>> ((16 : Int32) &&& 31))), (0, .inr (.inr (some a0))), (1, .inl v1), (4, .inl v4), (5, .inl v5)]) (st' := [.inl ((v4 >>> ((8 : Int32) &&& 31)) &&& (255 : Int32)), .inl v1, .inr (.inr (some a0)), .inr (.inr (some a0))]) (by decide +kernel) rfl rfl ?_
        obtain ⟨b_39, h40, h⟩ := bd h
        obtain ⟨eh40, th40⟩ := g_o_some h40
        obtain ⟨q_37, h38, h⟩ := bd h
        refine xv_cvo E eh40 12 (as := [.inl v1, .inl ((v4 >>> ((8 : Int32) &&& 31)) &&& (255 : Int32))]) (t175 G l (c_I_some h38)) cd175 mw1134 mw1135 mw1136 (show decode prog_14_method_46_code 108 = .ok (.invokevirtual 288, 3) by decide +kernel) th40 rfl rfl (Nat.le_of_ble_eq_true rfl) ⟨Nat.le_of_ble_eq_true rfl, Nat.le_of_ble_eq_true rfl⟩ ?_
        obtain ⟨b_43, h44, h⟩ := bd h
        obtain ⟨eh44, th44⟩ := g_o_some h44
        obtain ⟨q_41, h42, h⟩ := bd h
        refine xv_cvo E eh44 12 (as := [.inl q_37.1]) (t177 G l (c_I_some h42)) cd177 mw963 mw964 mw965 (show decode prog_14_method_46_code 111 = .ok (.invokevirtual 213, 3) by decide +kernel) th44 rfl rfl (Nat.le_of_ble_eq_true rfl) ⟨Nat.le_of_ble_eq_true rfl, Nat.le_of_ble_eq_true rfl⟩ ?_
        by_cases q80 : q_41.1 = 0
        · rw [if_pos q80] at h
          refine xv_if_eq E 152 (show decode prog_14_method_46_code 114 = .ok (.ifCond .eq (38), 3) by decide +kernel) rfl (fun _ => ?_) (fun z => absurd q80 z)
          exact xv_w (sb225_152 E B  q_41.2 h hN) rfl
        · rw [if_neg q80] at h
          refine xv_if_eq E 152 (show decode prog_14_method_46_code 114 = .ok (.ifCond .eq (38), 3) by decide +kernel) rfl (fun z => absurd z q80) (fun _ => ?_)
          refine xv_b E [.aload_n 0, .aload_n 0, .iload_n 1, .iload 8] (pc' := 122) (lv' := [(8, .inl ((v4 >>> ((8 : Int32) &&& 31)) &&& (255 : Int32))), (7, .inl (v4 >>> ((16 : Int32) &&& 31))), (0, .inr (.inr (some a0))), (1, .inl v1), (4, .inl v4), (5, .inl v5)]) (st' := [.inl ((v4 >>> ((8 : Int32) &&& 31)) &&& (255 : Int32)), .inl v1, .inr (.inr (some a0)), .inr (.inr (some a0))]) (by decide +kernel) rfl rfl ?_
          obtain ⟨b_47, h48, h⟩ := bd h
          obtain ⟨eh48, th48⟩ := g_o_some h48
          obtain ⟨q_45, h46, h⟩ := bd h
          refine xv_cvo E eh48 12 (as := [.inl v1, .inl ((v4 >>> ((8 : Int32) &&& 31)) &&& (255 : Int32))]) (t175 G l (c_I_some h46)) cd175 mw1134 mw1135 mw1136 (show decode prog_14_method_46_code 122 = .ok (.invokevirtual 288, 3) by decide +kernel) th48 rfl rfl (Nat.le_of_ble_eq_true rfl) ⟨Nat.le_of_ble_eq_true rfl, Nat.le_of_ble_eq_true rfl⟩ ?_
          obtain ⟨b_51, h52, h⟩ := bd h
          obtain ⟨eh52, th52⟩ := g_o_some h52
          obtain ⟨q_49, h50, h⟩ := bd h
          refine xv_cvo E eh52 12 (as := [.inl q_45.1]) (t179 G l (c_I_some h50)) cd179 mw1154 mw1155 mw1156 (show decode prog_14_method_46_code 125 = .ok (.invokevirtual 303, 3) by decide +kernel) th52 rfl rfl (Nat.le_of_ble_eq_true rfl) ⟨Nat.le_of_ble_eq_true rfl, Nat.le_of_ble_eq_true rfl⟩ ?_
          refine xv_b E [.iconst (-1)] (pc' := 129) (lv' := [(8, .inl ((v4 >>> ((8 : Int32) &&& 31)) &&& (255 : Int32))), (7, .inl (v4 >>> ((16 : Int32) &&& 31))), (0, .inr (.inr (some a0))), (1, .inl v1), (4, .inl v4), (5, .inl v5)]) (st' := [.inl (-1 : Int32), .inl q_49.1]) (by decide +kernel) rfl rfl ?_
          by_cases q79 : q_49.1 = (-1 : Int32)
          · rw [if_pos q79] at h
            refine xv_icmp_eq E 152 (show decode prog_14_method_46_code 129 = .ok (.if_icmp .eq (23), 3) by decide +kernel) rfl (fun _ => ?_) (fun z => absurd q79 z)
            exact xv_w (sb225_152 E B  q_49.2 h hN) rfl
          · rw [if_neg q79] at h
            refine xv_icmp_eq E 152 (show decode prog_14_method_46_code 129 = .ok (.if_icmp .eq (23), 3) by decide +kernel) rfl (fun z => absurd z q79) (fun _ => ?_)
            refine xv_b E [.aload_n 0, .aload_n 0, .iload_n 1, .iload 8] (pc' := 137) (lv' := [(8, .inl ((v4 >>> ((8 : Int32) &&& 31)) &&& (255 : Int32))), (7, .inl (v4 >>> ((16 : Int32) &&& 31))), (0, .inr (.inr (some a0))), (1, .inl v1), (4, .inl v4), (5, .inl v5)]) (st' := [.inl ((v4 >>> ((8 : Int32) &&& 31)) &&& (255 : Int32)), .inl v1, .inr (.inr (some a0)), .inr (.inr (some a0))]) (by decide +kernel) rfl rfl ?_
            obtain ⟨b_55, h56, h⟩ := bd h
            obtain ⟨eh56, th56⟩ := g_o_some h56
            obtain ⟨q_53, h54, h⟩ := bd h
            refine xv_cvo E eh56 12 (as := [.inl v1, .inl ((v4 >>> ((8 : Int32) &&& 31)) &&& (255 : Int32))]) (t175 G l (c_I_some h54)) cd175 mw1134 mw1135 mw1136 (show decode prog_14_method_46_code 137 = .ok (.invokevirtual 288, 3) by decide +kernel) th56 rfl rfl (Nat.le_of_ble_eq_true rfl) ⟨Nat.le_of_ble_eq_true rfl, Nat.le_of_ble_eq_true rfl⟩ ?_
            obtain ⟨b_59, h60, h⟩ := bd h
            obtain ⟨eh60, th60⟩ := g_o_some h60
            obtain ⟨q_57, h58, h⟩ := bd h
            refine xv_cvo E eh60 12 (as := [.inl q_53.1]) (t179 G l (c_I_some h58)) cd179 mw1154 mw1155 mw1156 (show decode prog_14_method_46_code 140 = .ok (.invokevirtual 303, 3) by decide +kernel) th60 rfl rfl (Nat.le_of_ble_eq_true rfl) ⟨Nat.le_of_ble_eq_true rfl, Nat.le_of_ble_eq_true rfl⟩ ?_
            refine xv_b E [.aload_n 0, .iload 4] (pc' := 146) (lv' := [(8, .inl ((v4 >>> ((8 : Int32) &&& 31)) &&& (255 : Int32))), (7, .inl (v4 >>> ((16 : Int32) &&& 31))), (0, .inr (.inr (some a0))), (1, .inl v1), (4, .inl v4), (5, .inl v5)]) (st' := [.inl v4, .inr (.inr (some a0)), .inl q_57.1]) (by decide +kernel) rfl rfl ?_
            obtain ⟨b_63, h64, h⟩ := bd h
            obtain ⟨eh64, th64⟩ := g_o_some h64
            obtain ⟨q_61, h62, h⟩ := bd h
            refine xv_cvo E eh64 12 (as := [.inl v4]) (t189 G l (c_I_some h62)) cd189 mw1074 mw1075 mw1076 (show decode prog_14_method_46_code 146 = .ok (.invokevirtual 309, 3) by decide +kernel) th64 rfl rfl (Nat.le_of_ble_eq_true rfl) ⟨Nat.le_of_ble_eq_true rfl, Nat.le_of_ble_eq_true rfl⟩ ?_
            by_cases q78 : q_57.1 = q_61.1
            · rw [if_pos q78] at h
              refine xv_icmp_eq E 154 (show decode prog_14_method_46_code 149 = .ok (.if_icmp .eq (5), 3) by decide +kernel) rfl (fun _ => ?_) (fun z => absurd q78 z)
              refine xv_b E [.aload_n 0, .aload_n 0, .iload 5] (pc' := 158) (lv' := [(8, .inl ((v4 >>> ((8 : Int32) &&& 31)) &&& (255 : Int32))), (7, .inl (v4 >>> ((16 : Int32) &&& 31))), (0, .inr (.inr (some a0))), (1, .inl v1), (4, .inl v4), (5, .inl v5)]) (st' := [.inl v5, .inr (.inr (some a0)), .inr (.inr (some a0))]) (by decide +kernel) rfl rfl ?_
              obtain ⟨b_67, h68, h⟩ := bd h
              obtain ⟨eh68, th68⟩ := g_o_some h68
              obtain ⟨q_65, h66, h⟩ := bd h
              refine xv_cvo E eh68 12 (as := [.inl v5]) (t189 G l (c_I_some h66)) cd189 mw1074 mw1075 mw1076 (show decode prog_14_method_46_code 158 = .ok (.invokevirtual 309, 3) by decide +kernel) th68 rfl rfl (Nat.le_of_ble_eq_true rfl) ⟨Nat.le_of_ble_eq_true rfl, Nat.le_of_ble_eq_true rfl⟩ ?_
              refine xv_b E [.aload_n 0, .iload 4] (pc' := 164) (lv' := [(8, .inl ((v4 >>> ((8 : Int32) &&& 31)) &&& (255 : Int32))), (7, .inl (v4 >>> ((16 : Int32) &&& 31))), (0, .inr (.inr (some a0))), (1, .inl v1), (4, .inl v4), (5, .inl v5)]) (st' := [.inl v4, .inr (.inr (some a0)), .inl q_65.1, .inr (.inr (some a0))]) (by decide +kernel) rfl rfl ?_
              obtain ⟨b_71, h72, h⟩ := bd h
              obtain ⟨eh72, th72⟩ := g_o_some h72
              obtain ⟨q_69, h70, h⟩ := bd h
              refine xv_cvo E eh72 12 (as := [.inl v4]) (t189 G l (c_I_some h70)) cd189 mw1074 mw1075 mw1076 (show decode prog_14_method_46_code 164 = .ok (.invokevirtual 309, 3) by decide +kernel) th72 rfl rfl (Nat.le_of_ble_eq_true rfl) ⟨Nat.le_of_ble_eq_true rfl, Nat.le_of_ble_eq_true rfl⟩ ?_
              obtain ⟨b_75, h76, h⟩ := bd h
              obtain ⟨eh76, th76⟩ := g_o_some h76
              obtain ⟨q_73, h74, h⟩ := bd h
              refine xv_cvo E eh76 12 (as := [.inl q_65.1, .inl q_69.1]) (t188 G l (c_I_some h74)) cd188 mw1158 mw1159 mw1160 (show decode prog_14_method_46_code 167 = .ok (.invokevirtual 336, 3) by decide +kernel) th76 rfl rfl (Nat.le_of_ble_eq_true rfl) ⟨Nat.le_of_ble_eq_true rfl, Nat.le_of_ble_eq_true rfl⟩ ?_
              by_cases q77 : q_73.1 = 0
              · rw [if_pos q77] at h
                refine xv_if_eq E 181 (show decode prog_14_method_46_code 170 = .ok (.ifCond .eq (11), 3) by decide +kernel) rfl (fun _ => ?_) (fun z => absurd q77 z)
                refine xv_b E [.iconst 2] (pc' := 182) (lv' := [(8, .inl ((v4 >>> ((8 : Int32) &&& 31)) &&& (255 : Int32))), (7, .inl (v4 >>> ((16 : Int32) &&& 31))), (0, .inr (.inr (some a0))), (1, .inl v1), (4, .inl v4), (5, .inl v5)]) (st' := [.inl (2 : Int32)]) (by decide +kernel) rfl rfl ?_
                exact xv_w (sb225_182 E B (2 : Int32) q_73.2 h hN) rfl
              · rw [if_neg q77] at h
                refine xv_if_eq E 181 (show decode prog_14_method_46_code 170 = .ok (.ifCond .eq (11), 3) by decide +kernel) rfl (fun z => absurd z q77) (fun _ => ?_)
                refine xv_b E [.bipush 16, .iload 8, .iadd] (pc' := 178) (lv' := [(8, .inl ((v4 >>> ((8 : Int32) &&& 31)) &&& (255 : Int32))), (7, .inl (v4 >>> ((16 : Int32) &&& 31))), (0, .inr (.inr (some a0))), (1, .inl v1), (4, .inl v4), (5, .inl v5)]) (st' := [.inl ((16 : Int32) + ((v4 >>> ((8 : Int32) &&& 31)) &&& (255 : Int32)))]) (by decide +kernel) rfl rfl ?_
                refine xv_goto E 182 (show decode prog_14_method_46_code 178 = .ok (.goto (4), 3) by decide +kernel) rfl ?_
                exact xv_w (sb225_182 E B ((16 : Int32) + ((v4 >>> ((8 : Int32) &&& 31)) &&& (255 : Int32))) q_73.2 h hN) rfl
            · rw [if_neg q78] at h
              refine xv_icmp_eq E 154 (show decode prog_14_method_46_code 149 = .ok (.if_icmp .eq (5), 3) by decide +kernel) rfl (fun z => absurd z q78) (fun _ => ?_)
              exact xv_w (sb225_152 E B  q_61.2 h hN) rfl
    · rw [if_neg q82] at h
      refine xv_if_ne E 183 (show decode prog_14_method_46_code 82 = .ok (.ifCond .ne (101), 3) by decide +kernel) rfl (fun _ => ?_) (fun z => absurd z q82)
      exact xv_w (sb225_183 E B a0 v1 (v4 >>> ((16 : Int32) &&& 31)) q_33.2 h hN) rfl
  · rw [if_neg q83] at h
    refine xv_icmp_ne E 183 (show decode prog_14_method_46_code 74 = .ok (.if_icmp .ne (109), 3) by decide +kernel) rfl (fun _ => ?_) (fun z => absurd z q83)
    exact xv_w (sb225_183 E B a0 v1 (v4 >>> ((16 : Int32) &&& 31)) M h hN) rfl
theorem sb225_0 (E : xE G p (xRm 7 (h_sz M' - z0) (h_sl M' - y0)) s m args c prog_14_method_46_code "ZonedFabricModel" z0 y0 (h_sz M') (h_sl M') 9) (B : xB ym225 (some FieldType.int) meth) (a0 : Nat) (v1 : Int32) (v2 : Int32) (v3 : Int32) (v4 : Int32) (M : hM) {res : xRes} (h : b225_0 a0 v1 v2 v3 v4 M = some res) (hN : xN (fun _ _ _ => False) r M' res) : xV G p l e (xRm 7 (h_sz M' - z0) (h_sl M' - y0)) s m args below meth c z0 y0 (h_sz M') (h_sl M') 9 (MQ below (xQc G r M') args s (h_sz M' - z0) (h_sl M' - y0) (xFr G)) 0 [(0, .inr (.inr (some a0))), (1, .inl v1), (2, .inl v2), (3, .inl v3), (4, .inl v4)] [] M := by
  unfold b225_0 at h
  refine xv_b E [.aload_n 0, .iload_n 3, .iconst 4, .iconst 3] (pc' := 4) (lv' := [(0, .inr (.inr (some a0))), (1, .inl v1), (2, .inl v2), (3, .inl v3), (4, .inl v4)]) (st' := [.inl (3 : Int32), .inl (4 : Int32), .inl v3, .inr (.inr (some a0))]) (by decide +kernel) rfl rfl ?_
  obtain ⟨b_3, h4, h⟩ := bd h
  obtain ⟨eh4, th4⟩ := g_o_some h4
  obtain ⟨q_1, h2, h⟩ := bd h
  refine xv_cvo E eh4 12 (as := [.inl v3, .inl (4 : Int32), .inl (3 : Int32)]) (t166 G l (c_I_some h2)) cd166 mw947 mw948 mw949 (show decode prog_14_method_46_code 4 = .ok (.invokevirtual 198, 3) by decide +kernel) th4 rfl rfl (Nat.le_of_ble_eq_true rfl) ⟨Nat.le_of_ble_eq_true rfl, Nat.le_of_ble_eq_true rfl⟩ ?_
  refine xv_b E [.istore 5, .aload_n 0, .iload_n 2] (pc' := 11) (lv' := [(5, .inl q_1.1), (0, .inr (.inr (some a0))), (1, .inl v1), (2, .inl v2), (3, .inl v3), (4, .inl v4)]) (st' := [.inl v2, .inr (.inr (some a0))]) (by decide +kernel) rfl rfl ?_
  obtain ⟨b_7, h8, h⟩ := bd h
  obtain ⟨eh8, th8⟩ := g_o_some h8
  obtain ⟨q_5, h6, h⟩ := bd h
  refine xv_cvo E eh8 12 (as := [.inl v2]) (t179 G l (c_I_some h6)) cd179 mw1154 mw1155 mw1156 (show decode prog_14_method_46_code 11 = .ok (.invokevirtual 303, 3) by decide +kernel) th8 rfl rfl (Nat.le_of_ble_eq_true rfl) ⟨Nat.le_of_ble_eq_true rfl, Nat.le_of_ble_eq_true rfl⟩ ?_
  refine xv_b E [.istore 6, .iload 6, .iconst (-1)] (pc' := 19) (lv' := [(6, .inl q_5.1), (5, .inl q_1.1), (0, .inr (.inr (some a0))), (1, .inl v1), (2, .inl v2), (3, .inl v3), (4, .inl v4)]) (st' := [.inl (-1 : Int32), .inl q_5.1]) (by decide +kernel) rfl rfl ?_
  by_cases q28 : q_5.1 = (-1 : Int32)
  · rw [if_pos q28] at h
    refine xv_icmp_eq E 59 (show decode prog_14_method_46_code 19 = .ok (.if_icmp .eq (40), 3) by decide +kernel) rfl (fun _ => ?_) (fun z => absurd q28 z)
    exact xv_w (sb225_59 E B a0 v1 v4 q_1.1 q_5.2 h hN) rfl
  · rw [if_neg q28] at h
    refine xv_icmp_eq E 59 (show decode prog_14_method_46_code 19 = .ok (.if_icmp .eq (40), 3) by decide +kernel) rfl (fun z => absurd z q28) (fun _ => ?_)
    refine xv_b E [.aload_n 0] (pc' := 23) (lv' := [(6, .inl q_5.1), (5, .inl q_1.1), (0, .inr (.inr (some a0))), (1, .inl v1), (2, .inl v2), (3, .inl v3), (4, .inl v4)]) (st' := [.inr (.inr (some a0))]) (by decide +kernel) rfl rfl ?_
    obtain ⟨o_9, h10, h⟩ := bd h
    refine xg_r E 12 25 h10 mw885 (show decode prog_14_method_46_code 23 = .ok (.getfield 70, 3) by decide +kernel) ?_
    refine xv_b E [.iload_n 2] (pc' := 27) (lv' := [(6, .inl q_5.1), (5, .inl q_1.1), (0, .inr (.inr (some a0))), (1, .inl v1), (2, .inl v2), (3, .inl v3), (4, .inl v4)]) (st' := [.inl v2, .inr (.inr o_9)]) (by decide +kernel) rfl rfl ?_
    obtain ⟨v_11, h12, h⟩ := bd h
    refine xa_i E h12 (show decode prog_14_method_46_code 27 = .ok (.iaload, 1) by decide +kernel) ?_
    by_cases q27 : v_11 = 0
    · rw [if_pos q27] at h
      refine xv_if_eq E 57 (show decode prog_14_method_46_code 28 = .ok (.ifCond .eq (29), 3) by decide +kernel) rfl (fun _ => ?_) (fun z => absurd q27 z)
      exact xv_w (sb225_57 E B  q_5.2 h hN) rfl
    · rw [if_neg q27] at h
      refine xv_if_eq E 57 (show decode prog_14_method_46_code 28 = .ok (.ifCond .eq (29), 3) by decide +kernel) rfl (fun z => absurd z q27) (fun _ => ?_)
      refine xv_b E [.iload 5, .aload_n 0] (pc' := 34) (lv' := [(6, .inl q_5.1), (5, .inl q_1.1), (0, .inr (.inr (some a0))), (1, .inl v1), (2, .inl v2), (3, .inl v3), (4, .inl v4)]) (st' := [.inr (.inr (some a0)), .inl q_1.1]) (by decide +kernel) rfl rfl ?_
      obtain ⟨o_13, h14, h⟩ := bd h
      refine xg_r E 12 25 h14 mw885 (show decode prog_14_method_46_code 34 = .ok (.getfield 70, 3) by decide +kernel) ?_
      refine xv_b E [.iload_n 2] (pc' := 38) (lv' := [(6, .inl q_5.1), (5, .inl q_1.1), (0, .inr (.inr (some a0))), (1, .inl v1), (2, .inl v2), (3, .inl v3), (4, .inl v4)]) (st' := [.inl v2, .inr (.inr o_13), .inl q_1.1]) (by decide +kernel) rfl rfl ?_
      obtain ⟨v_15, h16, h⟩ := bd h
      refine xa_i E h16 (show decode prog_14_method_46_code 38 = .ok (.iaload, 1) by decide +kernel) ?_
      by_cases q26 : q_1.1 = v_15
      · rw [if_pos q26] at h
        refine xv_icmp_ne E 57 (show decode prog_14_method_46_code 39 = .ok (.if_icmp .ne (18), 3) by decide +kernel) rfl (fun z => absurd q26 z) (fun _ => ?_)
        refine xv_b E [.aload_n 0, .iload 6, .aload_n 0, .iload 4] (pc' := 48) (lv' := [(6, .inl q_5.1), (5, .inl q_1.1), (0, .inr (.inr (some a0))), (1, .inl v1), (2, .inl v2), (3, .inl v3), (4, .inl v4)]) (st' := [.inl v4, .inr (.inr (some a0)), .inl q_5.1, .inr (.inr (some a0))]) (by decide +kernel) rfl rfl ?_
        obtain ⟨b_19, h20, h⟩ := bd h
        obtain ⟨eh20, th20⟩ := g_o_some h20
        obtain ⟨q_17, h18, h⟩ := bd h
        refine xv_cvo E eh20 12 (as := [.inl v4]) (t189 G l (c_I_some h18)) cd189 mw1074 mw1075 mw1076 (show decode prog_14_method_46_code 48 = .ok (.invokevirtual 309, 3) by decide +kernel) th20 rfl rfl (Nat.le_of_ble_eq_true rfl) ⟨Nat.le_of_ble_eq_true rfl, Nat.le_of_ble_eq_true rfl⟩ ?_
        obtain ⟨b_23, h24, h⟩ := bd h
        obtain ⟨eh24, th24⟩ := g_o_some h24
        obtain ⟨q_21, h22, h⟩ := bd h
        refine xv_cvo E eh24 12 (as := [.inl q_5.1, .inl q_17.1]) (t188 G l (c_I_some h22)) cd188 mw1158 mw1159 mw1160 (show decode prog_14_method_46_code 51 = .ok (.invokevirtual 336, 3) by decide +kernel) th24 rfl rfl (Nat.le_of_ble_eq_true rfl) ⟨Nat.le_of_ble_eq_true rfl, Nat.le_of_ble_eq_true rfl⟩ ?_
        by_cases q25 : q_21.1 = 0
        · rw [if_pos q25] at h
          refine xv_if_ne E 59 (show decode prog_14_method_46_code 54 = .ok (.ifCond .ne (5), 3) by decide +kernel) rfl (fun z => absurd q25 z) (fun _ => ?_)
          exact xv_w (sb225_57 E B  q_21.2 h hN) rfl
        · rw [if_neg q25] at h
          refine xv_if_ne E 59 (show decode prog_14_method_46_code 54 = .ok (.ifCond .ne (5), 3) by decide +kernel) rfl (fun _ => ?_) (fun z => absurd z q25)
          exact xv_w (sb225_59 E B a0 v1 v4 q_1.1 q_21.2 h hN) rfl
      · rw [if_neg q26] at h
        refine xv_icmp_ne E 57 (show decode prog_14_method_46_code 39 = .ok (.if_icmp .ne (18), 3) by decide +kernel) rfl (fun _ => ?_) (fun z => absurd z q26)
        exact xv_w (sb225_57 E B  q_5.2 h hN) rfl
end
theorem t225 (G : gX) (l : Launch) {as : List aV} {M : hM} {r : Option aV} {M' : hM} (h : f225 as M = some (r, M')) : xM G l ym225 prog_14_method_46_code 9 (some FieldType.int) 7 as M r M' := by
  unfold f225 at h
  split at h
  · have h := x_out_ok h
    refine xM_of (by decide) (Nat.le_of_ble_eq_true rfl) (lb225_0 G l _ _ _ _ _ M h) ?_
    intro p e s m args below meth c E B
    exact sb225_0 E B _ _ _ _ _ M h rfl
  · cases h
