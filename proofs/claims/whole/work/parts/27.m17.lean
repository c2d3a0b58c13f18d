theorem mw1176 : Cond.code ⟨"ZonedFabricModel", "looks", "(II)V"⟩ prog_14_method_45_code 5 none ∈ xTs := xTs_in (tk7 (List.mem_of_getElem? (i := 99) rfl)) rfl
theorem mw1177 : Cond.methodLink "ZonedFabricModel" 329 ⟨"ZonedFabricModel", "taken", "(IIII)V"⟩ ∈ xTs := xTs_in (tk7 (List.mem_of_getElem? (i := 121) (by decide +kernel))) rfl
theorem mw1178 : Cond.instanceMethod ⟨"ZonedFabricModel", "taken", "(IIII)V"⟩ ∈ xTs := xTs_in (tk7 (List.mem_of_getElem? (i := 123) (by decide +kernel))) rfl
theorem mw1179 : Cond.selects "ZonedFabricModel" ⟨"ZonedFabricModel", "taken", "(IIII)V"⟩ ⟨"ZonedFabricModel", "taken", "(IIII)V"⟩ ∈ xTs := xTs_in (List.mem_append_left _ (List.mem_of_getElem? (i := 101) (by decide +kernel))) rfl
theorem mw1180 : Cond.methodLink "ZonedFabricModel" 333 ⟨"ZonedFabricModel", "passes", "(IIII)V"⟩ ∈ xTs := xTs_in (tk7 (List.mem_of_getElem? (i := 137) (by decide +kernel))) rfl
theorem mw1181 : Cond.instanceMethod ⟨"ZonedFabricModel", "passes", "(IIII)V"⟩ ∈ xTs := xTs_in (tk7 (List.mem_of_getElem? (i := 139) (by decide +kernel))) rfl
theorem mw1182 : Cond.selects "ZonedFabricModel" ⟨"ZonedFabricModel", "passes", "(IIII)V"⟩ ⟨"ZonedFabricModel", "passes", "(IIII)V"⟩ ∈ xTs := xTs_in (List.mem_append_left _ (List.mem_of_getElem? (i := 105) (by decide +kernel))) rfl
theorem mw1183 : Cond.code ⟨"ZonedFabricModel", "switchTicks", "(I)V"⟩ prog_14_method_41_code 3 none ∈ xTs := xTs_in (tk6 (List.mem_of_getElem? (i := 222) rfl)) rfl
theorem mw1184 : Cond.methodLink "ZonedFabricModel" 285 ⟨"ZonedFabricModel", "timers", "(I)V"⟩ ∈ xTs := xTs_in (tk6 (List.mem_of_getElem? (i := 223) (by decide +kernel))) rfl
theorem mw1185 : Cond.instanceMethod ⟨"ZonedFabricModel", "timers", "(I)V"⟩ ∈ xTs := xTs_in (tk6 (List.mem_of_getElem? (i := 225) (by decide +kernel))) rfl
theorem mw1186 : Cond.selects "ZonedFabricModel" ⟨"ZonedFabricModel", "timers", "(I)V"⟩ ⟨"ZonedFabricModel", "timers", "(I)V"⟩ ∈ xTs := xTs_in (List.mem_append_left _ (List.mem_of_getElem? (i := 68) (by decide +kernel))) rfl
theorem mw1187 : Cond.methodLink "ZonedFabricModel" 294 ⟨"ZonedFabricModel", "looks", "(II)V"⟩ ∈ xTs := xTs_in (tk7 (List.mem_of_getElem? (i := 96) (by decide +kernel))) rfl
theorem mw1188 : Cond.instanceMethod ⟨"ZonedFabricModel", "looks", "(II)V"⟩ ∈ xTs := xTs_in (tk7 (List.mem_of_getElem? (i := 98) (by decide +kernel))) rfl
theorem mw1189 : Cond.selects "ZonedFabricModel" ⟨"ZonedFabricModel", "looks", "(II)V"⟩ ⟨"ZonedFabricModel", "looks", "(II)V"⟩ ∈ xTs := xTs_in (List.mem_append_left _ (List.mem_of_getElem? (i := 95) (by decide +kernel))) rfl
theorem mw1190 : Cond.code ⟨"ZonedFabricModel", "ticks", "()I"⟩ prog_14_method_40_code 4 (some FieldType.int) ∈ xTs := xTs_in (tk6 (List.mem_of_getElem? (i := 214) rfl)) rfl
theorem mw1191 : Cond.methodLink "ZonedFabricModel" 279 ⟨"ZonedFabricModel", "switchTicks", "(I)V"⟩ ∈ xTs := xTs_in (tk6 (List.mem_of_getElem? (i := 219) (by decide +kernel))) rfl
theorem mw1192 : Cond.instanceMethod ⟨"ZonedFabricModel", "switchTicks", "(I)V"⟩ ∈ xTs := xTs_in (tk6 (List.mem_of_getElem? (i := 221) (by decide +kernel))) rfl
theorem mw1193 : Cond.selects "ZonedFabricModel" ⟨"ZonedFabricModel", "switchTicks", "(I)V"⟩ ⟨"ZonedFabricModel", "switchTicks", "(I)V"⟩ ∈ xTs := xTs_in (List.mem_append_left _ (List.mem_of_getElem? (i := 67) (by decide +kernel))) rfl
theorem mw1194 : Cond.methodLink "ZonedFabricModel" 282 ⟨"ZonedFabricModel", "nodeTicks", "(I)V"⟩ ∈ xTs := xTs_in (tk7 (List.mem_of_getElem? (i := 149) (by decide +kernel))) rfl
theorem mw1195 : Cond.instanceMethod ⟨"ZonedFabricModel", "nodeTicks", "(I)V"⟩ ∈ xTs := xTs_in (tk7 (List.mem_of_getElem? (i := 151) (by decide +kernel))) rfl
theorem mw1196 : Cond.selects "ZonedFabricModel" ⟨"ZonedFabricModel", "nodeTicks", "(I)V"⟩ ⟨"ZonedFabricModel", "nodeTicks", "(I)V"⟩ ∈ xTs := xTs_in (List.mem_append_left _ (List.mem_of_getElem? (i := 108) (by decide +kernel))) rfl
theorem mw1197 : Cond.code ⟨"ZonedFabricModel", "disc", "(I)Z"⟩ prog_14_method_69_code 2 (some FieldType.boolean) ∈ xTs := xTs_in (tk6 (List.mem_of_getElem? (i := 150) rfl)) rfl
theorem mw1198 : Cond.code ⟨"ZonedFabricModel", "wire", "(IIIII)I"⟩ prog_14_method_70_code 9 (some FieldType.int) ∈ xTs := xTs_in (tk6 (List.mem_of_getElem? (i := 158) rfl)) rfl
theorem mw1199 : Cond.fieldLink "ZonedFabricModel" 414 "ZonedFabricModel" "wires" "I" ∈ xTs := xTs_in (tk5 (List.mem_of_getElem? (i := 215) (by decide +kernel))) rfl
theorem mw1200 : Cond.methodLink "ZonedFabricModel" 417 ⟨"ZonedFabricModel", "empties", "(I)V"⟩ ∈ xTs := xTs_in (tk6 (List.mem_of_getElem? (i := 163) (by decide +kernel))) rfl
theorem mw1201 : Cond.instanceMethod ⟨"ZonedFabricModel", "empties", "(I)V"⟩ ∈ xTs := xTs_in (tk6 (List.mem_of_getElem? (i := 165) (by decide +kernel))) rfl
theorem mw1202 : Cond.selects "ZonedFabricModel" ⟨"ZonedFabricModel", "empties", "(I)V"⟩ ⟨"ZonedFabricModel", "empties", "(I)V"⟩ ∈ xTs := xTs_in (List.mem_append_left _ (List.mem_of_getElem? (i := 60) (by decide +kernel))) rfl
theorem mw1203 : Cond.code ⟨"ZonedFabricModel", "isWire", "(I)Z"⟩ prog_14_method_71_code 2 (some FieldType.boolean) ∈ xTs := xTs_in (tk6 (List.mem_of_getElem? (i := 182) rfl)) rfl
theorem mw1204 : Cond.code ⟨"ZonedFabricModel", "cut", "(I)Z"⟩ prog_14_method_72_code 2 (some FieldType.boolean) ∈ xTs := xTs_in (tk6 (List.mem_of_getElem? (i := 178) rfl)) rfl
theorem mw1205 : Cond.methodLink "ZonedFabricModel" 420 ⟨"ZonedFabricModel", "isWire", "(I)Z"⟩ ∈ xTs := xTs_in (tk6 (List.mem_of_getElem? (i := 179) (by decide +kernel))) rfl
theorem mw1206 : Cond.instanceMethod ⟨"ZonedFabricModel", "isWire", "(I)Z"⟩ ∈ xTs := xTs_in (tk6 (List.mem_of_getElem? (i := 181) (by decide +kernel))) rfl
theorem mw1207 : Cond.selects "ZonedFabricModel" ⟨"ZonedFabricModel", "isWire", "(I)Z"⟩ ⟨"ZonedFabricModel", "isWire", "(I)Z"⟩ ∈ xTs := xTs_in (List.mem_append_left _ (List.mem_of_getElem? (i := 63) (by decide +kernel))) rfl
theorem mw1208 : Cond.code ⟨"ZonedFabricModel", "join", "(I)Z"⟩ prog_14_method_73_code 2 (some FieldType.boolean) ∈ xTs := xTs_in (tk6 (List.mem_of_getElem? (i := 186) rfl)) rfl
theorem mw1209 : Cond.code ⟨"ZonedFabricModel", "zone", "(IIZ)Z"⟩ prog_14_method_74_code 4 (some FieldType.boolean) ∈ xTs := xTs_in (tk6 (List.mem_of_getElem? (i := 190) rfl)) rfl
theorem mw1210 : Cond.code ⟨"ZonedFabricModel", "zoning", "(Z)V"⟩ prog_14_method_75_code 2 none ∈ xTs := xTs_in (tk6 (List.mem_of_getElem? (i := 194) rfl)) rfl
theorem mw1211 : Cond.code ⟨"ZonedFabricModel", "domain", "(II)Z"⟩ prog_14_method_76_code 3 (some FieldType.boolean) ∈ xTs := xTs_in (tk6 (List.mem_of_getElem? (i := 198) rfl)) rfl
theorem mw1212 : Cond.code ⟨"ZonedFabricModel", "frameAt", "(II)I"⟩ prog_14_method_77_code 3 (some FieldType.int) ∈ xTs := xTs_in (tk6 (List.mem_of_getElem? (i := 206) rfl)) rfl
theorem mw1213 : Cond.code ⟨"ZonedFabricModel", "flip", "(III)Z"⟩ prog_14_method_78_code 5 (some FieldType.boolean) ∈ xTs := xTs_in (tk6 (List.mem_of_getElem? (i := 202) rfl)) rfl
theorem mw1214 : Cond.methodLink "ZonedFabricModel" 423 ⟨"ZonedFabricModel", "frameAt", "(II)I"⟩ ∈ xTs := xTs_in (tk6 (List.mem_of_getElem? (i := 203) (by decide +kernel))) rfl
theorem mw1215 : Cond.instanceMethod ⟨"ZonedFabricModel", "frameAt", "(II)I"⟩ ∈ xTs := xTs_in (tk6 (List.mem_of_getElem? (i := 205) (by decide +kernel))) rfl
theorem mw1216 : Cond.selects "ZonedFabricModel" ⟨"ZonedFabricModel", "frameAt", "(II)I"⟩ ⟨"ZonedFabricModel", "frameAt", "(II)I"⟩ ∈ xTs := xTs_in (List.mem_append_left _ (List.mem_of_getElem? (i := 64) (by decide +kernel))) rfl
/-! ZFModel.looks(II)V -/
def ym229 : MethodName := ⟨"ZonedFabricModel", "looks", "(II)V"⟩
theorem cd229 : xCd ym229 prog_14_method_45_code 5 none 2 := ⟨mw1176, mw864, by decide, by decide, by decide +kernel⟩
def b229_106  (M : hM) : Option xRes :=
  some (.inl (none, M))
def b229_97 (a0 : Nat) (v1 : Int32) (v2 : Int32) (v3 : Int32) (v4 : Int32) (M : hM) : Option xRes :=
  Option.bind (g_o M 12 (some a0)) fun b_49 =>
  Option.bind (c_V (f226 [.inr (.inr (some b_49)), .inl v1, .inl v2, .inl v3, .inl v4] M)) fun q_47 =>
  b229_106  q_47
def b229_0 (a0 : Nat) (v1 : Int32) (v2 : Int32) (M : hM) : Option xRes :=
  Option.bind (g_r M 12 17 (some a0)) fun o_1 =>
  Option.bind (al_i M 20 o_1 v2) fun v_3 =>
  if v_3 = 0 then
    (some (.inl (none, M)))
  else
    (Option.bind (g_r M 12 16 (some a0)) fun o_5 =>
    Option.bind (al_i M 20 o_5 (v2 * (4 : Int32))) fun v_7 =>
    Option.bind (g_o M 12 (some a0)) fun b_11 =>
    Option.bind (c_I (f166 [.inr (.inr (some b_11)), .inl v_7, .inl (1 : Int32), .inl (3 : Int32)] M)) fun q_9 =>
    Option.bind (g_o q_9.2 12 (some a0)) fun b_15 =>
    Option.bind (c_I (f174 [.inr (.inr (some b_15)), .inl v_7] q_9.2)) fun q_13 =>
    if q_13.1 = 0 then
      (Option.bind (g_r q_13.2 12 4 (some a0)) fun o_31 =>
      Option.bind (al_i q_13.2 20 o_31 (1 : Int32)) fun v_33 =>
      Option.bind (as_i q_13.2 20 o_31 (1 : Int32) (v_33 + (1 : Int32))) fun M35 =>
      Option.bind (g_o M35 12 (some a0)) fun b_39 =>
      Option.bind (c_I (f185 [.inr (.inr (some b_39)), .inl v2] M35)) fun q_37 =>
      Option.bind (g_o q_37.2 12 (some a0)) fun b_43 =>
      Option.bind (c_V (f171 [.inr (.inr (some b_43)), .inl q_37.1] q_37.2)) fun q_41 =>
      b229_106  q_41)
    else
      (if q_9.1 < (16777212 : Int32) then
        (b229_97 a0 v1 v2 v_7 q_9.1 q_13.2)
      else
        (if (16777214 : Int32) < q_9.1 then
          (b229_97 a0 v1 v2 v_7 q_9.1 q_13.2)
        else
          (Option.bind (g_o q_13.2 12 (some a0)) fun b_19 =>
          Option.bind (c_I (f185 [.inr (.inr (some b_19)), .inl v2] q_13.2)) fun q_17 =>
          Option.bind (g_o q_17.2 12 (some a0)) fun b_23 =>
          Option.bind (c_V (f228 [.inr (.inr (some b_23)), .inl v1, .inl v2, .inl v_7, .inl q_9.1] q_17.2)) fun q_21 =>
          Option.bind (g_o q_21 12 (some a0)) fun b_27 =>
          Option.bind (c_V (f171 [.inr (.inr (some b_27)), .inl v_7] q_21)) fun q_25 =>
          b229_106  q_25))))
def f229 (as : List aV) (M : hM) : xO := match as with
  | [.inr (.inr (some a0)), .inl v1, .inl v2] => x_out (b229_0 a0 v1 v2 M)
  | _ => none
theorem lb229_106 (G : gX) (l : Launch)  (M : hM) {res : xRes} (h : b229_106  M = some res) : h_sz M ≤ r_sz res ∧ h_sl M ≤ r_sl res := by
  unfold b229_106 at h
  obtain rfl := Option.some.inj h
  show h_sz M ≤ h_sz M ∧ h_sl M ≤ h_sl M
  omega
theorem lb229_97 (G : gX) (l : Launch) (a0 : Nat) (v1 : Int32) (v2 : Int32) (v3 : Int32) (v4 : Int32) (M : hM) {res : xRes} (h : b229_97 a0 v1 v2 v3 v4 M = some res) : h_sz M ≤ r_sz res ∧ h_sl M ≤ r_sl res := by
  unfold b229_97 at h
  obtain ⟨b_49, h50, h⟩ := bd h
  obtain ⟨q_47, h48, h⟩ := bd h
  have eh48 := (t226 G l (c_V_some h48)).1
  have e := lb229_106 G l  q_47 h
  omega
theorem lb229_0 (G : gX) (l : Launch) (a0 : Nat) (v1 : Int32) (v2 : Int32) (M : hM) {res : xRes} (h : b229_0 a0 v1 v2 M = some res) : h_sz M ≤ r_sz res ∧ h_sl M ≤ r_sl res := by
  unfold b229_0 at h
  obtain ⟨o_1, h2, h⟩ := bd h
  obtain ⟨v_3, h4, h⟩ := bd h
  by_cases q46 : v_3 = 0
  · rw [if_pos q46] at h
    obtain rfl := Option.some.inj h
    show h_sz M ≤ h_sz M ∧ h_sl M ≤ h_sl M
    omega
  · rw [if_neg q46] at h
    obtain ⟨o_5, h6, h⟩ := bd h
    obtain ⟨v_7, h8, h⟩ := bd h
    obtain ⟨b_11, h12, h⟩ := bd h
    obtain ⟨q_9, h10, h⟩ := bd h
    have eh10 := (t166 G l (c_I_some h10)).1
    obtain ⟨b_15, h16, h⟩ := bd h
    obtain ⟨q_13, h14, h⟩ := bd h
    have eh14 := (t174 G l (c_I_some h14)).1
    by_cases q45 : q_13.1 = 0
    · rw [if_pos q45] at h
      obtain ⟨o_31, h32, h⟩ := bd h
      obtain ⟨v_33, h34, h⟩ := bd h
      obtain ⟨M35, h36, h⟩ := bd h
      have eh36 := as_i_sz h36
      obtain ⟨b_39, h40, h⟩ := bd h
      obtain ⟨q_37, h38, h⟩ := bd h
      have eh38 := (t185 G l (c_I_some h38)).1
      obtain ⟨b_43, h44, h⟩ := bd h
      obtain ⟨q_41, h42, h⟩ := bd h
      have eh42 := (t171 G l (c_V_some h42)).1
      have e := lb229_106 G l  q_41 h
      omega
    · rw [if_neg q45] at h
      by_cases q30 : q_9.1 < (16777212 : Int32)
      · rw [if_pos q30] at h
        have e := lb229_97 G l a0 v1 v2 v_7 q_9.1 q_13.2 h
        omega
      · rw [if_neg q30] at h
        by_cases q29 : (16777214 : Int32) < q_9.1
        · rw [if_pos q29] at h
          have e := lb229_97 G l a0 v1 v2 v_7 q_9.1 q_13.2 h
          omega
        · rw [if_neg q29] at h
          obtain ⟨b_19, h20, h⟩ := bd h
          obtain ⟨q_17, h18, h⟩ := bd h
          have eh18 := (t185 G l (c_I_some h18)).1
          obtain ⟨b_23, h24, h⟩ := bd h
          obtain ⟨q_21, h22, h⟩ := bd h
          have eh22 := (t228 G l (c_V_some h22)).1
          obtain ⟨b_27, h28, h⟩ := bd h
          obtain ⟨q_25, h26, h⟩ := bd h
          have eh26 := (t171 G l (c_V_some h26)).1
          have e := lb229_106 G l  q_25 h
          omega
section
variable {p : Program} {l : Launch} {e : Env} {s : State} {m : MethodId} {args : Array Value} {below : List Frame} {meth : Method} {c : Code} {G : gX} {z0 y0 : Nat} {r : Option aV} {M' : hM}
theorem sb229_106 (E : xE G p (xRm 9 (h_sz M' - z0) (h_sl M' - y0)) s m args c prog_14_method_45_code "ZonedFabricModel" z0 y0 (h_sz M') (h_sl M') 5) (B : xB ym229 none meth)  (M : hM) {res : xRes} (h : b229_106  M = some res) (hN : xN (fun _ _ _ => False) r M' res) : xV G p l e (xRm 9 (h_sz M' - z0) (h_sl M' - y0)) s m args below meth c z0 y0 (h_sz M') (h_sl M') 5 (MQ below (xQc G r M') args s (h_sz M' - z0) (h_sl M' - y0) (xFr G)) 106 [] [] M := by
  unfold b229_106 at h
  obtain rfl := Option.some.inj h
  obtain ⟨rfl, rfl⟩ := Prod.mk.inj (show ((none : Option aV), M) = (r, M') from hN)
  exact xv_rv E B.1 B.2.1 (show decode prog_14_method_45_code 106 = .ok (.return_, 1) by decide +kernel) rfl rfl
theorem sb229_97 (E : xE G p (xRm 9 (h_sz M' - z0) (h_sl M' - y0)) s m args c prog_14_method_45_code "ZonedFabricModel" z0 y0 (h_sz M') (h_sl M') 5) (B : xB ym229 none meth) (a0 : Nat) (v1 : Int32) (v2 : Int32) (v3 : Int32) (v4 : Int32) (M : hM) {res : xRes} (h : b229_97 a0 v1 v2 v3 v4 M = some res) (hN : xN (fun _ _ _ => False) r M' res) : xV G p l e (xRm 9 (h_sz M' - z0) (h_sl M' - y0)) s m args below meth c z0 y0 (h_sz M') (h_sl M') 5 (MQ below (xQc G r M') args s (h_sz M' - z0) (h_sl M' - y0) (xFr G)) 97 [(0, .inr (.inr (some a0))), (1, .inl v1), (2, .inl v2), (3, .inl v3), (4, .inl v4)] [] M := by
  unfold b229_97 at h
  refine xv_b E [.aload_n 0, .iload_n 1, .iload_n 2, .iload_n 3, .iload 4] (pc' := 103) (lv' := [(0, .inr (.inr (some a0))), (1, .inl v1), (2, .inl v2), (3, .inl v3), (4, .inl v4)]) (st' := [.inl v4, .inl v3, .inl v2, .inl v1, .inr (.inr (some a0))]) (by decide +kernel) rfl rfl ?_
  obtain ⟨b_49, h50, h⟩ := bd h
  obtain ⟨eh50, th50⟩ := g_o_some h50
  obtain ⟨q_47, h48, h⟩ := bd h
  refine xv_cvo E eh50 12 (as := [.inl v1, .inl v2, .inl v3, .inl v4]) (t226 G l (c_V_some h48)) cd226 mw1180 mw1181 mw1182 (show decode prog_14_method_45_code 103 = .ok (.invokevirtual 333, 3) by decide +kernel) th50 rfl rfl (Nat.le_of_ble_eq_true rfl) ⟨Nat.le_of_ble_eq_true rfl, Nat.le_of_ble_eq_true rfl⟩ ?_
  exact xv_w (sb229_106 E B  q_47 h hN) rfl
theorem sb229_0 (E : xE G p (xRm 9 (h_sz M' - z0) (h_sl M' - y0)) s m args c prog_14_method_45_code "ZonedFabricModel" z0 y0 (h_sz M') (h_sl M') 5) (B : xB ym229 none meth) (a0 : Nat) (v1 : Int32) (v2 : Int32) (M : hM) {res : xRes} (h : b229_0 a0 v1 v2 M = some res) (hN : xN (fun _ _ _ => False) r M' res) : xV G p l e (xRm 9 (h_sz M' - z0) (h_sl M' - y0)) s m args below meth c z0 y0 (h_sz M') (h_sl M') 5 (MQ below (xQc G r M') args s (h_sz M' - z0) (h_sl M' - y0) (xFr G)) 0 [(0, .inr (.inr (some a0))), (1, .inl v1), (2, .inl v2)] [] M := by
  unfold b229_0 at h
  refine xv_b E [.aload_n 0] (pc' := 1) (lv' := [(0, .inr (.inr (some a0))), (1, .inl v1), (2, .inl v2)]) (st' := [.inr (.inr (some a0))]) (by decide +kernel) rfl rfl ?_
  obtain ⟨o_1, h2, h⟩ := bd h
  refine xg_r E 12 17 h2 mw877 (show decode prog_14_method_45_code 1 = .ok (.getfield 46, 3) by decide +kernel) ?_
  refine xv_b E [.iload_n 2] (pc' := 5) (lv' := [(0, .inr (.inr (some a0))), (1, .inl v1), (2, .inl v2)]) (st' := [.inl v2, .inr (.inr o_1)]) (by decide +kernel) rfl rfl ?_
  obtain ⟨v_3, h4, h⟩ := bd h
  refine xa_i E h4 (show decode prog_14_method_45_code 5 = .ok (.iaload, 1) by decide +kernel) ?_
  by_cases q46 : v_3 = 0
  · rw [if_pos q46] at h
    refine xv_if_ne E 10 (show decode prog_14_method_45_code 6 = .ok (.ifCond .ne (4), 3) by decide +kernel) rfl (fun z => absurd q46 z) (fun _ => ?_)
    obtain rfl := Option.some.inj h
    obtain ⟨rfl, rfl⟩ := Prod.mk.inj (show ((none : Option aV), M) = (r, M') from hN)
    exact xv_rv E B.1 B.2.1 (show decode prog_14_method_45_code 9 = .ok (.return_, 1) by decide +kernel) rfl rfl
  · rw [if_neg q46] at h
    refine xv_if_ne E 10 (show decode prog_14_method_45_code 6 = .ok (.ifCond .ne (4), 3) by decide +kernel) rfl (fun _ => ?_) (fun z => absurd z q46)
    refine xv_b E [.aload_n 0] (pc' := 11) (lv' := [(0, .inr (.inr (some a0))), (1, .inl v1), (2, .inl v2)]) (st' := [.inr (.inr (some a0))]) (by decide +kernel) rfl rfl ?_
    obtain ⟨o_5, h6, h⟩ := bd h
    refine xg_r E 12 16 h6 mw876 (show decode prog_14_method_45_code 11 = .ok (.getfield 43, 3) by decide +kernel) ?_
    refine xv_b E [.iload_n 2, .iconst 4, .imul] (pc' := 17) (lv' := [(0, .inr (.inr (some a0))), (1, .inl v1), (2, .inl v2)]) (st' := [.inl (v2 * (4 : Int32)), .inr (.inr o_5)]) (by decide +kernel) rfl rfl ?_
    obtain ⟨v_7, h8, h⟩ := bd h
    refine xa_i E h8 (show decode prog_14_method_45_code 17 = .ok (.iaload, 1) by decide +kernel) ?_
    refine xv_b E [.istore_n 3, .aload_n 0, .iload_n 3, .iconst 1, .iconst 3] (pc' := 23) (lv' := [(3, .inl v_7), (0, .inr (.inr (some a0))), (1, .inl v1), (2, .inl v2)]) (st' := [.inl (3 : Int32), .inl (1 : Int32), .inl v_7, .inr (.inr (some a0))]) (by decide +kernel) rfl rfl ?_
    obtain ⟨b_11, h12, h⟩ := bd h
    obtain ⟨eh12, th12⟩ := g_o_some h12
    obtain ⟨q_9, h10, h⟩ := bd h
    refine xv_cvo E eh12 12 (as := [.inl v_7, .inl (1 : Int32), .inl (3 : Int32)]) (t166 G l (c_I_some h10)) cd166 mw947 mw948 mw949 (show decode prog_14_method_45_code 23 = .ok (.invokevirtual 198, 3) by decide +kernel) th12 rfl rfl (Nat.le_of_ble_eq_true rfl) ⟨Nat.le_of_ble_eq_true rfl, Nat.le_of_ble_eq_true rfl⟩ ?_
    refine xv_b E [.istore 4, .aload_n 0, .iload_n 3] (pc' := 30) (lv' := [(4, .inl q_9.1), (3, .inl v_7), (0, .inr (.inr (some a0))), (1, .inl v1), (2, .inl v2)]) (st' := [.inl v_7, .inr (.inr (some a0))]) (by decide +kernel) rfl rfl ?_
    obtain ⟨b_15, h16, h⟩ := bd h
    obtain ⟨eh16, th16⟩ := g_o_some h16
    obtain ⟨q_13, h14, h⟩ := bd h
    refine xv_cvo E eh16 12 (as := [.inl v_7]) (t174 G l (c_I_some h14)) cd174 mw1124 mw1125 mw1126 (show decode prog_14_method_45_code 30 = .ok (.invokevirtual 322, 3) by decide +kernel) th16 rfl rfl (Nat.le_of_ble_eq_true rfl) ⟨Nat.le_of_ble_eq_true rfl, Nat.le_of_ble_eq_true rfl⟩ ?_
    by_cases q45 : q_13.1 = 0
    · rw [if_pos q45] at h
      refine xv_if_ne E 58 (show decode prog_14_method_45_code 33 = .ok (.ifCond .ne (25), 3) by decide +kernel) rfl (fun z => absurd q45 z) (fun _ => ?_)
      refine xv_b E [.aload_n 0] (pc' := 37) (lv' := [(4, .inl q_9.1), (3, .inl v_7), (0, .inr (.inr (some a0))), (1, .inl v1), (2, .inl v2)]) (st' := [.inr (.inr (some a0))]) (by decide +kernel) rfl rfl ?_
      obtain ⟨o_31, h32, h⟩ := bd h
      refine xg_r E 12 4 h32 mw865 (show decode prog_14_method_45_code 37 = .ok (.getfield 7, 3) by decide +kernel) ?_
      refine xv_b E [.iconst 1, .dup2] (pc' := 42) (lv' := [(4, .inl q_9.1), (3, .inl v_7), (0, .inr (.inr (some a0))), (1, .inl v1), (2, .inl v2)]) (st' := [.inl (1 : Int32), .inr (.inr o_31), .inl (1 : Int32), .inr (.inr o_31)]) (by decide +kernel) rfl rfl ?_
      obtain ⟨v_33, h34, h⟩ := bd h
      refine xa_i E h34 (show decode prog_14_method_45_code 42 = .ok (.iaload, 1) by decide +kernel) ?_
      refine xv_b E [.iconst 1, .iadd] (pc' := 45) (lv' := [(4, .inl q_9.1), (3, .inl v_7), (0, .inr (.inr (some a0))), (1, .inl v1), (2, .inl v2)]) (st' := [.inl (v_33 + (1 : Int32)), .inl (1 : Int32), .inr (.inr o_31)]) (by decide +kernel) rfl rfl ?_
      obtain ⟨M35, h36, h⟩ := bd h
      refine xs_i E h36 (show decode prog_14_method_45_code 45 = .ok (.iastore, 1) by decide +kernel) ?_
      refine xv_b E [.aload_n 0, .aload_n 0, .iload_n 2] (pc' := 49) (lv' := [(4, .inl q_9.1), (3, .inl v_7), (0, .inr (.inr (some a0))), (1, .inl v1), (2, .inl v2)]) (st' := [.inl v2, .inr (.inr (some a0)), .inr (.inr (some a0))]) (by decide +kernel) rfl rfl ?_
      obtain ⟨b_39, h40, h⟩ := bd h
      obtain ⟨eh40, th40⟩ := g_o_some h40
      obtain ⟨q_37, h38, h⟩ := bd h
      refine xv_cvo E eh40 12 (as := [.inl v2]) (t185 G l (c_I_some h38)) cd185 mw1121 mw1122 mw1123 (show decode prog_14_method_45_code 49 = .ok (.invokevirtual 325, 3) by decide +kernel) th40 rfl rfl (Nat.le_of_ble_eq_true rfl) ⟨Nat.le_of_ble_eq_true rfl, Nat.le_of_ble_eq_true rfl⟩ ?_
      obtain ⟨b_43, h44, h⟩ := bd h
      obtain ⟨eh44, th44⟩ := g_o_some h44
      obtain ⟨q_41, h42, h⟩ := bd h
      refine xv_cvo E eh44 12 (as := [.inl q_37.1]) (t171 G l (c_V_some h42)) cd171 mw975 mw976 mw977 (show decode prog_14_method_45_code 52 = .ok (.invokevirtual 224, 3) by decide +kernel) th44 rfl rfl (Nat.le_of_ble_eq_true rfl) ⟨Nat.le_of_ble_eq_true rfl, Nat.le_of_ble_eq_true rfl⟩ ?_
      refine xv_goto E 106 (show decode prog_14_method_45_code 55 = .ok (.goto (51), 3) by decide +kernel) rfl ?_
      exact xv_w (sb229_106 E B  q_41 h hN) rfl
    · rw [if_neg q45] at h
      refine xv_if_ne E 58 (show decode prog_14_method_45_code 33 = .ok (.ifCond .ne (25), 3) by decide +kernel) rfl (fun _ => ?_) (fun z => absurd z q45)
      refine xv_b E [.iload 4] (pc' := 60) (lv' := [(4, .inl q_9.1), (3, .inl v_7), (0, .inr (.inr (some a0))), (1, .inl v1), (2, .inl v2)]) (st' := [.inl q_9.1]) (by decide +kernel) rfl rfl ?_
      refine xv_ldcw E (16777212 : Int32) mw1039 (show decode prog_14_method_45_code 60 = .ok (.ldc_w 328, 3) by decide +kernel) ?_
      by_cases q30 : q_9.1 < (16777212 : Int32)
      · rw [if_pos q30] at h
        refine xv_icmp_lt E 97 (show decode prog_14_method_45_code 63 = .ok (.if_icmp .lt (34), 3) by decide +kernel) rfl (fun _ => ?_) (fun z => absurd q30 z)
        exact xv_w (sb229_97 E B a0 v1 v2 v_7 q_9.1 q_13.2 h hN) rfl
      · rw [if_neg q30] at h
        refine xv_icmp_lt E 97 (show decode prog_14_method_45_code 63 = .ok (.if_icmp .lt (34), 3) by decide +kernel) rfl (fun z => absurd z q30) (fun _ => ?_)
        refine xv_b E [.iload 4] (pc' := 68) (lv' := [(4, .inl q_9.1), (3, .inl v_7), (0, .inr (.inr (some a0))), (1, .inl v1), (2, .inl v2)]) (st' := [.inl q_9.1]) (by decide +kernel) rfl rfl ?_
        refine xv_ldcw E (16777214 : Int32) mw1060 (show decode prog_14_method_45_code 68 = .ok (.ldc_w 300, 3) by decide +kernel) ?_
        by_cases q29 : (16777214 : Int32) < q_9.1
        · rw [if_pos q29] at h
          refine xv_icmp_gt E 97 (show decode prog_14_method_45_code 71 = .ok (.if_icmp .gt (26), 3) by decide +kernel) rfl (fun _ => ?_) (fun z => absurd q29 z)
          exact xv_w (sb229_97 E B a0 v1 v2 v_7 q_9.1 q_13.2 h hN) rfl
        · rw [if_neg q29] at h
          refine xv_icmp_gt E 97 (show decode prog_14_method_45_code 71 = .ok (.if_icmp .gt (26), 3) by decide +kernel) rfl (fun z => absurd z q29) (fun _ => ?_)
          refine xv_b E [.aload_n 0, .iload_n 2] (pc' := 76) (lv' := [(4, .inl q_9.1), (3, .inl v_7), (0, .inr (.inr (some a0))), (1, .inl v1), (2, .inl v2)]) (st' := [.inl v2, .inr (.inr (some a0))]) (by decide +kernel) rfl rfl ?_
          obtain ⟨b_19, h20, h⟩ := bd h
          obtain ⟨eh20, th20⟩ := g_o_some h20
          obtain ⟨q_17, h18, h⟩ := bd h
          refine xv_cvo E eh20 12 (as := [.inl v2]) (t185 G l (c_I_some h18)) cd185 mw1121 mw1122 mw1123 (show decode prog_14_method_45_code 76 = .ok (.invokevirtual 325, 3) by decide +kernel) th20 rfl rfl (Nat.le_of_ble_eq_true rfl) ⟨Nat.le_of_ble_eq_true rfl, Nat.le_of_ble_eq_true rfl⟩ ?_
          refine xv_b E [.pop, .aload_n 0, .iload_n 1, .iload_n 2, .iload_n 3, .iload 4] (pc' := 86) (lv' := [(4, .inl q_9.1), (3, .inl v_7), (0, .inr (.inr (some a0))), (1, .inl v1), (2, .inl v2)]) (st' := [.inl q_9.1, .inl v_7, .inl v2, .inl v1, .inr (.inr (some a0))]) (by decide +kernel) rfl rfl ?_
          obtain ⟨b_23, h24, h⟩ := bd h
          obtain ⟨eh24, th24⟩ := g_o_some h24
          obtain ⟨q_21, h22, h⟩ := bd h
          refine xv_cvo E eh24 12 (as := [.inl v1, .inl v2, .inl v_7, .inl q_9.1]) (t228 G l (c_V_some h22)) cd228 mw1177 mw1178 mw1179 (show decode prog_14_method_45_code 86 = .ok (.invokevirtual 329, 3) by decide +kernel) th24 rfl rfl (Nat.le_of_ble_eq_true rfl) ⟨Nat.le_of_ble_eq_true rfl, Nat.le_of_ble_eq_true rfl⟩ ?_
          refine xv_b E [.aload_n 0, .iload_n 3] (pc' := 91) (lv' := [(4, .inl q_9.1), (3, .inl v_7), (0, .inr (.inr (some a0))), (1, .inl v1), (2, .inl v2)]) (st' := [.inl v_7, .inr (.inr (some a0))]) (by decide +kernel) rfl rfl ?_
          obtain ⟨b_27, h28, h⟩ := bd h
          obtain ⟨eh28, th28⟩ := g_o_some h28
          obtain ⟨q_25, h26, h⟩ := bd h
          refine xv_cvo E eh28 12 (as := [.inl v_7]) (t171 G l (c_V_some h26)) cd171 mw975 mw976 mw977 (show decode prog_14_method_45_code 91 = .ok (.invokevirtual 224, 3) by decide +kernel) th28 rfl rfl (Nat.le_of_ble_eq_true rfl) ⟨Nat.le_of_ble_eq_true rfl, Nat.le_of_ble_eq_true rfl⟩ ?_
          refine xv_goto E 106 (show decode prog_14_method_45_code 94 = .ok (.goto (12), 3) by decide +kernel) rfl ?_
          exact xv_w (sb229_106 E B  q_25 h hN) rfl
end
theorem t229 (G : gX) (l : Launch) {as : List aV} {M : hM} {r : Option aV} {M' : hM} (h : f229 as M = some (r, M')) : xM G l ym229 prog_14_method_45_code 5 none 9 as M r M' := by
  unfold f229 at h
  split at h
  · have h := x_out_ok h
    refine xM_of (by decide) (Nat.le_of_ble_eq_true rfl) (lb229_0 G l _ _ _ M h) ?_
    intro p e s m args below meth c E B
    exact sb229_0 E B _ _ _ M h rfl
  · cases h
/-! ZFModel.switchTicks(I)V -/
def ym230 : MethodName := ⟨"ZonedFabricModel", "switchTicks", "(I)V"⟩
theorem cd230 : xCd ym230 prog_14_method_41_code 3 none 1 := ⟨mw1183, mw864, by decide, by decide, by decide +kernel⟩
def b230_0 (a0 : Nat) (v1 : Int32) (M : hM) : Option xRes :=
  Option.bind (g_o M 12 (some a0)) fun b_3 =>
  Option.bind (c_V (f224 [.inr (.inr (some b_3)), .inl v1] M)) fun q_1 =>
  some (.inr (7, [.inr (.inr (some a0)), .inl v1, .inl (0 : Int32)], q_1))
def b230_7 (a0 : Nat) (v1 : Int32) (v2 : Int32) (M : hM) : Option xRes :=
  if (8 : Int32) ≤ v2 then
    (some (.inr (39, [.inr (.inr (some a0)), .inl v1, .inl (0 : Int32)], M)))
  else
    (Option.bind (g_i M 12 3 (some a0)) fun v_5 =>
    Option.bind (d_m (v_5 + v2) (8 : Int32)) fun v_7 =>
    Option.bind (g_o M 12 (some a0)) fun b_11 =>
    Option.bind (c_I (f175 [.inr (.inr (some b_11)), .inl v1, .inl v_7] M)) fun q_9 =>
    Option.bind (g_o q_9.2 12 (some a0)) fun b_15 =>
    Option.bind (c_V (f184 [.inr (.inr (some b_15)), .inl q_9.1] q_9.2)) fun q_13 =>
    some (.inr (7, [.inr (.inr (some a0)), .inl v1, .inl (v2 + (1 : Int32))], q_13)))
def b230_39 (a0 : Nat) (v1 : Int32) (v2 : Int32) (M : hM) : Option xRes :=
  if (8 : Int32) ≤ v2 then
    (some (.inl (none, M)))
  else
    (Option.bind (g_i M 12 3 (some a0)) fun v_18 =>
    Option.bind (d_m (v_18 + v2) (8 : Int32)) fun v_20 =>
    Option.bind (g_o M 12 (some a0)) fun b_24 =>
    Option.bind (c_I (f175 [.inr (.inr (some b_24)), .inl v1, .inl v_20] M)) fun q_22 =>
    Option.bind (g_o q_22.2 12 (some a0)) fun b_28 =>
    Option.bind (c_V (f229 [.inr (.inr (some b_28)), .inl v1, .inl q_22.1] q_22.2)) fun q_26 =>
    some (.inr (39, [.inr (.inr (some a0)), .inl v1, .inl (v2 + (1 : Int32))], q_26)))
def k230 (h : Nat) (as : List aV) (M : hM) : Option xRes :=
  if h = 7 then (match as with | [.inr (.inr (some a0)), .inl v1, .inl v2] => b230_7 a0 v1 v2 M | _ => none) else
  if h = 39 then (match as with | [.inr (.inr (some a0)), .inl v1, .inl v2] => b230_39 a0 v1 v2 M | _ => none) else
  none
def f230 (as : List aV) (M : hM) : xO := match as with
  | [.inr (.inr (some a0)), .inl v1] => x_go k230 (b230_0 a0 v1 M)
  | _ => none
theorem lb230_0 (G : gX) (l : Launch) (a0 : Nat) (v1 : Int32) (M : hM) {res : xRes} (h : b230_0 a0 v1 M = some res) : h_sz M ≤ r_sz res ∧ h_sl M ≤ r_sl res := by
  unfold b230_0 at h
  obtain ⟨b_3, h4, h⟩ := bd h
  obtain ⟨q_1, h2, h⟩ := bd h
  have eh2 := (t224 G l (c_V_some h2)).1
  obtain rfl := Option.some.inj h
  show h_sz M ≤ h_sz q_1 ∧ h_sl M ≤ h_sl q_1
  omega
theorem lb230_7 (G : gX) (l : Launch) (a0 : Nat) (v1 : Int32) (v2 : Int32) (M : hM) {res : xRes} (h : b230_7 a0 v1 v2 M = some res) : h_sz M ≤ r_sz res ∧ h_sl M ≤ r_sl res := by
  unfold b230_7 at h
  by_cases q17 : (8 : Int32) ≤ v2
  · rw [if_pos q17] at h
    obtain rfl := Option.some.inj h
    show h_sz M ≤ h_sz M ∧ h_sl M ≤ h_sl M
    omega
  · rw [if_neg q17] at h
    obtain ⟨v_5, h6, h⟩ := bd h
    obtain ⟨v_7, h8, h⟩ := bd h
    obtain ⟨b_11, h12, h⟩ := bd h
    obtain ⟨q_9, h10, h⟩ := bd h
    have eh10 := (t175 G l (c_I_some h10)).1
    obtain ⟨b_15, h16, h⟩ := bd h
    obtain ⟨q_13, h14, h⟩ := bd h
    have eh14 := (t184 G l (c_V_some h14)).1
    obtain rfl := Option.some.inj h
    show h_sz M ≤ h_sz q_13 ∧ h_sl M ≤ h_sl q_13
    omega
theorem lb230_39 (G : gX) (l : Launch) (a0 : Nat) (v1 : Int32) (v2 : Int32) (M : hM) {res : xRes} (h : b230_39 a0 v1 v2 M = some res) : h_sz M ≤ r_sz res ∧ h_sl M ≤ r_sl res := by
  unfold b230_39 at h
  by_cases q30 : (8 : Int32) ≤ v2
  · rw [if_pos q30] at h
    obtain rfl := Option.some.inj h
    show h_sz M ≤ h_sz M ∧ h_sl M ≤ h_sl M
    omega
  · rw [if_neg q30] at h
    obtain ⟨v_18, h19, h⟩ := bd h
    obtain ⟨v_20, h21, h⟩ := bd h
    obtain ⟨b_24, h25, h⟩ := bd h
    obtain ⟨q_22, h23, h⟩ := bd h
    have eh23 := (t175 G l (c_I_some h23)).1
    obtain ⟨b_28, h29, h⟩ := bd h
    obtain ⟨q_26, h27, h⟩ := bd h
    have eh27 := (t229 G l (c_V_some h27)).1
    obtain rfl := Option.some.inj h
    show h_sz M ≤ h_sz q_26 ∧ h_sl M ≤ h_sl q_26
    omega
section
variable {p : Program} {l : Launch} {e : Env} {s : State} {m : MethodId} {args : Array Value} {below : List Frame} {meth : Method} {c : Code} {G : gX} {z0 y0 : Nat} {r : Option aV} {M' : hM}
def pg230 (p : Program) (l : Launch) (e : Env) (s : State) (m : MethodId) (args : Array Value) (below : List Frame) (meth : Method) (c : Code) (G : gX) (z0 y0 : Nat) (r : Option aV) (M' : hM) (h : Nat) (as : List aV) (M : hM) : Prop :=
  if h = 7 then (match as with | [.inr (.inr (some a0)), .inl v1, .inl v2] => xV G p l e (xRm 10 (h_sz M' - z0) (h_sl M' - y0)) s m args below meth c z0 y0 (h_sz M') (h_sl M') 3 (MQ below (xQc G r M') args s (h_sz M' - z0) (h_sl M' - y0) (xFr G)) 7 [(0, .inr (.inr (some a0))), (1, .inl v1), (2, .inl v2)] [] M | _ => False) else
  if h = 39 then (match as with | [.inr (.inr (some a0)), .inl v1, .inl v2] => xV G p l e (xRm 10 (h_sz M' - z0) (h_sl M' - y0)) s m args below meth c z0 y0 (h_sz M') (h_sl M') 3 (MQ below (xQc G r M') args s (h_sz M' - z0) (h_sl M' - y0) (xFr G)) 39 [(0, .inr (.inr (some a0))), (1, .inl v1), (2, .inl v2)] [] M | _ => False) else
  False
theorem sb230_0 (E : xE G p (xRm 10 (h_sz M' - z0) (h_sl M' - y0)) s m args c prog_14_method_41_code "ZonedFabricModel" z0 y0 (h_sz M') (h_sl M') 3) (B : xB ym230 none meth) (a0 : Nat) (v1 : Int32) (M : hM) {res : xRes} (h : b230_0 a0 v1 M = some res) (hN : xN (pg230 p l e s m args below meth c G z0 y0 r M') r M' res) : xV G p l e (xRm 10 (h_sz M' - z0) (h_sl M' - y0)) s m args below meth c z0 y0 (h_sz M') (h_sl M') 3 (MQ below (xQc G r M') args s (h_sz M' - z0) (h_sl M' - y0) (xFr G)) 0 [(0, .inr (.inr (some a0))), (1, .inl v1)] [] M := by
  unfold b230_0 at h
  refine xv_b E [.aload_n 0, .iload_n 1] (pc' := 2) (lv' := [(0, .inr (.inr (some a0))), (1, .inl v1)]) (st' := [.inl v1, .inr (.inr (some a0))]) (by decide +kernel) rfl rfl ?_
  obtain ⟨b_3, h4, h⟩ := bd h
  obtain ⟨eh4, th4⟩ := g_o_some h4
  obtain ⟨q_1, h2, h⟩ := bd h
  refine xv_cvo E eh4 12 (as := [.inl v1]) (t224 G l (c_V_some h2)) cd224 mw1184 mw1185 mw1186 (show decode prog_14_method_41_code 2 = .ok (.invokevirtual 285, 3) by decide +kernel) th4 rfl rfl (Nat.le_of_ble_eq_true rfl) ⟨Nat.le_of_ble_eq_true rfl, Nat.le_of_ble_eq_true rfl⟩ ?_
  refine xv_b E [.iconst 0, .istore_n 2] (pc' := 7) (lv' := [(2, .inl (0 : Int32)), (0, .inr (.inr (some a0))), (1, .inl v1)]) (st' := []) (by decide +kernel) rfl rfl ?_
  obtain rfl := Option.some.inj h
  exact xv_w hN rfl
theorem sb230_7 (E : xE G p (xRm 10 (h_sz M' - z0) (h_sl M' - y0)) s m args c prog_14_method_41_code "ZonedFabricModel" z0 y0 (h_sz M') (h_sl M') 3) (B : xB ym230 none meth) (a0 : Nat) (v1 : Int32) (v2 : Int32) (M : hM) {res : xRes} (h : b230_7 a0 v1 v2 M = some res) (hN : xN (pg230 p l e s m args below meth c G z0 y0 r M') r M' res) : xV G p l e (xRm 10 (h_sz M' - z0) (h_sl M' - y0)) s m args below meth c z0 y0 (h_sz M') (h_sl M') 3 (MQ below (xQc G r M') args s (h_sz M' - z0) (h_sl M' - y0) (xFr G)) 7 [(0, .inr (.inr (some a0))), (1, .inl v1), (2, .inl v2)] [] M := by
  unfold b230_7 at h
  refine xv_b E [.iload_n 2, .bipush 8] (pc' := 10) (lv' := [(0, .inr (.inr (some a0))), (1, .inl v1), (2, .inl v2)]) (st' := [.inl (8 : Int32), .inl v2]) (by decide +kernel) rfl rfl ?_
  by_cases q17 : (8 : Int32) ≤ v2
  · rw [if_pos q17] at h
    refine xv_icmp_ge E 37 (show decode prog_14_method_41_code 10 = .ok (.if_icmp .ge (27), 3) by decide +kernel) rfl (fun _ => ?_) (fun z => absurd q17 z)
    refine xv_b E [.iconst 0, .istore_n 2] (pc' := 39) (lv' := [(2, .inl (0 : Int32)), (0, .inr (.inr (some a0))), (1, .inl v1)]) (st' := []) (by decide +kernel) rfl rfl ?_
    obtain rfl := Option.some.inj h
    exact xv_w hN rfl
  · rw [if_neg q17] at h
    refine xv_icmp_ge E 37 (show decode prog_14_method_41_code 10 = .ok (.if_icmp .ge (27), 3) by decide +kernel) rfl (fun z => absurd z q17) (fun _ => ?_)
    refine xv_b E [.aload_n 0, .aload_n 0, .iload_n 1, .aload_n 0] (pc' := 17) (lv' := [(0, .inr (.inr (some a0))), (1, .inl v1), (2, .inl v2)]) (st' := [.inr (.inr (some a0)), .inl v1, .inr (.inr (some a0)), .inr (.inr (some a0))]) (by decide +kernel) rfl rfl ?_
    obtain ⟨v_5, h6, h⟩ := bd h
    refine xg_i E 12 3 h6 mw1047 (show decode prog_14_method_41_code 17 = .ok (.getfield 276, 3) by decide +kernel) ?_
    refine xv_b E [.iload_n 2, .iadd, .bipush 8] (pc' := 24) (lv' := [(0, .inr (.inr (some a0))), (1, .inl v1), (2, .inl v2)]) (st' := [.inl (8 : Int32), .inl (v_5 + v2), .inl v1, .inr (.inr (some a0)), .inr (.inr (some a0))]) (by decide +kernel) rfl rfl ?_
    obtain ⟨v_7, h8, h⟩ := bd h
    refine xd_m E h8 (show decode prog_14_method_41_code 24 = .ok (.irem, 1) by decide +kernel) ?_
    obtain ⟨b_11, h12, h⟩ := bd h
    obtain ⟨eh12, th12⟩ := g_o_some h12
    obtain ⟨q_9, h10, h⟩ := bd h
    refine xv_cvo E eh12 12 (as := [.inl v1, .inl v_7]) (t175 G l (c_I_some h10)) cd175 mw1134 mw1135 mw1136 (show decode prog_14_method_41_code 25 = .ok (.invokevirtual 288, 3) by decide +kernel) th12 rfl rfl (Nat.le_of_ble_eq_true rfl) ⟨Nat.le_of_ble_eq_true rfl, Nat.le_of_ble_eq_true rfl⟩ ?_
    obtain ⟨b_15, h16, h⟩ := bd h
    obtain ⟨eh16, th16⟩ := g_o_some h16
    obtain ⟨q_13, h14, h⟩ := bd h
    refine xv_cvo E eh16 12 (as := [.inl q_9.1]) (t184 G l (c_V_some h14)) cd184 mw1118 mw1119 mw1120 (show decode prog_14_method_41_code 28 = .ok (.invokevirtual 291, 3) by decide +kernel) th16 rfl rfl (Nat.le_of_ble_eq_true rfl) ⟨Nat.le_of_ble_eq_true rfl, Nat.le_of_ble_eq_true rfl⟩ ?_
    refine xv_b E [.iinc 2 1] (pc' := 34) (lv' := [(2, .inl (v2 + (1 : Int32))), (0, .inr (.inr (some a0))), (1, .inl v1)]) (st' := []) (by decide +kernel) rfl rfl ?_
    refine xv_goto E 7 (show decode prog_14_method_41_code 34 = .ok (.goto (-27), 3) by decide +kernel) rfl ?_
    obtain rfl := Option.some.inj h
    exact xv_w hN rfl
theorem sb230_39 (E : xE G p (xRm 10 (h_sz M' - z0) (h_sl M' - y0)) s m args c prog_14_method_41_code "ZonedFabricModel" z0 y0 (h_sz M') (h_sl M') 3) (B : xB ym230 none meth) (a0 : Nat) (v1 : Int32) (v2 : Int32) (M : hM) {res : xRes} (h : b230_39 a0 v1 v2 M = some res) (hN : xN (pg230 p l e s m args below meth c G z0 y0 r M') r M' res) : xV G p l e (xRm 10 (h_sz M' - z0) (h_sl M' - y0)) s m args below meth c z0 y0 (h_sz M') (h_sl M') 3 (MQ below (xQc G r M') args s (h_sz M' - z0) (h_sl M' - y0) (xFr G)) 39 [(0, .inr (.inr (some a0))), (1, .inl v1), (2, .inl v2)] [] M := by
  unfold b230_39 at h
  refine xv_b E [.iload_n 2, .bipush 8] (pc' := 42) (lv' := [(0, .inr (.inr (some a0))), (1, .inl v1), (2, .inl v2)]) (st' := [.inl (8 : Int32), .inl v2]) (by decide +kernel) rfl rfl ?_
  by_cases q30 : (8 : Int32) ≤ v2
  · rw [if_pos q30] at h
    refine xv_icmp_ge E 70 (show decode prog_14_method_41_code 42 = .ok (.if_icmp .ge (28), 3) by decide +kernel) rfl (fun _ => ?_) (fun z => absurd q30 z)
    obtain rfl := Option.some.inj h
    obtain ⟨rfl, rfl⟩ := Prod.mk.inj (show ((none : Option aV), M) = (r, M') from hN)
    exact xv_rv E B.1 B.2.1 (show decode prog_14_method_41_code 70 = .ok (.return_, 1) by decide +kernel) rfl rfl
  · rw [if_neg q30] at h
    refine xv_icmp_ge E 70 (show decode prog_14_method_41_code 42 = .ok (.if_icmp .ge (28), 3) by decide +kernel) rfl (fun z => absurd z q30) (fun _ => ?_)
    refine xv_b E [.aload_n 0, .iload_n 1, .aload_n 0, .iload_n 1, .aload_n 0] (pc' := 50) (lv' := [(0, .inr (.inr (some a0))), (1, .inl v1), (2, .inl v2)]) (st' := [.inr (.inr (some a0)), .inl v1, .inr (.inr (some a0)), .inl v1, .inr (.inr (some a0))]) (by decide +kernel) rfl rfl ?_
    obtain ⟨v_18, h19, h⟩ := bd h
    refine xg_i E 12 3 h19 mw1047 (show decode prog_14_method_41_code 50 = .ok (.getfield 276, 3) by decide +kernel) ?_
    refine xv_b E [.iload_n 2, .iadd, .bipush 8] (pc' := 57) (lv' := [(0, .inr (.inr (some a0))), (1, .inl v1), (2, .inl v2)]) (st' := [.inl (8 : Int32), .inl (v_18 + v2), .inl v1, .inr (.inr (some a0)), .inl v1, .inr (.inr (some a0))]) (by decide +kernel) rfl rfl ?_
    obtain ⟨v_20, h21, h⟩ := bd h
    refine xd_m E h21 (show decode prog_14_method_41_code 57 = .ok (.irem, 1) by decide +kernel) ?_
    obtain ⟨b_24, h25, h⟩ := bd h
    obtain ⟨eh25, th25⟩ := g_o_some h25
    obtain ⟨q_22, h23, h⟩ := bd h
    refine xv_cvo E eh25 12 (as := [.inl v1, .inl v_20]) (t175 G l (c_I_some h23)) cd175 mw1134 mw1135 mw1136 (show decode prog_14_method_41_code 58 = .ok (.invokevirtual 288, 3) by decide +kernel) th25 rfl rfl (Nat.le_of_ble_eq_true rfl) ⟨Nat.le_of_ble_eq_true rfl, Nat.le_of_ble_eq_true rfl⟩ ?_
    obtain ⟨b_28, h29, h⟩ := bd h
    obtain ⟨eh29, th29⟩ := g_o_some h29
    obtain ⟨q_26, h27, h⟩ := bd h
    refine xv_cvo E eh29 12 (as := [.inl v1, .inl q_22.1]) (t229 G l (c_V_some h27)) cd229 mw1187 mw1188 mw1189 (show decode prog_14_method_41_code 61 = .ok (.invokevirtual 294, 3) by decide +kernel) th29 rfl rfl (Nat.le_of_ble_eq_true rfl) ⟨Nat.le_of_ble_eq_true rfl, Nat.le_of_ble_eq_true rfl⟩ ?_
    refine xv_b E [.iinc 2 1] (pc' := 67) (lv' := [(2, .inl (v2 + (1 : Int32))), (0, .inr (.inr (some a0))), (1, .inl v1)]) (st' := []) (by decide +kernel) rfl rfl ?_
    refine xv_goto E 39 (show decode prog_14_method_41_code 67 = .ok (.goto (-28), 3) by decide +kernel) rfl ?_
    obtain rfl := Option.some.inj h
    exact xv_w hN rfl
end
theorem t230 (G : gX) (l : Launch) {as : List aV} {M : hM} {r : Option aV} {M' : hM} (h : f230 as M = some (r, M')) : xM G l ym230 prog_14_method_41_code 3 none 10 as M r M' := by
  unfold f230 at h
  split at h
  · have hle : ∀ h as M res, k230 h as M = some res → h_sz M ≤ r_sz res ∧ h_sl M ≤ r_sl res := by
      intro h as M res hb
      unfold k230 at hb
      by_cases e0 : h = 7
      · rw [if_pos e0] at hb
        split at hb
        · exact lb230_7 G l _ _ _ M hb
        · cases hb
      · rw [if_neg e0] at hb
        by_cases e1 : h = 39
        · rw [if_pos e1] at hb
          split at hb
          · exact lb230_39 G l _ _ _ M hb
          · cases hb
        · rw [if_neg e1] at hb
          cases hb
    obtain ⟨res, hx, hres⟩ := x_go_ok h
    refine xM_of (by decide) (Nat.le_of_ble_eq_true rfl) ?_ ?_
    · have e1 := lb230_0 G l _ _ M hx
      have e2 := x_go_le hle hres
      omega
    · intro p e s m args below meth c E B
      refine sb230_0 E B _ _ M hx (hres _ ?_)
      intro h as M res hb hN
      unfold k230 at hb
      unfold pg230
      by_cases e0 : h = 7
      · rw [if_pos e0] at hb ⊢
        split at hb
        · exact sb230_7 E B _ _ _ M hb hN
        · cases hb
      · rw [if_neg e0] at hb ⊢
        by_cases e1 : h = 39
        · rw [if_pos e1] at hb ⊢
          split at hb
          · exact sb230_39 E B _ _ _ M hb hN
          · cases hb
        · rw [if_neg e1] at hb ⊢
          cases hb
  · cases h
/-! ZFModel.ticks()I -/
def ym231 : MethodName := ⟨"ZonedFabricModel", "ticks", "()I"⟩
theorem cd231 : xCd ym231 prog_14_method_40_code 4 (some FieldType.int) 0 := ⟨mw1190, mw864, by decide, by decide, by decide +kernel⟩
def b231_0 (a0 : Nat) (M : hM) : Option xRes :=
  Option.bind (g_i M 12 3 (some a0)) fun v_1 =>
  Option.bind (p_i M 12 3 (some a0) (v_1 + (1 : Int32))) fun M3 =>
  some (.inr (14, [.inr (.inr (some a0)), .inl (0 : Int32), .inl (0 : Int32)], M3))
def b231_14 (a0 : Nat) (v1 : Int32) (v2 : Int32) (M : hM) : Option xRes :=
  if (48 : Int32) ≤ v2 then
    (some (.inr (35, [.inr (.inr (some a0)), .inl v1, .inl (0 : Int32)], M)))
  else
    (Option.bind (g_r M 12 20 (some a0)) fun o_5 =>
    Option.bind (as_i M 20 o_5 v2 (0 : Int32)) fun M7 =>
    some (.inr (14, [.inr (.inr (some a0)), .inl v1, .inl (v2 + (1 : Int32))], M7)))
def b231_144 (a0 : Nat) (v1 : Int32) (v2 : Int32) (M : hM) : Option xRes :=
  some (.inr (35, [.inr (.inr (some a0)), .inl v1, .inl (v2 + (1 : Int32))], M))
def b231_134 (a0 : Nat) (v1 : Int32) (v2 : Int32) (M : hM) : Option xRes :=
  Option.bind (g_r M 12 15 (some a0)) fun o_63 =>
  Option.bind (as_i M 20 o_63 v2 (-1 : Int32)) fun M65 =>
  b231_144 a0 (v1 + (1 : Int32)) v2 M65
def b231_35 (a0 : Nat) (v1 : Int32) (v2 : Int32) (M : hM) : Option xRes :=
  if (48 : Int32) ≤ v2 then
    (some (.inr (152, [.inr (.inr (some a0)), .inl v1, .inl (0 : Int32)], M)))
  else
    (Option.bind (g_r M 12 22 (some a0)) fun o_10 =>
    Option.bind (as_z M 22 o_10 v2 (0 : Int32)) fun M12 =>
    Option.bind (g_r M12 12 15 (some a0)) fun o_14 =>
    Option.bind (al_i M12 20 o_14 v2) fun v_16 =>
    if v_16 = (-1 : Int32) then
      (b231_144 a0 v1 v2 M12)
    else
      (Option.bind (g_o M12 12 (some a0)) fun b_20 =>
      Option.bind (c_I (f178 [.inr (.inr (some b_20)), .inl v2] M12)) fun q_18 =>
      Option.bind (g_r q_18.2 12 17 (some a0)) fun o_22 =>
      Option.bind (al_i q_18.2 20 o_22 q_18.1) fun v_24 =>
      Option.bind (g_i q_18.2 12 2 (some a0)) fun v_26 =>
      if v_24 = v_26 then
        (Option.bind (g_r q_18.2 12 5 (some a0)) fun o_46 =>
        Option.bind (al_i q_18.2 20 o_46 (1 : Int32)) fun v_48 =>
        Option.bind (as_i q_18.2 20 o_46 (1 : Int32) (v_48 + (1 : Int32))) fun M50 =>
        Option.bind (g_r M50 12 15 (some a0)) fun o_52 =>
        Option.bind (al_i M50 20 o_52 v2) fun v_54 =>
        Option.bind (g_o M50 12 (some a0)) fun b_58 =>
        Option.bind (c_V (f171 [.inr (.inr (some b_58)), .inl v_54] M50)) fun q_56 =>
        b231_134 a0 v1 v2 q_56)
      else
        (Option.bind (g_r q_18.2 12 16 (some a0)) fun o_28 =>
        Option.bind (g_r q_18.2 12 17 (some a0)) fun o_30 =>
        Option.bind (al_i q_18.2 20 o_30 q_18.1) fun v_32 =>
        Option.bind (g_r q_18.2 12 15 (some a0)) fun o_34 =>
        Option.bind (al_i q_18.2 20 o_34 v2) fun v_36 =>
        Option.bind (as_i q_18.2 20 o_28 ((q_18.1 * (4 : Int32)) + v_32) v_36) fun M38 =>
        Option.bind (g_r M38 12 17 (some a0)) fun o_40 =>
        Option.bind (al_i M38 20 o_40 q_18.1) fun v_42 =>
        Option.bind (as_i M38 20 o_40 q_18.1 (v_42 + (1 : Int32))) fun M44 =>
        b231_134 a0 v1 v2 M44)))
def b231_152 (a0 : Nat) (v1 : Int32) (v2 : Int32) (M : hM) : Option xRes :=
  Option.bind (g_i M 12 0 (some a0)) fun v_67 =>
  if v_67 ≤ v2 then
    (some (.inr (173, [.inr (.inr (some a0)), .inl v1, .inl (0 : Int32)], M)))
  else
    (Option.bind (g_o M 12 (some a0)) fun b_71 =>
    Option.bind (c_V (f230 [.inr (.inr (some b_71)), .inl v2] M)) fun q_69 =>
    some (.inr (152, [.inr (.inr (some a0)), .inl v1, .inl (v2 + (1 : Int32))], q_69)))
def b231_173 (a0 : Nat) (v1 : Int32) (v2 : Int32) (M : hM) : Option xRes :=
  Option.bind (g_i M 12 1 (some a0)) fun v_74 =>
  if v_74 ≤ v2 then
    (some (.inl (some (.inl v1), M)))
  else
    (Option.bind (g_o M 12 (some a0)) fun b_78 =>
    Option.bind (c_V (f221 [.inr (.inr (some b_78)), .inl v2] M)) fun q_76 =>
    some (.inr (173, [.inr (.inr (some a0)), .inl v1, .inl (v2 + (1 : Int32))], q_76)))
def k231 (h : Nat) (as : List aV) (M : hM) : Option xRes :=
  if h = 14 then (match as with | [.inr (.inr (some a0)), .inl v1, .inl v2] => b231_14 a0 v1 v2 M | _ => none) else
  if h = 35 then (match as with | [.inr (.inr (some a0)), .inl v1, .inl v2] => b231_35 a0 v1 v2 M | _ => none) else
  if h = 152 then (match as with | [.inr (.inr (some a0)), .inl v1, .inl v2] => b231_152 a0 v1 v2 M | _ => none) else
  if h = 173 then (match as with | [.inr (.inr (some a0)), .inl v1, .inl v2] => b231_173 a0 v1 v2 M | _ => none) else
  none
def f231 (as : List aV) (M : hM) : xO := match as with
  | [.inr (.inr (some a0))] => x_go k231 (b231_0 a0 M)
  | _ => none
theorem lb231_0 (G : gX) (l : Launch) (a0 : Nat) (M : hM) {res : xRes} (h : b231_0 a0 M = some res) : h_sz M ≤ r_sz res ∧ h_sl M ≤ r_sl res := by
  unfold b231_0 at h
  obtain ⟨v_1, h2, h⟩ := bd h
  obtain ⟨M3, h4, h⟩ := bd h
  have eh4 := p_i_sz h4
  obtain rfl := Option.some.inj h
  show h_sz M ≤ h_sz M3 ∧ h_sl M ≤ h_sl M3
  omega
theorem lb231_14 (G : gX) (l : Launch) (a0 : Nat) (v1 : Int32) (v2 : Int32) (M : hM) {res : xRes} (h : b231_14 a0 v1 v2 M = some res) : h_sz M ≤ r_sz res ∧ h_sl M ≤ r_sl res := by
  unfold b231_14 at h
  by_cases q9 : (48 : Int32) ≤ v2
  · rw [if_pos q9] at h
    obtain rfl := Option.some.inj h
    show h_sz M ≤ h_sz M ∧ h_sl M ≤ h_sl M
    omega
  · rw [if_neg q9] at h
    obtain ⟨o_5, h6, h⟩ := bd h
    obtain ⟨M7, h8, h⟩ := bd h
    have eh8 := as_i_sz h8
    obtain rfl := Option.some.inj h
    show h_sz M ≤ h_sz M7 ∧ h_sl M ≤ h_sl M7
    omega
theorem lb231_144 (G : gX) (l : Launch) (a0 : Nat) (v1 : Int32) (v2 : Int32) (M : hM) {res : xRes} (h : b231_144 a0 v1 v2 M = some res) : h_sz M ≤ r_sz res ∧ h_sl M ≤ r_sl res := by
  unfold b231_144 at h
  obtain rfl := Option.some.inj h
  show h_sz M ≤ h_sz M ∧ h_sl M ≤ h_sl M
  omega
theorem lb231_134 (G : gX) (l : Launch) (a0 : Nat) (v1 : Int32) (v2 : Int32) (M : hM) {res : xRes} (h : b231_134 a0 v1 v2 M = some res) : h_sz M ≤ r_sz res ∧ h_sl M ≤ r_sl res := by
  unfold b231_134 at h
  obtain ⟨o_63, h64, h⟩ := bd h
  obtain ⟨M65, h66, h⟩ := bd h
  have eh66 := as_i_sz h66
  have e := lb231_144 G l a0 (v1 + (1 : Int32)) v2 M65 h
  omega
theorem lb231_35 (G : gX) (l : Launch) (a0 : Nat) (v1 : Int32) (v2 : Int32) (M : hM) {res : xRes} (h : b231_35 a0 v1 v2 M = some res) : h_sz M ≤ r_sz res ∧ h_sl M ≤ r_sl res := by
  unfold b231_35 at h
  by_cases q62 : (48 : Int32) ≤ v2
  · rw [if_pos q62] at h
    obtain rfl := Option.some.inj h
    show h_sz M ≤ h_sz M ∧ h_sl M ≤ h_sl M
    omega
  · rw [if_neg q62] at h
    obtain ⟨o_10, h11, h⟩ := bd h
    obtain ⟨M12, h13, h⟩ := bd h
    have eh13 := as_z_sz h13
    obtain ⟨o_14, h15, h⟩ := bd h
    obtain ⟨v_16, h17, h⟩ := bd h
    by_cases q61 : v_16 = (-1 : Int32)
    · rw [if_pos q61] at h
      have e := lb231_144 G l a0 v1 v2 M12 h
      omega
    · rw [if_neg q61] at h
      obtain ⟨b_20, h21, h⟩ := bd h
      obtain ⟨q_18, h19, h⟩ := bd h
      have eh19 := (t178 G l (c_I_some h19)).1
      obtain ⟨o_22, h23, h⟩ := bd h
      obtain ⟨v_24, h25, h⟩ := bd h
      obtain ⟨v_26, h27, h⟩ := bd h
      by_cases q60 : v_24 = v_26
      · rw [if_pos q60] at h
        obtain ⟨o_46, h47, h⟩ := bd h
        obtain ⟨v_48, h49, h⟩ := bd h
        obtain ⟨M50, h51, h⟩ := bd h
        have eh51 := as_i_sz h51
        obtain ⟨o_52, h53, h⟩ := bd h
        obtain ⟨v_54, h55, h⟩ := bd h
        obtain ⟨b_58, h59, h⟩ := bd h
        obtain ⟨q_56, h57, h⟩ := bd h
        have eh57 := (t171 G l (c_V_some h57)).1
        have e := lb231_134 G l a0 v1 v2 q_56 h
        omega
      · rw [if_neg q60] at h
        obtain ⟨o_28, h29, h⟩ := bd h
        obtain ⟨o_30, h31, h⟩ := bd h
        obtain ⟨v_32, h33, h⟩ := bd h
        obtain ⟨o_34, h35, h⟩ := bd h
        obtain ⟨v_36, h37, h⟩ := bd h
        obtain ⟨M38, h39, h⟩ := bd h
        have eh39 := as_i_sz h39
        obtain ⟨o_40, h41, h⟩ := bd h
        obtain ⟨v_42, h43, h⟩ := bd h
        obtain ⟨M44, h45, h⟩ := bd h
        have eh45 := as_i_sz h45
        have e := lb231_134 G l a0 v1 v2 M44 h
        omega
theorem lb231_152 (G : gX) (l : Launch) (a0 : Nat) (v1 : Int32) (v2 : Int32) (M : hM) {res : xRes} (h : b231_152 a0 v1 v2 M = some res) : h_sz M ≤ r_sz res ∧ h_sl M ≤ r_sl res := by
  unfold b231_152 at h
  obtain ⟨v_67, h68, h⟩ := bd h
  by_cases q73 : v_67 ≤ v2
  · rw [if_pos q73] at h
    obtain rfl := Option.some.inj h
    show h_sz M ≤ h_sz M ∧ h_sl M ≤ h_sl M
    omega
  · rw [if_neg q73] at h
    obtain ⟨b_71, h72, h⟩ := bd h
    obtain ⟨q_69, h70, h⟩ := bd h
    have eh70 := (t230 G l (c_V_some h70)).1
    obtain rfl := Option.some.inj h
    show h_sz M ≤ h_sz q_69 ∧ h_sl M ≤ h_sl q_69
    omega
theorem lb231_173 (G : gX) (l : Launch) (a0 : Nat) (v1 : Int32) (v2 : Int32) (M : hM) {res : xRes} (h : b231_173 a0 v1 v2 M = some res) : h_sz M ≤ r_sz res ∧ h_sl M ≤ r_sl res := by
  unfold b231_173 at h
  obtain ⟨v_74, h75, h⟩ := bd h
  by_cases q80 : v_74 ≤ v2
  · rw [if_pos q80] at h
    obtain rfl := Option.some.inj h
    show h_sz M ≤ h_sz M ∧ h_sl M ≤ h_sl M
    omega
  · rw [if_neg q80] at h
    obtain ⟨b_78, h79, h⟩ := bd h
    obtain ⟨q_76, h77, h⟩ := bd h
    have eh77 := (t221 G l (c_V_some h77)).1
    obtain rfl := Option.some.inj h
    show h_sz M ≤ h_sz q_76 ∧ h_sl M ≤ h_sl q_76
    omega
section
variable {p : Program} {l : Launch} {e : Env} {s : State} {m : MethodId} {args : Array Value} {below : List Frame} {meth : Method} {c : Code} {G : gX} {z0 y0 : Nat} {r : Option aV} {M' : hM}
def pg231 (p : Program) (l : Launch) (e : Env) (s : State) (m : MethodId) (args : Array Value) (below : List Frame) (meth : Method) (c : Code) (G : gX) (z0 y0 : Nat) (r : Option aV) (M' : hM) (h : Nat) (as : List aV) (M : hM) : Prop :=
  if h = 14 then (match as with | [.inr (.inr (some a0)), .inl v1, .inl v2] => xV G p l e (xRm 11 (h_sz M' - z0) (h_sl M' - y0)) s m args below meth c z0 y0 (h_sz M') (h_sl M') 4 (MQ below (xQc G r M') args s (h_sz M' - z0) (h_sl M' - y0) (xFr G)) 14 [(0, .inr (.inr (some a0))), (1, .inl v1), (2, .inl v2)] [] M | _ => False) else
  if h = 35 then (match as with | [.inr (.inr (some a0)), .inl v1, .inl v2] => xV G p l e (xRm 11 (h_sz M' - z0) (h_sl M' - y0)) s m args below meth c z0 y0 (h_sz M') (h_sl M') 4 (MQ below (xQc G r M') args s (h_sz M' - z0) (h_sl M' - y0) (xFr G)) 35 [(0, .inr (.inr (some a0))), (1, .inl v1), (2, .inl v2)] [] M | _ => False) else
  if h = 152 then (match as with | [.inr (.inr (some a0)), .inl v1, .inl v2] => xV G p l e (xRm 11 (h_sz M' - z0) (h_sl M' - y0)) s m args below meth c z0 y0 (h_sz M') (h_sl M') 4 (MQ below (xQc G r M') args s (h_sz M' - z0) (h_sl M' - y0) (xFr G)) 152 [(0, .inr (.inr (some a0))), (1, .inl v1), (2, .inl v2)] [] M | _ => False) else
  if h = 173 then (match as with | [.inr (.inr (some a0)), .inl v1, .inl v2] => xV G p l e (xRm 11 (h_sz M' - z0) (h_sl M' - y0)) s m args below meth c z0 y0 (h_sz M') (h_sl M') 4 (MQ below (xQc G r M') args s (h_sz M' - z0) (h_sl M' - y0) (xFr G)) 173 [(0, .inr (.inr (some a0))), (1, .inl v1), (2, .inl v2)] [] M | _ => False) else
  False
theorem sb231_0 (E : xE G p (xRm 11 (h_sz M' - z0) (h_sl M' - y0)) s m args c prog_14_method_40_code "ZonedFabricModel" z0 y0 (h_sz M') (h_sl M') 4) (B : xB ym231 (some FieldType.int) meth) (a0 : Nat) (M : hM) {res : xRes} (h : b231_0 a0 M = some res) (hN : xN (pg231 p l e s m args below meth c G z0 y0 r M') r M' res) : xV G p l e (xRm 11 (h_sz M' - z0) (h_sl M' - y0)) s m args below meth c z0 y0 (h_sz M') (h_sl M') 4 (MQ below (xQc G r M') args s (h_sz M' - z0) (h_sl M' - y0) (xFr G)) 0 [(0, .inr (.inr (some a0)))] [] M := by
  unfold b231_0 at h
  refine xv_b E [.aload_n 0, .dup] (pc' := 2) (lv' := [(0, .inr (.inr (some a0)))]) (st' := [.inr (.inr (some a0)), .inr (.inr (some a0))]) (by decide +kernel) rfl rfl ?_
  obtain ⟨v_1, h2, h⟩ := bd h
  refine xg_i E 12 3 h2 mw1047 (show decode prog_14_method_40_code 2 = .ok (.getfield 276, 3) by decide +kernel) ?_
  refine xv_b E [.iconst 1, .iadd] (pc' := 7) (lv' := [(0, .inr (.inr (some a0)))]) (st' := [.inl (v_1 + (1 : Int32)), .inr (.inr (some a0))]) (by decide +kernel) rfl rfl ?_
  obtain ⟨M3, h4, h⟩ := bd h
  refine xp_i E 12 3 h4 mw1047 (show decode prog_14_method_40_code 7 = .ok (.putfield 276, 3) by decide +kernel) (Or.inl rfl) ?_
  refine xv_b E [.iconst 0, .istore_n 1, .iconst 0, .istore_n 2] (pc' := 14) (lv' := [(2, .inl (0 : Int32)), (1, .inl (0 : Int32)), (0, .inr (.inr (some a0)))]) (st' := []) (by decide +kernel) rfl rfl ?_
  obtain rfl := Option.some.inj h
  exact xv_w hN rfl
theorem sb231_14 (E : xE G p (xRm 11 (h_sz M' - z0) (h_sl M' - y0)) s m args c prog_14_method_40_code "ZonedFabricModel" z0 y0 (h_sz M') (h_sl M') 4) (B : xB ym231 (some FieldType.int) meth) (a0 : Nat) (v1 : Int32) (v2 : Int32) (M : hM) {res : xRes} (h : b231_14 a0 v1 v2 M = some res) (hN : xN (pg231 p l e s m args below meth c G z0 y0 r M') r M' res) : xV G p l e (xRm 11 (h_sz M' - z0) (h_sl M' - y0)) s m args below meth c z0 y0 (h_sz M') (h_sl M') 4 (MQ below (xQc G r M') args s (h_sz M' - z0) (h_sl M' - y0) (xFr G)) 14 [(0, .inr (.inr (some a0))), (1, .inl v1), (2, .inl v2)] [] M := by
  unfold b231_14 at h
  refine xv_b E [.iload_n 2, .bipush 48] (pc' := 17) (lv' := [(0, .inr (.inr (some a0))), (1, .inl v1), (2, .inl v2)]) (st' := [.inl (48 : Int32), .inl v2]) (by decide +kernel) rfl rfl ?_
  by_cases q9 : (48 : Int32) ≤ v2
  · rw [if_pos q9] at h
    refine xv_icmp_ge E 33 (show decode prog_14_method_40_code 17 = .ok (.if_icmp .ge (16), 3) by decide +kernel) rfl (fun _ => ?_) (fun z => absurd q9 z)
    refine xv_b E [.iconst 0, .istore_n 2] (pc' := 35) (lv' := [(2, .inl (0 : Int32)), (0, .inr (.inr (some a0))), (1, .inl v1)]) (st' := []) (by decide +kernel) rfl rfl ?_
    obtain rfl := Option.some.inj h
    exact xv_w hN rfl
  · rw [if_neg q9] at h
    refine xv_icmp_ge E 33 (show decode prog_14_method_40_code 17 = .ok (.if_icmp .ge (16), 3) by decide +kernel) rfl (fun z => absurd z q9) (fun _ => ?_)
    refine xv_b E [.aload_n 0] (pc' := 21) (lv' := [(0, .inr (.inr (some a0))), (1, .inl v1), (2, .inl v2)]) (st' := [.inr (.inr (some a0))]) (by decide +kernel) rfl rfl ?_
    obtain ⟨o_5, h6, h⟩ := bd h
    refine xg_r E 12 20 h6 mw880 (show decode prog_14_method_40_code 21 = .ok (.getfield 55, 3) by decide +kernel) ?_
    refine xv_b E [.iload_n 2, .iconst 0] (pc' := 26) (lv' := [(0, .inr (.inr (some a0))), (1, .inl v1), (2, .inl v2)]) (st' := [.inl (0 : Int32), .inl v2, .inr (.inr o_5)]) (by decide +kernel) rfl rfl ?_
    obtain ⟨M7, h8, h⟩ := bd h
    refine xs_i E h8 (show decode prog_14_method_40_code 26 = .ok (.iastore, 1) by decide +kernel) ?_
    refine xv_b E [.iinc 2 1] (pc' := 30) (lv' := [(2, .inl (v2 + (1 : Int32))), (0, .inr (.inr (some a0))), (1, .inl v1)]) (st' := []) (by decide +kernel) rfl rfl ?_
    refine xv_goto E 14 (show decode prog_14_method_40_code 30 = .ok (.goto (-16), 3) by decide +kernel) rfl ?_
    obtain rfl := Option.some.inj h
    exact xv_w hN rfl
theorem sb231_144 (E : xE G p (xRm 11 (h_sz M' - z0) (h_sl M' - y0)) s m args c prog_14_method_40_code "ZonedFabricModel" z0 y0 (h_sz M') (h_sl M') 4) (B : xB ym231 (some FieldType.int) meth) (a0 : Nat) (v1 : Int32) (v2 : Int32) (M : hM) {res : xRes} (h : b231_144 a0 v1 v2 M = some res) (hN : xN (pg231 p l e s m args below meth c G z0 y0 r M') r M' res) : xV G p l e (xRm 11 (h_sz M' - z0) (h_sl M' - y0)) s m args below meth c z0 y0 (h_sz M') (h_sl M') 4 (MQ below (xQc G r M') args s (h_sz M' - z0) (h_sl M' - y0) (xFr G)) 144 [(0, .inr (.inr (some a0))), (1, .inl v1), (2, .inl v2)] [] M := by
  unfold b231_144 at h
  refine xv_b E [.iinc 2 1] (pc' := 147) (lv' := [(2, .inl (v2 + (1 : Int32))), (0, .inr (.inr (some a0))), (1, .inl v1)]) (st' := []) (by decide +kernel) rfl rfl ?_
  refine xv_goto E 35 (show decode prog_14_method_40_code 147 = .ok (.goto (-112), 3) by decide +kernel) rfl ?_
  obtain rfl := Option.some.inj h
  exact xv_w hN rfl
theorem sb231_134 (E : xE G p (xRm 11 (h_sz M' - z0) (h_sl M' - y0)) s m args c prog_14_method_40_code "ZonedFabricModel" z0 y0 (h_sz M') (h_sl M') 4) (B : xB ym231 (some FieldType.int) meth) (a0 : Nat) (v1 : Int32) (v2 : Int32) (M : hM) {res : xRes} (h : b231_134 a0 v1 v2 M = some res) (hN : xN (pg231 p l e s m args below meth c G z0 y0 r M') r M' res) : xV G p l e (xRm 11 (h_sz M' - z0) (h_sl M' - y0)) s m args below meth c z0 y0 (h_sz M') (h_sl M') 4 (MQ below (xQc G r M') args s (h_sz M' - z0) (h_sl M' - y0) (xFr G)) 134 [(0, .inr (.inr (some a0))), (1, .inl v1), (2, .inl v2)] [] M := by
  unfold b231_134 at h
  refine xv_b E [.aload_n 0] (pc' := 135) (lv' := [(0, .inr (.inr (some a0))), (1, .inl v1), (2, .inl v2)]) (st' := [.inr (.inr (some a0))]) (by decide +kernel) rfl rfl ?_
  obtain ⟨o_63, h64, h⟩ := bd h
  refine xg_r E 12 15 h64 mw875 (show decode prog_14_method_40_code 135 = .ok (.getfield 40, 3) by decide +kernel) ?_
  refine xv_b E [.iload_n 2, .iconst (-1)] (pc' := 140) (lv' := [(0, .inr (.inr (some a0))), (1, .inl v1), (2, .inl v2)]) (st' := [.inl (-1 : Int32), .inl v2, .inr (.inr o_63)]) (by decide +kernel) rfl rfl ?_
  obtain ⟨M65, h66, h⟩ := bd h
  refine xs_i E h66 (show decode prog_14_method_40_code 140 = .ok (.iastore, 1) by decide +kernel) ?_
  refine xv_b E [.iinc 1 1] (pc' := 144) (lv' := [(1, .inl (v1 + (1 : Int32))), (0, .inr (.inr (some a0))), (2, .inl v2)]) (st' := []) (by decide +kernel) rfl rfl ?_
  exact xv_w (sb231_144 E B a0 (v1 + (1 : Int32)) v2 M65 h hN) rfl
theorem sb231_35 (E : xE G p (xRm 11 (h_sz M' - z0) (h_sl M' - y0)) s m args c prog_14_method_40_code "ZonedFabricModel" z0 y0 (h_sz M') (h_sl M') 4) (B : xB ym231 (some FieldType.int) meth) (a0 : Nat) (v1 : Int32) (v2 : Int32) (M : hM) {res : xRes} (h : b231_35 a0 v1 v2 M = some res) (hN : xN (pg231 p l e s m args below meth c G z0 y0 r M') r M' res) : xV G p l e (xRm 11 (h_sz M' - z0) (h_sl M' - y0)) s m args below meth c z0 y0 (h_sz M') (h_sl M') 4 (MQ below (xQc G r M') args s (h_sz M' - z0) (h_sl M' - y0) (xFr G)) 35 [(0, .inr (.inr (some a0))), (1, .inl v1), (2, .inl v2)] [] M := by
  unfold b231_35 at h
  refine xv_b E [.iload_n 2, .bipush 48] (pc' := 38) (lv' := [(0, .inr (.inr (some a0))), (1, .inl v1), (2, .inl v2)]) (st' := [.inl (48 : Int32), .inl v2]) (by decide +kernel) rfl rfl ?_
  by_cases q62 : (48 : Int32) ≤ v2
  · rw [if_pos q62] at h
    refine xv_icmp_ge E 150 (show decode prog_14_method_40_code 38 = .ok (.if_icmp .ge (112), 3) by decide +kernel) rfl (fun _ => ?_) (fun z => absurd q62 z)
    refine xv_b E [.iconst 0, .istore_n 2] (pc' := 152) (lv' := [(2, .inl (0 : Int32)), (0, .inr (.inr (some a0))), (1, .inl v1)]) (st' := []) (by decide +kernel) rfl rfl ?_
    obtain rfl := Option.some.inj h
    exact xv_w hN rfl
  · rw [if_neg q62] at h
    refine xv_icmp_ge E 150 (show decode prog_14_method_40_code 38 = .ok (.if_icmp .ge (112), 3) by decide +kernel) rfl (fun z => absurd z q62) (fun _ => ?_)
    refine xv_b E [.aload_n 0] (pc' := 42) (lv' := [(0, .inr (.inr (some a0))), (1, .inl v1), (2, .inl v2)]) (st' := [.inr (.inr (some a0))]) (by decide +kernel) rfl rfl ?_
    obtain ⟨o_10, h11, h⟩ := bd h
    refine xg_r E 12 22 h11 mw882 (show decode prog_14_method_40_code 42 = .ok (.getfield 61, 3) by decide +kernel) ?_
    refine xv_b E [.iload_n 2, .iconst 0] (pc' := 47) (lv' := [(0, .inr (.inr (some a0))), (1, .inl v1), (2, .inl v2)]) (st' := [.inl (0 : Int32), .inl v2, .inr (.inr o_10)]) (by decide +kernel) rfl rfl ?_
    obtain ⟨M12, h13, h⟩ := bd h
    refine xs_z E h13 (show decode prog_14_method_40_code 47 = .ok (.bastore, 1) by decide +kernel) ?_
    refine xv_b E [.aload_n 0] (pc' := 49) (lv' := [(0, .inr (.inr (some a0))), (1, .inl v1), (2, .inl v2)]) (st' := [.inr (.inr (some a0))]) (by decide +kernel) rfl rfl ?_
    obtain ⟨o_14, h15, h⟩ := bd h
    refine xg_r E 12 15 h15 mw875 (show decode prog_14_method_40_code 49 = .ok (.getfield 40, 3) by decide +kernel) ?_
    refine xv_b E [.iload_n 2] (pc' := 53) (lv' := [(0, .inr (.inr (some a0))), (1, .inl v1), (2, .inl v2)]) (st' := [.inl v2, .inr (.inr o_14)]) (by decide +kernel) rfl rfl ?_
    obtain ⟨v_16, h17, h⟩ := bd h
    refine xa_i E h17 (show decode prog_14_method_40_code 53 = .ok (.iaload, 1) by decide +kernel) ?_
    refine xv_b E [.iconst (-1)] (pc' := 55) (lv' := [(0, .inr (.inr (some a0))), (1, .inl v1), (2, .inl v2)]) (st' := [.inl (-1 : Int32), .inl v_16]) (by decide +kernel) rfl rfl ?_
    by_cases q61 : v_16 = (-1 : Int32)
    · rw [if_pos q61] at h
      refine xv_icmp_ne E 61 (show decode prog_14_method_40_code 55 = .ok (.if_icmp .ne (6), 3) by decide +kernel) rfl (fun z => absurd q61 z) (fun _ => ?_)
      refine xv_goto E 144 (show decode prog_14_method_40_code 58 = .ok (.goto (86), 3) by decide +kernel) rfl ?_
      exact xv_w (sb231_144 E B a0 v1 v2 M12 h hN) rfl
    · rw [if_neg q61] at h
      refine xv_icmp_ne E 61 (show decode prog_14_method_40_code 55 = .ok (.if_icmp .ne (6), 3) by decide +kernel) rfl (fun _ => ?_) (fun z => absurd z q61)
      refine xv_b E [.aload_n 0, .iload_n 2] (pc' := 63) (lv' := [(0, .inr (.inr (some a0))), (1, .inl v1), (2, .inl v2)]) (st' := [.inl v2, .inr (.inr (some a0))]) (by decide +kernel) rfl rfl ?_
      obtain ⟨b_20, h21, h⟩ := bd h
      obtain ⟨eh21, th21⟩ := g_o_some h21
      obtain ⟨q_18, h19, h⟩ := bd h
      refine xv_cvo E eh21 12 (as := [.inl v2]) (t178 G l (c_I_some h19)) cd178 mw959 mw960 mw961 (show decode prog_14_method_40_code 63 = .ok (.invokevirtual 209, 3) by decide +kernel) th21 rfl rfl (Nat.le_of_ble_eq_true rfl) ⟨Nat.le_of_ble_eq_true rfl, Nat.le_of_ble_eq_true rfl⟩ ?_
      refine xv_b E [.istore_n 3, .aload_n 0] (pc' := 68) (lv' := [(3, .inl q_18.1), (0, .inr (.inr (some a0))), (1, .inl v1), (2, .inl v2)]) (st' := [.inr (.inr (some a0))]) (by decide +kernel) rfl rfl ?_
      obtain ⟨o_22, h23, h⟩ := bd h
      refine xg_r E 12 17 h23 mw877 (show decode prog_14_method_40_code 68 = .ok (.getfield 46, 3) by decide +kernel) ?_
      refine xv_b E [.iload_n 3] (pc' := 72) (lv' := [(3, .inl q_18.1), (0, .inr (.inr (some a0))), (1, .inl v1), (2, .inl v2)]) (st' := [.inl q_18.1, .inr (.inr o_22)]) (by decide +kernel) rfl rfl ?_
      obtain ⟨v_24, h25, h⟩ := bd h
      refine xa_i E h25 (show decode prog_14_method_40_code 72 = .ok (.iaload, 1) by decide +kernel) ?_
      refine xv_b E [.aload_n 0] (pc' := 74) (lv' := [(3, .inl q_18.1), (0, .inr (.inr (some a0))), (1, .inl v1), (2, .inl v2)]) (st' := [.inr (.inr (some a0)), .inl v_24]) (by decide +kernel) rfl rfl ?_
      obtain ⟨v_26, h27, h⟩ := bd h
      refine xg_i E 12 2 h27 mw923 (show decode prog_14_method_40_code 74 = .ok (.getfield 180, 3) by decide +kernel) ?_
      by_cases q60 : v_24 = v_26
      · rw [if_pos q60] at h
        refine xv_icmp_ne E 103 (show decode prog_14_method_40_code 77 = .ok (.if_icmp .ne (26), 3) by decide +kernel) rfl (fun z => absurd q60 z) (fun _ => ?_)
        refine xv_b E [.aload_n 0] (pc' := 81) (lv' := [(3, .inl q_18.1), (0, .inr (.inr (some a0))), (1, .inl v1), (2, .inl v2)]) (st' := [.inr (.inr (some a0))]) (by decide +kernel) rfl rfl ?_
        obtain ⟨o_46, h47, h⟩ := bd h
        refine xg_r E 12 5 h47 mw866 (show decode prog_14_method_40_code 81 = .ok (.getfield 13, 3) by decide +kernel) ?_
        refine xv_b E [.iconst 1, .dup2] (pc' := 86) (lv' := [(3, .inl q_18.1), (0, .inr (.inr (some a0))), (1, .inl v1), (2, .inl v2)]) (st' := [.inl (1 : Int32), .inr (.inr o_46), .inl (1 : Int32), .inr (.inr o_46)]) (by decide +kernel) rfl rfl ?_
        obtain ⟨v_48, h49, h⟩ := bd h
        refine xa_i E h49 (show decode prog_14_method_40_code 86 = .ok (.iaload, 1) by decide +kernel) ?_
        refine xv_b E [.iconst 1, .iadd] (pc' := 89) (lv' := [(3, .inl q_18.1), (0, .inr (.inr (some a0))), (1, .inl v1), (2, .inl v2)]) (st' := [.inl (v_48 + (1 : Int32)), .inl (1 : Int32), .inr (.inr o_46)]) (by decide +kernel) rfl rfl ?_
        obtain ⟨M50, h51, h⟩ := bd h
        refine xs_i E h51 (show decode prog_14_method_40_code 89 = .ok (.iastore, 1) by decide +kernel) ?_
        refine xv_b E [.aload_n 0, .aload_n 0] (pc' := 92) (lv' := [(3, .inl q_18.1), (0, .inr (.inr (some a0))), (1, .inl v1), (2, .inl v2)]) (st' := [.inr (.inr (some a0)), .inr (.inr (some a0))]) (by decide +kernel) rfl rfl ?_
        obtain ⟨o_52, h53, h⟩ := bd h
        refine xg_r E 12 15 h53 mw875 (show decode prog_14_method_40_code 92 = .ok (.getfield 40, 3) by decide +kernel) ?_
        refine xv_b E [.iload_n 2] (pc' := 96) (lv' := [(3, .inl q_18.1), (0, .inr (.inr (some a0))), (1, .inl v1), (2, .inl v2)]) (st' := [.inl v2, .inr (.inr o_52), .inr (.inr (some a0))]) (by decide +kernel) rfl rfl ?_
        obtain ⟨v_54, h55, h⟩ := bd h
        refine xa_i E h55 (show decode prog_14_method_40_code 96 = .ok (.iaload, 1) by decide +kernel) ?_
        obtain ⟨b_58, h59, h⟩ := bd h
        obtain ⟨eh59, th59⟩ := g_o_some h59
        obtain ⟨q_56, h57, h⟩ := bd h
        refine xv_cvo E eh59 12 (as := [.inl v_54]) (t171 G l (c_V_some h57)) cd171 mw975 mw976 mw977 (show decode prog_14_method_40_code 97 = .ok (.invokevirtual 224, 3) by decide +kernel) th59 rfl rfl (Nat.le_of_ble_eq_true rfl) ⟨Nat.le_of_ble_eq_true rfl, Nat.le_of_ble_eq_true rfl⟩ ?_
        refine xv_goto E 134 (show decode prog_14_method_40_code 100 = .ok (.goto (34), 3) by decide +kernel) rfl ?_
        exact xv_w (sb231_134 E B a0 v1 v2 q_56 h hN) rfl
      · rw [if_neg q60] at h
        refine xv_icmp_ne E 103 (show decode prog_14_method_40_code 77 = .ok (.if_icmp .ne (26), 3) by decide +kernel) rfl (fun _ => ?_) (fun z => absurd z q60)
        refine xv_b E [.aload_n 0] (pc' := 104) (lv' := [(3, .inl q_18.1), (0, .inr (.inr (some a0))), (1, .inl v1), (2, .inl v2)]) (st' := [.inr (.inr (some a0))]) (by decide +kernel) rfl rfl ?_
        obtain ⟨o_28, h29, h⟩ := bd h
        refine xg_r E 12 16 h29 mw876 (show decode prog_14_method_40_code 104 = .ok (.getfield 43, 3) by decide +kernel) ?_
        refine xv_b E [.iload_n 3, .iconst 4, .imul, .aload_n 0] (pc' := 111) (lv' := [(3, .inl q_18.1), (0, .inr (.inr (some a0))), (1, .inl v1), (2, .inl v2)]) (st' := [.inr (.inr (some a0)), .inl (q_18.1 * (4 : Int32)), .inr (.inr o_28)]) (by decide +kernel) rfl rfl ?_
        obtain ⟨o_30, h31, h⟩ := bd h
        refine xg_r E 12 17 h31 mw877 (show decode prog_14_method_40_code 111 = .ok (.getfield 46, 3) by decide +kernel) ?_
        refine xv_b E [.iload_n 3] (pc' := 115) (lv' := [(3, .inl q_18.1), (0, .inr (.inr (some a0))), (1, .inl v1), (2, .inl v2)]) (st' := [.inl q_18.1, .inr (.inr o_30), .inl (q_18.1 * (4 : Int32)), .inr (.inr o_28)]) (by decide +kernel) rfl rfl ?_
        obtain ⟨v_32, h33, h⟩ := bd h
        refine xa_i E h33 (show decode prog_14_method_40_code 115 = .ok (.iaload, 1) by decide +kernel) ?_
        refine xv_b E [.iadd, .aload_n 0] (pc' := 118) (lv' := [(3, .inl q_18.1), (0, .inr (.inr (some a0))), (1, .inl v1), (2, .inl v2)]) (st' := [.inr (.inr (some a0)), .inl ((q_18.1 * (4 : Int32)) + v_32), .inr (.inr o_28)]) (by decide +kernel) rfl rfl ?_
        obtain ⟨o_34, h35, h⟩ := bd h
        refine xg_r E 12 15 h35 mw875 (show decode prog_14_method_40_code 118 = .ok (.getfield 40, 3) by decide +kernel) ?_
        refine xv_b E [.iload_n 2] (pc' := 122) (lv' := [(3, .inl q_18.1), (0, .inr (.inr (some a0))), (1, .inl v1), (2, .inl v2)]) (st' := [.inl v2, .inr (.inr o_34), .inl ((q_18.1 * (4 : Int32)) + v_32), .inr (.inr o_28)]) (by decide +kernel) rfl rfl ?_
        obtain ⟨v_36, h37, h⟩ := bd h
        refine xa_i E h37 (show decode prog_14_method_40_code 122 = .ok (.iaload, 1) by decide +kernel) ?_
        obtain ⟨M38, h39, h⟩ := bd h
        refine xs_i E h39 (show decode prog_14_method_40_code 123 = .ok (.iastore, 1) by decide +kernel) ?_
        refine xv_b E [.aload_n 0] (pc' := 125) (lv' := [(3, .inl q_18.1), (0, .inr (.inr (some a0))), (1, .inl v1), (2, .inl v2)]) (st' := [.inr (.inr (some a0))]) (by decide +kernel) rfl rfl ?_
        obtain ⟨o_40, h41, h⟩ := bd h
        refine xg_r E 12 17 h41 mw877 (show decode prog_14_method_40_code 125 = .ok (.getfield 46, 3) by decide +kernel) ?_
        refine xv_b E [.iload_n 3, .dup2] (pc' := 130) (lv' := [(3, .inl q_18.1), (0, .inr (.inr (some a0))), (1, .inl v1), (2, .inl v2)]) (st' := [.inl q_18.1, .inr (.inr o_40), .inl q_18.1, .inr (.inr o_40)]) (by decide +kernel) rfl rfl ?_
        obtain ⟨v_42, h43, h⟩ := bd h
        refine xa_i E h43 (show decode prog_14_method_40_code 130 = .ok (.iaload, 1) by decide +kernel) ?_
        refine xv_b E [.iconst 1, .iadd] (pc' := 133) (lv' := [(3, .inl q_18.1), (0, .inr (.inr (some a0))), (1, .inl v1), (2, .inl v2)]) (st' := [.inl (v_42 + (1 : Int32)), .inl q_18.1, .inr (.inr o_40)]) (by decide +kernel) rfl rfl ?_
        obtain ⟨M44, h45, h⟩ := bd h
        refine xs_i E h45 (show decode prog_14_method_40_code 133 = .ok (.iastore, 1) by decide +kernel) ?_
        exact xv_w (sb231_134 E B a0 v1 v2 M44 h hN) rfl
theorem sb231_152 (E : xE G p (xRm 11 (h_sz M' - z0) (h_sl M' - y0)) s m args c prog_14_method_40_code "ZonedFabricModel" z0 y0 (h_sz M') (h_sl M') 4) (B : xB ym231 (some FieldType.int) meth) (a0 : Nat) (v1 : Int32) (v2 : Int32) (M : hM) {res : xRes} (h : b231_152 a0 v1 v2 M = some res) (hN : xN (pg231 p l e s m args below meth c G z0 y0 r M') r M' res) : xV G p l e (xRm 11 (h_sz M' - z0) (h_sl M' - y0)) s m args below meth c z0 y0 (h_sz M') (h_sl M') 4 (MQ below (xQc G r M') args s (h_sz M' - z0) (h_sl M' - y0) (xFr G)) 152 [(0, .inr (.inr (some a0))), (1, .inl v1), (2, .inl v2)] [] M := by
  unfold b231_152 at h
  refine xv_b E [.iload_n 2, .aload_n 0] (pc' := 154) (lv' := [(0, .inr (.inr (some a0))), (1, .inl v1), (2, .inl v2)]) (st' := [.inr (.inr (some a0)), .inl v2]) (by decide +kernel) rfl rfl ?_
  obtain ⟨v_67, h68, h⟩ := bd h
  refine xg_i E 12 0 h68 mw921 (show decode prog_14_method_40_code 154 = .ok (.getfield 173, 3) by decide +kernel) ?_
  by_cases q73 : v_67 ≤ v2
  · rw [if_pos q73] at h
    refine xv_icmp_ge E 171 (show decode prog_14_method_40_code 157 = .ok (.if_icmp .ge (14), 3) by decide +kernel) rfl (fun _ => ?_) (fun z => absurd q73 z)
    refine xv_b E [.iconst 0, .istore_n 2] (pc' := 173) (lv' := [(2, .inl (0 : Int32)), (0, .inr (.inr (some a0))), (1, .inl v1)]) (st' := []) (by decide +kernel) rfl rfl ?_
    obtain rfl := Option.some.inj h
    exact xv_w hN rfl
  · rw [if_neg q73] at h
    refine xv_icmp_ge E 171 (show decode prog_14_method_40_code 157 = .ok (.if_icmp .ge (14), 3) by decide +kernel) rfl (fun z => absurd z q73) (fun _ => ?_)
    refine xv_b E [.aload_n 0, .iload_n 2] (pc' := 162) (lv' := [(0, .inr (.inr (some a0))), (1, .inl v1), (2, .inl v2)]) (st' := [.inl v2, .inr (.inr (some a0))]) (by decide +kernel) rfl rfl ?_
    obtain ⟨b_71, h72, h⟩ := bd h
    obtain ⟨eh72, th72⟩ := g_o_some h72
    obtain ⟨q_69, h70, h⟩ := bd h
    refine xv_cvo E eh72 12 (as := [.inl v2]) (t230 G l (c_V_some h70)) cd230 mw1191 mw1192 mw1193 (show decode prog_14_method_40_code 162 = .ok (.invokevirtual 279, 3) by decide +kernel) th72 rfl rfl (Nat.le_of_ble_eq_true rfl) ⟨Nat.le_of_ble_eq_true rfl, Nat.le_of_ble_eq_true rfl⟩ ?_
    refine xv_b E [.iinc 2 1] (pc' := 168) (lv' := [(2, .inl (v2 + (1 : Int32))), (0, .inr (.inr (some a0))), (1, .inl v1)]) (st' := []) (by decide +kernel) rfl rfl ?_
    refine xv_goto E 152 (show decode prog_14_method_40_code 168 = .ok (.goto (-16), 3) by decide +kernel) rfl ?_
    obtain rfl := Option.some.inj h
    exact xv_w hN rfl
theorem sb231_173 (E : xE G p (xRm 11 (h_sz M' - z0) (h_sl M' - y0)) s m args c prog_14_method_40_code "ZonedFabricModel" z0 y0 (h_sz M') (h_sl M') 4) (B : xB ym231 (some FieldType.int) meth) (a0 : Nat) (v1 : Int32) (v2 : Int32) (M : hM) {res : xRes} (h : b231_173 a0 v1 v2 M = some res) (hN : xN (pg231 p l e s m args below meth c G z0 y0 r M') r M' res) : xV G p l e (xRm 11 (h_sz M' - z0) (h_sl M' - y0)) s m args below meth c z0 y0 (h_sz M') (h_sl M') 4 (MQ below (xQc G r M') args s (h_sz M' - z0) (h_sl M' - y0) (xFr G)) 173 [(0, .inr (.inr (some a0))), (1, .inl v1), (2, .inl v2)] [] M := by
  unfold b231_173 at h
  refine xv_b E [.iload_n 2, .aload_n 0] (pc' := 175) (lv' := [(0, .inr (.inr (some a0))), (1, .inl v1), (2, .inl v2)]) (st' := [.inr (.inr (some a0)), .inl v2]) (by decide +kernel) rfl rfl ?_
  obtain ⟨v_74, h75, h⟩ := bd h
  refine xg_i E 12 1 h75 mw922 (show decode prog_14_method_40_code 175 = .ok (.getfield 177, 3) by decide +kernel) ?_
  by_cases q80 : v_74 ≤ v2
  · rw [if_pos q80] at h
    refine xv_icmp_ge E 192 (show decode prog_14_method_40_code 178 = .ok (.if_icmp .ge (14), 3) by decide +kernel) rfl (fun _ => ?_) (fun z => absurd q80 z)
    refine xv_b E [.iload_n 1] (pc' := 193) (lv' := [(0, .inr (.inr (some a0))), (1, .inl v1), (2, .inl v2)]) (st' := [.inl v1]) (by decide +kernel) rfl rfl ?_
    obtain rfl := Option.some.inj h
    obtain ⟨rfl, rfl⟩ := Prod.mk.inj (show ((some (.inl v1) : Option aV), M) = (r, M') from hN)
    exact xv_ri E B.1 rfl B.2.1 (show decode prog_14_method_40_code 193 = .ok (.ireturn, 1) by decide +kernel) rfl rfl
  · rw [if_neg q80] at h
    refine xv_icmp_ge E 192 (show decode prog_14_method_40_code 178 = .ok (.if_icmp .ge (14), 3) by decide +kernel) rfl (fun z => absurd z q80) (fun _ => ?_)
    refine xv_b E [.aload_n 0, .iload_n 2] (pc' := 183) (lv' := [(0, .inr (.inr (some a0))), (1, .inl v1), (2, .inl v2)]) (st' := [.inl v2, .inr (.inr (some a0))]) (by decide +kernel) rfl rfl ?_
    obtain ⟨b_78, h79, h⟩ := bd h
    obtain ⟨eh79, th79⟩ := g_o_some h79
    obtain ⟨q_76, h77, h⟩ := bd h
    refine xv_cvo E eh79 12 (as := [.inl v2]) (t221 G l (c_V_some h77)) cd221 mw1194 mw1195 mw1196 (show decode prog_14_method_40_code 183 = .ok (.invokevirtual 282, 3) by decide +kernel) th79 rfl rfl (Nat.le_of_ble_eq_true rfl) ⟨Nat.le_of_ble_eq_true rfl, Nat.le_of_ble_eq_true rfl⟩ ?_
    refine xv_b E [.iinc 2 1] (pc' := 189) (lv' := [(2, .inl (v2 + (1 : Int32))), (0, .inr (.inr (some a0))), (1, .inl v1)]) (st' := []) (by decide +kernel) rfl rfl ?_
    refine xv_goto E 173 (show decode prog_14_method_40_code 189 = .ok (.goto (-16), 3) by decide +kernel) rfl ?_
    obtain rfl := Option.some.inj h
    exact xv_w hN rfl
end
theorem t231 (G : gX) (l : Launch) {as : List aV} {M : hM} {r : Option aV} {M' : hM} (h : f231 as M = some (r, M')) : xM G l ym231 prog_14_method_40_code 4 (some FieldType.int) 11 as M r M' := by
  unfold f231 at h
  split at h
  · have hle : ∀ h as M res, k231 h as M = some res → h_sz M ≤ r_sz res ∧ h_sl M ≤ r_sl res := by
      intro h as M res hb
      unfold k231 at hb
      by_cases e0 : h = 14
      · rw [if_pos e0] at hb
        split at hb
        · exact lb231_14 G l _ _ _ M hb
        · cases hb
      · rw [if_neg e0] at hb
        by_cases e1 : h = 35
        · rw [if_pos e1] at hb
          split at hb
          · exact lb231_35 G l _ _ _ M hb
          · cases hb
        · rw [if_neg e1] at hb
          by_cases e2 : h = 152
          · rw [if_pos e2] at hb
            split at hb
            · exact lb231_152 G l _ _ _ M hb
            · cases hb
          · rw [if_neg e2] at hb
            by_cases e3 : h = 173
            · rw [if_pos e3] at hb
              split at hb
              · exact lb231_173 G l _ _ _ M hb
              · cases hb
            · rw [if_neg e3] at hb
              cases hb
    obtain ⟨res, hx, hres⟩ := x_go_ok h
    refine xM_of (by decide) (Nat.le_of_ble_eq_true rfl) ?_ ?_
    · have e1 := lb231_0 G l _ M hx
      have e2 := x_go_le hle hres
      omega
    · intro p e s m args below meth c E B
      refine sb231_0 E B _ M hx (hres _ ?_)
      intro h as M res hb hN
      unfold k231 at hb
      unfold pg231
      by_cases e0 : h = 14
      · rw [if_pos e0] at hb ⊢
        split at hb
        · exact sb231_14 E B _ _ _ M hb hN
        · cases hb
      · rw [if_neg e0] at hb ⊢
        by_cases e1 : h = 35
        · rw [if_pos e1] at hb ⊢
          split at hb
          · exact sb231_35 E B _ _ _ M hb hN
          · cases hb
        · rw [if_neg e1] at hb ⊢
          by_cases e2 : h = 152
          · rw [if_pos e2] at hb ⊢
            split at hb
            · exact sb231_152 E B _ _ _ M hb hN
            · cases hb
          · rw [if_neg e2] at hb ⊢
            by_cases e3 : h = 173
            · rw [if_pos e3] at hb ⊢
              split at hb
              · exact sb231_173 E B _ _ _ M hb hN
              · cases hb
            · rw [if_neg e3] at hb ⊢
              cases hb
  · cases h
/-! ZFModel.disc(I)Z -/
def ym232 : MethodName := ⟨"ZonedFabricModel", "disc", "(I)Z"⟩
theorem cd232 : xCd ym232 prog_14_method_69_code 2 (some FieldType.boolean) 1 := ⟨mw1197, mw864, by decide, by decide, by decide +kernel⟩
def b232_44  (M : hM) : Option xRes :=
  some (.inl (some (.inl (0 : Int32)), M))
def b232_0 (a0 : Nat) (v1 : Int32) (M : hM) : Option xRes :=
  if v1 < 0 then
    (b232_44  M)
  else
    (Option.bind (g_i M 12 1 (some a0)) fun v_1 =>
    if v_1 ≤ v1 then
      (b232_44  M)
    else
      (Option.bind (g_r M 12 33 (some a0)) fun o_3 =>
      Option.bind (al_i M 22 o_3 v1) fun v_5 =>
      if v_5 = 0 then
        (Option.bind (g_r M 12 14 (some a0)) fun o_7 =>
        Option.bind (g_o M 12 (some a0)) fun b_11 =>
        Option.bind (c_I (f176 [.inr (.inr (some b_11)), .inl v1] M)) fun q_9 =>
        Option.bind (al_i q_9.2 20 o_7 q_9.1) fun v_13 =>
        if v_13 = (-1 : Int32) then
          (Option.bind (g_r q_9.2 12 34 (some a0)) fun o_15 =>
          Option.bind (al_i q_9.2 22 o_15 v1) fun v_17 =>
          if v_17 = 0 then
            (Option.bind (g_r q_9.2 12 33 (some a0)) fun o_19 =>
            Option.bind (as_z q_9.2 22 o_19 v1 (1 : Int32)) fun M21 =>
            some (.inl (some (.inl (1 : Int32)), M21)))
          else
            (b232_44  q_9.2))
        else
          (b232_44  q_9.2))
      else
        (b232_44  M)))
def f232 (as : List aV) (M : hM) : xO := match as with
  | [.inr (.inr (some a0)), .inl v1] => x_out (b232_0 a0 v1 M)
  | _ => none
theorem lb232_44 (G : gX) (l : Launch)  (M : hM) {res : xRes} (h : b232_44  M = some res) : h_sz M ≤ r_sz res ∧ h_sl M ≤ r_sl res := by
  unfold b232_44 at h
  obtain rfl := Option.some.inj h
  show h_sz M ≤ h_sz M ∧ h_sl M ≤ h_sl M
  omega
theorem lb232_0 (G : gX) (l : Launch) (a0 : Nat) (v1 : Int32) (M : hM) {res : xRes} (h : b232_0 a0 v1 M = some res) : h_sz M ≤ r_sz res ∧ h_sl M ≤ r_sl res := by
  unfold b232_0 at h
  by_cases q27 : v1 < 0
  · rw [if_pos q27] at h
    have e := lb232_44 G l  M h
    omega
  · rw [if_neg q27] at h
    obtain ⟨v_1, h2, h⟩ := bd h
    by_cases q26 : v_1 ≤ v1
    · rw [if_pos q26] at h
      have e := lb232_44 G l  M h
      omega
    · rw [if_neg q26] at h
      obtain ⟨o_3, h4, h⟩ := bd h
      obtain ⟨v_5, h6, h⟩ := bd h
      by_cases q25 : v_5 = 0
      · rw [if_pos q25] at h
        obtain ⟨o_7, h8, h⟩ := bd h
        obtain ⟨b_11, h12, h⟩ := bd h
        obtain ⟨q_9, h10, h⟩ := bd h
        have eh10 := (t176 G l (c_I_some h10)).1
        obtain ⟨v_13, h14, h⟩ := bd h
        by_cases q24 : v_13 = (-1 : Int32)
        · rw [if_pos q24] at h
          obtain ⟨o_15, h16, h⟩ := bd h
          obtain ⟨v_17, h18, h⟩ := bd h
          by_cases q23 : v_17 = 0
          · rw [if_pos q23] at h
            obtain ⟨o_19, h20, h⟩ := bd h
            obtain ⟨M21, h22, h⟩ := bd h
            have eh22 := as_z_sz h22
            obtain rfl := Option.some.inj h
            show h_sz M ≤ h_sz M21 ∧ h_sl M ≤ h_sl M21
            omega
          · rw [if_neg q23] at h
            have e := lb232_44 G l  q_9.2 h
            omega
        · rw [if_neg q24] at h
          have e := lb232_44 G l  q_9.2 h
          omega
      · rw [if_neg q25] at h
        have e := lb232_44 G l  M h
        omega
section
variable {p : Program} {l : Launch} {e : Env} {s : State} {m : MethodId} {args : Array Value} {below : List Frame} {meth : Method} {c : Code} {G : gX} {z0 y0 : Nat} {r : Option aV} {M' : hM}
theorem sb232_44 (E : xE G p (xRm 1 (h_sz M' - z0) (h_sl M' - y0)) s m args c prog_14_method_69_code "ZonedFabricModel" z0 y0 (h_sz M') (h_sl M') 2) (B : xB ym232 (some FieldType.boolean) meth)  (M : hM) {res : xRes} (h : b232_44  M = some res) (hN : xN (fun _ _ _ => False) r M' res) : xV G p l e (xRm 1 (h_sz M' - z0) (h_sl M' - y0)) s m args below meth c z0 y0 (h_sz M') (h_sl M') 2 (MQ below (xQc G r M') args s (h_sz M' - z0) (h_sl M' - y0) (xFr G)) 44 [] [] M := by
  unfold b232_44 at h
  refine xv_b E [.iconst 0] (pc' := 45) (lv' := []) (st' := [.inl (0 : Int32)]) (by decide +kernel) rfl rfl ?_
  obtain rfl := Option.some.inj h
  obtain ⟨rfl, rfl⟩ := Prod.mk.inj (show ((some (.inl (0 : Int32)) : Option aV), M) = (r, M') from hN)
  exact xv_ri E B.1 rfl B.2.1 (show decode prog_14_method_69_code 45 = .ok (.ireturn, 1) by decide +kernel) rfl rfl
theorem sb232_0 (E : xE G p (xRm 1 (h_sz M' - z0) (h_sl M' - y0)) s m args c prog_14_method_69_code "ZonedFabricModel" z0 y0 (h_sz M') (h_sl M') 2) (B : xB ym232 (some FieldType.boolean) meth) (a0 : Nat) (v1 : Int32) (M : hM) {res : xRes} (h : b232_0 a0 v1 M = some res) (hN : xN (fun _ _ _ => False) r M' res) : xV G p l e (xRm 1 (h_sz M' - z0) (h_sl M' - y0)) s m args below meth c z0 y0 (h_sz M') (h_sl M') 2 (MQ below (xQc G r M') args s (h_sz M' - z0) (h_sl M' - y0) (xFr G)) 0 [(0, .inr (.inr (some a0))), (1, .inl v1)] [] M := by
  unfold b232_0 at h
  refine xv_b E [.iload_n 1] (pc' := 1) (lv' := [(0, .inr (.inr (some a0))), (1, .inl v1)]) (st' := [.inl v1]) (by decide +kernel) rfl rfl ?_
  by_cases q27 : v1 < 0
  · rw [if_pos q27] at h
    refine xv_if_lt E 44 (show decode prog_14_method_69_code 1 = .ok (.ifCond .lt (43), 3) by decide +kernel) rfl (fun _ => ?_) (fun z => absurd q27 z)
    exact xv_w (sb232_44 E B  M h hN) rfl
  · rw [if_neg q27] at h
    refine xv_if_lt E 44 (show decode prog_14_method_69_code 1 = .ok (.ifCond .lt (43), 3) by decide +kernel) rfl (fun z => absurd z q27) (fun _ => ?_)
    refine xv_b E [.iload_n 1, .aload_n 0] (pc' := 6) (lv' := [(0, .inr (.inr (some a0))), (1, .inl v1)]) (st' := [.inr (.inr (some a0)), .inl v1]) (by decide +kernel) rfl rfl ?_
    obtain ⟨v_1, h2, h⟩ := bd h
    refine xg_i E 12 1 h2 mw922 (show decode prog_14_method_69_code 6 = .ok (.getfield 177, 3) by decide +kernel) ?_
    by_cases q26 : v_1 ≤ v1
    · rw [if_pos q26] at h
      refine xv_icmp_ge E 44 (show decode prog_14_method_69_code 9 = .ok (.if_icmp .ge (35), 3) by decide +kernel) rfl (fun _ => ?_) (fun z => absurd q26 z)
      exact xv_w (sb232_44 E B  M h hN) rfl
    · rw [if_neg q26] at h
      refine xv_icmp_ge E 44 (show decode prog_14_method_69_code 9 = .ok (.if_icmp .ge (35), 3) by decide +kernel) rfl (fun z => absurd z q26) (fun _ => ?_)
      refine xv_b E [.aload_n 0] (pc' := 13) (lv' := [(0, .inr (.inr (some a0))), (1, .inl v1)]) (st' := [.inr (.inr (some a0))]) (by decide +kernel) rfl rfl ?_
      obtain ⟨o_3, h4, h⟩ := bd h
      refine xg_r E 12 33 h4 mw893 (show decode prog_14_method_69_code 13 = .ok (.getfield 94, 3) by decide +kernel) ?_
      refine xv_b E [.iload_n 1] (pc' := 17) (lv' := [(0, .inr (.inr (some a0))), (1, .inl v1)]) (st' := [.inl v1, .inr (.inr o_3)]) (by decide +kernel) rfl rfl ?_
      obtain ⟨v_5, h6, h⟩ := bd h
      refine xa_z E h6 (show decode prog_14_method_69_code 17 = .ok (.baload, 1) by decide +kernel) ?_
      by_cases q25 : v_5 = 0
      · rw [if_pos q25] at h
        refine xv_if_ne E 44 (show decode prog_14_method_69_code 18 = .ok (.ifCond .ne (26), 3) by decide +kernel) rfl (fun z => absurd q25 z) (fun _ => ?_)
        refine xv_b E [.aload_n 0] (pc' := 22) (lv' := [(0, .inr (.inr (some a0))), (1, .inl v1)]) (st' := [.inr (.inr (some a0))]) (by decide +kernel) rfl rfl ?_
        obtain ⟨o_7, h8, h⟩ := bd h
        refine xg_r E 12 14 h8 mw874 (show decode prog_14_method_69_code 22 = .ok (.getfield 37, 3) by decide +kernel) ?_
        refine xv_b E [.aload_n 0, .iload_n 1] (pc' := 27) (lv' := [(0, .inr (.inr (some a0))), (1, .inl v1)]) (st' := [.inl v1, .inr (.inr (some a0)), .inr (.inr o_7)]) (by decide +kernel) rfl rfl ?_
        obtain ⟨b_11, h12, h⟩ := bd h
        obtain ⟨eh12, th12⟩ := g_o_some h12
        obtain ⟨q_9, h10, h⟩ := bd h
        refine xv_cvo E eh12 12 (as := [.inl v1]) (t176 G l (c_I_some h10)) cd176 mw1040 mw1041 mw1042 (show decode prog_14_method_69_code 27 = .ok (.invokevirtual 352, 3) by decide +kernel) th12 rfl rfl (Nat.le_of_ble_eq_true rfl) ⟨Nat.le_of_ble_eq_true rfl, Nat.le_of_ble_eq_true rfl⟩ ?_
        obtain ⟨v_13, h14, h⟩ := bd h
        refine xa_i E h14 (show decode prog_14_method_69_code 30 = .ok (.iaload, 1) by decide +kernel) ?_
        refine xv_b E [.iconst (-1)] (pc' := 32) (lv' := [(0, .inr (.inr (some a0))), (1, .inl v1)]) (st' := [.inl (-1 : Int32), .inl v_13]) (by decide +kernel) rfl rfl ?_
        by_cases q24 : v_13 = (-1 : Int32)
        · rw [if_pos q24] at h
          refine xv_icmp_ne E 44 (show decode prog_14_method_69_code 32 = .ok (.if_icmp .ne (12), 3) by decide +kernel) rfl (fun z => absurd q24 z) (fun _ => ?_)
          refine xv_b E [.aload_n 0] (pc' := 36) (lv' := [(0, .inr (.inr (some a0))), (1, .inl v1)]) (st' := [.inr (.inr (some a0))]) (by decide +kernel) rfl rfl ?_
          obtain ⟨o_15, h16, h⟩ := bd h
          refine xg_r E 12 34 h16 mw894 (show decode prog_14_method_69_code 36 = .ok (.getfield 97, 3) by decide +kernel) ?_
          refine xv_b E [.iload_n 1] (pc' := 40) (lv' := [(0, .inr (.inr (some a0))), (1, .inl v1)]) (st' := [.inl v1, .inr (.inr o_15)]) (by decide +kernel) rfl rfl ?_
          obtain ⟨v_17, h18, h⟩ := bd h
          refine xa_z E h18 (show decode prog_14_method_69_code 40 = .ok (.baload, 1) by decide +kernel) ?_
          by_cases q23 : v_17 = 0
          · rw [if_pos q23] at h
            refine xv_if_eq E 46 (show decode prog_14_method_69_code 41 = .ok (.ifCond .eq (5), 3) by decide +kernel) rfl (fun _ => ?_) (fun z => absurd q23 z)
            refine xv_b E [.aload_n 0] (pc' := 47) (lv' := [(0, .inr (.inr (some a0))), (1, .inl v1)]) (st' := [.inr (.inr (some a0))]) (by decide +kernel) rfl rfl ?_
            obtain ⟨o_19, h20, h⟩ := bd h
            refine xg_r E 12 33 h20 mw893 (show decode prog_14_method_69_code 47 = .ok (.getfield 94, 3) by decide +kernel) ?_
            refine xv_b E [.iload_n 1, .iconst 1] (pc' := 52) (lv' := [(0, .inr (.inr (some a0))), (1, .inl v1)]) (st' := [.inl (1 : Int32), .inl v1, .inr (.inr o_19)]) (by decide +kernel) rfl rfl ?_
            obtain ⟨M21, h22, h⟩ := bd h
            refine xs_z E h22 (show decode prog_14_method_69_code 52 = .ok (.bastore, 1) by decide +kernel) ?_
            refine xv_b E [.iconst 1] (pc' := 54) (lv' := [(0, .inr (.inr (some a0))), (1, .inl v1)]) (st' := [.inl (1 : Int32)]) (by decide +kernel) rfl rfl ?_
            obtain rfl := Option.some.inj h
            obtain ⟨rfl, rfl⟩ := Prod.mk.inj (show ((some (.inl (1 : Int32)) : Option aV), M21) = (r, M') from hN)
            exact xv_ri E B.1 rfl B.2.1 (show decode prog_14_method_69_code 54 = .ok (.ireturn, 1) by decide +kernel) rfl rfl
          · rw [if_neg q23] at h
            refine xv_if_eq E 46 (show decode prog_14_method_69_code 41 = .ok (.ifCond .eq (5), 3) by decide +kernel) rfl (fun z => absurd z q23) (fun _ => ?_)
            exact xv_w (sb232_44 E B  q_9.2 h hN) rfl
        · rw [if_neg q24] at h
          refine xv_icmp_ne E 44 (show decode prog_14_method_69_code 32 = .ok (.if_icmp .ne (12), 3) by decide +kernel) rfl (fun _ => ?_) (fun z => absurd z q24)
          exact xv_w (sb232_44 E B  q_9.2 h hN) rfl
      · rw [if_neg q25] at h
        refine xv_if_ne E 44 (show decode prog_14_method_69_code 18 = .ok (.ifCond .ne (26), 3) by decide +kernel) rfl (fun _ => ?_) (fun z => absurd z q25)
        exact xv_w (sb232_44 E B  M h hN) rfl
end
theorem t232 (G : gX) (l : Launch) {as : List aV} {M : hM} {r : Option aV} {M' : hM} (h : f232 as M = some (r, M')) : xM G l ym232 prog_14_method_69_code 2 (some FieldType.boolean) 1 as M r M' := by
  unfold f232 at h
  split at h
  · have h := x_out_ok h
    refine xM_of (by decide) (Nat.le_of_ble_eq_true rfl) (lb232_0 G l _ _ M h) ?_
    intro p e s m args below meth c E B
    exact sb232_0 E B _ _ M h rfl
  · cases h
/-! ZFModel.wire(IIIII)I -/
def ym233 : MethodName := ⟨"ZonedFabricModel", "wire", "(IIIII)I"⟩
theorem cd233 : xCd ym233 prog_14_method_70_code 9 (some FieldType.int) 5 := ⟨mw1198, mw864, by decide, by decide, by decide +kernel⟩
def b233_44  (M : hM) : Option xRes :=
  some (.inl (some (.inl (-1 : Int32)), M))
def b233_112  (M : hM) : Option xRes :=
  some (.inl (some (.inl (-1 : Int32)), M))
def b233_169  (M : hM) : Option xRes :=
  some (.inl (some (.inl (-1 : Int32)), M))
def b233_145 (a0 : Nat) (v5 : Int32) (v7 : Int32) (si0 : Int32) (M : hM) : Option xRes :=
  Option.bind (g_r M 12 14 (some a0)) fun o_38 =>
  Option.bind (al_i M 20 o_38 v7) fun v_40 =>
  if v_40 = (-1 : Int32) then
    (Option.bind (g_r M 12 14 (some a0)) fun o_42 =>
    Option.bind (al_i M 20 o_42 si0) fun v_44 =>
    if v_44 = (-1 : Int32) then
      (Option.bind (g_r M 12 10 (some a0)) fun o_46 =>
      Option.bind (g_i M 12 13 (some a0)) fun v_48 =>
      Option.bind (as_i M 20 o_46 ((2 : Int32) * v_48) v7) fun M50 =>
      Option.bind (g_r M50 12 10 (some a0)) fun o_52 =>
      Option.bind (g_i M50 12 13 (some a0)) fun v_54 =>
      Option.bind (as_i M50 20 o_52 (((2 : Int32) * v_54) + (1 : Int32)) si0) fun M56 =>
      Option.bind (g_r M56 12 11 (some a0)) fun o_58 =>
      Option.bind (g_i M56 12 13 (some a0)) fun v_60 =>
      Option.bind (as_i M56 20 o_58 v_60 v5) fun M62 =>
      Option.bind (g_r M62 12 12 (some a0)) fun o_64 =>
      Option.bind (g_i M62 12 13 (some a0)) fun v_66 =>
      Option.bind (as_z M62 22 o_64 v_66 (1 : Int32)) fun M68 =>
      Option.bind (g_r M68 12 14 (some a0)) fun o_70 =>
      Option.bind (g_i M68 12 13 (some a0)) fun v_72 =>
      Option.bind (as_i M68 20 o_70 v7 v_72) fun M74 =>
      Option.bind (g_r M74 12 14 (some a0)) fun o_76 =>
      Option.bind (g_i M74 12 13 (some a0)) fun v_78 =>
      Option.bind (as_i M74 20 o_76 si0 v_78) fun M80 =>
      Option.bind (g_o M80 12 (some a0)) fun b_84 =>
      Option.bind (c_V (f187 [.inr (.inr (some b_84)), .inl v7] M80)) fun q_82 =>
      Option.bind (g_o q_82 12 (some a0)) fun b_88 =>
      Option.bind (c_V (f187 [.inr (.inr (some b_88)), .inl si0] q_82)) fun q_86 =>
      Option.bind (g_i q_86 12 13 (some a0)) fun v_90 =>
      Option.bind (p_i q_86 12 13 (some a0) (v_90 + (1 : Int32))) fun M92 =>
      Option.bind (g_i M92 12 13 (some a0)) fun v_94 =>
      some (.inl (some (.inl (v_94 - (1 : Int32))), M92)))
    else
      (b233_169  M))
  else
    (b233_169  M)
def b233_114 (a0 : Nat) (v1 : Int32) (v2 : Int32) (v3 : Int32) (v4 : Int32) (v5 : Int32) (v6 : Int32) (M : hM) : Option xRes :=
  Option.bind (g_o M 12 (some a0)) fun b_27 =>
  Option.bind (c_I (f175 [.inr (.inr (some b_27)), .inl v1, .inl v2] M)) fun q_25 =>
  if v6 = 0 then
    (Option.bind (g_o q_25.2 12 (some a0)) fun b_31 =>
    Option.bind (c_I (f175 [.inr (.inr (some b_31)), .inl v3, .inl v4] q_25.2)) fun q_29 =>
    b233_145 a0 v5 q_25.1 q_29.1 q_29.2)
  else
    (Option.bind (g_o q_25.2 12 (some a0)) fun b_35 =>
    Option.bind (c_I (f176 [.inr (.inr (some b_35)), .inl (v3 - (16 : Int32))] q_25.2)) fun q_33 =>
    b233_145 a0 v5 q_25.1 q_33.1 q_33.2)
def b233_57 (a0 : Nat) (v1 : Int32) (v2 : Int32) (v3 : Int32) (v4 : Int32) (v5 : Int32) (si0 : Int32) (M : hM) : Option xRes :=
  if si0 = 0 then
    (if v3 < 0 then
      (b233_112  M)
    else
      (Option.bind (g_i M 12 0 (some a0)) fun v_13 =>
      if v_13 ≤ v3 then
        (b233_112  M)
      else
        (if v3 = v1 then
          (b233_112  M)
        else
          (if v4 < 0 then
            (b233_112  M)
          else
            (if v4 ≤ (7 : Int32) then
              (b233_114 a0 v1 v2 v3 v4 v5 si0 M)
            else
              (b233_112  M))))))
  else
    (Option.bind (g_i M 12 1 (some a0)) fun v_20 =>
    if v_20 ≤ (v3 - (16 : Int32)) then
      (b233_112  M)
    else
      (if v4 = 0 then
        (b233_114 a0 v1 v2 v3 v4 v5 si0 M)
      else
        (b233_112  M)))
def b233_0 (a0 : Nat) (v1 : Int32) (v2 : Int32) (v3 : Int32) (v4 : Int32) (v5 : Int32) (M : hM) : Option xRes :=
  if v1 < 0 then
    (b233_44  M)
  else
    (Option.bind (g_i M 12 0 (some a0)) fun v_1 =>
    if v_1 ≤ v1 then
      (b233_44  M)
    else
      (if v2 < 0 then
        (b233_44  M)
      else
        (if (7 : Int32) < v2 then
          (b233_44  M)
        else
          (if v5 < (1 : Int32) then
            (b233_44  M)
          else
            (if (9 : Int32) < v5 then
              (b233_44  M)
            else
              (Option.bind (g_i M 12 13 (some a0)) fun v_3 =>
              if v_3 = (16 : Int32) then
                (b233_44  M)
              else
                (if v3 < (16 : Int32) then
                  (b233_57 a0 v1 v2 v3 v4 v5 (0 : Int32) M)
                else
                  (b233_57 a0 v1 v2 v3 v4 v5 (1 : Int32) M))))))))
def f233 (as : List aV) (M : hM) : xO := match as with
  | [.inr (.inr (some a0)), .inl v1, .inl v2, .inl v3, .inl v4, .inl v5] => x_out (b233_0 a0 v1 v2 v3 v4 v5 M)
  | _ => none
theorem lb233_44 (G : gX) (l : Launch)  (M : hM) {res : xRes} (h : b233_44  M = some res) : h_sz M ≤ r_sz res ∧ h_sl M ≤ r_sl res := by
  unfold b233_44 at h
  obtain rfl := Option.some.inj h
  show h_sz M ≤ h_sz M ∧ h_sl M ≤ h_sl M
  omega
theorem lb233_112 (G : gX) (l : Launch)  (M : hM) {res : xRes} (h : b233_112  M = some res) : h_sz M ≤ r_sz res ∧ h_sl M ≤ r_sl res := by
  unfold b233_112 at h
  obtain rfl := Option.some.inj h
  show h_sz M ≤ h_sz M ∧ h_sl M ≤ h_sl M
  omega
theorem lb233_169 (G : gX) (l : Launch)  (M : hM) {res : xRes} (h : b233_169  M = some res) : h_sz M ≤ r_sz res ∧ h_sl M ≤ r_sl res := by
  unfold b233_169 at h
  obtain rfl := Option.some.inj h
  show h_sz M ≤ h_sz M ∧ h_sl M ≤ h_sl M
  omega
theorem lb233_145 (G : gX) (l : Launch) (a0 : Nat) (v5 : Int32) (v7 : Int32) (si0 : Int32) (M : hM) {res : xRes} (h : b233_145 a0 v5 v7 si0 M = some res) : h_sz M ≤ r_sz res ∧ h_sl M ≤ r_sl res := by
  unfold b233_145 at h
  obtain ⟨o_38, h39, h⟩ := bd h
  obtain ⟨v_40, h41, h⟩ := bd h
  by_cases q97 : v_40 = (-1 : Int32)
  · rw [if_pos q97] at h
    obtain ⟨o_42, h43, h⟩ := bd h
    obtain ⟨v_44, h45, h⟩ := bd h
    by_cases q96 : v_44 = (-1 : Int32)
    · rw [if_pos q96] at h
      obtain ⟨o_46, h47, h⟩ := bd h
      obtain ⟨v_48, h49, h⟩ := bd h
      obtain ⟨M50, h51, h⟩ := bd h
      have eh51 := as_i_sz h51
      obtain ⟨o_52, h53, h⟩ := bd h
      obtain ⟨v_54, h55, h⟩ := bd h
      obtain ⟨M56, h57, h⟩ := bd h
      have eh57 := as_i_sz h57
      obtain ⟨o_58, h59, h⟩ := bd h
      obtain ⟨v_60, h61, h⟩ := bd h
      obtain ⟨M62, h63, h⟩ := bd h
      have eh63 := as_i_sz h63
      obtain ⟨o_64, h65, h⟩ := bd h
      obtain ⟨v_66, h67, h⟩ := bd h
      obtain ⟨M68, h69, h⟩ := bd h
      have eh69 := as_z_sz h69
      obtain ⟨o_70, h71, h⟩ := bd h
      obtain ⟨v_72, h73, h⟩ := bd h
      obtain ⟨M74, h75, h⟩ := bd h
      have eh75 := as_i_sz h75
      obtain ⟨o_76, h77, h⟩ := bd h
      obtain ⟨v_78, h79, h⟩ := bd h
      obtain ⟨M80, h81, h⟩ := bd h
      have eh81 := as_i_sz h81
      obtain ⟨b_84, h85, h⟩ := bd h
      obtain ⟨q_82, h83, h⟩ := bd h
      have eh83 := (t187 G l (c_V_some h83)).1
      obtain ⟨b_88, h89, h⟩ := bd h
      obtain ⟨q_86, h87, h⟩ := bd h
      have eh87 := (t187 G l (c_V_some h87)).1
      obtain ⟨v_90, h91, h⟩ := bd h
      obtain ⟨M92, h93, h⟩ := bd h
      have eh93 := p_i_sz h93
      obtain ⟨v_94, h95, h⟩ := bd h
      obtain rfl := Option.some.inj h
      show h_sz M ≤ h_sz M92 ∧ h_sl M ≤ h_sl M92
      omega
    · rw [if_neg q96] at h
      have e := lb233_169 G l  M h
      omega
  · rw [if_neg q97] at h
    have e := lb233_169 G l  M h
    omega
theorem lb233_114 (G : gX) (l : Launch) (a0 : Nat) (v1 : Int32) (v2 : Int32) (v3 : Int32) (v4 : Int32) (v5 : Int32) (v6 : Int32) (M : hM) {res : xRes} (h : b233_114 a0 v1 v2 v3 v4 v5 v6 M = some res) : h_sz M ≤ r_sz res ∧ h_sl M ≤ r_sl res := by
  unfold b233_114 at h
  obtain ⟨b_27, h28, h⟩ := bd h
  obtain ⟨q_25, h26, h⟩ := bd h
  have eh26 := (t175 G l (c_I_some h26)).1
  by_cases q37 : v6 = 0
  · rw [if_pos q37] at h
    obtain ⟨b_31, h32, h⟩ := bd h
    obtain ⟨q_29, h30, h⟩ := bd h
    have eh30 := (t175 G l (c_I_some h30)).1
    have e := lb233_145 G l a0 v5 q_25.1 q_29.1 q_29.2 h
    omega
  · rw [if_neg q37] at h
    obtain ⟨b_35, h36, h⟩ := bd h
    obtain ⟨q_33, h34, h⟩ := bd h
    have eh34 := (t176 G l (c_I_some h34)).1
    have e := lb233_145 G l a0 v5 q_25.1 q_33.1 q_33.2 h
    omega
theorem lb233_57 (G : gX) (l : Launch) (a0 : Nat) (v1 : Int32) (v2 : Int32) (v3 : Int32) (v4 : Int32) (v5 : Int32) (si0 : Int32) (M : hM) {res : xRes} (h : b233_57 a0 v1 v2 v3 v4 v5 si0 M = some res) : h_sz M ≤ r_sz res ∧ h_sl M ≤ r_sl res := by
  unfold b233_57 at h
  by_cases q24 : si0 = 0
  · rw [if_pos q24] at h
    by_cases q19 : v3 < 0
    · rw [if_pos q19] at h
      have e := lb233_112 G l  M h
      omega
    · rw [if_neg q19] at h
      obtain ⟨v_13, h14, h⟩ := bd h
      by_cases q18 : v_13 ≤ v3
      · rw [if_pos q18] at h
        have e := lb233_112 G l  M h
        omega
      · rw [if_neg q18] at h
        by_cases q17 : v3 = v1
        · rw [if_pos q17] at h
          have e := lb233_112 G l  M h
          omega
        · rw [if_neg q17] at h
          by_cases q16 : v4 < 0
          · rw [if_pos q16] at h
            have e := lb233_112 G l  M h
            omega
          · rw [if_neg q16] at h
            by_cases q15 : v4 ≤ (7 : Int32)
            · rw [if_pos q15] at h
              have e := lb233_114 G l a0 v1 v2 v3 v4 v5 si0 M h
              omega
            · rw [if_neg q15] at h
              have e := lb233_112 G l  M h
              omega
  · rw [if_neg q24] at h
    obtain ⟨v_20, h21, h⟩ := bd h
    by_cases q23 : v_20 ≤ (v3 - (16 : Int32))
    · rw [if_pos q23] at h
      have e := lb233_112 G l  M h
      omega
    · rw [if_neg q23] at h
      by_cases q22 : v4 = 0
      · rw [if_pos q22] at h
        have e := lb233_114 G l a0 v1 v2 v3 v4 v5 si0 M h
        omega
      · rw [if_neg q22] at h
        have e := lb233_112 G l  M h
        omega
theorem lb233_0 (G : gX) (l : Launch) (a0 : Nat) (v1 : Int32) (v2 : Int32) (v3 : Int32) (v4 : Int32) (v5 : Int32) (M : hM) {res : xRes} (h : b233_0 a0 v1 v2 v3 v4 v5 M = some res) : h_sz M ≤ r_sz res ∧ h_sl M ≤ r_sl res := by
  unfold b233_0 at h
  by_cases q12 : v1 < 0
  · rw [if_pos q12] at h
    have e := lb233_44 G l  M h
    omega
  · rw [if_neg q12] at h
    obtain ⟨v_1, h2, h⟩ := bd h
    by_cases q11 : v_1 ≤ v1
    · rw [if_pos q11] at h
      have e := lb233_44 G l  M h
      omega
    · rw [if_neg q11] at h
      by_cases q10 : v2 < 0
      · rw [if_pos q10] at h
        have e := lb233_44 G l  M h
        omega
      · rw [if_neg q10] at h
        by_cases q9 : (7 : Int32) < v2
        · rw [if_pos q9] at h
          have e := lb233_44 G l  M h
          omega
        · rw [if_neg q9] at h
          by_cases q8 : v5 < (1 : Int32)
          · rw [if_pos q8] at h
            have e := lb233_44 G l  M h
            omega
          · rw [if_neg q8] at h
            by_cases q7 : (9 : Int32) < v5
            · rw [if_pos q7] at h
              have e := lb233_44 G l  M h
              omega
            · rw [if_neg q7] at h
              obtain ⟨v_3, h4, h⟩ := bd h
              by_cases q6 : v_3 = (16 : Int32)
              · rw [if_pos q6] at h
                have e := lb233_44 G l  M h
                omega
              · rw [if_neg q6] at h
                by_cases q5 : v3 < (16 : Int32)
                · rw [if_pos q5] at h
                  have e := lb233_57 G l a0 v1 v2 v3 v4 v5 (0 : Int32) M h
                  omega
                · rw [if_neg q5] at h
                  have e := lb233_57 G l a0 v1 v2 v3 v4 v5 (1 : Int32) M h
                  omega
section
variable {p : Program} {l : Launch} {e : Env} {s : State} {m : MethodId} {args : Array Value} {below : List Frame} {meth : Method} {c : Code} {G : gX} {z0 y0 : Nat} {r : Option aV} {M' : hM}
theorem sb233_44 (E : xE G p (xRm 2 (h_sz M' - z0) (h_sl M' - y0)) s m args c prog_14_method_70_code "ZonedFabricModel" z0 y0 (h_sz M') (h_sl M') 9) (B : xB ym233 (some FieldType.int) meth)  (M : hM) {res : xRes} (h : b233_44  M = some res) (hN : xN (fun _ _ _ => False) r M' res) : xV G p l e (xRm 2 (h_sz M' - z0) (h_sl M' - y0)) s m args below meth c z0 y0 (h_sz M') (h_sl M') 9 (MQ below (xQc G r M') args s (h_sz M' - z0) (h_sl M' - y0) (xFr G)) 44 [] [] M := by
  unfold b233_44 at h
  refine xv_b E [.iconst (-1)] (pc' := 45) (lv' := []) (st' := [.inl (-1 : Int32)]) (by decide +kernel) rfl rfl ?_
  obtain rfl := Option.some.inj h
  obtain ⟨rfl, rfl⟩ := Prod.mk.inj (show ((some (.inl (-1 : Int32)) : Option aV), M) = (r, M') from hN)
  exact xv_ri E B.1 rfl B.2.1 (show decode prog_14_method_70_code 45 = .ok (.ireturn, 1) by decide +kernel) rfl rfl
theorem sb233_112 (E : xE G p (xRm 2 (h_sz M' - z0) (h_sl M' - y0)) s m args c prog_14_method_70_code "ZonedFabricModel" z0 y0 (h_sz M') (h_sl M') 9) (B : xB ym233 (some FieldType.int) meth)  (M : hM) {res : xRes} (h : b233_112  M = some res) (hN : xN (fun _ _ _ => False) r M' res) : xV G p l e (xRm 2 (h_sz M' - z0) (h_sl M' - y0)) s m args below meth c z0 y0 (h_sz M') (h_sl M') 9 (MQ below (xQc G r M') args s (h_sz M' - z0) (h_sl M' - y0) (xFr G)) 112 [] [] M := by
  unfold b233_112 at h
  refine xv_b E [.iconst (-1)] (pc' := 113) (lv' := []) (st' := [.inl (-1 : Int32)]) (by decide +kernel) rfl rfl ?_
  obtain rfl := Option.some.inj h
  obtain ⟨rfl, rfl⟩ := Prod.mk.inj (show ((some (.inl (-1 : Int32)) : Option aV), M) = (r, M') from hN)
  exact xv_ri E B.1 rfl B.2.1 (show decode prog_14_method_70_code 113 = .ok (.ireturn, 1) by decide +kernel) rfl rfl
theorem sb233_169 (E : xE G p (xRm 2 (h_sz M' - z0) (h_sl M' - y0)) s m args c prog_14_method_70_code "ZonedFabricModel" z0 y0 (h_sz M') (h_sl M') 9) (B : xB ym233 (some FieldType.int) meth)  (M : hM) {res : xRes} (h : b233_169  M = some res) (hN : xN (fun _ _ _ => False) r M' res) : xV G p l e (xRm 2 (h_sz M' - z0) (h_sl M' - y0)) s m args below meth c z0 y0 (h_sz M') (h_sl M') 9 (MQ below (xQc G r M') args s (h_sz M' - z0) (h_sl M' - y0) (xFr G)) 169 [] [] M := by
  unfold b233_169 at h
  refine xv_b E [.iconst (-1)] (pc' := 170) (lv' := []) (st' := [.inl (-1 : Int32)]) (by decide +kernel) rfl rfl ?_
  obtain rfl := Option.some.inj h
  obtain ⟨rfl, rfl⟩ := Prod.mk.inj (show ((some (.inl (-1 : Int32)) : Option aV), M) = (r, M') from hN)
  exact xv_ri E B.1 rfl B.2.1 (show decode prog_14_method_70_code 170 = .ok (.ireturn, 1) by decide +kernel) rfl rfl
theorem sb233_145 (E : xE G p (xRm 2 (h_sz M' - z0) (h_sl M' - y0)) s m args c prog_14_method_70_code "ZonedFabricModel" z0 y0 (h_sz M') (h_sl M') 9) (B : xB ym233 (some FieldType.int) meth) (a0 : Nat) (v5 : Int32) (v7 : Int32) (si0 : Int32) (M : hM) {res : xRes} (h : b233_145 a0 v5 v7 si0 M = some res) (hN : xN (fun _ _ _ => False) r M' res) : xV G p l e (xRm 2 (h_sz M' - z0) (h_sl M' - y0)) s m args below meth c z0 y0 (h_sz M') (h_sl M') 9 (MQ below (xQc G r M') args s (h_sz M' - z0) (h_sl M' - y0) (xFr G)) 145 [(0, .inr (.inr (some a0))), (5, .inl v5), (7, .inl v7)] [.inl si0] M := by
  unfold b233_145 at h
  refine xv_b E [.istore 8, .aload_n 0] (pc' := 148) (lv' := [(8, .inl si0), (0, .inr (.inr (some a0))), (5, .inl v5), (7, .inl v7)]) (st' := [.inr (.inr (some a0))]) (by decide +kernel) rfl rfl ?_
  obtain ⟨o_38, h39, h⟩ := bd h
  refine xg_r E 12 14 h39 mw874 (show decode prog_14_method_70_code 148 = .ok (.getfield 37, 3) by decide +kernel) ?_
  refine xv_b E [.iload 7] (pc' := 153) (lv' := [(8, .inl si0), (0, .inr (.inr (some a0))), (5, .inl v5), (7, .inl v7)]) (st' := [.inl v7, .inr (.inr o_38)]) (by decide +kernel) rfl rfl ?_
  obtain ⟨v_40, h41, h⟩ := bd h
  refine xa_i E h41 (show decode prog_14_method_70_code 153 = .ok (.iaload, 1) by decide +kernel) ?_
  refine xv_b E [.iconst (-1)] (pc' := 155) (lv' := [(8, .inl si0), (0, .inr (.inr (some a0))), (5, .inl v5), (7, .inl v7)]) (st' := [.inl (-1 : Int32), .inl v_40]) (by decide +kernel) rfl rfl ?_
  by_cases q97 : v_40 = (-1 : Int32)
  · rw [if_pos q97] at h
    refine xv_icmp_ne E 169 (show decode prog_14_method_70_code 155 = .ok (.if_icmp .ne (14), 3) by decide +kernel) rfl (fun z => absurd q97 z) (fun _ => ?_)
    refine xv_b E [.aload_n 0] (pc' := 159) (lv' := [(8, .inl si0), (0, .inr (.inr (some a0))), (5, .inl v5), (7, .inl v7)]) (st' := [.inr (.inr (some a0))]) (by decide +kernel) rfl rfl ?_
    obtain ⟨o_42, h43, h⟩ := bd h
    refine xg_r E 12 14 h43 mw874 (show decode prog_14_method_70_code 159 = .ok (.getfield 37, 3) by decide +kernel) ?_
    refine xv_b E [.iload 8] (pc' := 164) (lv' := [(8, .inl si0), (0, .inr (.inr (some a0))), (5, .inl v5), (7, .inl v7)]) (st' := [.inl si0, .inr (.inr o_42)]) (by decide +kernel) rfl rfl ?_
    obtain ⟨v_44, h45, h⟩ := bd h
    refine xa_i E h45 (show decode prog_14_method_70_code 164 = .ok (.iaload, 1) by decide +kernel) ?_
    refine xv_b E [.iconst (-1)] (pc' := 166) (lv' := [(8, .inl si0), (0, .inr (.inr (some a0))), (5, .inl v5), (7, .inl v7)]) (st' := [.inl (-1 : Int32), .inl v_44]) (by decide +kernel) rfl rfl ?_
    by_cases q96 : v_44 = (-1 : Int32)
    · rw [if_pos q96] at h
      refine xv_icmp_eq E 171 (show decode prog_14_method_70_code 166 = .ok (.if_icmp .eq (5), 3) by decide +kernel) rfl (fun _ => ?_) (fun z => absurd q96 z)
      refine xv_b E [.aload_n 0] (pc' := 172) (lv' := [(8, .inl si0), (0, .inr (.inr (some a0))), (5, .inl v5), (7, .inl v7)]) (st' := [.inr (.inr (some a0))]) (by decide +kernel) rfl rfl ?_
      obtain ⟨o_46, h47, h⟩ := bd h
      refine xg_r E 12 10 h47 mw870 (show decode prog_14_method_70_code 172 = .ok (.getfield 27, 3) by decide +kernel) ?_
      refine xv_b E [.iconst 2, .aload_n 0] (pc' := 177) (lv' := [(8, .inl si0), (0, .inr (.inr (some a0))), (5, .inl v5), (7, .inl v7)]) (st' := [.inr (.inr (some a0)), .inl (2 : Int32), .inr (.inr o_46)]) (by decide +kernel) rfl rfl ?_
      obtain ⟨v_48, h49, h⟩ := bd h
      refine xg_i E 12 13 h49 mw1199 (show decode prog_14_method_70_code 177 = .ok (.getfield 414, 3) by decide +kernel) ?_
      refine xv_b E [.imul, .iload 7] (pc' := 183) (lv' := [(8, .inl si0), (0, .inr (.inr (some a0))), (5, .inl v5), (7, .inl v7)]) (st' := [.inl v7, .inl ((2 : Int32) * v_48), .inr (.inr o_46)]) (by decide +kernel) rfl rfl ?_
      obtain ⟨M50, h51, h⟩ := bd h
      refine xs_i E h51 (show decode prog_14_method_70_code 183 = .ok (.iastore, 1) by decide +kernel) ?_
      refine xv_b E [.aload_n 0] (pc' := 185) (lv' := [(8, .inl si0), (0, .inr (.inr (some a0))), (5, .inl v5), (7, .inl v7)]) (st' := [.inr (.inr (some a0))]) (by decide +kernel) rfl rfl ?_
      obtain ⟨o_52, h53, h⟩ := bd h
      refine xg_r E 12 10 h53 mw870 (show decode prog_14_method_70_code 185 = .ok (.getfield 27, 3) by decide +kernel) ?_
      refine xv_b E [.iconst 2, .aload_n 0] (pc' := 190) (lv' := [(8, .inl si0), (0, .inr (.inr (some a0))), (5, .inl v5), (7, .inl v7)]) (st' := [.inr (.inr (some a0)), .inl (2 : Int32), .inr (.inr o_52)]) (by decide +kernel) rfl rfl ?_
      obtain ⟨v_54, h55, h⟩ := bd h
      refine xg_i E 12 13 h55 mw1199 (show decode prog_14_method_70_code 190 = .ok (.getfield 414, 3) by decide +kernel) ?_
      refine xv_b E [.imul, .iconst 1, .iadd, .iload 8] (pc' := 198) (lv' := [(8, .inl si0), (0, .inr (.inr (some a0))), (5, .inl v5), (7, .inl v7)]) (st' := [.inl si0, .inl (((2 : Int32) * v_54) + (1 : Int32)), .inr (.inr o_52)]) (by decide +kernel) rfl rfl ?_
      obtain ⟨M56, h57, h⟩ := bd h
      refine xs_i E h57 (show decode prog_14_method_70_code 198 = .ok (.iastore, 1) by decide +kernel) ?_
      refine xv_b E [.aload_n 0] (pc' := 200) (lv' := [(8, .inl si0), (0, .inr (.inr (some a0))), (5, .inl v5), (7, .inl v7)]) (st' := [.inr (.inr (some a0))]) (by decide +kernel) rfl rfl ?_
      obtain ⟨o_58, h59, h⟩ := bd h
      refine xg_r E 12 11 h59 mw871 (show decode prog_14_method_70_code 200 = .ok (.getfield 30, 3) by decide +kernel) ?_
      refine xv_b E [.aload_n 0] (pc' := 204) (lv' := [(8, .inl si0), (0, .inr (.inr (some a0))), (5, .inl v5), (7, .inl v7)]) (st' := [.inr (.inr (some a0)), .inr (.inr o_58)]) (by decide +kernel) rfl rfl ?_
      obtain ⟨v_60, h61, h⟩ := bd h
      refine xg_i E 12 13 h61 mw1199 (show decode prog_14_method_70_code 204 = .ok (.getfield 414, 3) by decide +kernel) ?_
      refine xv_b E [.iload 5] (pc' := 209) (lv' := [(8, .inl si0), (0, .inr (.inr (some a0))), (5, .inl v5), (7, .inl v7)]) (st' := [.inl v5, .inl v_60, .inr (.inr o_58)]) (by decide +kernel) rfl rfl ?_
      obtain ⟨M62, h63, h⟩ := bd h
      refine xs_i E h63 (show decode prog_14_method_70_code 209 = .ok (.iastore, 1) by decide +kernel) ?_
      refine xv_b E [.aload_n 0] (pc' := 211) (lv' := [(8, .inl si0), (0, .inr (.inr (some a0))), (5, .inl v5), (7, .inl v7)]) (st' := [.inr (.inr (some a0))]) (by decide +kernel) rfl rfl ?_
      obtain ⟨o_64, h65, h⟩ := bd h
      refine xg_r E 12 12 h65 mw873 (show decode prog_14_method_70_code 211 = .ok (.getfield 33, 3) by decide +kernel) ?_
      refine xv_b E [.aload_n 0] (pc' := 215) (lv' := [(8, .inl si0), (0, .inr (.inr (some a0))), (5, .inl v5), (7, .inl v7)]) (st' := [.inr (.inr (some a0)), .inr (.inr o_64)]) (by decide +kernel) rfl rfl ?_
      obtain ⟨v_66, h67, h⟩ := bd h
      refine xg_i E 12 13 h67 mw1199 (show decode prog_14_method_70_code 215 = .ok (.getfield 414, 3) by decide +kernel) ?_
      refine xv_b E [.iconst 1] (pc' := 219) (lv' := [(8, .inl si0), (0, .inr (.inr (some a0))), (5, .inl v5), (7, .inl v7)]) (st' := [.inl (1 : Int32), .inl v_66, .inr (.inr o_64)]) (by decide +kernel) rfl rfl ?_
      obtain ⟨M68, h69, h⟩ := bd h
      refine xs_z E h69 (show decode prog_14_method_70_code 219 = .ok (.bastore, 1) by decide +kernel) ?_
      refine xv_b E [.aload_n 0] (pc' := 221) (lv' := [(8, .inl si0), (0, .inr (.inr (some a0))), (5, .inl v5), (7, .inl v7)]) (st' := [.inr (.inr (some a0))]) (by decide +kernel) rfl rfl ?_
      obtain ⟨o_70, h71, h⟩ := bd h
      refine xg_r E 12 14 h71 mw874 (show decode prog_14_method_70_code 221 = .ok (.getfield 37, 3) by decide +kernel) ?_
      refine xv_b E [.iload 7, .aload_n 0] (pc' := 227) (lv' := [(8, .inl si0), (0, .inr (.inr (some a0))), (5, .inl v5), (7, .inl v7)]) (st' := [.inr (.inr (some a0)), .inl v7, .inr (.inr o_70)]) (by decide +kernel) rfl rfl ?_
      obtain ⟨v_72, h73, h⟩ := bd h
      refine xg_i E 12 13 h73 mw1199 (show decode prog_14_method_70_code 227 = .ok (.getfield 414, 3) by decide +kernel) ?_
      obtain ⟨M74, h75, h⟩ := bd h
      refine xs_i E h75 (show decode prog_14_method_70_code 230 = .ok (.iastore, 1) by decide +kernel) ?_
      refine xv_b E [.aload_n 0] (pc' := 232) (lv' := [(8, .inl si0), (0, .inr (.inr (some a0))), (5, .inl v5), (7, .inl v7)]) (st' := [.inr (.inr (some a0))]) (by decide +kernel) rfl rfl ?_
      obtain ⟨o_76, h77, h⟩ := bd h
      refine xg_r E 12 14 h77 mw874 (show decode prog_14_method_70_code 232 = .ok (.getfield 37, 3) by decide +kernel) ?_
      refine xv_b E [.iload 8, .aload_n 0] (pc' := 238) (lv' := [(8, .inl si0), (0, .inr (.inr (some a0))), (5, .inl v5), (7, .inl v7)]) (st' := [.inr (.inr (some a0)), .inl si0, .inr (.inr o_76)]) (by decide +kernel) rfl rfl ?_
      obtain ⟨v_78, h79, h⟩ := bd h
      refine xg_i E 12 13 h79 mw1199 (show decode prog_14_method_70_code 238 = .ok (.getfield 414, 3) by decide +kernel) ?_
      obtain ⟨M80, h81, h⟩ := bd h
      refine xs_i E h81 (show decode prog_14_method_70_code 241 = .ok (.iastore, 1) by decide +kernel) ?_
      refine xv_b E [.aload_n 0, .iload 7] (pc' := 245) (lv' := [(8, .inl si0), (0, .inr (.inr (some a0))), (5, .inl v5), (7, .inl v7)]) (st' := [.inl v7, .inr (.inr (some a0))]) (by decide +kernel) rfl rfl ?_
      obtain ⟨b_84, h85, h⟩ := bd h
      obtain ⟨eh85, th85⟩ := g_o_some h85
      obtain ⟨q_82, h83, h⟩ := bd h
      refine xv_cvo E eh85 12 (as := [.inl v7]) (t187 G l (c_V_some h83)) cd187 mw1200 mw1201 mw1202 (show decode prog_14_method_70_code 245 = .ok (.invokevirtual 417, 3) by decide +kernel) th85 rfl rfl (Nat.le_of_ble_eq_true rfl) ⟨Nat.le_of_ble_eq_true rfl, Nat.le_of_ble_eq_true rfl⟩ ?_
      refine xv_b E [.aload_n 0, .iload 8] (pc' := 251) (lv' := [(8, .inl si0), (0, .inr (.inr (some a0))), (5, .inl v5), (7, .inl v7)]) (st' := [.inl si0, .inr (.inr (some a0))]) (by decide +kernel) rfl rfl ?_
      obtain ⟨b_88, h89, h⟩ := bd h
      obtain ⟨eh89, th89⟩ := g_o_some h89
      obtain ⟨q_86, h87, h⟩ := bd h
      refine xv_cvo E eh89 12 (as := [.inl si0]) (t187 G l (c_V_some h87)) cd187 mw1200 mw1201 mw1202 (show decode prog_14_method_70_code 251 = .ok (.invokevirtual 417, 3) by decide +kernel) th89 rfl rfl (Nat.le_of_ble_eq_true rfl) ⟨Nat.le_of_ble_eq_true rfl, Nat.le_of_ble_eq_true rfl⟩ ?_
      refine xv_b E [.aload_n 0, .dup] (pc' := 256) (lv' := [(8, .inl si0), (0, .inr (.inr (some a0))), (5, .inl v5), (7, .inl v7)]) (st' := [.inr (.inr (some a0)), .inr (.inr (some a0))]) (by decide +kernel) rfl rfl ?_
      obtain ⟨v_90, h91, h⟩ := bd h
      refine xg_i E 12 13 h91 mw1199 (show decode prog_14_method_70_code 256 = .ok (.getfield 414, 3) by decide +kernel) ?_
      refine xv_b E [.iconst 1, .iadd] (pc' := 261) (lv' := [(8, .inl si0), (0, .inr (.inr (some a0))), (5, .inl v5), (7, .inl v7)]) (st' := [.inl (v_90 + (1 : Int32)), .inr (.inr (some a0))]) (by decide +kernel) rfl rfl ?_
      obtain ⟨M92, h93, h⟩ := bd h
      refine xp_i E 12 13 h93 mw1199 (show decode prog_14_method_70_code 261 = .ok (.putfield 414, 3) by decide +kernel) (Or.inl rfl) ?_
      refine xv_b E [.aload_n 0] (pc' := 265) (lv' := [(8, .inl si0), (0, .inr (.inr (some a0))), (5, .inl v5), (7, .inl v7)]) (st' := [.inr (.inr (some a0))]) (by decide +kernel) rfl rfl ?_
      obtain ⟨v_94, h95, h⟩ := bd h
      refine xg_i E 12 13 h95 mw1199 (show decode prog_14_method_70_code 265 = .ok (.getfield 414, 3) by decide +kernel) ?_
      refine xv_b E [.iconst 1, .isub] (pc' := 270) (lv' := [(8, .inl si0), (0, .inr (.inr (some a0))), (5, .inl v5), (7, .inl v7)]) (st' := [.inl (v_94 - (1 : Int32))]) (by decide +kernel) rfl rfl ?_
      obtain rfl := Option.some.inj h
      obtain ⟨rfl, rfl⟩ := Prod.mk.inj (show ((some (.inl (v_94 - (1 : Int32))) : Option aV), M92) = (r, M') from hN)
      exact xv_ri E B.1 rfl B.2.1 (show decode prog_14_method_70_code 270 = .ok (.ireturn, 1) by decide +kernel) rfl rfl
    · rw [if_neg q96] at h
      refine xv_icmp_eq E 171 (show decode prog_14_method_70_code 166 = .ok (.if_icmp .eq (5), 3) by decide +kernel) rfl (fun z => absurd z q96) (fun _ => ?_)
      exact xv_w (sb233_169 E B  M h hN) rfl
  · rw [if_neg q97] at h
    refine xv_icmp_ne E 169 (show decode prog_14_method_70_code 155 = .ok (.if_icmp .ne (14), 3) by decide +kernel) rfl (fun _ => ?_) (fun z => absurd z q97)
    exact xv_w (sb233_169 E B  M h hN) rfl
theorem sb233_114 (E : xE G p (xRm 2 (h_sz M' - z0) (h_sl M' - y0)) s m args c prog_14_method_70_code "ZonedFabricModel" z0 y0 (h_sz M') (h_sl M') 9) (B : xB ym233 (some FieldType.int) meth) (a0 : Nat) (v1 : Int32) (v2 : Int32) (v3 : Int32) (v4 : Int32) (v5 : Int32) (v6 : Int32) (M : hM) {res : xRes} (h : b233_114 a0 v1 v2 v3 v4 v5 v6 M = some res) (hN : xN (fun _ _ _ => False) r M' res) : xV G p l e (xRm 2 (h_sz M' - z0) (h_sl M' - y0)) s m args below meth c z0 y0 (h_sz M') (h_sl M') 9 (MQ below (xQc G r M') args s (h_sz M' - z0) (h_sl M' - y0) (xFr G)) 114 [(0, .inr (.inr (some a0))), (1, .inl v1), (2, .inl v2), (3, .inl v3), (4, .inl v4), (5, .inl v5), (6, .inl v6)] [] M := by
  unfold b233_114 at h
  refine xv_b E [.aload_n 0, .iload_n 1, .iload_n 2] (pc' := 117) (lv' := [(0, .inr (.inr (some a0))), (1, .inl v1), (2, .inl v2), (3, .inl v3), (4, .inl v4), (5, .inl v5), (6, .inl v6)]) (st' := [.inl v2, .inl v1, .inr (.inr (some a0))]) (by decide +kernel) rfl rfl ?_
  obtain ⟨b_27, h28, h⟩ := bd h
  obtain ⟨eh28, th28⟩ := g_o_some h28
  obtain ⟨q_25, h26, h⟩ := bd h
  refine xv_cvo E eh28 12 (as := [.inl v1, .inl v2]) (t175 G l (c_I_some h26)) cd175 mw1134 mw1135 mw1136 (show decode prog_14_method_70_code 117 = .ok (.invokevirtual 288, 3) by decide +kernel) th28 rfl rfl (Nat.le_of_ble_eq_true rfl) ⟨Nat.le_of_ble_eq_true rfl, Nat.le_of_ble_eq_true rfl⟩ ?_
  refine xv_b E [.istore 7, .iload 6] (pc' := 124) (lv' := [(7, .inl q_25.1), (0, .inr (.inr (some a0))), (1, .inl v1), (2, .inl v2), (3, .inl v3), (4, .inl v4), (5, .inl v5), (6, .inl v6)]) (st' := [.inl v6]) (by decide +kernel) rfl rfl ?_
  by_cases q37 : v6 = 0
  · rw [if_pos q37] at h
    refine xv_if_eq E 138 (show decode prog_14_method_70_code 124 = .ok (.ifCond .eq (14), 3) by decide +kernel) rfl (fun _ => ?_) (fun z => absurd q37 z)
    refine xv_b E [.aload_n 0, .iload_n 3, .iload 4] (pc' := 142) (lv' := [(7, .inl q_25.1), (0, .inr (.inr (some a0))), (1, .inl v1), (2, .inl v2), (3, .inl v3), (4, .inl v4), (5, .inl v5), (6, .inl v6)]) (st' := [.inl v4, .inl v3, .inr (.inr (some a0))]) (by decide +kernel) rfl rfl ?_
    obtain ⟨b_31, h32, h⟩ := bd h
    obtain ⟨eh32, th32⟩ := g_o_some h32
    obtain ⟨q_29, h30, h⟩ := bd h
    refine xv_cvo E eh32 12 (as := [.inl v3, .inl v4]) (t175 G l (c_I_some h30)) cd175 mw1134 mw1135 mw1136 (show decode prog_14_method_70_code 142 = .ok (.invokevirtual 288, 3) by decide +kernel) th32 rfl rfl (Nat.le_of_ble_eq_true rfl) ⟨Nat.le_of_ble_eq_true rfl, Nat.le_of_ble_eq_true rfl⟩ ?_
    exact xv_w (sb233_145 E B a0 v5 q_25.1 q_29.1 q_29.2 h hN) rfl
  · rw [if_neg q37] at h
    refine xv_if_eq E 138 (show decode prog_14_method_70_code 124 = .ok (.ifCond .eq (14), 3) by decide +kernel) rfl (fun z => absurd z q37) (fun _ => ?_)
    refine xv_b E [.aload_n 0, .iload_n 3, .bipush 16, .isub] (pc' := 132) (lv' := [(7, .inl q_25.1), (0, .inr (.inr (some a0))), (1, .inl v1), (2, .inl v2), (3, .inl v3), (4, .inl v4), (5, .inl v5), (6, .inl v6)]) (st' := [.inl (v3 - (16 : Int32)), .inr (.inr (some a0))]) (by decide +kernel) rfl rfl ?_
    obtain ⟨b_35, h36, h⟩ := bd h
    obtain ⟨eh36, th36⟩ := g_o_some h36
    obtain ⟨q_33, h34, h⟩ := bd h
    refine xv_cvo E eh36 12 (as := [.inl (v3 - (16 : Int32))]) (t176 G l (c_I_some h34)) cd176 mw1040 mw1041 mw1042 (show decode prog_14_method_70_code 132 = .ok (.invokevirtual 352, 3) by decide +kernel) th36 rfl rfl (Nat.le_of_ble_eq_true rfl) ⟨Nat.le_of_ble_eq_true rfl, Nat.le_of_ble_eq_true rfl⟩ ?_
    refine xv_goto E 145 (show decode prog_14_method_70_code 135 = .ok (.goto (10), 3) by decide +kernel) rfl ?_
    exact xv_w (sb233_145 E B a0 v5 q_25.1 q_33.1 q_33.2 h hN) rfl
theorem sb233_57 (E : xE G p (xRm 2 (h_sz M' - z0) (h_sl M' - y0)) s m args c prog_14_method_70_code "ZonedFabricModel" z0 y0 (h_sz M') (h_sl M') 9) (B : xB ym233 (some FieldType.int) meth) (a0 : Nat) (v1 : Int32) (v2 : Int32) (v3 : Int32) (v4 : Int32) (v5 : Int32) (si0 : Int32) (M : hM) {res : xRes} (h : b233_57 a0 v1 v2 v3 v4 v5 si0 M = some res) (hN : xN (fun _ _ _ => False) r M' res) : xV G p l e (xRm 2 (h_sz M' - z0) (h_sl M' - y0)) s m args below meth c z0 y0 (h_sz M') (h_sl M') 9 (MQ below (xQc G r M') args s (h_sz M' - z0) (h_sl M' - y0) (xFr G)) 57 [(0, .inr (.inr (some a0))), (1, .inl v1), (2, .inl v2), (3, .inl v3), (4, .inl v4), (5, .inl v5)] [.inl si0] M := by
  unfold b233_57 at h
  refine xv_b E [.istore 6, .iload 6] (pc' := 61) (lv' := [(6, .inl si0), (0, .inr (.inr (some a0))), (1, .inl v1), (2, .inl v2), (3, .inl v3), (4, .inl v4), (5, .inl v5)]) (st' := [.inl si0]) (by decide +kernel) rfl rfl ?_
  by_cases q24 : si0 = 0
  · rw [if_pos q24] at h
    refine xv_if_eq E 83 (show decode prog_14_method_70_code 61 = .ok (.ifCond .eq (22), 3) by decide +kernel) rfl (fun _ => ?_) (fun z => absurd q24 z)
    refine xv_b E [.iload_n 3] (pc' := 84) (lv' := [(6, .inl si0), (0, .inr (.inr (some a0))), (1, .inl v1), (2, .inl v2), (3, .inl v3), (4, .inl v4), (5, .inl v5)]) (st' := [.inl v3]) (by decide +kernel) rfl rfl ?_
    by_cases q19 : v3 < 0
    · rw [if_pos q19] at h
      refine xv_if_lt E 112 (show decode prog_14_method_70_code 84 = .ok (.ifCond .lt (28), 3) by decide +kernel) rfl (fun _ => ?_) (fun z => absurd q19 z)
      exact xv_w (sb233_112 E B  M h hN) rfl
    · rw [if_neg q19] at h
      refine xv_if_lt E 112 (show decode prog_14_method_70_code 84 = .ok (.ifCond .lt (28), 3) by decide +kernel) rfl (fun z => absurd z q19) (fun _ => ?_)
      refine xv_b E [.iload_n 3, .aload_n 0] (pc' := 89) (lv' := [(6, .inl si0), (0, .inr (.inr (some a0))), (1, .inl v1), (2, .inl v2), (3, .inl v3), (4, .inl v4), (5, .inl v5)]) (st' := [.inr (.inr (some a0)), .inl v3]) (by decide +kernel) rfl rfl ?_
      obtain ⟨v_13, h14, h⟩ := bd h
      refine xg_i E 12 0 h14 mw921 (show decode prog_14_method_70_code 89 = .ok (.getfield 173, 3) by decide +kernel) ?_
      by_cases q18 : v_13 ≤ v3
      · rw [if_pos q18] at h
        refine xv_icmp_ge E 112 (show decode prog_14_method_70_code 92 = .ok (.if_icmp .ge (20), 3) by decide +kernel) rfl (fun _ => ?_) (fun z => absurd q18 z)
        exact xv_w (sb233_112 E B  M h hN) rfl
      · rw [if_neg q18] at h
        refine xv_icmp_ge E 112 (show decode prog_14_method_70_code 92 = .ok (.if_icmp .ge (20), 3) by decide +kernel) rfl (fun z => absurd z q18) (fun _ => ?_)
        refine xv_b E [.iload_n 3, .iload_n 1] (pc' := 97) (lv' := [(6, .inl si0), (0, .inr (.inr (some a0))), (1, .inl v1), (2, .inl v2), (3, .inl v3), (4, .inl v4), (5, .inl v5)]) (st' := [.inl v1, .inl v3]) (by decide +kernel) rfl rfl ?_
        by_cases q17 : v3 = v1
        · rw [if_pos q17] at h
          refine xv_icmp_eq E 112 (show decode prog_14_method_70_code 97 = .ok (.if_icmp .eq (15), 3) by decide +kernel) rfl (fun _ => ?_) (fun z => absurd q17 z)
          exact xv_w (sb233_112 E B  M h hN) rfl
        · rw [if_neg q17] at h
          refine xv_icmp_eq E 112 (show decode prog_14_method_70_code 97 = .ok (.if_icmp .eq (15), 3) by decide +kernel) rfl (fun z => absurd z q17) (fun _ => ?_)
          refine xv_b E [.iload 4] (pc' := 102) (lv' := [(6, .inl si0), (0, .inr (.inr (some a0))), (1, .inl v1), (2, .inl v2), (3, .inl v3), (4, .inl v4), (5, .inl v5)]) (st' := [.inl v4]) (by decide +kernel) rfl rfl ?_
          by_cases q16 : v4 < 0
          · rw [if_pos q16] at h
            refine xv_if_lt E 112 (show decode prog_14_method_70_code 102 = .ok (.ifCond .lt (10), 3) by decide +kernel) rfl (fun _ => ?_) (fun z => absurd q16 z)
            exact xv_w (sb233_112 E B  M h hN) rfl
          · rw [if_neg q16] at h
            refine xv_if_lt E 112 (show decode prog_14_method_70_code 102 = .ok (.ifCond .lt (10), 3) by decide +kernel) rfl (fun z => absurd z q16) (fun _ => ?_)
            refine xv_b E [.iload 4, .bipush 7] (pc' := 109) (lv' := [(6, .inl si0), (0, .inr (.inr (some a0))), (1, .inl v1), (2, .inl v2), (3, .inl v3), (4, .inl v4), (5, .inl v5)]) (st' := [.inl (7 : Int32), .inl v4]) (by decide +kernel) rfl rfl ?_
            by_cases q15 : v4 ≤ (7 : Int32)
            · rw [if_pos q15] at h
              refine xv_icmp_le E 114 (show decode prog_14_method_70_code 109 = .ok (.if_icmp .le (5), 3) by decide +kernel) rfl (fun _ => ?_) (fun z => absurd q15 z)
              exact xv_w (sb233_114 E B a0 v1 v2 v3 v4 v5 si0 M h hN) rfl
            · rw [if_neg q15] at h
              refine xv_icmp_le E 114 (show decode prog_14_method_70_code 109 = .ok (.if_icmp .le (5), 3) by decide +kernel) rfl (fun z => absurd z q15) (fun _ => ?_)
              exact xv_w (sb233_112 E B  M h hN) rfl
  · rw [if_neg q24] at h
    refine xv_if_eq E 83 (show decode prog_14_method_70_code 61 = .ok (.ifCond .eq (22), 3) by decide +kernel) rfl (fun z => absurd z q24) (fun _ => ?_)
    refine xv_b E [.iload_n 3, .bipush 16, .isub, .aload_n 0] (pc' := 69) (lv' := [(6, .inl si0), (0, .inr (.inr (some a0))), (1, .inl v1), (2, .inl v2), (3, .inl v3), (4, .inl v4), (5, .inl v5)]) (st' := [.inr (.inr (some a0)), .inl (v3 - (16 : Int32))]) (by decide +kernel) rfl rfl ?_
    obtain ⟨v_20, h21, h⟩ := bd h
    refine xg_i E 12 1 h21 mw922 (show decode prog_14_method_70_code 69 = .ok (.getfield 177, 3) by decide +kernel) ?_
    by_cases q23 : v_20 ≤ (v3 - (16 : Int32))
    · rw [if_pos q23] at h
      refine xv_icmp_ge E 112 (show decode prog_14_method_70_code 72 = .ok (.if_icmp .ge (40), 3) by decide +kernel) rfl (fun _ => ?_) (fun z => absurd q23 z)
      exact xv_w (sb233_112 E B  M h hN) rfl
    · rw [if_neg q23] at h
      refine xv_icmp_ge E 112 (show decode prog_14_method_70_code 72 = .ok (.if_icmp .ge (40), 3) by decide +kernel) rfl (fun z => absurd z q23) (fun _ => ?_)
      refine xv_b E [.iload 4] (pc' := 77) (lv' := [(6, .inl si0), (0, .inr (.inr (some a0))), (1, .inl v1), (2, .inl v2), (3, .inl v3), (4, .inl v4), (5, .inl v5)]) (st' := [.inl v4]) (by decide +kernel) rfl rfl ?_
      by_cases q22 : v4 = 0
      · rw [if_pos q22] at h
        refine xv_if_eq E 114 (show decode prog_14_method_70_code 77 = .ok (.ifCond .eq (37), 3) by decide +kernel) rfl (fun _ => ?_) (fun z => absurd q22 z)
        exact xv_w (sb233_114 E B a0 v1 v2 v3 v4 v5 si0 M h hN) rfl
      · rw [if_neg q22] at h
        refine xv_if_eq E 114 (show decode prog_14_method_70_code 77 = .ok (.ifCond .eq (37), 3) by decide +kernel) rfl (fun z => absurd z q22) (fun _ => ?_)
        refine xv_goto E 112 (show decode prog_14_method_70_code 80 = .ok (.goto (32), 3) by decide +kernel) rfl ?_
        exact xv_w (sb233_112 E B  M h hN) rfl
theorem sb233_0 (E : xE G p (xRm 2 (h_sz M' - z0) (h_sl M' - y0)) s m args c prog_14_method_70_code "ZonedFabricModel" z0 y0 (h_sz M') (h_sl M') 9) (B : xB ym233 (some FieldType.int) meth) (a0 : Nat) (v1 : Int32) (v2 : Int32) (v3 : Int32) (v4 : Int32) (v5 : Int32) (M : hM) {res : xRes} (h : b233_0 a0 v1 v2 v3 v4 v5 M = some res) (hN : xN (fun _ _ _ => False) r M' res) : xV G p l e (xRm 2 (h_sz M' - z0) (h_sl M' - y0)) s m args below meth c z0 y0 (h_sz M') (h_sl M') 9 (MQ below (xQc G r M') args s (h_sz M' - z0) (h_sl M' - y0) (xFr G)) 0 [(0, .inr (.inr (some a0))), (1, .inl v1), (2, .inl v2), (3, .inl v3), (4, .inl v4), (5, .inl v5)] [] M := by
  unfold b233_0 at h
  refine xv_b E [.iload_n 1] (pc' := 1) (lv' := [(0, .inr (.inr (some a0))), (1, .inl v1), (2, .inl v2), (3, .inl v3), (4, .inl v4), (5, .inl v5)]) (st' := [.inl v1]) (by decide +kernel) rfl rfl ?_
  by_cases q12 : v1 < 0
  · rw [if_pos q12] at h
    refine xv_if_lt E 44 (show decode prog_14_method_70_code 1 = .ok (.ifCond .lt (43), 3) by decide +kernel) rfl (fun _ => ?_) (fun z => absurd q12 z)
    exact xv_w (sb233_44 E B  M h hN) rfl
  · rw [if_neg q12] at h
    refine xv_if_lt E 44 (show decode prog_14_method_70_code 1 = .ok (.ifCond .lt (43), 3) by decide +kernel) rfl (fun z => absurd z q12) (fun _ => ?_)
    refine xv_b E [.iload_n 1, .aload_n 0] (pc' := 6) (lv' := [(0, .inr (.inr (some a0))), (1, .inl v1), (2, .inl v2), (3, .inl v3), (4, .inl v4), (5, .inl v5)]) (st' := [.inr (.inr (some a0)), .inl v1]) (by decide +kernel) rfl rfl ?_
    obtain ⟨v_1, h2, h⟩ := bd h
    refine xg_i E 12 0 h2 mw921 (show decode prog_14_method_70_code 6 = .ok (.getfield 173, 3) by decide +kernel) ?_
    by_cases q11 : v_1 ≤ v1
    · rw [if_pos q11] at h
      refine xv_icmp_ge E 44 (show decode prog_14_method_70_code 9 = .ok (.if_icmp .ge (35), 3) by decide +kernel) rfl (fun _ => ?_) (fun z => absurd q11 z)
      exact xv_w (sb233_44 E B  M h hN) rfl
    · rw [if_neg q11] at h
      refine xv_icmp_ge E 44 (show decode prog_14_method_70_code 9 = .ok (.if_icmp .ge (35), 3) by decide +kernel) rfl (fun z => absurd z q11) (fun _ => ?_)
      refine xv_b E [.iload_n 2] (pc' := 13) (lv' := [(0, .inr (.inr (some a0))), (1, .inl v1), (2, .inl v2), (3, .inl v3), (4, .inl v4), (5, .inl v5)]) (st' := [.inl v2]) (by decide +kernel) rfl rfl ?_
      by_cases q10 : v2 < 0
      · rw [if_pos q10] at h
        refine xv_if_lt E 44 (show decode prog_14_method_70_code 13 = .ok (.ifCond .lt (31), 3) by decide +kernel) rfl (fun _ => ?_) (fun z => absurd q10 z)
        exact xv_w (sb233_44 E B  M h hN) rfl
      · rw [if_neg q10] at h
        refine xv_if_lt E 44 (show decode prog_14_method_70_code 13 = .ok (.ifCond .lt (31), 3) by decide +kernel) rfl (fun z => absurd z q10) (fun _ => ?_)
        refine xv_b E [.iload_n 2, .bipush 7] (pc' := 19) (lv' := [(0, .inr (.inr (some a0))), (1, .inl v1), (2, .inl v2), (3, .inl v3), (4, .inl v4), (5, .inl v5)]) (st' := [.inl (7 : Int32), .inl v2]) (by decide +kernel) rfl rfl ?_
        by_cases q9 : (7 : Int32) < v2
        · rw [if_pos q9] at h
          refine xv_icmp_gt E 44 (show decode prog_14_method_70_code 19 = .ok (.if_icmp .gt (25), 3) by decide +kernel) rfl (fun _ => ?_) (fun z => absurd q9 z)
          exact xv_w (sb233_44 E B  M h hN) rfl
        · rw [if_neg q9] at h
          refine xv_icmp_gt E 44 (show decode prog_14_method_70_code 19 = .ok (.if_icmp .gt (25), 3) by decide +kernel) rfl (fun z => absurd z q9) (fun _ => ?_)
          refine xv_b E [.iload 5, .iconst 1] (pc' := 25) (lv' := [(0, .inr (.inr (some a0))), (1, .inl v1), (2, .inl v2), (3, .inl v3), (4, .inl v4), (5, .inl v5)]) (st' := [.inl (1 : Int32), .inl v5]) (by decide +kernel) rfl rfl ?_
          by_cases q8 : v5 < (1 : Int32)
          · rw [if_pos q8] at h
            refine xv_icmp_lt E 44 (show decode prog_14_method_70_code 25 = .ok (.if_icmp .lt (19), 3) by decide +kernel) rfl (fun _ => ?_) (fun z => absurd q8 z)
            exact xv_w (sb233_44 E B  M h hN) rfl
          · rw [if_neg q8] at h
            refine xv_icmp_lt E 44 (show decode prog_14_method_70_code 25 = .ok (.if_icmp .lt (19), 3) by decide +kernel) rfl (fun z => absurd z q8) (fun _ => ?_)
            refine xv_b E [.iload 5, .bipush 9] (pc' := 32) (lv' := [(0, .inr (.inr (some a0))), (1, .inl v1), (2, .inl v2), (3, .inl v3), (4, .inl v4), (5, .inl v5)]) (st' := [.inl (9 : Int32), .inl v5]) (by decide +kernel) rfl rfl ?_
            by_cases q7 : (9 : Int32) < v5
            · rw [if_pos q7] at h
              refine xv_icmp_gt E 44 (show decode prog_14_method_70_code 32 = .ok (.if_icmp .gt (12), 3) by decide +kernel) rfl (fun _ => ?_) (fun z => absurd q7 z)
              exact xv_w (sb233_44 E B  M h hN) rfl
            · rw [if_neg q7] at h
              refine xv_icmp_gt E 44 (show decode prog_14_method_70_code 32 = .ok (.if_icmp .gt (12), 3) by decide +kernel) rfl (fun z => absurd z q7) (fun _ => ?_)
              refine xv_b E [.aload_n 0] (pc' := 36) (lv' := [(0, .inr (.inr (some a0))), (1, .inl v1), (2, .inl v2), (3, .inl v3), (4, .inl v4), (5, .inl v5)]) (st' := [.inr (.inr (some a0))]) (by decide +kernel) rfl rfl ?_
              obtain ⟨v_3, h4, h⟩ := bd h
              refine xg_i E 12 13 h4 mw1199 (show decode prog_14_method_70_code 36 = .ok (.getfield 414, 3) by decide +kernel) ?_
              refine xv_b E [.bipush 16] (pc' := 41) (lv' := [(0, .inr (.inr (some a0))), (1, .inl v1), (2, .inl v2), (3, .inl v3), (4, .inl v4), (5, .inl v5)]) (st' := [.inl (16 : Int32), .inl v_3]) (by decide +kernel) rfl rfl ?_
              by_cases q6 : v_3 = (16 : Int32)
              · rw [if_pos q6] at h
                refine xv_icmp_ne E 46 (show decode prog_14_method_70_code 41 = .ok (.if_icmp .ne (5), 3) by decide +kernel) rfl (fun z => absurd q6 z) (fun _ => ?_)
                exact xv_w (sb233_44 E B  M h hN) rfl
              · rw [if_neg q6] at h
                refine xv_icmp_ne E 46 (show decode prog_14_method_70_code 41 = .ok (.if_icmp .ne (5), 3) by decide +kernel) rfl (fun _ => ?_) (fun z => absurd z q6)
                refine xv_b E [.iload_n 3, .bipush 16] (pc' := 49) (lv' := [(0, .inr (.inr (some a0))), (1, .inl v1), (2, .inl v2), (3, .inl v3), (4, .inl v4), (5, .inl v5)]) (st' := [.inl (16 : Int32), .inl v3]) (by decide +kernel) rfl rfl ?_
                by_cases q5 : v3 < (16 : Int32)
                · rw [if_pos q5] at h
                  refine xv_icmp_lt E 56 (show decode prog_14_method_70_code 49 = .ok (.if_icmp .lt (7), 3) by decide +kernel) rfl (fun _ => ?_) (fun z => absurd q5 z)
                  refine xv_b E [.iconst 0] (pc' := 57) (lv' := [(0, .inr (.inr (some a0))), (1, .inl v1), (2, .inl v2), (3, .inl v3), (4, .inl v4), (5, .inl v5)]) (st' := [.inl (0 : Int32)]) (by decide +kernel) rfl rfl ?_
                  exact xv_w (sb233_57 E B a0 v1 v2 v3 v4 v5 (0 : Int32) M h hN) rfl
                · rw [if_neg q5] at h
                  refine xv_icmp_lt E 56 (show decode prog_14_method_70_code 49 = .ok (.if_icmp .lt (7), 3) by decide +kernel) rfl (fun z => absurd z q5) (fun _ => ?_)
                  refine xv_b E [.iconst 1] (pc' := 53) (lv' := [(0, .inr (.inr (some a0))), (1, .inl v1), (2, .inl v2), (3, .inl v3), (4, .inl v4), (5, .inl v5)]) (st' := [.inl (1 : Int32)]) (by decide +kernel) rfl rfl ?_
                  refine xv_goto E 57 (show decode prog_14_method_70_code 53 = .ok (.goto (4), 3) by decide +kernel) rfl ?_
                  exact xv_w (sb233_57 E B a0 v1 v2 v3 v4 v5 (1 : Int32) M h hN) rfl
end
theorem t233 (G : gX) (l : Launch) {as : List aV} {M : hM} {r : Option aV} {M' : hM} (h : f233 as M = some (r, M')) : xM G l ym233 prog_14_method_70_code 9 (some FieldType.int) 2 as M r M' := by
  unfold f233 at h
  split at h
  · have h := x_out_ok h
    refine xM_of (by decide) (Nat.le_of_ble_eq_true rfl) (lb233_0 G l _ _ _ _ _ _ M h) ?_
    intro p e s m args below meth c E B
    exact sb233_0 E B _ _ _ _ _ _ M h rfl
  · cases h
/-! ZFModel.isWire(I)Z -/
def ym234 : MethodName := ⟨"ZonedFabricModel", "isWire", "(I)Z"⟩
theorem cd234 : xCd ym234 prog_14_method_71_code 2 (some FieldType.boolean) 1 := ⟨mw1203, mw864, by decide, by decide, by decide +kernel⟩
def b234_17 (si0 : Int32) (M : hM) : Option xRes :=
  if si0 = 0 ∨ si0 = 1 then
    (some (.inl (some (.inl si0), M)))
  else
    none
def b234_16  (M : hM) : Option xRes :=
  b234_17 (0 : Int32) M
def b234_0 (a0 : Nat) (v1 : Int32) (M : hM) : Option xRes :=
  if v1 < 0 then
    (b234_16  M)
  else
    (Option.bind (g_i M 12 13 (some a0)) fun v_1 =>
    if v_1 ≤ v1 then
      (b234_16  M)
    else
      (b234_17 (1 : Int32) M))
def f234 (as : List aV) (M : hM) : xO := match as with
  | [.inr (.inr (some a0)), .inl v1] => x_out (b234_0 a0 v1 M)
  | _ => none
theorem lb234_17 (G : gX) (l : Launch) (si0 : Int32) (M : hM) {res : xRes} (h : b234_17 si0 M = some res) : h_sz M ≤ r_sz res ∧ h_sl M ≤ r_sl res := by
  unfold b234_17 at h
  by_cases q5 : si0 = 0 ∨ si0 = 1
  · rw [if_pos q5] at h
    obtain rfl := Option.some.inj h
    show h_sz M ≤ h_sz M ∧ h_sl M ≤ h_sl M
    omega
  · rw [if_neg q5] at h
    cases h
theorem lb234_16 (G : gX) (l : Launch)  (M : hM) {res : xRes} (h : b234_16  M = some res) : h_sz M ≤ r_sz res ∧ h_sl M ≤ r_sl res := by
  unfold b234_16 at h
  have e := lb234_17 G l (0 : Int32) M h
  omega
theorem lb234_0 (G : gX) (l : Launch) (a0 : Nat) (v1 : Int32) (M : hM) {res : xRes} (h : b234_0 a0 v1 M = some res) : h_sz M ≤ r_sz res ∧ h_sl M ≤ r_sl res := by
  unfold b234_0 at h
  by_cases q4 : v1 < 0
  · rw [if_pos q4] at h
    have e := lb234_16 G l  M h
    omega
  · rw [if_neg q4] at h
    obtain ⟨v_1, h2, h⟩ := bd h
    by_cases q3 : v_1 ≤ v1
    · rw [if_pos q3] at h
      have e := lb234_16 G l  M h
      omega
    · rw [if_neg q3] at h
      have e := lb234_17 G l (1 : Int32) M h
      omega
section
variable {p : Program} {l : Launch} {e : Env} {s : State} {m : MethodId} {args : Array Value} {below : List Frame} {meth : Method} {c : Code} {G : gX} {z0 y0 : Nat} {r : Option aV} {M' : hM}
theorem sb234_17 (E : xE G p (xRm 0 (h_sz M' - z0) (h_sl M' - y0)) s m args c prog_14_method_71_code "ZonedFabricModel" z0 y0 (h_sz M') (h_sl M') 2) (B : xB ym234 (some FieldType.boolean) meth) (si0 : Int32) (M : hM) {res : xRes} (h : b234_17 si0 M = some res) (hN : xN (fun _ _ _ => False) r M' res) : xV G p l e (xRm 0 (h_sz M' - z0) (h_sl M' - y0)) s m args below meth c z0 y0 (h_sz M') (h_sl M') 2 (MQ below (xQc G r M') args s (h_sz M' - z0) (h_sl M' - y0) (xFr G)) 17 [] [.inl si0] M := by
  unfold b234_17 at h
  by_cases q5 : si0 = 0 ∨ si0 = 1
  · rw [if_pos q5] at h
    obtain rfl := Option.some.inj h
    obtain ⟨rfl, rfl⟩ := Prod.mk.inj (show ((some (.inl si0) : Option aV), M) = (r, M') from hN)
    exact xv_ri E B.1 (by rcases q5 with z | z <;> rw [z] <;> rfl) B.2.1 (show decode prog_14_method_71_code 17 = .ok (.ireturn, 1) by decide +kernel) rfl rfl
  · rw [if_neg q5] at h
    cases h
theorem sb234_16 (E : xE G p (xRm 0 (h_sz M' - z0) (h_sl M' - y0)) s m args c prog_14_method_71_code "ZonedFabricModel" z0 y0 (h_sz M') (h_sl M') 2) (B : xB ym234 (some FieldType.boolean) meth)  (M : hM) {res : xRes} (h : b234_16  M = some res) (hN : xN (fun _ _ _ => False) r M' res) : xV G p l e (xRm 0 (h_sz M' - z0) (h_sl M' - y0)) s m args below meth c z0 y0 (h_sz M') (h_sl M') 2 (MQ below (xQc G r M') args s (h_sz M' - z0) (h_sl M' - y0) (xFr G)) 16 [] [] M := by
  unfold b234_16 at h
  refine xv_b E [.iconst 0] (pc' := 17) (lv' := []) (st' := [.inl (0 : Int32)]) (by decide +kernel) rfl rfl ?_
  exact xv_w (sb234_17 E B (0 : Int32) M h hN) rfl
theorem sb234_0 (E : xE G p (xRm 0 (h_sz M' - z0) (h_sl M' - y0)) s m args c prog_14_method_71_code "ZonedFabricModel" z0 y0 (h_sz M') (h_sl M') 2) (B : xB ym234 (some FieldType.boolean) meth) (a0 : Nat) (v1 : Int32) (M : hM) {res : xRes} (h : b234_0 a0 v1 M = some res) (hN : xN (fun _ _ _ => False) r M' res) : xV G p l e (xRm 0 (h_sz M' - z0) (h_sl M' - y0)) s m args below meth c z0 y0 (h_sz M') (h_sl M') 2 (MQ below (xQc G r M') args s (h_sz M' - z0) (h_sl M' - y0) (xFr G)) 0 [(0, .inr (.inr (some a0))), (1, .inl v1)] [] M := by
  unfold b234_0 at h
  refine xv_b E [.iload_n 1] (pc' := 1) (lv' := [(0, .inr (.inr (some a0))), (1, .inl v1)]) (st' := [.inl v1]) (by decide +kernel) rfl rfl ?_
  by_cases q4 : v1 < 0
  · rw [if_pos q4] at h
    refine xv_if_lt E 16 (show decode prog_14_method_71_code 1 = .ok (.ifCond .lt (15), 3) by decide +kernel) rfl (fun _ => ?_) (fun z => absurd q4 z)
    exact xv_w (sb234_16 E B  M h hN) rfl
  · rw [if_neg q4] at h
    refine xv_if_lt E 16 (show decode prog_14_method_71_code 1 = .ok (.ifCond .lt (15), 3) by decide +kernel) rfl (fun z => absurd z q4) (fun _ => ?_)
    refine xv_b E [.iload_n 1, .aload_n 0] (pc' := 6) (lv' := [(0, .inr (.inr (some a0))), (1, .inl v1)]) (st' := [.inr (.inr (some a0)), .inl v1]) (by decide +kernel) rfl rfl ?_
    obtain ⟨v_1, h2, h⟩ := bd h
    refine xg_i E 12 13 h2 mw1199 (show decode prog_14_method_71_code 6 = .ok (.getfield 414, 3) by decide +kernel) ?_
    by_cases q3 : v_1 ≤ v1
    · rw [if_pos q3] at h
      refine xv_icmp_ge E 16 (show decode prog_14_method_71_code 9 = .ok (.if_icmp .ge (7), 3) by decide +kernel) rfl (fun _ => ?_) (fun z => absurd q3 z)
      exact xv_w (sb234_16 E B  M h hN) rfl
    · rw [if_neg q3] at h
      refine xv_icmp_ge E 16 (show decode prog_14_method_71_code 9 = .ok (.if_icmp .ge (7), 3) by decide +kernel) rfl (fun z => absurd z q3) (fun _ => ?_)
      refine xv_b E [.iconst 1] (pc' := 13) (lv' := [(0, .inr (.inr (some a0))), (1, .inl v1)]) (st' := [.inl (1 : Int32)]) (by decide +kernel) rfl rfl ?_
      refine xv_goto E 17 (show decode prog_14_method_71_code 13 = .ok (.goto (4), 3) by decide +kernel) rfl ?_
      exact xv_w (sb234_17 E B (1 : Int32) M h hN) rfl
end
theorem t234 (G : gX) (l : Launch) {as : List aV} {M : hM} {r : Option aV} {M' : hM} (h : f234 as M = some (r, M')) : xM G l ym234 prog_14_method_71_code 2 (some FieldType.boolean) 0 as M r M' := by
  unfold f234 at h
  split at h
  · have h := x_out_ok h
    refine xM_of (by decide) (Nat.le_of_ble_eq_true rfl) (lb234_0 G l _ _ M h) ?_
    intro p e s m args below meth c E B
    exact sb234_0 E B _ _ M h rfl
  · cases h
/-! ZFModel.cut(I)Z -/
def ym235 : MethodName := ⟨"ZonedFabricModel", "cut", "(I)Z"⟩
theorem cd235 : xCd ym235 prog_14_method_72_code 2 (some FieldType.boolean) 1 := ⟨mw1204, mw864, by decide, by decide, by decide +kernel⟩
def b235_17  (M : hM) : Option xRes :=
  some (.inl (some (.inl (0 : Int32)), M))
def b235_0 (a0 : Nat) (v1 : Int32) (M : hM) : Option xRes :=
  Option.bind (g_o M 12 (some a0)) fun b_3 =>
  Option.bind (c_I (f234 [.inr (.inr (some b_3)), .inl v1] M)) fun q_1 =>
  if q_1.1 = 0 then
    (b235_17  q_1.2)
  else
    (Option.bind (g_r q_1.2 12 12 (some a0)) fun o_5 =>
    Option.bind (al_i q_1.2 22 o_5 v1) fun v_7 =>
    if v_7 = 0 then
      (b235_17  q_1.2)
    else
      (Option.bind (g_r q_1.2 12 12 (some a0)) fun o_9 =>
      Option.bind (as_z q_1.2 22 o_9 v1 (0 : Int32)) fun M11 =>
      Option.bind (g_r M11 12 10 (some a0)) fun o_13 =>
      Option.bind (al_i M11 20 o_13 ((2 : Int32) * v1)) fun v_15 =>
      Option.bind (g_o M11 12 (some a0)) fun b_19 =>
      Option.bind (c_V (f187 [.inr (.inr (some b_19)), .inl v_15] M11)) fun q_17 =>
      Option.bind (g_r q_17 12 10 (some a0)) fun o_21 =>
      Option.bind (al_i q_17 20 o_21 (((2 : Int32) * v1) + (1 : Int32))) fun v_23 =>
      Option.bind (g_o q_17 12 (some a0)) fun b_27 =>
      Option.bind (c_V (f187 [.inr (.inr (some b_27)), .inl v_23] q_17)) fun q_25 =>
      some (.inl (some (.inl (1 : Int32)), q_25))))
def f235 (as : List aV) (M : hM) : xO := match as with
  | [.inr (.inr (some a0)), .inl v1] => x_out (b235_0 a0 v1 M)
  | _ => none
theorem lb235_17 (G : gX) (l : Launch)  (M : hM) {res : xRes} (h : b235_17  M = some res) : h_sz M ≤ r_sz res ∧ h_sl M ≤ r_sl res := by
  unfold b235_17 at h
  obtain rfl := Option.some.inj h
  show h_sz M ≤ h_sz M ∧ h_sl M ≤ h_sl M
  omega
theorem lb235_0 (G : gX) (l : Launch) (a0 : Nat) (v1 : Int32) (M : hM) {res : xRes} (h : b235_0 a0 v1 M = some res) : h_sz M ≤ r_sz res ∧ h_sl M ≤ r_sl res := by
  unfold b235_0 at h
  obtain ⟨b_3, h4, h⟩ := bd h
  obtain ⟨q_1, h2, h⟩ := bd h
  have eh2 := (t234 G l (c_I_some h2)).1
  by_cases q30 : q_1.1 = 0
  · rw [if_pos q30] at h
    have e := lb235_17 G l  q_1.2 h
    omega
  · rw [if_neg q30] at h
    obtain ⟨o_5, h6, h⟩ := bd h
    obtain ⟨v_7, h8, h⟩ := bd h
    by_cases q29 : v_7 = 0
    · rw [if_pos q29] at h
      have e := lb235_17 G l  q_1.2 h
      omega
    · rw [if_neg q29] at h
      obtain ⟨o_9, h10, h⟩ := bd h
      obtain ⟨M11, h12, h⟩ := bd h
      have eh12 := as_z_sz h12
      obtain ⟨o_13, h14, h⟩ := bd h
      obtain ⟨v_15, h16, h⟩ := bd h
      obtain ⟨b_19, h20, h⟩ := bd h
      obtain ⟨q_17, h18, h⟩ := bd h
      have eh18 := (t187 G l (c_V_some h18)).1
      obtain ⟨o_21, h22, h⟩ := bd h
      obtain ⟨v_23, h24, h⟩ := bd h
      obtain ⟨b_27, h28, h⟩ := bd h
      obtain ⟨q_25, h26, h⟩ := bd h
      have eh26 := (t187 G l (c_V_some h26)).1
      obtain rfl := Option.some.inj h
      show h_sz M ≤ h_sz q_25 ∧ h_sl M ≤ h_sl q_25
      omega
section
variable {p : Program} {l : Launch} {e : Env} {s : State} {m : MethodId} {args : Array Value} {below : List Frame} {meth : Method} {c : Code} {G : gX} {z0 y0 : Nat} {r : Option aV} {M' : hM}
theorem sb235_17 (E : xE G p (xRm 2 (h_sz M' - z0) (h_sl M' - y0)) s m args c prog_14_method_72_code "ZonedFabricModel" z0 y0 (h_sz M') (h_sl M') 2) (B : xB ym235 (some FieldType.boolean) meth)  (M : hM) {res : xRes} (h : b235_17  M = some res) (hN : xN (fun _ _ _ => False) r M' res) : xV G p l e (xRm 2 (h_sz M' - z0) (h_sl M' - y0)) s m args below meth c z0 y0 (h_sz M') (h_sl M') 2 (MQ below (xQc G r M') args s (h_sz M' - z0) (h_sl M' - y0) (xFr G)) 17 [] [] M := by
  unfold b235_17 at h
  refine xv_b E [.iconst 0] (pc' := 18) (lv' := []) (st' := [.inl (0 : Int32)]) (by decide +kernel) rfl rfl ?_
  obtain rfl := Option.some.inj h
  obtain ⟨rfl, rfl⟩ := Prod.mk.inj (show ((some (.inl (0 : Int32)) : Option aV), M) = (r, M') from hN)
  exact xv_ri E B.1 rfl B.2.1 (show decode prog_14_method_72_code 18 = .ok (.ireturn, 1) by decide +kernel) rfl rfl
theorem sb235_0 (E : xE G p (xRm 2 (h_sz M' - z0) (h_sl M' - y0)) s m args c prog_14_method_72_code "ZonedFabricModel" z0 y0 (h_sz M') (h_sl M') 2) (B : xB ym235 (some FieldType.boolean) meth) (a0 : Nat) (v1 : Int32) (M : hM) {res : xRes} (h : b235_0 a0 v1 M = some res) (hN : xN (fun _ _ _ => False) r M' res) : xV G p l e (xRm 2 (h_sz M' - z0) (h_sl M' - y0)) s m args below meth c z0 y0 (h_sz M') (h_sl M') 2 (MQ below (xQc G r M') args s (h_sz M' - z0) (h_sl M' - y0) (xFr G)) 0 [(0, .inr (.inr (some a0))), (1, .inl v1)] [] M := by
  unfold b235_0 at h
  refine xv_b E [.aload_n 0, .iload_n 1] (pc' := 2) (lv' := [(0, .inr (.inr (some a0))), (1, .inl v1)]) (st' := [.inl v1, .inr (.inr (some a0))]) (by decide +kernel) rfl rfl ?_
  obtain ⟨b_3, h4, h⟩ := bd h
  obtain ⟨eh4, th4⟩ := g_o_some h4
  obtain ⟨q_1, h2, h⟩ := bd h
  refine xv_cvo E eh4 12 (as := [.inl v1]) (t234 G l (c_I_some h2)) cd234 mw1205 mw1206 mw1207 (show decode prog_14_method_72_code 2 = .ok (.invokevirtual 420, 3) by decide +kernel) th4 rfl rfl (Nat.le_of_ble_eq_true rfl) ⟨Nat.le_of_ble_eq_true rfl, Nat.le_of_ble_eq_true rfl⟩ ?_
  by_cases q30 : q_1.1 = 0
  · rw [if_pos q30] at h
    refine xv_if_eq E 17 (show decode prog_14_method_72_code 5 = .ok (.ifCond .eq (12), 3) by decide +kernel) rfl (fun _ => ?_) (fun z => absurd q30 z)
    exact xv_w (sb235_17 E B  q_1.2 h hN) rfl
  · rw [if_neg q30] at h
    refine xv_if_eq E 17 (show decode prog_14_method_72_code 5 = .ok (.ifCond .eq (12), 3) by decide +kernel) rfl (fun z => absurd z q30) (fun _ => ?_)
    refine xv_b E [.aload_n 0] (pc' := 9) (lv' := [(0, .inr (.inr (some a0))), (1, .inl v1)]) (st' := [.inr (.inr (some a0))]) (by decide +kernel) rfl rfl ?_
    obtain ⟨o_5, h6, h⟩ := bd h
    refine xg_r E 12 12 h6 mw873 (show decode prog_14_method_72_code 9 = .ok (.getfield 33, 3) by decide +kernel) ?_
    refine xv_b E [.iload_n 1] (pc' := 13) (lv' := [(0, .inr (.inr (some a0))), (1, .inl v1)]) (st' := [.inl v1, .inr (.inr o_5)]) (by decide +kernel) rfl rfl ?_
    obtain ⟨v_7, h8, h⟩ := bd h
    refine xa_z E h8 (show decode prog_14_method_72_code 13 = .ok (.baload, 1) by decide +kernel) ?_
    by_cases q29 : v_7 = 0
    · rw [if_pos q29] at h
      refine xv_if_ne E 19 (show decode prog_14_method_72_code 14 = .ok (.ifCond .ne (5), 3) by decide +kernel) rfl (fun z => absurd q29 z) (fun _ => ?_)
      exact xv_w (sb235_17 E B  q_1.2 h hN) rfl
    · rw [if_neg q29] at h
      refine xv_if_ne E 19 (show decode prog_14_method_72_code 14 = .ok (.ifCond .ne (5), 3) by decide +kernel) rfl (fun _ => ?_) (fun z => absurd z q29)
      refine xv_b E [.aload_n 0] (pc' := 20) (lv' := [(0, .inr (.inr (some a0))), (1, .inl v1)]) (st' := [.inr (.inr (some a0))]) (by decide +kernel) rfl rfl ?_
      obtain ⟨o_9, h10, h⟩ := bd h
      refine xg_r E 12 12 h10 mw873 (show decode prog_14_method_72_code 20 = .ok (.getfield 33, 3) by decide +kernel) ?_
      refine xv_b E [.iload_n 1, .iconst 0] (pc' := 25) (lv' := [(0, .inr (.inr (some a0))), (1, .inl v1)]) (st' := [.inl (0 : Int32), .inl v1, .inr (.inr o_9)]) (by decide +kernel) rfl rfl ?_
      obtain ⟨M11, h12, h⟩ := bd h
      refine xs_z E h12 (show decode prog_14_method_72_code 25 = .ok (.bastore, 1) by decide +kernel) ?_
      refine xv_b E [.aload_n 0, .aload_n 0] (pc' := 28) (lv' := [(0, .inr (.inr (some a0))), (1, .inl v1)]) (st' := [.inr (.inr (some a0)), .inr (.inr (some a0))]) (by decide +kernel) rfl rfl ?_
      obtain ⟨o_13, h14, h⟩ := bd h
      refine xg_r E 12 10 h14 mw870 (show decode prog_14_method_72_code 28 = .ok (.getfield 27, 3) by decide +kernel) ?_
      refine xv_b E [.iconst 2, .iload_n 1, .imul] (pc' := 34) (lv' := [(0, .inr (.inr (some a0))), (1, .inl v1)]) (st' := [.inl ((2 : Int32) * v1), .inr (.inr o_13), .inr (.inr (some a0))]) (by decide +kernel) rfl rfl ?_
      obtain ⟨v_15, h16, h⟩ := bd h
      refine xa_i E h16 (show decode prog_14_method_72_code 34 = .ok (.iaload, 1) by decide +kernel) ?_
      obtain ⟨b_19, h20, h⟩ := bd h
      obtain ⟨eh20, th20⟩ := g_o_some h20
      obtain ⟨q_17, h18, h⟩ := bd h
      refine xv_cvo E eh20 12 (as := [.inl v_15]) (t187 G l (c_V_some h18)) cd187 mw1200 mw1201 mw1202 (show decode prog_14_method_72_code 35 = .ok (.invokevirtual 417, 3) by decide +kernel) th20 rfl rfl (Nat.le_of_ble_eq_true rfl) ⟨Nat.le_of_ble_eq_true rfl, Nat.le_of_ble_eq_true rfl⟩ ?_
      refine xv_b E [.aload_n 0, .aload_n 0] (pc' := 40) (lv' := [(0, .inr (.inr (some a0))), (1, .inl v1)]) (st' := [.inr (.inr (some a0)), .inr (.inr (some a0))]) (by decide +kernel) rfl rfl ?_
      obtain ⟨o_21, h22, h⟩ := bd h
      refine xg_r E 12 10 h22 mw870 (show decode prog_14_method_72_code 40 = .ok (.getfield 27, 3) by decide +kernel) ?_
      refine xv_b E [.iconst 2, .iload_n 1, .imul, .iconst 1, .iadd] (pc' := 48) (lv' := [(0, .inr (.inr (some a0))), (1, .inl v1)]) (st' := [.inl (((2 : Int32) * v1) + (1 : Int32)), .inr (.inr o_21), .inr (.inr (some a0))]) (by decide +kernel) rfl rfl ?_
      obtain ⟨v_23, h24, h⟩ := bd h
      refine xa_i E h24 (show decode prog_14_method_72_code 48 = .ok (.iaload, 1) by decide +kernel) ?_
      obtain ⟨b_27, h28, h⟩ := bd h
      obtain ⟨eh28, th28⟩ := g_o_some h28
      obtain ⟨q_25, h26, h⟩ := bd h
      refine xv_cvo E eh28 12 (as := [.inl v_23]) (t187 G l (c_V_some h26)) cd187 mw1200 mw1201 mw1202 (show decode prog_14_method_72_code 49 = .ok (.invokevirtual 417, 3) by decide +kernel) th28 rfl rfl (Nat.le_of_ble_eq_true rfl) ⟨Nat.le_of_ble_eq_true rfl, Nat.le_of_ble_eq_true rfl⟩ ?_
      refine xv_b E [.iconst 1] (pc' := 53) (lv' := [(0, .inr (.inr (some a0))), (1, .inl v1)]) (st' := [.inl (1 : Int32)]) (by decide +kernel) rfl rfl ?_
      obtain rfl := Option.some.inj h
      obtain ⟨rfl, rfl⟩ := Prod.mk.inj (show ((some (.inl (1 : Int32)) : Option aV), q_25) = (r, M') from hN)
      exact xv_ri E B.1 rfl B.2.1 (show decode prog_14_method_72_code 53 = .ok (.ireturn, 1) by decide +kernel) rfl rfl
end
theorem t235 (G : gX) (l : Launch) {as : List aV} {M : hM} {r : Option aV} {M' : hM} (h : f235 as M = some (r, M')) : xM G l ym235 prog_14_method_72_code 2 (some FieldType.boolean) 2 as M r M' := by
  unfold f235 at h
  split at h
  · have h := x_out_ok h
    refine xM_of (by decide) (Nat.le_of_ble_eq_true rfl) (lb235_0 G l _ _ M h) ?_
    intro p e s m args below meth c E B
    exact sb235_0 E B _ _ M h rfl
  · cases h
/-! ZFModel.join(I)Z -/
def ym236 : MethodName := ⟨"ZonedFabricModel", "join", "(I)Z"⟩
theorem cd236 : xCd ym236 prog_14_method_73_code 2 (some FieldType.boolean) 1 := ⟨mw1208, mw864, by decide, by decide, by decide +kernel⟩
def b236_17  (M : hM) : Option xRes :=
  some (.inl (some (.inl (0 : Int32)), M))
def b236_0 (a0 : Nat) (v1 : Int32) (M : hM) : Option xRes :=
  Option.bind (g_o M 12 (some a0)) fun b_3 =>
  Option.bind (c_I (f234 [.inr (.inr (some b_3)), .inl v1] M)) fun q_1 =>
  if q_1.1 = 0 then
    (b236_17  q_1.2)
  else
    (Option.bind (g_r q_1.2 12 12 (some a0)) fun o_5 =>
    Option.bind (al_i q_1.2 22 o_5 v1) fun v_7 =>
    if v_7 = 0 then
      (Option.bind (g_r q_1.2 12 12 (some a0)) fun o_9 =>
      Option.bind (as_z q_1.2 22 o_9 v1 (1 : Int32)) fun M11 =>
      some (.inl (some (.inl (1 : Int32)), M11)))
    else
      (b236_17  q_1.2))
def f236 (as : List aV) (M : hM) : xO := match as with
  | [.inr (.inr (some a0)), .inl v1] => x_out (b236_0 a0 v1 M)
  | _ => none
theorem lb236_17 (G : gX) (l : Launch)  (M : hM) {res : xRes} (h : b236_17  M = some res) : h_sz M ≤ r_sz res ∧ h_sl M ≤ r_sl res := by
  unfold b236_17 at h
  obtain rfl := Option.some.inj h
  show h_sz M ≤ h_sz M ∧ h_sl M ≤ h_sl M
  omega
theorem lb236_0 (G : gX) (l : Launch) (a0 : Nat) (v1 : Int32) (M : hM) {res : xRes} (h : b236_0 a0 v1 M = some res) : h_sz M ≤ r_sz res ∧ h_sl M ≤ r_sl res := by
  unfold b236_0 at h
  obtain ⟨b_3, h4, h⟩ := bd h
  obtain ⟨q_1, h2, h⟩ := bd h
  have eh2 := (t234 G l (c_I_some h2)).1
  by_cases q14 : q_1.1 = 0
  · rw [if_pos q14] at h
    have e := lb236_17 G l  q_1.2 h
    omega
  · rw [if_neg q14] at h
    obtain ⟨o_5, h6, h⟩ := bd h
    obtain ⟨v_7, h8, h⟩ := bd h
    by_cases q13 : v_7 = 0
    · rw [if_pos q13] at h
      obtain ⟨o_9, h10, h⟩ := bd h
      obtain ⟨M11, h12, h⟩ := bd h
      have eh12 := as_z_sz h12
      obtain rfl := Option.some.inj h
      show h_sz M ≤ h_sz M11 ∧ h_sl M ≤ h_sl M11
      omega
    · rw [if_neg q13] at h
      have e := lb236_17 G l  q_1.2 h
      omega
section
variable {p : Program} {l : Launch} {e : Env} {s : State} {m : MethodId} {args : Array Value} {below : List Frame} {meth : Method} {c : Code} {G : gX} {z0 y0 : Nat} {r : Option aV} {M' : hM}
theorem sb236_17 (E : xE G p (xRm 1 (h_sz M' - z0) (h_sl M' - y0)) s m args c prog_14_method_73_code "ZonedFabricModel" z0 y0 (h_sz M') (h_sl M') 2) (B : xB ym236 (some FieldType.boolean) meth)  (M : hM) {res : xRes} (h : b236_17  M = some res) (hN : xN (fun _ _ _ => False) r M' res) : xV G p l e (xRm 1 (h_sz M' - z0) (h_sl M' - y0)) s m args below meth c z0 y0 (h_sz M') (h_sl M') 2 (MQ below (xQc G r M') args s (h_sz M' - z0) (h_sl M' - y0) (xFr G)) 17 [] [] M := by
  unfold b236_17 at h
  refine xv_b E [.iconst 0] (pc' := 18) (lv' := []) (st' := [.inl (0 : Int32)]) (by decide +kernel) rfl rfl ?_
  obtain rfl := Option.some.inj h
  obtain ⟨rfl, rfl⟩ := Prod.mk.inj (show ((some (.inl (0 : Int32)) : Option aV), M) = (r, M') from hN)
  exact xv_ri E B.1 rfl B.2.1 (show decode prog_14_method_73_code 18 = .ok (.ireturn, 1) by decide +kernel) rfl rfl
theorem sb236_0 (E : xE G p (xRm 1 (h_sz M' - z0) (h_sl M' - y0)) s m args c prog_14_method_73_code "ZonedFabricModel" z0 y0 (h_sz M') (h_sl M') 2) (B : xB ym236 (some FieldType.boolean) meth) (a0 : Nat) (v1 : Int32) (M : hM) {res : xRes} (h : b236_0 a0 v1 M = some res) (hN : xN (fun _ _ _ => False) r M' res) : xV G p l e (xRm 1 (h_sz M' - z0) (h_sl M' - y0)) s m args below meth c z0 y0 (h_sz M') (h_sl M') 2 (MQ below (xQc G r M') args s (h_sz M' - z0) (h_sl M' - y0) (xFr G)) 0 [(0, .inr (.inr (some a0))), (1, .inl v1)] [] M := by
  unfold b236_0 at h
  refine xv_b E [.aload_n 0, .iload_n 1] (pc' := 2) (lv' := [(0, .inr (.inr (some a0))), (1, .inl v1)]) (st' := [.inl v1, .inr (.inr (some a0))]) (by decide +kernel) rfl rfl ?_
  obtain ⟨b_3, h4, h⟩ := bd h
  obtain ⟨eh4, th4⟩ := g_o_some h4
  obtain ⟨q_1, h2, h⟩ := bd h
  refine xv_cvo E eh4 12 (as := [.inl v1]) (t234 G l (c_I_some h2)) cd234 mw1205 mw1206 mw1207 (show decode prog_14_method_73_code 2 = .ok (.invokevirtual 420, 3) by decide +kernel) th4 rfl rfl (Nat.le_of_ble_eq_true rfl) ⟨Nat.le_of_ble_eq_true rfl, Nat.le_of_ble_eq_true rfl⟩ ?_
  by_cases q14 : q_1.1 = 0
  · rw [if_pos q14] at h
    refine xv_if_eq E 17 (show decode prog_14_method_73_code 5 = .ok (.ifCond .eq (12), 3) by decide +kernel) rfl (fun _ => ?_) (fun z => absurd q14 z)
    exact xv_w (sb236_17 E B  q_1.2 h hN) rfl
  · rw [if_neg q14] at h
    refine xv_if_eq E 17 (show decode prog_14_method_73_code 5 = .ok (.ifCond .eq (12), 3) by decide +kernel) rfl (fun z => absurd z q14) (fun _ => ?_)
    refine xv_b E [.aload_n 0] (pc' := 9) (lv' := [(0, .inr (.inr (some a0))), (1, .inl v1)]) (st' := [.inr (.inr (some a0))]) (by decide +kernel) rfl rfl ?_
    obtain ⟨o_5, h6, h⟩ := bd h
    refine xg_r E 12 12 h6 mw873 (show decode prog_14_method_73_code 9 = .ok (.getfield 33, 3) by decide +kernel) ?_
    refine xv_b E [.iload_n 1] (pc' := 13) (lv' := [(0, .inr (.inr (some a0))), (1, .inl v1)]) (st' := [.inl v1, .inr (.inr o_5)]) (by decide +kernel) rfl rfl ?_
    obtain ⟨v_7, h8, h⟩ := bd h
    refine xa_z E h8 (show decode prog_14_method_73_code 13 = .ok (.baload, 1) by decide +kernel) ?_
    by_cases q13 : v_7 = 0
    · rw [if_pos q13] at h
      refine xv_if_eq E 19 (show decode prog_14_method_73_code 14 = .ok (.ifCond .eq (5), 3) by decide +kernel) rfl (fun _ => ?_) (fun z => absurd q13 z)
      refine xv_b E [.aload_n 0] (pc' := 20) (lv' := [(0, .inr (.inr (some a0))), (1, .inl v1)]) (st' := [.inr (.inr (some a0))]) (by decide +kernel) rfl rfl ?_
      obtain ⟨o_9, h10, h⟩ := bd h
      refine xg_r E 12 12 h10 mw873 (show decode prog_14_method_73_code 20 = .ok (.getfield 33, 3) by decide +kernel) ?_
      refine xv_b E [.iload_n 1, .iconst 1] (pc' := 25) (lv' := [(0, .inr (.inr (some a0))), (1, .inl v1)]) (st' := [.inl (1 : Int32), .inl v1, .inr (.inr o_9)]) (by decide +kernel) rfl rfl ?_
      obtain ⟨M11, h12, h⟩ := bd h
      refine xs_z E h12 (show decode prog_14_method_73_code 25 = .ok (.bastore, 1) by decide +kernel) ?_
      refine xv_b E [.iconst 1] (pc' := 27) (lv' := [(0, .inr (.inr (some a0))), (1, .inl v1)]) (st' := [.inl (1 : Int32)]) (by decide +kernel) rfl rfl ?_
      obtain rfl := Option.some.inj h
      obtain ⟨rfl, rfl⟩ := Prod.mk.inj (show ((some (.inl (1 : Int32)) : Option aV), M11) = (r, M') from hN)
      exact xv_ri E B.1 rfl B.2.1 (show decode prog_14_method_73_code 27 = .ok (.ireturn, 1) by decide +kernel) rfl rfl
    · rw [if_neg q13] at h
      refine xv_if_eq E 19 (show decode prog_14_method_73_code 14 = .ok (.ifCond .eq (5), 3) by decide +kernel) rfl (fun z => absurd z q13) (fun _ => ?_)
      exact xv_w (sb236_17 E B  q_1.2 h hN) rfl
end
theorem t236 (G : gX) (l : Launch) {as : List aV} {M : hM} {r : Option aV} {M' : hM} (h : f236 as M = some (r, M')) : xM G l ym236 prog_14_method_73_code 2 (some FieldType.boolean) 1 as M r M' := by
  unfold f236 at h
  split at h
  · have h := x_out_ok h
    refine xM_of (by decide) (Nat.le_of_ble_eq_true rfl) (lb236_0 G l _ _ M h) ?_
    intro p e s m args below meth c E B
    exact sb236_0 E B _ _ M h rfl
  · cases h
/-! ZFModel.zone(IIZ)Z -/
def ym237 : MethodName := ⟨"ZonedFabricModel", "zone", "(IIZ)Z"⟩
theorem cd237 : xCd ym237 prog_14_method_74_code 4 (some FieldType.boolean) 3 := ⟨mw1209, mw864, by decide, by decide, by decide +kernel⟩
def b237_22  (M : hM) : Option xRes :=
  some (.inl (some (.inl (0 : Int32)), M))
def b237_58 (si0 : Int32) (si1 : Int32) (sr2 : Option Nat) (M : hM) : Option xRes :=
  Option.bind (as_i M 20 sr2 si1 si0) fun M18 =>
  some (.inl (some (.inl (1 : Int32)), M18))
def b237_0 (a0 : Nat) (v1 : Int32) (v2 : Int32) (v3 : Int32) (M : hM) : Option xRes :=
  if v1 < 0 then
    (b237_22  M)
  else
    (if (7 : Int32) < v1 then
      (b237_22  M)
    else
      (if v2 < 0 then
        (b237_22  M)
      else
        (Option.bind (g_i M 12 1 (some a0)) fun v_1 =>
        if v2 < v_1 then
          (Option.bind (g_r M 12 37 (some a0)) fun o_3 =>
          if v3 = 0 then
            (Option.bind (g_r M 12 37 (some a0)) fun o_5 =>
            Option.bind (al_i M 20 o_5 v1) fun v_7 =>
            b237_58 (v_7 &&& (((1 : Int32) <<< (v2 &&& 31)) ^^^ (-1 : Int32))) v1 o_3 M)
          else
            (Option.bind (g_r M 12 37 (some a0)) fun o_9 =>
            Option.bind (al_i M 20 o_9 v1) fun v_11 =>
            b237_58 (v_11 ||| ((1 : Int32) <<< (v2 &&& 31))) v1 o_3 M))
        else
          (b237_22  M))))
def f237 (as : List aV) (M : hM) : xO := match as with
  | [.inr (.inr (some a0)), .inl v1, .inl v2, .inl v3] => x_out (b237_0 a0 v1 v2 v3 M)
  | _ => none
theorem lb237_22 (G : gX) (l : Launch)  (M : hM) {res : xRes} (h : b237_22  M = some res) : h_sz M ≤ r_sz res ∧ h_sl M ≤ r_sl res := by
  unfold b237_22 at h
  obtain rfl := Option.some.inj h
  show h_sz M ≤ h_sz M ∧ h_sl M ≤ h_sl M
  omega
theorem lb237_58 (G : gX) (l : Launch) (si0 : Int32) (si1 : Int32) (sr2 : Option Nat) (M : hM) {res : xRes} (h : b237_58 si0 si1 sr2 M = some res) : h_sz M ≤ r_sz res ∧ h_sl M ≤ r_sl res := by
  unfold b237_58 at h
  obtain ⟨M18, h19, h⟩ := bd h
  have eh19 := as_i_sz h19
  obtain rfl := Option.some.inj h
  show h_sz M ≤ h_sz M18 ∧ h_sl M ≤ h_sl M18
  omega
theorem lb237_0 (G : gX) (l : Launch) (a0 : Nat) (v1 : Int32) (v2 : Int32) (v3 : Int32) (M : hM) {res : xRes} (h : b237_0 a0 v1 v2 v3 M = some res) : h_sz M ≤ r_sz res ∧ h_sl M ≤ r_sl res := by
  unfold b237_0 at h
  by_cases q17 : v1 < 0
  · rw [if_pos q17] at h
    have e := lb237_22 G l  M h
    omega
  · rw [if_neg q17] at h
    by_cases q16 : (7 : Int32) < v1
    · rw [if_pos q16] at h
      have e := lb237_22 G l  M h
      omega
    · rw [if_neg q16] at h
      by_cases q15 : v2 < 0
      · rw [if_pos q15] at h
        have e := lb237_22 G l  M h
        omega
      · rw [if_neg q15] at h
        obtain ⟨v_1, h2, h⟩ := bd h
        by_cases q14 : v2 < v_1
        · rw [if_pos q14] at h
          obtain ⟨o_3, h4, h⟩ := bd h
          by_cases q13 : v3 = 0
          · rw [if_pos q13] at h
            obtain ⟨o_5, h6, h⟩ := bd h
            obtain ⟨v_7, h8, h⟩ := bd h
            have e := lb237_58 G l (v_7 &&& (((1 : Int32) <<< (v2 &&& 31)) ^^^ (-1 : Int32))) v1 o_3 M h
            omega
          · rw [if_neg q13] at h
            obtain ⟨o_9, h10, h⟩ := bd h
            obtain ⟨v_11, h12, h⟩ := bd h
            have e := lb237_58 G l (v_11 ||| ((1 : Int32) <<< (v2 &&& 31))) v1 o_3 M h
            omega
        · rw [if_neg q14] at h
          have e := lb237_22 G l  M h
          omega
section
variable {p : Program} {l : Launch} {e : Env} {s : State} {m : MethodId} {args : Array Value} {below : List Frame} {meth : Method} {c : Code} {G : gX} {z0 y0 : Nat} {r : Option aV} {M' : hM}
theorem sb237_22 (E : xE G p (xRm 0 (h_sz M' - z0) (h_sl M' - y0)) s m args c prog_14_method_74_code "ZonedFabricModel" z0 y0 (h_sz M') (h_sl M') 4) (B : xB ym237 (some FieldType.boolean) meth)  (M : hM) {res : xRes} (h : b237_22  M = some res) (hN : xN (fun _ _ _ => False) r M' res) : xV G p l e (xRm 0 (h_sz M' - z0) (h_sl M' - y0)) s m args below meth c z0 y0 (h_sz M') (h_sl M') 4 (MQ below (xQc G r M') args s (h_sz M' - z0) (h_sl M' - y0) (xFr G)) 22 [] [] M := by
  unfold b237_22 at h
  refine xv_b E [.iconst 0] (pc' := 23) (lv' := []) (st' := [.inl (0 : Int32)]) (by decide +kernel) rfl rfl ?_
  obtain rfl := Option.some.inj h
  obtain ⟨rfl, rfl⟩ := Prod.mk.inj (show ((some (.inl (0 : Int32)) : Option aV), M) = (r, M') from hN)
  exact xv_ri E B.1 rfl B.2.1 (show decode prog_14_method_74_code 23 = .ok (.ireturn, 1) by decide +kernel) rfl rfl
theorem sb237_58 (E : xE G p (xRm 0 (h_sz M' - z0) (h_sl M' - y0)) s m args c prog_14_method_74_code "ZonedFabricModel" z0 y0 (h_sz M') (h_sl M') 4) (B : xB ym237 (some FieldType.boolean) meth) (si0 : Int32) (si1 : Int32) (sr2 : Option Nat) (M : hM) {res : xRes} (h : b237_58 si0 si1 sr2 M = some res) (hN : xN (fun _ _ _ => False) r M' res) : xV G p l e (xRm 0 (h_sz M' - z0) (h_sl M' - y0)) s m args below meth c z0 y0 (h_sz M') (h_sl M') 4 (MQ below (xQc G r M') args s (h_sz M' - z0) (h_sl M' - y0) (xFr G)) 58 [] [.inl si0, .inl si1, .inr (.inr sr2)] M := by
  unfold b237_58 at h
  obtain ⟨M18, h19, h⟩ := bd h
  refine xs_i E h19 (show decode prog_14_method_74_code 58 = .ok (.iastore, 1) by decide +kernel) ?_
  refine xv_b E [.iconst 1] (pc' := 60) (lv' := []) (st' := [.inl (1 : Int32)]) (by decide +kernel) rfl rfl ?_
  obtain rfl := Option.some.inj h
  obtain ⟨rfl, rfl⟩ := Prod.mk.inj (show ((some (.inl (1 : Int32)) : Option aV), M18) = (r, M') from hN)
  exact xv_ri E B.1 rfl B.2.1 (show decode prog_14_method_74_code 60 = .ok (.ireturn, 1) by decide +kernel) rfl rfl
theorem sb237_0 (E : xE G p (xRm 0 (h_sz M' - z0) (h_sl M' - y0)) s m args c prog_14_method_74_code "ZonedFabricModel" z0 y0 (h_sz M') (h_sl M') 4) (B : xB ym237 (some FieldType.boolean) meth) (a0 : Nat) (v1 : Int32) (v2 : Int32) (v3 : Int32) (M : hM) {res : xRes} (h : b237_0 a0 v1 v2 v3 M = some res) (hN : xN (fun _ _ _ => False) r M' res) : xV G p l e (xRm 0 (h_sz M' - z0) (h_sl M' - y0)) s m args below meth c z0 y0 (h_sz M') (h_sl M') 4 (MQ below (xQc G r M') args s (h_sz M' - z0) (h_sl M' - y0) (xFr G)) 0 [(0, .inr (.inr (some a0))), (1, .inl v1), (2, .inl v2), (3, .inl v3)] [] M := by
  unfold b237_0 at h
  refine xv_b E [.iload_n 1] (pc' := 1) (lv' := [(0, .inr (.inr (some a0))), (1, .inl v1), (2, .inl v2), (3, .inl v3)]) (st' := [.inl v1]) (by decide +kernel) rfl rfl ?_
  by_cases q17 : v1 < 0
  · rw [if_pos q17] at h
    refine xv_if_lt E 22 (show decode prog_14_method_74_code 1 = .ok (.ifCond .lt (21), 3) by decide +kernel) rfl (fun _ => ?_) (fun z => absurd q17 z)
    exact xv_w (sb237_22 E B  M h hN) rfl
  · rw [if_neg q17] at h
    refine xv_if_lt E 22 (show decode prog_14_method_74_code 1 = .ok (.ifCond .lt (21), 3) by decide +kernel) rfl (fun z => absurd z q17) (fun _ => ?_)
    refine xv_b E [.iload_n 1, .bipush 7] (pc' := 7) (lv' := [(0, .inr (.inr (some a0))), (1, .inl v1), (2, .inl v2), (3, .inl v3)]) (st' := [.inl (7 : Int32), .inl v1]) (by decide +kernel) rfl rfl ?_
    by_cases q16 : (7 : Int32) < v1
    · rw [if_pos q16] at h
      refine xv_icmp_gt E 22 (show decode prog_14_method_74_code 7 = .ok (.if_icmp .gt (15), 3) by decide +kernel) rfl (fun _ => ?_) (fun z => absurd q16 z)
      exact xv_w (sb237_22 E B  M h hN) rfl
    · rw [if_neg q16] at h
      refine xv_icmp_gt E 22 (show decode prog_14_method_74_code 7 = .ok (.if_icmp .gt (15), 3) by decide +kernel) rfl (fun z => absurd z q16) (fun _ => ?_)
      refine xv_b E [.iload_n 2] (pc' := 11) (lv' := [(0, .inr (.inr (some a0))), (1, .inl v1), (2, .inl v2), (3, .inl v3)]) (st' := [.inl v2]) (by decide +kernel) rfl rfl ?_
      by_cases q15 : v2 < 0
      · rw [if_pos q15] at h
        refine xv_if_lt E 22 (show decode prog_14_method_74_code 11 = .ok (.ifCond .lt (11), 3) by decide +kernel) rfl (fun _ => ?_) (fun z => absurd q15 z)
        exact xv_w (sb237_22 E B  M h hN) rfl
      · rw [if_neg q15] at h
        refine xv_if_lt E 22 (show decode prog_14_method_74_code 11 = .ok (.ifCond .lt (11), 3) by decide +kernel) rfl (fun z => absurd z q15) (fun _ => ?_)
        refine xv_b E [.iload_n 2, .aload_n 0] (pc' := 16) (lv' := [(0, .inr (.inr (some a0))), (1, .inl v1), (2, .inl v2), (3, .inl v3)]) (st' := [.inr (.inr (some a0)), .inl v2]) (by decide +kernel) rfl rfl ?_
        obtain ⟨v_1, h2, h⟩ := bd h
        refine xg_i E 12 1 h2 mw922 (show decode prog_14_method_74_code 16 = .ok (.getfield 177, 3) by decide +kernel) ?_
        by_cases q14 : v2 < v_1
        · rw [if_pos q14] at h
          refine xv_icmp_lt E 24 (show decode prog_14_method_74_code 19 = .ok (.if_icmp .lt (5), 3) by decide +kernel) rfl (fun _ => ?_) (fun z => absurd q14 z)
          refine xv_b E [.aload_n 0] (pc' := 25) (lv' := [(0, .inr (.inr (some a0))), (1, .inl v1), (2, .inl v2), (3, .inl v3)]) (st' := [.inr (.inr (some a0))]) (by decide +kernel) rfl rfl ?_
          obtain ⟨o_3, h4, h⟩ := bd h
          refine xg_r E 12 37 h4 mw897 (show decode prog_14_method_74_code 25 = .ok (.getfield 106, 3) by decide +kernel) ?_
          refine xv_b E [.iload_n 1, .iload_n 3] (pc' := 30) (lv' := [(0, .inr (.inr (some a0))), (1, .inl v1), (2, .inl v2), (3, .inl v3)]) (st' := [.inl v3, .inl v1, .inr (.inr o_3)]) (by decide +kernel) rfl rfl ?_
          by_cases q13 : v3 = 0
          · rw [if_pos q13] at h
            refine xv_if_eq E 46 (show decode prog_14_method_74_code 30 = .ok (.ifCond .eq (16), 3) by decide +kernel) rfl (fun _ => ?_) (fun z => absurd q13 z)
            refine xv_b E [.aload_n 0] (pc' := 47) (lv' := [(0, .inr (.inr (some a0))), (1, .inl v1), (2, .inl v2), (3, .inl v3)]) (st' := [.inr (.inr (some a0)), .inl v1, .inr (.inr o_3)]) (by decide +kernel) rfl rfl ?_
            obtain ⟨o_5, h6, h⟩ := bd h
            refine xg_r E 12 37 h6 mw897 (show decode prog_14_method_74_code 47 = .ok (.getfield 106, 3) by decide +kernel) ?_
            refine xv_b E [.iload_n 1] (pc' := 51) (lv' := [(0, .inr (.inr (some a0))), (1, .inl v1), (2, .inl v2), (3, .inl v3)]) (st' := [.inl v1, .inr (.inr o_5), .inl v1, .inr (.inr o_3)]) (by decide +kernel) rfl rfl ?_
            obtain ⟨v_7, h8, h⟩ := bd h
            refine xa_i E h8 (show decode prog_14_method_74_code 51 = .ok (.iaload, 1) by decide +kernel) ?_
            refine xv_b E [.iconst 1, .iload_n 2, .ishl, .iconst (-1), .ixor, .iand] (pc' := 58) (lv' := [(0, .inr (.inr (some a0))), (1, .inl v1), (2, .inl v2), (3, .inl v3)]) (st' := [.inl (v_7 &&& (((1 : Int32) <<< (v2 &&& 31)) ^^^ (-1 : Int32))), .inl v1, .inr (.inr o_3)]) (by decide +kernel) rfl rfl ?_
            exact xv_w (sb237_58 E B (v_7 &&& (((1 : Int32) <<< (v2 &&& 31)) ^^^ (-1 : Int32))) v1 o_3 M h hN) rfl
          · rw [if_neg q13] at h
            refine xv_if_eq E 46 (show decode prog_14_method_74_code 30 = .ok (.ifCond .eq (16), 3) by decide +kernel) rfl (fun z => absurd z q13) (fun _ => ?_)
            refine xv_b E [.aload_n 0] (pc' := 34) (lv' := [(0, .inr (.inr (some a0))), (1, .inl v1), (2, .inl v2), (3, .inl v3)]) (st' := [.inr (.inr (some a0)), .inl v1, .inr (.inr o_3)]) (by decide +kernel) rfl rfl ?_
            obtain ⟨o_9, h10, h⟩ := bd h
            refine xg_r E 12 37 h10 mw897 (show decode prog_14_method_74_code 34 = .ok (.getfield 106, 3) by decide +kernel) ?_
            refine xv_b E [.iload_n 1] (pc' := 38) (lv' := [(0, .inr (.inr (some a0))), (1, .inl v1), (2, .inl v2), (3, .inl v3)]) (st' := [.inl v1, .inr (.inr o_9), .inl v1, .inr (.inr o_3)]) (by decide +kernel) rfl rfl ?_
            obtain ⟨v_11, h12, h⟩ := bd h
            refine xa_i E h12 (show decode prog_14_method_74_code 38 = .ok (.iaload, 1) by decide +kernel) ?_
            refine xv_b E [.iconst 1, .iload_n 2, .ishl, .ior] (pc' := 43) (lv' := [(0, .inr (.inr (some a0))), (1, .inl v1), (2, .inl v2), (3, .inl v3)]) (st' := [.inl (v_11 ||| ((1 : Int32) <<< (v2 &&& 31))), .inl v1, .inr (.inr o_3)]) (by decide +kernel) rfl rfl ?_
            refine xv_goto E 58 (show decode prog_14_method_74_code 43 = .ok (.goto (15), 3) by decide +kernel) rfl ?_
            exact xv_w (sb237_58 E B (v_11 ||| ((1 : Int32) <<< (v2 &&& 31))) v1 o_3 M h hN) rfl
        · rw [if_neg q14] at h
          refine xv_icmp_lt E 24 (show decode prog_14_method_74_code 19 = .ok (.if_icmp .lt (5), 3) by decide +kernel) rfl (fun z => absurd z q14) (fun _ => ?_)
          exact xv_w (sb237_22 E B  M h hN) rfl
end
theorem t237 (G : gX) (l : Launch) {as : List aV} {M : hM} {r : Option aV} {M' : hM} (h : f237 as M = some (r, M')) : xM G l ym237 prog_14_method_74_code 4 (some FieldType.boolean) 0 as M r M' := by
  unfold f237 at h
  split at h
  · have h := x_out_ok h
    refine xM_of (by decide) (Nat.le_of_ble_eq_true rfl) (lb237_0 G l _ _ _ _ M h) ?_
    intro p e s m args below meth c E B
    exact sb237_0 E B _ _ _ _ M h rfl
  · cases h
/-! ZFModel.zoning(Z)V -/
def ym238 : MethodName := ⟨"ZonedFabricModel", "zoning", "(Z)V"⟩
theorem cd238 : xCd ym238 prog_14_method_75_code 2 none 1 := ⟨mw1210, mw864, by decide, by decide, by decide +kernel⟩
def b238_0 (a0 : Nat) (v1 : Int32) (M : hM) : Option xRes :=
  Option.bind (p_z M 12 38 (some a0) v1) fun M1 =>
  some (.inl (none, M1))
def f238 (as : List aV) (M : hM) : xO := match as with
  | [.inr (.inr (some a0)), .inl v1] => x_out (b238_0 a0 v1 M)
  | _ => none
theorem lb238_0 (G : gX) (l : Launch) (a0 : Nat) (v1 : Int32) (M : hM) {res : xRes} (h : b238_0 a0 v1 M = some res) : h_sz M ≤ r_sz res ∧ h_sl M ≤ r_sl res := by
  unfold b238_0 at h
  obtain ⟨M1, h2, h⟩ := bd h
  have eh2 := p_z_sz h2
  obtain rfl := Option.some.inj h
  show h_sz M ≤ h_sz M1 ∧ h_sl M ≤ h_sl M1
  omega
section
variable {p : Program} {l : Launch} {e : Env} {s : State} {m : MethodId} {args : Array Value} {below : List Frame} {meth : Method} {c : Code} {G : gX} {z0 y0 : Nat} {r : Option aV} {M' : hM}
theorem sb238_0 (E : xE G p (xRm 0 (h_sz M' - z0) (h_sl M' - y0)) s m args c prog_14_method_75_code "ZonedFabricModel" z0 y0 (h_sz M') (h_sl M') 2) (B : xB ym238 none meth) (a0 : Nat) (v1 : Int32) (M : hM) {res : xRes} (h : b238_0 a0 v1 M = some res) (hN : xN (fun _ _ _ => False) r M' res) : xV G p l e (xRm 0 (h_sz M' - z0) (h_sl M' - y0)) s m args below meth c z0 y0 (h_sz M') (h_sl M') 2 (MQ below (xQc G r M') args s (h_sz M' - z0) (h_sl M' - y0) (xFr G)) 0 [(0, .inr (.inr (some a0))), (1, .inl v1)] [] M := by
  unfold b238_0 at h
  refine xv_b E [.aload_n 0, .iload_n 1] (pc' := 2) (lv' := [(0, .inr (.inr (some a0))), (1, .inl v1)]) (st' := [.inl v1, .inr (.inr (some a0))]) (by decide +kernel) rfl rfl ?_
  obtain ⟨M1, h2, h⟩ := bd h
  refine xp_z E 12 38 h2 mw992 (show decode prog_14_method_75_code 2 = .ok (.putfield 237, 3) by decide +kernel) (Or.inl rfl) ?_
  obtain rfl := Option.some.inj h
  obtain ⟨rfl, rfl⟩ := Prod.mk.inj (show ((none : Option aV), M1) = (r, M') from hN)
  exact xv_rv E B.1 B.2.1 (show decode prog_14_method_75_code 5 = .ok (.return_, 1) by decide +kernel) rfl rfl
end
theorem t238 (G : gX) (l : Launch) {as : List aV} {M : hM} {r : Option aV} {M' : hM} (h : f238 as M = some (r, M')) : xM G l ym238 prog_14_method_75_code 2 none 0 as M r M' := by
  unfold f238 at h
  split at h
  · have h := x_out_ok h
    refine xM_of (by decide) (Nat.le_of_ble_eq_true rfl) (lb238_0 G l _ _ M h) ?_
    intro p e s m args below meth c E B
    exact sb238_0 E B _ _ M h rfl
  · cases h
/-! ZFModel.domain(II)Z -/
def ym239 : MethodName := ⟨"ZonedFabricModel", "domain", "(II)Z"⟩
theorem cd239 : xCd ym239 prog_14_method_76_code 3 (some FieldType.boolean) 2 := ⟨mw1211, mw864, by decide, by decide, by decide +kernel⟩
def b239_33  (M : hM) : Option xRes :=
  some (.inl (some (.inl (0 : Int32)), M))
def b239_0 (a0 : Nat) (v1 : Int32) (v2 : Int32) (M : hM) : Option xRes :=
  if v1 < 0 then
    (b239_33  M)
  else
    (Option.bind (g_i M 12 0 (some a0)) fun v_1 =>
    if v_1 ≤ v1 then
      (b239_33  M)
    else
      (if v2 < (1 : Int32) then
        (b239_33  M)
      else
        (if (15 : Int32) < v2 then
          (b239_33  M)
        else
          (Option.bind (g_r M 12 26 (some a0)) fun o_3 =>
          Option.bind (al_i M 20 o_3 v1) fun v_5 =>
          if v_5 = v2 then
            (b239_33  M)
          else
            (Option.bind (g_r M 12 26 (some a0)) fun o_7 =>
            Option.bind (as_i M 20 o_7 v1 v2) fun M9 =>
            some (.inl (some (.inl (1 : Int32)), M9)))))))
def f239 (as : List aV) (M : hM) : xO := match as with
  | [.inr (.inr (some a0)), .inl v1, .inl v2] => x_out (b239_0 a0 v1 v2 M)
  | _ => none
theorem lb239_33 (G : gX) (l : Launch)  (M : hM) {res : xRes} (h : b239_33  M = some res) : h_sz M ≤ r_sz res ∧ h_sl M ≤ r_sl res := by
  unfold b239_33 at h
  obtain rfl := Option.some.inj h
  show h_sz M ≤ h_sz M ∧ h_sl M ≤ h_sl M
  omega
theorem lb239_0 (G : gX) (l : Launch) (a0 : Nat) (v1 : Int32) (v2 : Int32) (M : hM) {res : xRes} (h : b239_0 a0 v1 v2 M = some res) : h_sz M ≤ r_sz res ∧ h_sl M ≤ r_sl res := by
  unfold b239_0 at h
  by_cases q15 : v1 < 0
  · rw [if_pos q15] at h
    have e := lb239_33 G l  M h
    omega
  · rw [if_neg q15] at h
    obtain ⟨v_1, h2, h⟩ := bd h
    by_cases q14 : v_1 ≤ v1
    · rw [if_pos q14] at h
      have e := lb239_33 G l  M h
      omega
    · rw [if_neg q14] at h
      by_cases q13 : v2 < (1 : Int32)
      · rw [if_pos q13] at h
        have e := lb239_33 G l  M h
        omega
      · rw [if_neg q13] at h
        by_cases q12 : (15 : Int32) < v2
        · rw [if_pos q12] at h
          have e := lb239_33 G l  M h
          omega
        · rw [if_neg q12] at h
          obtain ⟨o_3, h4, h⟩ := bd h
          obtain ⟨v_5, h6, h⟩ := bd h
          by_cases q11 : v_5 = v2
          · rw [if_pos q11] at h
            have e := lb239_33 G l  M h
            omega
          · rw [if_neg q11] at h
            obtain ⟨o_7, h8, h⟩ := bd h
            obtain ⟨M9, h10, h⟩ := bd h
            have eh10 := as_i_sz h10
            obtain rfl := Option.some.inj h
            show h_sz M ≤ h_sz M9 ∧ h_sl M ≤ h_sl M9
            omega
section
variable {p : Program} {l : Launch} {e : Env} {s : State} {m : MethodId} {args : Array Value} {below : List Frame} {meth : Method} {c : Code} {G : gX} {z0 y0 : Nat} {r : Option aV} {M' : hM}
theorem sb239_33 (E : xE G p (xRm 0 (h_sz M' - z0) (h_sl M' - y0)) s m args c prog_14_method_76_code "ZonedFabricModel" z0 y0 (h_sz M') (h_sl M') 3) (B : xB ym239 (some FieldType.boolean) meth)  (M : hM) {res : xRes} (h : b239_33  M = some res) (hN : xN (fun _ _ _ => False) r M' res) : xV G p l e (xRm 0 (h_sz M' - z0) (h_sl M' - y0)) s m args below meth c z0 y0 (h_sz M') (h_sl M') 3 (MQ below (xQc G r M') args s (h_sz M' - z0) (h_sl M' - y0) (xFr G)) 33 [] [] M := by
  unfold b239_33 at h
  refine xv_b E [.iconst 0] (pc' := 34) (lv' := []) (st' := [.inl (0 : Int32)]) (by decide +kernel) rfl rfl ?_
  obtain rfl := Option.some.inj h
  obtain ⟨rfl, rfl⟩ := Prod.mk.inj (show ((some (.inl (0 : Int32)) : Option aV), M) = (r, M') from hN)
  exact xv_ri E B.1 rfl B.2.1 (show decode prog_14_method_76_code 34 = .ok (.ireturn, 1) by decide +kernel) rfl rfl
theorem sb239_0 (E : xE G p (xRm 0 (h_sz M' - z0) (h_sl M' - y0)) s m args c prog_14_method_76_code "ZonedFabricModel" z0 y0 (h_sz M') (h_sl M') 3) (B : xB ym239 (some FieldType.boolean) meth) (a0 : Nat) (v1 : Int32) (v2 : Int32) (M : hM) {res : xRes} (h : b239_0 a0 v1 v2 M = some res) (hN : xN (fun _ _ _ => False) r M' res) : xV G p l e (xRm 0 (h_sz M' - z0) (h_sl M' - y0)) s m args below meth c z0 y0 (h_sz M') (h_sl M') 3 (MQ below (xQc G r M') args s (h_sz M' - z0) (h_sl M' - y0) (xFr G)) 0 [(0, .inr (.inr (some a0))), (1, .inl v1), (2, .inl v2)] [] M := by
  unfold b239_0 at h
  refine xv_b E [.iload_n 1] (pc' := 1) (lv' := [(0, .inr (.inr (some a0))), (1, .inl v1), (2, .inl v2)]) (st' := [.inl v1]) (by decide +kernel) rfl rfl ?_
  by_cases q15 : v1 < 0
  · rw [if_pos q15] at h
    refine xv_if_lt E 33 (show decode prog_14_method_76_code 1 = .ok (.ifCond .lt (32), 3) by decide +kernel) rfl (fun _ => ?_) (fun z => absurd q15 z)
    exact xv_w (sb239_33 E B  M h hN) rfl
  · rw [if_neg q15] at h
    refine xv_if_lt E 33 (show decode prog_14_method_76_code 1 = .ok (.ifCond .lt (32), 3) by decide +kernel) rfl (fun z => absurd z q15) (fun _ => ?_)
    refine xv_b E [.iload_n 1, .aload_n 0] (pc' := 6) (lv' := [(0, .inr (.inr (some a0))), (1, .inl v1), (2, .inl v2)]) (st' := [.inr (.inr (some a0)), .inl v1]) (by decide +kernel) rfl rfl ?_
    obtain ⟨v_1, h2, h⟩ := bd h
    refine xg_i E 12 0 h2 mw921 (show decode prog_14_method_76_code 6 = .ok (.getfield 173, 3) by decide +kernel) ?_
    by_cases q14 : v_1 ≤ v1
    · rw [if_pos q14] at h
      refine xv_icmp_ge E 33 (show decode prog_14_method_76_code 9 = .ok (.if_icmp .ge (24), 3) by decide +kernel) rfl (fun _ => ?_) (fun z => absurd q14 z)
      exact xv_w (sb239_33 E B  M h hN) rfl
    · rw [if_neg q14] at h
      refine xv_icmp_ge E 33 (show decode prog_14_method_76_code 9 = .ok (.if_icmp .ge (24), 3) by decide +kernel) rfl (fun z => absurd z q14) (fun _ => ?_)
      refine xv_b E [.iload_n 2, .iconst 1] (pc' := 14) (lv' := [(0, .inr (.inr (some a0))), (1, .inl v1), (2, .inl v2)]) (st' := [.inl (1 : Int32), .inl v2]) (by decide +kernel) rfl rfl ?_
      by_cases q13 : v2 < (1 : Int32)
      · rw [if_pos q13] at h
        refine xv_icmp_lt E 33 (show decode prog_14_method_76_code 14 = .ok (.if_icmp .lt (19), 3) by decide +kernel) rfl (fun _ => ?_) (fun z => absurd q13 z)
        exact xv_w (sb239_33 E B  M h hN) rfl
      · rw [if_neg q13] at h
        refine xv_icmp_lt E 33 (show decode prog_14_method_76_code 14 = .ok (.if_icmp .lt (19), 3) by decide +kernel) rfl (fun z => absurd z q13) (fun _ => ?_)
        refine xv_b E [.iload_n 2, .bipush 15] (pc' := 20) (lv' := [(0, .inr (.inr (some a0))), (1, .inl v1), (2, .inl v2)]) (st' := [.inl (15 : Int32), .inl v2]) (by decide +kernel) rfl rfl ?_
        by_cases q12 : (15 : Int32) < v2
        · rw [if_pos q12] at h
          refine xv_icmp_gt E 33 (show decode prog_14_method_76_code 20 = .ok (.if_icmp .gt (13), 3) by decide +kernel) rfl (fun _ => ?_) (fun z => absurd q12 z)
          exact xv_w (sb239_33 E B  M h hN) rfl
        · rw [if_neg q12] at h
          refine xv_icmp_gt E 33 (show decode prog_14_method_76_code 20 = .ok (.if_icmp .gt (13), 3) by decide +kernel) rfl (fun z => absurd z q12) (fun _ => ?_)
          refine xv_b E [.aload_n 0] (pc' := 24) (lv' := [(0, .inr (.inr (some a0))), (1, .inl v1), (2, .inl v2)]) (st' := [.inr (.inr (some a0))]) (by decide +kernel) rfl rfl ?_
          obtain ⟨o_3, h4, h⟩ := bd h
          refine xg_r E 12 26 h4 mw886 (show decode prog_14_method_76_code 24 = .ok (.getfield 73, 3) by decide +kernel) ?_
          refine xv_b E [.iload_n 1] (pc' := 28) (lv' := [(0, .inr (.inr (some a0))), (1, .inl v1), (2, .inl v2)]) (st' := [.inl v1, .inr (.inr o_3)]) (by decide +kernel) rfl rfl ?_
          obtain ⟨v_5, h6, h⟩ := bd h
          refine xa_i E h6 (show decode prog_14_method_76_code 28 = .ok (.iaload, 1) by decide +kernel) ?_
          refine xv_b E [.iload_n 2] (pc' := 30) (lv' := [(0, .inr (.inr (some a0))), (1, .inl v1), (2, .inl v2)]) (st' := [.inl v2, .inl v_5]) (by decide +kernel) rfl rfl ?_
          by_cases q11 : v_5 = v2
          · rw [if_pos q11] at h
            refine xv_icmp_ne E 35 (show decode prog_14_method_76_code 30 = .ok (.if_icmp .ne (5), 3) by decide +kernel) rfl (fun z => absurd q11 z) (fun _ => ?_)
            exact xv_w (sb239_33 E B  M h hN) rfl
          · rw [if_neg q11] at h
            refine xv_icmp_ne E 35 (show decode prog_14_method_76_code 30 = .ok (.if_icmp .ne (5), 3) by decide +kernel) rfl (fun _ => ?_) (fun z => absurd z q11)
            refine xv_b E [.aload_n 0] (pc' := 36) (lv' := [(0, .inr (.inr (some a0))), (1, .inl v1), (2, .inl v2)]) (st' := [.inr (.inr (some a0))]) (by decide +kernel) rfl rfl ?_
            obtain ⟨o_7, h8, h⟩ := bd h
            refine xg_r E 12 26 h8 mw886 (show decode prog_14_method_76_code 36 = .ok (.getfield 73, 3) by decide +kernel) ?_
            refine xv_b E [.iload_n 1, .iload_n 2] (pc' := 41) (lv' := [(0, .inr (.inr (some a0))), (1, .inl v1), (2, .inl v2)]) (st' := [.inl v2, .inl v1, .inr (.inr o_7)]) (by decide +kernel) rfl rfl ?_
            obtain ⟨M9, h10, h⟩ := bd h
            refine xs_i E h10 (show decode prog_14_method_76_code 41 = .ok (.iastore, 1) by decide +kernel) ?_
            refine xv_b E [.iconst 1] (pc' := 43) (lv' := [(0, .inr (.inr (some a0))), (1, .inl v1), (2, .inl v2)]) (st' := [.inl (1 : Int32)]) (by decide +kernel) rfl rfl ?_
            obtain rfl := Option.some.inj h
            obtain ⟨rfl, rfl⟩ := Prod.mk.inj (show ((some (.inl (1 : Int32)) : Option aV), M9) = (r, M') from hN)
            exact xv_ri E B.1 rfl B.2.1 (show decode prog_14_method_76_code 43 = .ok (.ireturn, 1) by decide +kernel) rfl rfl
end
theorem t239 (G : gX) (l : Launch) {as : List aV} {M : hM} {r : Option aV} {M' : hM} (h : f239 as M = some (r, M')) : xM G l ym239 prog_14_method_76_code 3 (some FieldType.boolean) 0 as M r M' := by
  unfold f239 at h
  split at h
  · have h := x_out_ok h
    refine xM_of (by decide) (Nat.le_of_ble_eq_true rfl) (lb239_0 G l _ _ _ M h) ?_
    intro p e s m args below meth c E B
    exact sb239_0 E B _ _ _ M h rfl
  · cases h
/-! ZFModel.frameAt(II)I -/
def ym240 : MethodName := ⟨"ZonedFabricModel", "frameAt", "(II)I"⟩
theorem cd240 : xCd ym240 prog_14_method_77_code 3 (some FieldType.int) 2 := ⟨mw1212, mw864, by decide, by decide, by decide +kernel⟩
def b240_36 (si0 : Int32) (M : hM) : Option xRes :=
  some (.inl (some (.inl si0), M))
def b240_17 (a0 : Nat) (v1 : Int32) (v2 : Int32) (M : hM) : Option xRes :=
  Option.bind (g_r M 12 15 (some a0)) fun o_8 =>
  Option.bind (g_r M 12 10 (some a0)) fun o_10 =>
  Option.bind (al_i M 20 o_10 (((2 : Int32) * v1) + v2)) fun v_12 =>
  Option.bind (al_i M 20 o_8 v_12) fun v_14 =>
  b240_36 v_14 M
def b240_35  (M : hM) : Option xRes :=
  b240_36 (-1 : Int32) M
def b240_0 (a0 : Nat) (v1 : Int32) (v2 : Int32) (M : hM) : Option xRes :=
  Option.bind (g_o M 12 (some a0)) fun b_3 =>
  Option.bind (c_I (f234 [.inr (.inr (some b_3)), .inl v1] M)) fun q_1 =>
  if q_1.1 = 0 then
    (b240_35  q_1.2)
  else
    (if v2 = 0 then
      (b240_17 a0 v1 v2 q_1.2)
    else
      (if v2 = (1 : Int32) then
        (b240_17 a0 v1 v2 q_1.2)
      else
        (b240_35  q_1.2)))
def f240 (as : List aV) (M : hM) : xO := match as with
  | [.inr (.inr (some a0)), .inl v1, .inl v2] => x_out (b240_0 a0 v1 v2 M)
  | _ => none
theorem lb240_36 (G : gX) (l : Launch) (si0 : Int32) (M : hM) {res : xRes} (h : b240_36 si0 M = some res) : h_sz M ≤ r_sz res ∧ h_sl M ≤ r_sl res := by
  unfold b240_36 at h
  obtain rfl := Option.some.inj h
  show h_sz M ≤ h_sz M ∧ h_sl M ≤ h_sl M
  omega
theorem lb240_17 (G : gX) (l : Launch) (a0 : Nat) (v1 : Int32) (v2 : Int32) (M : hM) {res : xRes} (h : b240_17 a0 v1 v2 M = some res) : h_sz M ≤ r_sz res ∧ h_sl M ≤ r_sl res := by
  unfold b240_17 at h
  obtain ⟨o_8, h9, h⟩ := bd h
  obtain ⟨o_10, h11, h⟩ := bd h
  obtain ⟨v_12, h13, h⟩ := bd h
  obtain ⟨v_14, h15, h⟩ := bd h
  have e := lb240_36 G l v_14 M h
  omega
theorem lb240_35 (G : gX) (l : Launch)  (M : hM) {res : xRes} (h : b240_35  M = some res) : h_sz M ≤ r_sz res ∧ h_sl M ≤ r_sl res := by
  unfold b240_35 at h
  have e := lb240_36 G l (-1 : Int32) M h
  omega
theorem lb240_0 (G : gX) (l : Launch) (a0 : Nat) (v1 : Int32) (v2 : Int32) (M : hM) {res : xRes} (h : b240_0 a0 v1 v2 M = some res) : h_sz M ≤ r_sz res ∧ h_sl M ≤ r_sl res := by
  unfold b240_0 at h
  obtain ⟨b_3, h4, h⟩ := bd h
  obtain ⟨q_1, h2, h⟩ := bd h
  have eh2 := (t234 G l (c_I_some h2)).1
  by_cases q7 : q_1.1 = 0
  · rw [if_pos q7] at h
    have e := lb240_35 G l  q_1.2 h
    omega
  · rw [if_neg q7] at h
    by_cases q6 : v2 = 0
    · rw [if_pos q6] at h
      have e := lb240_17 G l a0 v1 v2 q_1.2 h
      omega
    · rw [if_neg q6] at h
      by_cases q5 : v2 = (1 : Int32)
      · rw [if_pos q5] at h
        have e := lb240_17 G l a0 v1 v2 q_1.2 h
        omega
      · rw [if_neg q5] at h
        have e := lb240_35 G l  q_1.2 h
        omega
section
variable {p : Program} {l : Launch} {e : Env} {s : State} {m : MethodId} {args : Array Value} {below : List Frame} {meth : Method} {c : Code} {G : gX} {z0 y0 : Nat} {r : Option aV} {M' : hM}
theorem sb240_36 (E : xE G p (xRm 1 (h_sz M' - z0) (h_sl M' - y0)) s m args c prog_14_method_77_code "ZonedFabricModel" z0 y0 (h_sz M') (h_sl M') 3) (B : xB ym240 (some FieldType.int) meth) (si0 : Int32) (M : hM) {res : xRes} (h : b240_36 si0 M = some res) (hN : xN (fun _ _ _ => False) r M' res) : xV G p l e (xRm 1 (h_sz M' - z0) (h_sl M' - y0)) s m args below meth c z0 y0 (h_sz M') (h_sl M') 3 (MQ below (xQc G r M') args s (h_sz M' - z0) (h_sl M' - y0) (xFr G)) 36 [] [.inl si0] M := by
  unfold b240_36 at h
  obtain rfl := Option.some.inj h
  obtain ⟨rfl, rfl⟩ := Prod.mk.inj (show ((some (.inl si0) : Option aV), M) = (r, M') from hN)
  exact xv_ri E B.1 rfl B.2.1 (show decode prog_14_method_77_code 36 = .ok (.ireturn, 1) by decide +kernel) rfl rfl
theorem sb240_17 (E : xE G p (xRm 1 (h_sz M' - z0) (h_sl M' - y0)) s m args c prog_14_method_77_code "ZonedFabricModel" z0 y0 (h_sz M') (h_sl M') 3) (B : xB ym240 (some FieldType.int) meth) (a0 : Nat) (v1 : Int32) (v2 : Int32) (M : hM) {res : xRes} (h : b240_17 a0 v1 v2 M = some res) (hN : xN (fun _ _ _ => False) r M' res) : xV G p l e (xRm 1 (h_sz M' - z0) (h_sl M' - y0)) s m args below meth c z0 y0 (h_sz M') (h_sl M') 3 (MQ below (xQc G r M') args s (h_sz M' - z0) (h_sl M' - y0) (xFr G)) 17 [(0, .inr (.inr (some a0))), (1, .inl v1), (2, .inl v2)] [] M := by
  unfold b240_17 at h
  refine xv_b E [.aload_n 0] (pc' := 18) (lv' := [(0, .inr (.inr (some a0))), (1, .inl v1), (2, .inl v2)]) (st' := [.inr (.inr (some a0))]) (by decide +kernel) rfl rfl ?_
  obtain ⟨o_8, h9, h⟩ := bd h
  refine xg_r E 12 15 h9 mw875 (show decode prog_14_method_77_code 18 = .ok (.getfield 40, 3) by decide +kernel) ?_
  refine xv_b E [.aload_n 0] (pc' := 22) (lv' := [(0, .inr (.inr (some a0))), (1, .inl v1), (2, .inl v2)]) (st' := [.inr (.inr (some a0)), .inr (.inr o_8)]) (by decide +kernel) rfl rfl ?_
  obtain ⟨o_10, h11, h⟩ := bd h
  refine xg_r E 12 10 h11 mw870 (show decode prog_14_method_77_code 22 = .ok (.getfield 27, 3) by decide +kernel) ?_
  refine xv_b E [.iconst 2, .iload_n 1, .imul, .iload_n 2, .iadd] (pc' := 30) (lv' := [(0, .inr (.inr (some a0))), (1, .inl v1), (2, .inl v2)]) (st' := [.inl (((2 : Int32) * v1) + v2), .inr (.inr o_10), .inr (.inr o_8)]) (by decide +kernel) rfl rfl ?_
  obtain ⟨v_12, h13, h⟩ := bd h
  refine xa_i E h13 (show decode prog_14_method_77_code 30 = .ok (.iaload, 1) by decide +kernel) ?_
  obtain ⟨v_14, h15, h⟩ := bd h
  refine xa_i E h15 (show decode prog_14_method_77_code 31 = .ok (.iaload, 1) by decide +kernel) ?_
  refine xv_goto E 36 (show decode prog_14_method_77_code 32 = .ok (.goto (4), 3) by decide +kernel) rfl ?_
  exact xv_w (sb240_36 E B v_14 M h hN) rfl
theorem sb240_35 (E : xE G p (xRm 1 (h_sz M' - z0) (h_sl M' - y0)) s m args c prog_14_method_77_code "ZonedFabricModel" z0 y0 (h_sz M') (h_sl M') 3) (B : xB ym240 (some FieldType.int) meth)  (M : hM) {res : xRes} (h : b240_35  M = some res) (hN : xN (fun _ _ _ => False) r M' res) : xV G p l e (xRm 1 (h_sz M' - z0) (h_sl M' - y0)) s m args below meth c z0 y0 (h_sz M') (h_sl M') 3 (MQ below (xQc G r M') args s (h_sz M' - z0) (h_sl M' - y0) (xFr G)) 35 [] [] M := by
  unfold b240_35 at h
  refine xv_b E [.iconst (-1)] (pc' := 36) (lv' := []) (st' := [.inl (-1 : Int32)]) (by decide +kernel) rfl rfl ?_
  exact xv_w (sb240_36 E B (-1 : Int32) M h hN) rfl
theorem sb240_0 (E : xE G p (xRm 1 (h_sz M' - z0) (h_sl M' - y0)) s m args c prog_14_method_77_code "ZonedFabricModel" z0 y0 (h_sz M') (h_sl M') 3) (B : xB ym240 (some FieldType.int) meth) (a0 : Nat) (v1 : Int32) (v2 : Int32) (M : hM) {res : xRes} (h : b240_0 a0 v1 v2 M = some res) (hN : xN (fun _ _ _ => False) r M' res) : xV G p l e (xRm 1 (h_sz M' - z0) (h_sl M' - y0)) s m args below meth c z0 y0 (h_sz M') (h_sl M') 3 (MQ below (xQc G r M') args s (h_sz M' - z0) (h_sl M' - y0) (xFr G)) 0 [(0, .inr (.inr (some a0))), (1, .inl v1), (2, .inl v2)] [] M := by
  unfold b240_0 at h
  refine xv_b E [.aload_n 0, .iload_n 1] (pc' := 2) (lv' := [(0, .inr (.inr (some a0))), (1, .inl v1), (2, .inl v2)]) (st' := [.inl v1, .inr (.inr (some a0))]) (by decide +kernel) rfl rfl ?_
  obtain ⟨b_3, h4, h⟩ := bd h
  obtain ⟨eh4, th4⟩ := g_o_some h4
  obtain ⟨q_1, h2, h⟩ := bd h
  refine xv_cvo E eh4 12 (as := [.inl v1]) (t234 G l (c_I_some h2)) cd234 mw1205 mw1206 mw1207 (show decode prog_14_method_77_code 2 = .ok (.invokevirtual 420, 3) by decide +kernel) th4 rfl rfl (Nat.le_of_ble_eq_true rfl) ⟨Nat.le_of_ble_eq_true rfl, Nat.le_of_ble_eq_true rfl⟩ ?_
  by_cases q7 : q_1.1 = 0
  · rw [if_pos q7] at h
    refine xv_if_eq E 35 (show decode prog_14_method_77_code 5 = .ok (.ifCond .eq (30), 3) by decide +kernel) rfl (fun _ => ?_) (fun z => absurd q7 z)
    exact xv_w (sb240_35 E B  q_1.2 h hN) rfl
  · rw [if_neg q7] at h
    refine xv_if_eq E 35 (show decode prog_14_method_77_code 5 = .ok (.ifCond .eq (30), 3) by decide +kernel) rfl (fun z => absurd z q7) (fun _ => ?_)
    refine xv_b E [.iload_n 2] (pc' := 9) (lv' := [(0, .inr (.inr (some a0))), (1, .inl v1), (2, .inl v2)]) (st' := [.inl v2]) (by decide +kernel) rfl rfl ?_
    by_cases q6 : v2 = 0
    · rw [if_pos q6] at h
      refine xv_if_eq E 17 (show decode prog_14_method_77_code 9 = .ok (.ifCond .eq (8), 3) by decide +kernel) rfl (fun _ => ?_) (fun z => absurd q6 z)
      exact xv_w (sb240_17 E B a0 v1 v2 q_1.2 h hN) rfl
    · rw [if_neg q6] at h
      refine xv_if_eq E 17 (show decode prog_14_method_77_code 9 = .ok (.ifCond .eq (8), 3) by decide +kernel) rfl (fun z => absurd z q6) (fun _ => ?_)
      refine xv_b E [.iload_n 2, .iconst 1] (pc' := 14) (lv' := [(0, .inr (.inr (some a0))), (1, .inl v1), (2, .inl v2)]) (st' := [.inl (1 : Int32), .inl v2]) (by decide +kernel) rfl rfl ?_
      by_cases q5 : v2 = (1 : Int32)
      · rw [if_pos q5] at h
        refine xv_icmp_ne E 35 (show decode prog_14_method_77_code 14 = .ok (.if_icmp .ne (21), 3) by decide +kernel) rfl (fun z => absurd q5 z) (fun _ => ?_)
        exact xv_w (sb240_17 E B a0 v1 v2 q_1.2 h hN) rfl
      · rw [if_neg q5] at h
        refine xv_icmp_ne E 35 (show decode prog_14_method_77_code 14 = .ok (.if_icmp .ne (21), 3) by decide +kernel) rfl (fun _ => ?_) (fun z => absurd z q5)
        exact xv_w (sb240_35 E B  q_1.2 h hN) rfl
end
theorem t240 (G : gX) (l : Launch) {as : List aV} {M : hM} {r : Option aV} {M' : hM} (h : f240 as M = some (r, M')) : xM G l ym240 prog_14_method_77_code 3 (some FieldType.int) 1 as M r M' := by
  unfold f240 at h
  split at h
  · have h := x_out_ok h
    refine xM_of (by decide) (Nat.le_of_ble_eq_true rfl) (lb240_0 G l _ _ _ M h) ?_
    intro p e s m args below meth c E B
    exact sb240_0 E B _ _ _ M h rfl
  · cases h
/-! ZFModel.flip(III)Z -/
def ym241 : MethodName := ⟨"ZonedFabricModel", "flip", "(III)Z"⟩
theorem cd241 : xCd ym241 prog_14_method_78_code 5 (some FieldType.boolean) 3 := ⟨mw1213, mw864, by decide, by decide, by decide +kernel⟩
def b241_32  (M : hM) : Option xRes :=
  some (.inl (some (.inl (0 : Int32)), M))
def b241_0 (a0 : Nat) (v1 : Int32) (v2 : Int32) (v3 : Int32) (M : hM) : Option xRes :=
  Option.bind (g_o M 12 (some a0)) fun b_3 =>
  Option.bind (c_I (f240 [.inr (.inr (some b_3)), .inl v1, .inl v2] M)) fun q_1 =>
  if q_1.1 = (-1 : Int32) then
    (b241_32  q_1.2)
  else
    (if v3 < 0 then
      (b241_32  q_1.2)
    else
      (Option.bind (g_r q_1.2 12 7 (some a0)) fun o_5 =>
      Option.bind (al_i q_1.2 20 o_5 q_1.1) fun v_7 =>
      if v3 < ((8 : Int32) * v_7) then
        (Option.bind (g_r q_1.2 12 6 (some a0)) fun o_9 =>
        Option.bind (d_v v3 (8 : Int32)) fun v_11 =>
        Option.bind (al_i q_1.2 21 o_9 ((q_1.1 * (80 : Int32)) + v_11)) fun v_13 =>
        Option.bind (d_m v3 (8 : Int32)) fun v_15 =>
        Option.bind (as_b q_1.2 21 o_9 ((q_1.1 * (80 : Int32)) + v_11) (Int32.toInt8 (v_13 ^^^ (Int32.toInt8 ((1 : Int32) <<< (v_15 &&& 31))).toInt32)).toInt32) fun M17 =>
        some (.inl (some (.inl (1 : Int32)), M17)))
      else
        (b241_32  q_1.2)))
def f241 (as : List aV) (M : hM) : xO := match as with
  | [.inr (.inr (some a0)), .inl v1, .inl v2, .inl v3] => x_out (b241_0 a0 v1 v2 v3 M)
  | _ => none
theorem lb241_32 (G : gX) (l : Launch)  (M : hM) {res : xRes} (h : b241_32  M = some res) : h_sz M ≤ r_sz res ∧ h_sl M ≤ r_sl res := by
  unfold b241_32 at h
  obtain rfl := Option.some.inj h
  show h_sz M ≤ h_sz M ∧ h_sl M ≤ h_sl M
  omega
theorem lb241_0 (G : gX) (l : Launch) (a0 : Nat) (v1 : Int32) (v2 : Int32) (v3 : Int32) (M : hM) {res : xRes} (h : b241_0 a0 v1 v2 v3 M = some res) : h_sz M ≤ r_sz res ∧ h_sl M ≤ r_sl res := by
  unfold b241_0 at h
  obtain ⟨b_3, h4, h⟩ := bd h
  obtain ⟨q_1, h2, h⟩ := bd h
  have eh2 := (t240 G l (c_I_some h2)).1
  by_cases q21 : q_1.1 = (-1 : Int32)
  · rw [if_pos q21] at h
    have e := lb241_32 G l  q_1.2 h
    omega
  · rw [if_neg q21] at h
    by_cases q20 : v3 < 0
    · rw [if_pos q20] at h
      have e := lb241_32 G l  q_1.2 h
      omega
    · rw [if_neg q20] at h
      obtain ⟨o_5, h6, h⟩ := bd h
      obtain ⟨v_7, h8, h⟩ := bd h
      by_cases q19 : v3 < ((8 : Int32) * v_7)
      · rw [if_pos q19] at h
        obtain ⟨o_9, h10, h⟩ := bd h
        obtain ⟨v_11, h12, h⟩ := bd h
        obtain ⟨v_13, h14, h⟩ := bd h
        obtain ⟨v_15, h16, h⟩ := bd h
        obtain ⟨M17, h18, h⟩ := bd h
        have eh18 := as_b_sz h18
        obtain rfl := Option.some.inj h
        show h_sz M ≤ h_sz M17 ∧ h_sl M ≤ h_sl M17
        omega
      · rw [if_neg q19] at h
        have e := lb241_32 G l  q_1.2 h
        omega
section
variable {p : Program} {l : Launch} {e : Env} {s : State} {m : MethodId} {args : Array Value} {below : List Frame} {meth : Method} {c : Code} {G : gX} {z0 y0 : Nat} {r : Option aV} {M' : hM}
theorem sb241_32 (E : xE G p (xRm 2 (h_sz M' - z0) (h_sl M' - y0)) s m args c prog_14_method_78_code "ZonedFabricModel" z0 y0 (h_sz M') (h_sl M') 5) (B : xB ym241 (some FieldType.boolean) meth)  (M : hM) {res : xRes} (h : b241_32  M = some res) (hN : xN (fun _ _ _ => False) r M' res) : xV G p l e (xRm 2 (h_sz M' - z0) (h_sl M' - y0)) s m args below meth c z0 y0 (h_sz M') (h_sl M') 5 (MQ below (xQc G r M') args s (h_sz M' - z0) (h_sl M' - y0) (xFr G)) 32 [] [] M := by
  unfold b241_32 at h
  refine xv_b E [.iconst 0] (pc' := 33) (lv' := []) (st' := [.inl (0 : Int32)]) (by decide +kernel) rfl rfl ?_
  obtain rfl := Option.some.inj h
  obtain ⟨rfl, rfl⟩ := Prod.mk.inj (show ((some (.inl (0 : Int32)) : Option aV), M) = (r, M') from hN)
  exact xv_ri E B.1 rfl B.2.1 (show decode prog_14_method_78_code 33 = .ok (.ireturn, 1) by decide +kernel) rfl rfl
theorem sb241_0 (E : xE G p (xRm 2 (h_sz M' - z0) (h_sl M' - y0)) s m args c prog_14_method_78_code "ZonedFabricModel" z0 y0 (h_sz M') (h_sl M') 5) (B : xB ym241 (some FieldType.boolean) meth) (a0 : Nat) (v1 : Int32) (v2 : Int32) (v3 : Int32) (M : hM) {res : xRes} (h : b241_0 a0 v1 v2 v3 M = some res) (hN : xN (fun _ _ _ => False) r M' res) : xV G p l e (xRm 2 (h_sz M' - z0) (h_sl M' - y0)) s m args below meth c z0 y0 (h_sz M') (h_sl M') 5 (MQ below (xQc G r M') args s (h_sz M' - z0) (h_sl M' - y0) (xFr G)) 0 [(0, .inr (.inr (some a0))), (1, .inl v1), (2, .inl v2), (3, .inl v3)] [] M := by
  unfold b241_0 at h
  refine xv_b E [.aload_n 0, .iload_n 1, .iload_n 2] (pc' := 3) (lv' := [(0, .inr (.inr (some a0))), (1, .inl v1), (2, .inl v2), (3, .inl v3)]) (st' := [.inl v2, .inl v1, .inr (.inr (some a0))]) (by decide +kernel) rfl rfl ?_
  obtain ⟨b_3, h4, h⟩ := bd h
  obtain ⟨eh4, th4⟩ := g_o_some h4
  obtain ⟨q_1, h2, h⟩ := bd h
  refine xv_cvo E eh4 12 (as := [.inl v1, .inl v2]) (t240 G l (c_I_some h2)) cd240 mw1214 mw1215 mw1216 (show decode prog_14_method_78_code 3 = .ok (.invokevirtual 423, 3) by decide +kernel) th4 rfl rfl (Nat.le_of_ble_eq_true rfl) ⟨Nat.le_of_ble_eq_true rfl, Nat.le_of_ble_eq_true rfl⟩ ?_
  refine xv_b E [.istore 4, .iload 4, .iconst (-1)] (pc' := 11) (lv' := [(4, .inl q_1.1), (0, .inr (.inr (some a0))), (1, .inl v1), (2, .inl v2), (3, .inl v3)]) (st' := [.inl (-1 : Int32), .inl q_1.1]) (by decide +kernel) rfl rfl ?_
  by_cases q21 : q_1.1 = (-1 : Int32)
  · rw [if_pos q21] at h
    refine xv_icmp_eq E 32 (show decode prog_14_method_78_code 11 = .ok (.if_icmp .eq (21), 3) by decide +kernel) rfl (fun _ => ?_) (fun z => absurd q21 z)
    exact xv_w (sb241_32 E B  q_1.2 h hN) rfl
  · rw [if_neg q21] at h
    refine xv_icmp_eq E 32 (show decode prog_14_method_78_code 11 = .ok (.if_icmp .eq (21), 3) by decide +kernel) rfl (fun z => absurd z q21) (fun _ => ?_)
    refine xv_b E [.iload_n 3] (pc' := 15) (lv' := [(4, .inl q_1.1), (0, .inr (.inr (some a0))), (1, .inl v1), (2, .inl v2), (3, .inl v3)]) (st' := [.inl v3]) (by decide +kernel) rfl rfl ?_
    by_cases q20 : v3 < 0
    · rw [if_pos q20] at h
      refine xv_if_lt E 32 (show decode prog_14_method_78_code 15 = .ok (.ifCond .lt (17), 3) by decide +kernel) rfl (fun _ => ?_) (fun z => absurd q20 z)
      exact xv_w (sb241_32 E B  q_1.2 h hN) rfl
    · rw [if_neg q20] at h
      refine xv_if_lt E 32 (show decode prog_14_method_78_code 15 = .ok (.ifCond .lt (17), 3) by decide +kernel) rfl (fun z => absurd z q20) (fun _ => ?_)
      refine xv_b E [.iload_n 3, .bipush 8, .aload_n 0] (pc' := 22) (lv' := [(4, .inl q_1.1), (0, .inr (.inr (some a0))), (1, .inl v1), (2, .inl v2), (3, .inl v3)]) (st' := [.inr (.inr (some a0)), .inl (8 : Int32), .inl v3]) (by decide +kernel) rfl rfl ?_
      obtain ⟨o_5, h6, h⟩ := bd h
      refine xg_r E 12 7 h6 mw868 (show decode prog_14_method_78_code 22 = .ok (.getfield 21, 3) by decide +kernel) ?_
      refine xv_b E [.iload 4] (pc' := 27) (lv' := [(4, .inl q_1.1), (0, .inr (.inr (some a0))), (1, .inl v1), (2, .inl v2), (3, .inl v3)]) (st' := [.inl q_1.1, .inr (.inr o_5), .inl (8 : Int32), .inl v3]) (by decide +kernel) rfl rfl ?_
      obtain ⟨v_7, h8, h⟩ := bd h
      refine xa_i E h8 (show decode prog_14_method_78_code 27 = .ok (.iaload, 1) by decide +kernel) ?_
      refine xv_b E [.imul] (pc' := 29) (lv' := [(4, .inl q_1.1), (0, .inr (.inr (some a0))), (1, .inl v1), (2, .inl v2), (3, .inl v3)]) (st' := [.inl ((8 : Int32) * v_7), .inl v3]) (by decide +kernel) rfl rfl ?_
      by_cases q19 : v3 < ((8 : Int32) * v_7)
      · rw [if_pos q19] at h
        refine xv_icmp_lt E 34 (show decode prog_14_method_78_code 29 = .ok (.if_icmp .lt (5), 3) by decide +kernel) rfl (fun _ => ?_) (fun z => absurd q19 z)
        refine xv_b E [.aload_n 0] (pc' := 35) (lv' := [(4, .inl q_1.1), (0, .inr (.inr (some a0))), (1, .inl v1), (2, .inl v2), (3, .inl v3)]) (st' := [.inr (.inr (some a0))]) (by decide +kernel) rfl rfl ?_
        obtain ⟨o_9, h10, h⟩ := bd h
        refine xg_r E 12 6 h10 mw867 (show decode prog_14_method_78_code 35 = .ok (.getfield 17, 3) by decide +kernel) ?_
        refine xv_b E [.iload 4, .bipush 80, .imul, .iload_n 3, .bipush 8] (pc' := 46) (lv' := [(4, .inl q_1.1), (0, .inr (.inr (some a0))), (1, .inl v1), (2, .inl v2), (3, .inl v3)]) (st' := [.inl (8 : Int32), .inl v3, .inl (q_1.1 * (80 : Int32)), .inr (.inr o_9)]) (by decide +kernel) rfl rfl ?_
        obtain ⟨v_11, h12, h⟩ := bd h
        refine xd_v E h12 (show decode prog_14_method_78_code 46 = .ok (.idiv, 1) by decide +kernel) ?_
        refine xv_b E [.iadd, .dup2] (pc' := 49) (lv' := [(4, .inl q_1.1), (0, .inr (.inr (some a0))), (1, .inl v1), (2, .inl v2), (3, .inl v3)]) (st' := [.inl ((q_1.1 * (80 : Int32)) + v_11), .inr (.inr o_9), .inl ((q_1.1 * (80 : Int32)) + v_11), .inr (.inr o_9)]) (by decide +kernel) rfl rfl ?_
        obtain ⟨v_13, h14, h⟩ := bd h
        refine xa_b E h14 (show decode prog_14_method_78_code 49 = .ok (.baload, 1) by decide +kernel) ?_
        refine xv_b E [.iconst 1, .iload_n 3, .bipush 8] (pc' := 54) (lv' := [(4, .inl q_1.1), (0, .inr (.inr (some a0))), (1, .inl v1), (2, .inl v2), (3, .inl v3)]) (st' := [.inl (8 : Int32), .inl v3, .inl (1 : Int32), .inl v_13, .inl ((q_1.1 * (80 : Int32)) + v_11), .inr (.inr o_9)]) (by decide +kernel) rfl rfl ?_
        obtain ⟨v_15, h16, h⟩ := bd h
        refine xd_m E h16 (show decode prog_14_method_78_code 54 = .ok (.irem, 1) by decide +kernel) ?_
        refine xv_b E [.ishl, .i2b, .ixor, .i2b] (pc' := 59) (lv' := [(4, .inl q_1.1), (0, .inr (.inr (some a0))), (1, .inl v1), (2, .inl v2), (3, .inl v3)]) (st' := [.inl (Int32.toInt8 (v_13 ^^^ (Int32.toInt8 ((1 : Int32) <<< (v_15 &&& 31))).toInt32)).toInt32, .inl ((q_1.1 * (80 : Int32)) + v_11), .inr (.inr o_9)]) (by decide +kernel) rfl rfl ?_
        obtain ⟨M17, h18, h⟩ := bd h
        refine xs_b E h18 (show decode prog_14_method_78_code 59 = .ok (.bastore, 1) by decide +kernel) ?_
        refine xv_b E [.iconst 1] (pc' := 61) (lv' := [(4, .inl q_1.1), (0, .inr (.inr (some a0))), (1, .inl v1), (2, .inl v2), (3, .inl v3)]) (st' := [.inl (1 : Int32)]) (by decide +kernel) rfl rfl ?_
        obtain rfl := Option.some.inj h
        obtain ⟨rfl, rfl⟩ := Prod.mk.inj (show ((some (.inl (1 : Int32)) : Option aV), M17) = (r, M') from hN)
        exact xv_ri E B.1 rfl B.2.1 (show decode prog_14_method_78_code 61 = .ok (.ireturn, 1) by decide +kernel) rfl rfl
      · rw [if_neg q19] at h
        refine xv_icmp_lt E 34 (show decode prog_14_method_78_code 29 = .ok (.if_icmp .lt (5), 3) by decide +kernel) rfl (fun z => absurd z q19) (fun _ => ?_)
        exact xv_w (sb241_32 E B  q_1.2 h hN) rfl
end
theorem t241 (G : gX) (l : Launch) {as : List aV} {M : hM} {r : Option aV} {M' : hM} (h : f241 as M = some (r, M')) : xM G l ym241 prog_14_method_78_code 5 (some FieldType.boolean) 2 as M r M' := by
  unfold f241 at h
  split at h
  · have h := x_out_ok h
    refine xM_of (by decide) (Nat.le_of_ble_eq_true rfl) (lb241_0 G l _ _ _ _ M h) ?_
    intro p e s m args below meth c E B
    exact sb241_0 E B _ _ _ _ M h rfl
  · cases h
