theorem mw1081 : Cond.code ⟨"ZonedFabricModel", "done", "(IIII)V"⟩ prog_14_method_62_code 6 none ∈ xTs := xTs_in (tk7 (List.mem_of_getElem? (i := 184) (by decide +kernel))) rfl
theorem mw1082 : Cond.methodLink "ZonedFabricModel" 394 ⟨"ZonedFabricModel", "answers", "(IIIII)I"⟩ ∈ xTs := xTs_in (tk7 (List.mem_of_getElem? (i := 173) (by decide +kernel))) rfl
theorem mw1083 : Cond.instanceMethod ⟨"ZonedFabricModel", "answers", "(IIIII)I"⟩ ∈ xTs := xTs_in (tk7 (List.mem_of_getElem? (i := 175) (by decide +kernel))) rfl
theorem mw1084 : Cond.selects "ZonedFabricModel" ⟨"ZonedFabricModel", "answers", "(IIIII)I"⟩ ⟨"ZonedFabricModel", "answers", "(IIIII)I"⟩ ∈ xTs := xTs_in (List.mem_append_left _ (List.mem_of_getElem? (i := 114) (by decide +kernel))) rfl
theorem mw1085 : Cond.code ⟨"ZonedFabricModel", "data", "(III)V"⟩ prog_14_method_68_code 8 none ∈ xTs := xTs_in (tk7 (List.mem_of_getElem? (i := 189) (by decide +kernel))) rfl
theorem mw1086 : Cond.methodLink "ZonedFabricModel" 410 ⟨"ZonedFabricModel", "done", "(IIII)V"⟩ ∈ xTs := xTs_in (tk7 (List.mem_of_getElem? (i := 181) (by decide +kernel))) rfl
theorem mw1087 : Cond.instanceMethod ⟨"ZonedFabricModel", "done", "(IIII)V"⟩ ∈ xTs := xTs_in (tk7 (List.mem_of_getElem? (i := 183) (by decide +kernel))) rfl
theorem mw1088 : Cond.selects "ZonedFabricModel" ⟨"ZonedFabricModel", "done", "(IIII)V"⟩ ⟨"ZonedFabricModel", "done", "(IIII)V"⟩ ∈ xTs := xTs_in (List.mem_append_left _ (List.mem_of_getElem? (i := 116) (by decide +kernel))) rfl
theorem mw1089 : Cond.code ⟨"ZonedFabricModel", "isLogged", "(II)Z"⟩ prog_14_method_64_code 5 (some FieldType.boolean) ∈ xTs := xTs_in (tk7 (List.mem_of_getElem? (i := 172) (by decide +kernel))) rfl
theorem mw1090 : Cond.code ⟨"ZonedFabricModel", "command", "(III)V"⟩ prog_14_method_66_code 10 none ∈ xTs := xTs_in (tk7 (List.mem_of_getElem? (i := 180) (by decide +kernel))) rfl
theorem mw1091 : Cond.methodLink "ZonedFabricModel" 407 ⟨"ZonedFabricModel", "isLogged", "(II)Z"⟩ ∈ xTs := xTs_in (tk7 (List.mem_of_getElem? (i := 169) (by decide +kernel))) rfl
theorem mw1092 : Cond.instanceMethod ⟨"ZonedFabricModel", "isLogged", "(II)Z"⟩ ∈ xTs := xTs_in (tk7 (List.mem_of_getElem? (i := 171) (by decide +kernel))) rfl
theorem mw1093 : Cond.selects "ZonedFabricModel" ⟨"ZonedFabricModel", "isLogged", "(II)Z"⟩ ⟨"ZonedFabricModel", "isLogged", "(II)Z"⟩ ∈ xTs := xTs_in (List.mem_append_left _ (List.mem_of_getElem? (i := 113) (by decide +kernel))) rfl
theorem mw1094 : Cond.constant "ZonedFabricModel" 413 (65535) ∈ xTs := xTs_in (tk7 (List.mem_of_getElem? (i := 185) (by decide +kernel))) rfl
theorem mw1095 : Cond.code ⟨"ZonedFabricModel", "logs", "(II)V"⟩ prog_14_method_65_code 4 none ∈ xTs := xTs_in (tk7 (List.mem_of_getElem? (i := 168) (by decide +kernel))) rfl
theorem mw1096 : Cond.code ⟨"ZonedFabricModel", "discGets", "(II)V"⟩ prog_14_method_63_code 5 none ∈ xTs := xTs_in (tk7 (List.mem_of_getElem? (i := 164) (by decide +kernel))) rfl
theorem mw1097 : Cond.methodLink "ZonedFabricModel" 398 ⟨"ZonedFabricModel", "logs", "(II)V"⟩ ∈ xTs := xTs_in (tk7 (List.mem_of_getElem? (i := 165) (by decide +kernel))) rfl
theorem mw1098 : Cond.instanceMethod ⟨"ZonedFabricModel", "logs", "(II)V"⟩ ∈ xTs := xTs_in (tk7 (List.mem_of_getElem? (i := 167) (by decide +kernel))) rfl
theorem mw1099 : Cond.selects "ZonedFabricModel" ⟨"ZonedFabricModel", "logs", "(II)V"⟩ ⟨"ZonedFabricModel", "logs", "(II)V"⟩ ∈ xTs := xTs_in (List.mem_append_left _ (List.mem_of_getElem? (i := 112) (by decide +kernel))) rfl
theorem mw1100 : Cond.methodLink "ZonedFabricModel" 401 ⟨"ZonedFabricModel", "command", "(III)V"⟩ ∈ xTs := xTs_in (tk7 (List.mem_of_getElem? (i := 177) (by decide +kernel))) rfl
theorem mw1101 : Cond.instanceMethod ⟨"ZonedFabricModel", "command", "(III)V"⟩ ∈ xTs := xTs_in (tk7 (List.mem_of_getElem? (i := 179) (by decide +kernel))) rfl
theorem mw1102 : Cond.selects "ZonedFabricModel" ⟨"ZonedFabricModel", "command", "(III)V"⟩ ⟨"ZonedFabricModel", "command", "(III)V"⟩ ∈ xTs := xTs_in (List.mem_append_left _ (List.mem_of_getElem? (i := 115) (by decide +kernel))) rfl
theorem mw1103 : Cond.methodLink "ZonedFabricModel" 404 ⟨"ZonedFabricModel", "data", "(III)V"⟩ ∈ xTs := xTs_in (tk7 (List.mem_of_getElem? (i := 186) (by decide +kernel))) rfl
theorem mw1104 : Cond.instanceMethod ⟨"ZonedFabricModel", "data", "(III)V"⟩ ∈ xTs := xTs_in (tk7 (List.mem_of_getElem? (i := 188) (by decide +kernel))) rfl
theorem mw1105 : Cond.selects "ZonedFabricModel" ⟨"ZonedFabricModel", "data", "(III)V"⟩ ⟨"ZonedFabricModel", "data", "(III)V"⟩ ∈ xTs := xTs_in (List.mem_append_left _ (List.mem_of_getElem? (i := 117) (by decide +kernel))) rfl
/-! ZFModel.done(IIII)V -/
def ym213 : MethodName := ⟨"ZonedFabricModel", "done", "(IIII)V"⟩
theorem cd213 : xCd ym213 prog_14_method_62_code 6 none 4 := ⟨mw1081, mw864, by decide, by decide, by decide +kernel⟩
def b213_0 (a0 : Nat) (v1 : Int32) (v2 : Int32) (v3 : Int32) (v4 : Int32) (M : hM) : Option xRes :=
  Option.bind (g_o M 12 (some a0)) fun b_3 =>
  Option.bind (c_I (f212 [.inr (.inr (some b_3)), .inl v1, .inl v2, .inl (12 : Int32), .inl v3, .inl (0 : Int32)] M)) fun q_1 =>
  Option.bind (g_o q_1.2 12 (some a0)) fun b_7 =>
  Option.bind (c_V (f167 [.inr (.inr (some b_7)), .inl q_1.1, .inr (.inl (Int32.toInt64 v4)), .inl (1 : Int32)] q_1.2)) fun q_5 =>
  Option.bind (g_o q_5 12 (some a0)) fun b_11 =>
  Option.bind (c_I (f176 [.inr (.inr (some b_11)), .inl v1] q_5)) fun q_9 =>
  Option.bind (g_o q_9.2 12 (some a0)) fun b_15 =>
  Option.bind (c_V (f183 [.inr (.inr (some b_15)), .inl q_9.1, .inl q_1.1] q_9.2)) fun q_13 =>
  some (.inl (none, q_13))
def f213 (as : List aV) (M : hM) : xO := match as with
  | [.inr (.inr (some a0)), .inl v1, .inl v2, .inl v3, .inl v4] => x_out (b213_0 a0 v1 v2 v3 v4 M)
  | _ => none
theorem lb213_0 (G : gX) (l : Launch) (a0 : Nat) (v1 : Int32) (v2 : Int32) (v3 : Int32) (v4 : Int32) (M : hM) {res : xRes} (h : b213_0 a0 v1 v2 v3 v4 M = some res) : h_sz M ≤ r_sz res ∧ h_sl M ≤ r_sl res := by
  unfold b213_0 at h
  obtain ⟨b_3, h4, h⟩ := bd h
  obtain ⟨q_1, h2, h⟩ := bd h
  have eh2 := (t212 G l (c_I_some h2)).1
  obtain ⟨b_7, h8, h⟩ := bd h
  obtain ⟨q_5, h6, h⟩ := bd h
  have eh6 := (t167 G l (c_V_some h6)).1
  obtain ⟨b_11, h12, h⟩ := bd h
  obtain ⟨q_9, h10, h⟩ := bd h
  have eh10 := (t176 G l (c_I_some h10)).1
  obtain ⟨b_15, h16, h⟩ := bd h
  obtain ⟨q_13, h14, h⟩ := bd h
  have eh14 := (t183 G l (c_V_some h14)).1
  obtain rfl := Option.some.inj h
  show h_sz M ≤ h_sz q_13 ∧ h_sl M ≤ h_sl q_13
  omega
section
variable {p : Program} {l : Launch} {e : Env} {s : State} {m : MethodId} {args : Array Value} {below : List Frame} {meth : Method} {c : Code} {G : gX} {z0 y0 : Nat} {r : Option aV} {M' : hM}
theorem sb213_0 (E : xE G p (xRm 4 (h_sz M' - z0) (h_sl M' - y0)) s m args c prog_14_method_62_code "ZonedFabricModel" z0 y0 (h_sz M') (h_sl M') 6) (B : xB ym213 none meth) (a0 : Nat) (v1 : Int32) (v2 : Int32) (v3 : Int32) (v4 : Int32) (M : hM) {res : xRes} (h : b213_0 a0 v1 v2 v3 v4 M = some res) (hN : xN (fun _ _ _ => False) r M' res) : xV G p l e (xRm 4 (h_sz M' - z0) (h_sl M' - y0)) s m args below meth c z0 y0 (h_sz M') (h_sl M') 6 (MQ below (xQc G r M') args s (h_sz M' - z0) (h_sl M' - y0) (xFr G)) 0 [(0, .inr (.inr (some a0))), (1, .inl v1), (2, .inl v2), (3, .inl v3), (4, .inl v4)] [] M := by
  unfold b213_0 at h
  refine xv_b E [.aload_n 0, .iload_n 1, .iload_n 2, .bipush 12, .iload_n 3, .iconst 0] (pc' := 7) (lv' := [(0, .inr (.inr (some a0))), (1, .inl v1), (2, .inl v2), (3, .inl v3), (4, .inl v4)]) (st' := [.inl (0 : Int32), .inl v3, .inl (12 : Int32), .inl v2, .inl v1, .inr (.inr (some a0))]) (by decide +kernel) rfl rfl ?_
  obtain ⟨b_3, h4, h⟩ := bd h
  obtain ⟨eh4, th4⟩ := g_o_some h4
  obtain ⟨q_1, h2, h⟩ := bd h
  refine xv_cvo E eh4 12 (as := [.inl v1, .inl v2, .inl (12 : Int32), .inl v3, .inl (0 : Int32)]) (t212 G l (c_I_some h2)) cd212 mw1082 mw1083 mw1084 (show decode prog_14_method_62_code 7 = .ok (.invokevirtual 394, 3) by decide +kernel) th4 rfl rfl (Nat.le_of_ble_eq_true rfl) ⟨Nat.le_of_ble_eq_true rfl, Nat.le_of_ble_eq_true rfl⟩ ?_
  refine xv_b E [.istore 5, .aload_n 0, .iload 5, .iload 4, .i2l, .iconst 1] (pc' := 19) (lv' := [(5, .inl q_1.1), (0, .inr (.inr (some a0))), (1, .inl v1), (2, .inl v2), (3, .inl v3), (4, .inl v4)]) (st' := [.inl (1 : Int32), .inr (.inl (Int32.toInt64 v4)), .inl q_1.1, .inr (.inr (some a0))]) (by decide +kernel) rfl rfl ?_
  obtain ⟨b_7, h8, h⟩ := bd h
  obtain ⟨eh8, th8⟩ := g_o_some h8
  obtain ⟨q_5, h6, h⟩ := bd h
  refine xv_cvo E eh8 12 (as := [.inl q_1.1, .inr (.inl (Int32.toInt64 v4)), .inl (1 : Int32)]) (t167 G l (c_V_some h6)) cd167 mw932 mw933 mw934 (show decode prog_14_method_62_code 19 = .ok (.invokevirtual 190, 3) by decide +kernel) th8 rfl rfl (Nat.le_of_ble_eq_true rfl) ⟨Nat.le_of_ble_eq_true rfl, Nat.le_of_ble_eq_true rfl⟩ ?_
  refine xv_b E [.aload_n 0, .aload_n 0, .iload_n 1] (pc' := 25) (lv' := [(5, .inl q_1.1), (0, .inr (.inr (some a0))), (1, .inl v1), (2, .inl v2), (3, .inl v3), (4, .inl v4)]) (st' := [.inl v1, .inr (.inr (some a0)), .inr (.inr (some a0))]) (by decide +kernel) rfl rfl ?_
  obtain ⟨b_11, h12, h⟩ := bd h
  obtain ⟨eh12, th12⟩ := g_o_some h12
  obtain ⟨q_9, h10, h⟩ := bd h
  refine xv_cvo E eh12 12 (as := [.inl v1]) (t176 G l (c_I_some h10)) cd176 mw1040 mw1041 mw1042 (show decode prog_14_method_62_code 25 = .ok (.invokevirtual 352, 3) by decide +kernel) th12 rfl rfl (Nat.le_of_ble_eq_true rfl) ⟨Nat.le_of_ble_eq_true rfl, Nat.le_of_ble_eq_true rfl⟩ ?_
  refine xv_b E [.iload 5] (pc' := 30) (lv' := [(5, .inl q_1.1), (0, .inr (.inr (some a0))), (1, .inl v1), (2, .inl v2), (3, .inl v3), (4, .inl v4)]) (st' := [.inl q_1.1, .inl q_9.1, .inr (.inr (some a0))]) (by decide +kernel) rfl rfl ?_
  obtain ⟨b_15, h16, h⟩ := bd h
  obtain ⟨eh16, th16⟩ := g_o_some h16
  obtain ⟨q_13, h14, h⟩ := bd h
  refine xv_cvo E eh16 12 (as := [.inl q_9.1, .inl q_1.1]) (t183 G l (c_V_some h14)) cd183 mw1043 mw1044 mw1045 (show decode prog_14_method_62_code 30 = .ok (.invokevirtual 301, 3) by decide +kernel) th16 rfl rfl (Nat.le_of_ble_eq_true rfl) ⟨Nat.le_of_ble_eq_true rfl, Nat.le_of_ble_eq_true rfl⟩ ?_
  obtain rfl := Option.some.inj h
  obtain ⟨rfl, rfl⟩ := Prod.mk.inj (show ((none : Option aV), q_13) = (r, M') from hN)
  exact xv_rv E B.1 B.2.1 (show decode prog_14_method_62_code 33 = .ok (.return_, 1) by decide +kernel) rfl rfl
end
theorem t213 (G : gX) (l : Launch) {as : List aV} {M : hM} {r : Option aV} {M' : hM} (h : f213 as M = some (r, M')) : xM G l ym213 prog_14_method_62_code 6 none 4 as M r M' := by
  unfold f213 at h
  split at h
  · have h := x_out_ok h
    refine xM_of (by decide) (Nat.le_of_ble_eq_true rfl) (lb213_0 G l _ _ _ _ _ M h) ?_
    intro p e s m args below meth c E B
    exact sb213_0 E B _ _ _ _ _ M h rfl
  · cases h
/-! ZFModel.data(III)V -/
def ym214 : MethodName := ⟨"ZonedFabricModel", "data", "(III)V"⟩
theorem cd214 : xCd ym214 prog_14_method_68_code 8 none 3 := ⟨mw1085, mw864, by decide, by decide, by decide +kernel⟩
def b214_0 (a0 : Nat) (v1 : Int32) (v2 : Int32) (v3 : Int32) (M : hM) : Option xRes :=
  Option.bind (g_o M 12 (some a0)) fun b_3 =>
  Option.bind (c_I (f165 [.inr (.inr (some b_3)), .inl v2, .inl (11 : Int32)] M)) fun q_1 =>
  some (.inr (12, [.inr (.inr (some a0)), .inl v1, .inl v2, .inl v3, .inl q_1.1, .inl (0 : Int32)], q_1.2))
def b214_269 (a0 : Nat) (v1 : Int32) (v2 : Int32) (v3 : Int32) (v4 : Int32) (v5 : Int32) (M : hM) : Option xRes :=
  some (.inr (12, [.inr (.inr (some a0)), .inl v1, .inl v2, .inl v3, .inl v4, .inl (v5 + (1 : Int32))], M))
def b214_12 (a0 : Nat) (v1 : Int32) (v2 : Int32) (v3 : Int32) (v4 : Int32) (v5 : Int32) (M : hM) : Option xRes :=
  Option.bind (g_r M 12 46 (some a0)) fun o_5 =>
  Option.bind (al_i M 20 o_5 v1) fun v_7 =>
  if v_7 ≤ v5 then
    (some (.inl (none, M)))
  else
    (Option.bind (g_r M 12 44 (some a0)) fun o_9 =>
    Option.bind (al_i M 20 o_9 (((48 : Int32) * v1) + ((8 : Int32) * v5))) fun v_11 =>
    if v_11 = v3 then
      (Option.bind (g_r M 12 44 (some a0)) fun o_13 =>
      Option.bind (al_i M 20 o_13 ((((48 : Int32) * v1) + ((8 : Int32) * v5)) + (1 : Int32))) fun v_15 =>
      Option.bind (g_o M 12 (some a0)) fun b_19 =>
      Option.bind (c_I (f166 [.inr (.inr (some b_19)), .inl v2, .inl (7 : Int32), .inl (2 : Int32)] M)) fun q_17 =>
      if v_15 = q_17.1 then
        (Option.bind (g_r q_17.2 12 44 (some a0)) fun o_21 =>
        Option.bind (al_i q_17.2 20 o_21 ((((48 : Int32) * v1) + ((8 : Int32) * v5)) + (2 : Int32))) fun v_23 =>
        Option.bind (g_o q_17.2 12 (some a0)) fun b_27 =>
        Option.bind (c_I (f166 [.inr (.inr (some b_27)), .inl v2, .inl (9 : Int32), .inl (2 : Int32)] q_17.2)) fun q_25 =>
        if v_23 = q_25.1 then
          (Option.bind (g_r q_25.2 12 44 (some a0)) fun o_29 =>
          Option.bind (al_i q_25.2 20 o_29 ((((48 : Int32) * v1) + ((8 : Int32) * v5)) + (5 : Int32))) fun v_31 =>
          if v4 < v_31 then
            (Option.bind (g_r q_25.2 12 45 (some a0)) fun o_33 =>
            Option.bind (g_o q_25.2 12 (some a0)) fun b_37 =>
            Option.bind (c_L (f209 [.inr (.inr (some b_37)), .inl v2] q_25.2)) fun q_35 =>
            Option.bind (as_l q_35.2 23 o_33 ((((24 : Int32) * v1) + ((4 : Int32) * v5)) + v4) q_35.1) fun M39 =>
            Option.bind (g_r M39 12 44 (some a0)) fun o_41 =>
            Option.bind (al_i M39 20 o_41 ((((48 : Int32) * v1) + ((8 : Int32) * v5)) + (6 : Int32))) fun v_43 =>
            Option.bind (as_i M39 20 o_41 ((((48 : Int32) * v1) + ((8 : Int32) * v5)) + (6 : Int32)) (v_43 ||| ((1 : Int32) <<< (v4 &&& 31)))) fun M45 =>
            Option.bind (g_r M45 12 44 (some a0)) fun o_47 =>
            Option.bind (al_i M45 20 o_47 ((((48 : Int32) * v1) + ((8 : Int32) * v5)) + (6 : Int32))) fun v_49 =>
            Option.bind (g_r M45 12 44 (some a0)) fun o_51 =>
            Option.bind (al_i M45 20 o_51 ((((48 : Int32) * v1) + ((8 : Int32) * v5)) + (5 : Int32))) fun v_53 =>
            if v_49 = (((1 : Int32) <<< (v_53 &&& 31)) - (1 : Int32)) then
              (some (.inr (173, [.inr (.inr (some a0)), .inl v1, .inl v2, .inl v5, .inl (((48 : Int32) * v1) + ((8 : Int32) * v5)), .inl (0 : Int32)], M45)))
            else
              (some (.inl (none, M45))))
          else
            (some (.inl (none, q_25.2))))
        else
          (b214_269 a0 v1 v2 v3 v4 v5 q_25.2))
      else
        (b214_269 a0 v1 v2 v3 v4 v5 q_17.2))
    else
      (b214_269 a0 v1 v2 v3 v4 v5 M))
def b214_173 (a0 : Nat) (v1 : Int32) (v2 : Int32) (v5 : Int32) (v6 : Int32) (v7 : Int32) (M : hM) : Option xRes :=
  Option.bind (g_r M 12 44 (some a0)) fun o_61 =>
  Option.bind (al_i M 20 o_61 (v6 + (5 : Int32))) fun v_63 =>
  if v_63 ≤ v7 then
    (Option.bind (g_r M 12 44 (some a0)) fun o_65 =>
    Option.bind (al_i M 20 o_65 (v6 + (2 : Int32))) fun v_67 =>
    Option.bind (g_o M 12 (some a0)) fun b_71 =>
    Option.bind (c_V (f213 [.inr (.inr (some b_71)), .inl v1, .inl v2, .inl v_67, .inl (0 : Int32)] M)) fun q_69 =>
    Option.bind (g_o q_69 12 (some a0)) fun b_75 =>
    Option.bind (c_V (f203 [.inr (.inr (some b_75)), .inl v1, .inl v5] q_69)) fun q_73 =>
    some (.inl (none, q_73)))
  else
    (Option.bind (g_r M 12 42 (some a0)) fun o_77 =>
    Option.bind (g_r M 12 44 (some a0)) fun o_79 =>
    Option.bind (al_i M 20 o_79 (v6 + (3 : Int32))) fun v_81 =>
    Option.bind (g_r M 12 44 (some a0)) fun o_83 =>
    Option.bind (al_i M 20 o_83 (v6 + (4 : Int32))) fun v_85 =>
    Option.bind (g_r M 12 45 (some a0)) fun o_87 =>
    Option.bind (al_l M 23 o_87 ((((24 : Int32) * v1) + ((4 : Int32) * v5)) + v7)) fun w_89 =>
    Option.bind (as_l M 23 o_77 (((((32 : Int32) * v1) + ((16 : Int32) * v_81)) + v_85) + v7) w_89) fun M91 =>
    some (.inr (173, [.inr (.inr (some a0)), .inl v1, .inl v2, .inl v5, .inl v6, .inl (v7 + (1 : Int32))], M91)))
def k214 (h : Nat) (as : List aV) (M : hM) : Option xRes :=
  if h = 12 then (match as with | [.inr (.inr (some a0)), .inl v1, .inl v2, .inl v3, .inl v4, .inl v5] => b214_12 a0 v1 v2 v3 v4 v5 M | _ => none) else
  if h = 173 then (match as with | [.inr (.inr (some a0)), .inl v1, .inl v2, .inl v5, .inl v6, .inl v7] => b214_173 a0 v1 v2 v5 v6 v7 M | _ => none) else
  none
def f214 (as : List aV) (M : hM) : xO := match as with
  | [.inr (.inr (some a0)), .inl v1, .inl v2, .inl v3] => x_go k214 (b214_0 a0 v1 v2 v3 M)
  | _ => none
theorem lb214_0 (G : gX) (l : Launch) (a0 : Nat) (v1 : Int32) (v2 : Int32) (v3 : Int32) (M : hM) {res : xRes} (h : b214_0 a0 v1 v2 v3 M = some res) : h_sz M ≤ r_sz res ∧ h_sl M ≤ r_sl res := by
  unfold b214_0 at h
  obtain ⟨b_3, h4, h⟩ := bd h
  obtain ⟨q_1, h2, h⟩ := bd h
  have eh2 := (t165 G l (c_I_some h2)).1
  obtain rfl := Option.some.inj h
  show h_sz M ≤ h_sz q_1.2 ∧ h_sl M ≤ h_sl q_1.2
  omega
theorem lb214_269 (G : gX) (l : Launch) (a0 : Nat) (v1 : Int32) (v2 : Int32) (v3 : Int32) (v4 : Int32) (v5 : Int32) (M : hM) {res : xRes} (h : b214_269 a0 v1 v2 v3 v4 v5 M = some res) : h_sz M ≤ r_sz res ∧ h_sl M ≤ r_sl res := by
  unfold b214_269 at h
  obtain rfl := Option.some.inj h
  show h_sz M ≤ h_sz M ∧ h_sl M ≤ h_sl M
  omega
theorem lb214_12 (G : gX) (l : Launch) (a0 : Nat) (v1 : Int32) (v2 : Int32) (v3 : Int32) (v4 : Int32) (v5 : Int32) (M : hM) {res : xRes} (h : b214_12 a0 v1 v2 v3 v4 v5 M = some res) : h_sz M ≤ r_sz res ∧ h_sl M ≤ r_sl res := by
  unfold b214_12 at h
  obtain ⟨o_5, h6, h⟩ := bd h
  obtain ⟨v_7, h8, h⟩ := bd h
  by_cases q60 : v_7 ≤ v5
  · rw [if_pos q60] at h
    obtain rfl := Option.some.inj h
    show h_sz M ≤ h_sz M ∧ h_sl M ≤ h_sl M
    omega
  · rw [if_neg q60] at h
    obtain ⟨o_9, h10, h⟩ := bd h
    obtain ⟨v_11, h12, h⟩ := bd h
    by_cases q59 : v_11 = v3
    · rw [if_pos q59] at h
      obtain ⟨o_13, h14, h⟩ := bd h
      obtain ⟨v_15, h16, h⟩ := bd h
      obtain ⟨b_19, h20, h⟩ := bd h
      obtain ⟨q_17, h18, h⟩ := bd h
      have eh18 := (t166 G l (c_I_some h18)).1
      by_cases q58 : v_15 = q_17.1
      · rw [if_pos q58] at h
        obtain ⟨o_21, h22, h⟩ := bd h
        obtain ⟨v_23, h24, h⟩ := bd h
        obtain ⟨b_27, h28, h⟩ := bd h
        obtain ⟨q_25, h26, h⟩ := bd h
        have eh26 := (t166 G l (c_I_some h26)).1
        by_cases q57 : v_23 = q_25.1
        · rw [if_pos q57] at h
          obtain ⟨o_29, h30, h⟩ := bd h
          obtain ⟨v_31, h32, h⟩ := bd h
          by_cases q56 : v4 < v_31
          · rw [if_pos q56] at h
            obtain ⟨o_33, h34, h⟩ := bd h
            obtain ⟨b_37, h38, h⟩ := bd h
            obtain ⟨q_35, h36, h⟩ := bd h
            have eh36 := (t209 G l (c_L_some h36)).1
            obtain ⟨M39, h40, h⟩ := bd h
            have eh40 := as_l_sz h40
            obtain ⟨o_41, h42, h⟩ := bd h
            obtain ⟨v_43, h44, h⟩ := bd h
            obtain ⟨M45, h46, h⟩ := bd h
            have eh46 := as_i_sz h46
            obtain ⟨o_47, h48, h⟩ := bd h
            obtain ⟨v_49, h50, h⟩ := bd h
            obtain ⟨o_51, h52, h⟩ := bd h
            obtain ⟨v_53, h54, h⟩ := bd h
            by_cases q55 : v_49 = (((1 : Int32) <<< (v_53 &&& 31)) - (1 : Int32))
            · rw [if_pos q55] at h
              obtain rfl := Option.some.inj h
              show h_sz M ≤ h_sz M45 ∧ h_sl M ≤ h_sl M45
              omega
            · rw [if_neg q55] at h
              obtain rfl := Option.some.inj h
              show h_sz M ≤ h_sz M45 ∧ h_sl M ≤ h_sl M45
              omega
          · rw [if_neg q56] at h
            obtain rfl := Option.some.inj h
            show h_sz M ≤ h_sz q_25.2 ∧ h_sl M ≤ h_sl q_25.2
            omega
        · rw [if_neg q57] at h
          have e := lb214_269 G l a0 v1 v2 v3 v4 v5 q_25.2 h
          omega
      · rw [if_neg q58] at h
        have e := lb214_269 G l a0 v1 v2 v3 v4 v5 q_17.2 h
        omega
    · rw [if_neg q59] at h
      have e := lb214_269 G l a0 v1 v2 v3 v4 v5 M h
      omega
theorem lb214_173 (G : gX) (l : Launch) (a0 : Nat) (v1 : Int32) (v2 : Int32) (v5 : Int32) (v6 : Int32) (v7 : Int32) (M : hM) {res : xRes} (h : b214_173 a0 v1 v2 v5 v6 v7 M = some res) : h_sz M ≤ r_sz res ∧ h_sl M ≤ r_sl res := by
  unfold b214_173 at h
  obtain ⟨o_61, h62, h⟩ := bd h
  obtain ⟨v_63, h64, h⟩ := bd h
  by_cases q93 : v_63 ≤ v7
  · rw [if_pos q93] at h
    obtain ⟨o_65, h66, h⟩ := bd h
    obtain ⟨v_67, h68, h⟩ := bd h
    obtain ⟨b_71, h72, h⟩ := bd h
    obtain ⟨q_69, h70, h⟩ := bd h
    have eh70 := (t213 G l (c_V_some h70)).1
    obtain ⟨b_75, h76, h⟩ := bd h
    obtain ⟨q_73, h74, h⟩ := bd h
    have eh74 := (t203 G l (c_V_some h74)).1
    obtain rfl := Option.some.inj h
    show h_sz M ≤ h_sz q_73 ∧ h_sl M ≤ h_sl q_73
    omega
  · rw [if_neg q93] at h
    obtain ⟨o_77, h78, h⟩ := bd h
    obtain ⟨o_79, h80, h⟩ := bd h
    obtain ⟨v_81, h82, h⟩ := bd h
    obtain ⟨o_83, h84, h⟩ := bd h
    obtain ⟨v_85, h86, h⟩ := bd h
    obtain ⟨o_87, h88, h⟩ := bd h
    obtain ⟨w_89, h90, h⟩ := bd h
    obtain ⟨M91, h92, h⟩ := bd h
    have eh92 := as_l_sz h92
    obtain rfl := Option.some.inj h
    show h_sz M ≤ h_sz M91 ∧ h_sl M ≤ h_sl M91
    omega
section
variable {p : Program} {l : Launch} {e : Env} {s : State} {m : MethodId} {args : Array Value} {below : List Frame} {meth : Method} {c : Code} {G : gX} {z0 y0 : Nat} {r : Option aV} {M' : hM}
def pg214 (p : Program) (l : Launch) (e : Env) (s : State) (m : MethodId) (args : Array Value) (below : List Frame) (meth : Method) (c : Code) (G : gX) (z0 y0 : Nat) (r : Option aV) (M' : hM) (h : Nat) (as : List aV) (M : hM) : Prop :=
  if h = 12 then (match as with | [.inr (.inr (some a0)), .inl v1, .inl v2, .inl v3, .inl v4, .inl v5] => xV G p l e (xRm 5 (h_sz M' - z0) (h_sl M' - y0)) s m args below meth c z0 y0 (h_sz M') (h_sl M') 8 (MQ below (xQc G r M') args s (h_sz M' - z0) (h_sl M' - y0) (xFr G)) 12 [(0, .inr (.inr (some a0))), (1, .inl v1), (2, .inl v2), (3, .inl v3), (4, .inl v4), (5, .inl v5)] [] M | _ => False) else
  if h = 173 then (match as with | [.inr (.inr (some a0)), .inl v1, .inl v2, .inl v5, .inl v6, .inl v7] => xV G p l e (xRm 5 (h_sz M' - z0) (h_sl M' - y0)) s m args below meth c z0 y0 (h_sz M') (h_sl M') 8 (MQ below (xQc G r M') args s (h_sz M' - z0) (h_sl M' - y0) (xFr G)) 173 [(0, .inr (.inr (some a0))), (1, .inl v1), (2, .inl v2), (5, .inl v5), (6, .inl v6), (7, .inl v7)] [] M | _ => False) else
  False
theorem sb214_0 (E : xE G p (xRm 5 (h_sz M' - z0) (h_sl M' - y0)) s m args c prog_14_method_68_code "ZonedFabricModel" z0 y0 (h_sz M') (h_sl M') 8) (B : xB ym214 none meth) (a0 : Nat) (v1 : Int32) (v2 : Int32) (v3 : Int32) (M : hM) {res : xRes} (h : b214_0 a0 v1 v2 v3 M = some res) (hN : xN (pg214 p l e s m args below meth c G z0 y0 r M') r M' res) : xV G p l e (xRm 5 (h_sz M' - z0) (h_sl M' - y0)) s m args below meth c z0 y0 (h_sz M') (h_sl M') 8 (MQ below (xQc G r M') args s (h_sz M' - z0) (h_sl M' - y0) (xFr G)) 0 [(0, .inr (.inr (some a0))), (1, .inl v1), (2, .inl v2), (3, .inl v3)] [] M := by
  unfold b214_0 at h
  refine xv_b E [.aload_n 0, .iload_n 2, .bipush 11] (pc' := 4) (lv' := [(0, .inr (.inr (some a0))), (1, .inl v1), (2, .inl v2), (3, .inl v3)]) (st' := [.inl (11 : Int32), .inl v2, .inr (.inr (some a0))]) (by decide +kernel) rfl rfl ?_
  obtain ⟨b_3, h4, h⟩ := bd h
  obtain ⟨eh4, th4⟩ := g_o_some h4
  obtain ⟨q_1, h2, h⟩ := bd h
  refine xv_cvo E eh4 12 (as := [.inl v2, .inl (11 : Int32)]) (t165 G l (c_I_some h2)) cd165 mw927 mw928 mw929 (show decode prog_14_method_68_code 4 = .ok (.invokevirtual 186, 3) by decide +kernel) th4 rfl rfl (Nat.le_of_ble_eq_true rfl) ⟨Nat.le_of_ble_eq_true rfl, Nat.le_of_ble_eq_true rfl⟩ ?_
  refine xv_b E [.istore 4, .iconst 0, .istore 5] (pc' := 12) (lv' := [(5, .inl (0 : Int32)), (4, .inl q_1.1), (0, .inr (.inr (some a0))), (1, .inl v1), (2, .inl v2), (3, .inl v3)]) (st' := []) (by decide +kernel) rfl rfl ?_
  obtain rfl := Option.some.inj h
  exact xv_w hN rfl
theorem sb214_269 (E : xE G p (xRm 5 (h_sz M' - z0) (h_sl M' - y0)) s m args c prog_14_method_68_code "ZonedFabricModel" z0 y0 (h_sz M') (h_sl M') 8) (B : xB ym214 none meth) (a0 : Nat) (v1 : Int32) (v2 : Int32) (v3 : Int32) (v4 : Int32) (v5 : Int32) (M : hM) {res : xRes} (h : b214_269 a0 v1 v2 v3 v4 v5 M = some res) (hN : xN (pg214 p l e s m args below meth c G z0 y0 r M') r M' res) : xV G p l e (xRm 5 (h_sz M' - z0) (h_sl M' - y0)) s m args below meth c z0 y0 (h_sz M') (h_sl M') 8 (MQ below (xQc G r M') args s (h_sz M' - z0) (h_sl M' - y0) (xFr G)) 269 [(0, .inr (.inr (some a0))), (1, .inl v1), (2, .inl v2), (3, .inl v3), (4, .inl v4), (5, .inl v5)] [] M := by
  unfold b214_269 at h
  refine xv_b E [.iinc 5 1] (pc' := 272) (lv' := [(5, .inl (v5 + (1 : Int32))), (0, .inr (.inr (some a0))), (1, .inl v1), (2, .inl v2), (3, .inl v3), (4, .inl v4)]) (st' := []) (by decide +kernel) rfl rfl ?_
  refine xv_goto E 12 (show decode prog_14_method_68_code 272 = .ok (.goto (-260), 3) by decide +kernel) rfl ?_
  obtain rfl := Option.some.inj h
  exact xv_w hN rfl
theorem sb214_12 (E : xE G p (xRm 5 (h_sz M' - z0) (h_sl M' - y0)) s m args c prog_14_method_68_code "ZonedFabricModel" z0 y0 (h_sz M') (h_sl M') 8) (B : xB ym214 none meth) (a0 : Nat) (v1 : Int32) (v2 : Int32) (v3 : Int32) (v4 : Int32) (v5 : Int32) (M : hM) {res : xRes} (h : b214_12 a0 v1 v2 v3 v4 v5 M = some res) (hN : xN (pg214 p l e s m args below meth c G z0 y0 r M') r M' res) : xV G p l e (xRm 5 (h_sz M' - z0) (h_sl M' - y0)) s m args below meth c z0 y0 (h_sz M') (h_sl M') 8 (MQ below (xQc G r M') args s (h_sz M' - z0) (h_sl M' - y0) (xFr G)) 12 [(0, .inr (.inr (some a0))), (1, .inl v1), (2, .inl v2), (3, .inl v3), (4, .inl v4), (5, .inl v5)] [] M := by
  unfold b214_12 at h
  refine xv_b E [.iload 5, .aload_n 0] (pc' := 15) (lv' := [(0, .inr (.inr (some a0))), (1, .inl v1), (2, .inl v2), (3, .inl v3), (4, .inl v4), (5, .inl v5)]) (st' := [.inr (.inr (some a0)), .inl v5]) (by decide +kernel) rfl rfl ?_
  obtain ⟨o_5, h6, h⟩ := bd h
  refine xg_r E 12 46 h6 mw905 (show decode prog_14_method_68_code 15 = .ok (.getfield 131, 3) by decide +kernel) ?_
  refine xv_b E [.iload_n 1] (pc' := 19) (lv' := [(0, .inr (.inr (some a0))), (1, .inl v1), (2, .inl v2), (3, .inl v3), (4, .inl v4), (5, .inl v5)]) (st' := [.inl v1, .inr (.inr o_5), .inl v5]) (by decide +kernel) rfl rfl ?_
  obtain ⟨v_7, h8, h⟩ := bd h
  refine xa_i E h8 (show decode prog_14_method_68_code 19 = .ok (.iaload, 1) by decide +kernel) ?_
  by_cases q60 : v_7 ≤ v5
  · rw [if_pos q60] at h
    refine xv_icmp_ge E 275 (show decode prog_14_method_68_code 20 = .ok (.if_icmp .ge (255), 3) by decide +kernel) rfl (fun _ => ?_) (fun z => absurd q60 z)
    obtain rfl := Option.some.inj h
    obtain ⟨rfl, rfl⟩ := Prod.mk.inj (show ((none : Option aV), M) = (r, M') from hN)
    exact xv_rv E B.1 B.2.1 (show decode prog_14_method_68_code 275 = .ok (.return_, 1) by decide +kernel) rfl rfl
  · rw [if_neg q60] at h
    refine xv_icmp_ge E 275 (show decode prog_14_method_68_code 20 = .ok (.if_icmp .ge (255), 3) by decide +kernel) rfl (fun z => absurd z q60) (fun _ => ?_)
    refine xv_b E [.bipush 48, .iload_n 1, .imul, .bipush 8, .iload 5, .imul, .iadd, .istore 6, .aload_n 0] (pc' := 36) (lv' := [(6, .inl (((48 : Int32) * v1) + ((8 : Int32) * v5))), (0, .inr (.inr (some a0))), (1, .inl v1), (2, .inl v2), (3, .inl v3), (4, .inl v4), (5, .inl v5)]) (st' := [.inr (.inr (some a0))]) (by decide +kernel) rfl rfl ?_
    obtain ⟨o_9, h10, h⟩ := bd h
    refine xg_r E 12 44 h10 mw903 (show decode prog_14_method_68_code 36 = .ok (.getfield 125, 3) by decide +kernel) ?_
    refine xv_b E [.iload 6] (pc' := 41) (lv' := [(6, .inl (((48 : Int32) * v1) + ((8 : Int32) * v5))), (0, .inr (.inr (some a0))), (1, .inl v1), (2, .inl v2), (3, .inl v3), (4, .inl v4), (5, .inl v5)]) (st' := [.inl (((48 : Int32) * v1) + ((8 : Int32) * v5)), .inr (.inr o_9)]) (by decide +kernel) rfl rfl ?_
    obtain ⟨v_11, h12, h⟩ := bd h
    refine xa_i E h12 (show decode prog_14_method_68_code 41 = .ok (.iaload, 1) by decide +kernel) ?_
    refine xv_b E [.iload_n 3] (pc' := 43) (lv' := [(6, .inl (((48 : Int32) * v1) + ((8 : Int32) * v5))), (0, .inr (.inr (some a0))), (1, .inl v1), (2, .inl v2), (3, .inl v3), (4, .inl v4), (5, .inl v5)]) (st' := [.inl v3, .inl v_11]) (by decide +kernel) rfl rfl ?_
    by_cases q59 : v_11 = v3
    · rw [if_pos q59] at h
      refine xv_icmp_ne E 269 (show decode prog_14_method_68_code 43 = .ok (.if_icmp .ne (226), 3) by decide +kernel) rfl (fun z => absurd q59 z) (fun _ => ?_)
      refine xv_b E [.aload_n 0] (pc' := 47) (lv' := [(6, .inl (((48 : Int32) * v1) + ((8 : Int32) * v5))), (0, .inr (.inr (some a0))), (1, .inl v1), (2, .inl v2), (3, .inl v3), (4, .inl v4), (5, .inl v5)]) (st' := [.inr (.inr (some a0))]) (by decide +kernel) rfl rfl ?_
      obtain ⟨o_13, h14, h⟩ := bd h
      refine xg_r E 12 44 h14 mw903 (show decode prog_14_method_68_code 47 = .ok (.getfield 125, 3) by decide +kernel) ?_
      refine xv_b E [.iload 6, .iconst 1, .iadd] (pc' := 54) (lv' := [(6, .inl (((48 : Int32) * v1) + ((8 : Int32) * v5))), (0, .inr (.inr (some a0))), (1, .inl v1), (2, .inl v2), (3, .inl v3), (4, .inl v4), (5, .inl v5)]) (st' := [.inl ((((48 : Int32) * v1) + ((8 : Int32) * v5)) + (1 : Int32)), .inr (.inr o_13)]) (by decide +kernel) rfl rfl ?_
      obtain ⟨v_15, h16, h⟩ := bd h
      refine xa_i E h16 (show decode prog_14_method_68_code 54 = .ok (.iaload, 1) by decide +kernel) ?_
      refine xv_b E [.aload_n 0, .iload_n 2, .bipush 7, .iconst 2] (pc' := 60) (lv' := [(6, .inl (((48 : Int32) * v1) + ((8 : Int32) * v5))), (0, .inr (.inr (some a0))), (1, .inl v1), (2, .inl v2), (3, .inl v3), (4, .inl v4), (5, .inl v5)]) (st' := [.inl (2 : Int32), .inl (7 : Int32), .inl v2, .inr (.inr (some a0)), .inl v_15]) (by decide +kernel) rfl rfl ?_
      obtain ⟨b_19, h20, h⟩ := bd h
      obtain ⟨eh20, th20⟩ := g_o_some h20
      obtain ⟨q_17, h18, h⟩ := bd h
      refine xv_cvo E eh20 12 (as := [.inl v2, .inl (7 : Int32), .inl (2 : Int32)]) (t166 G l (c_I_some h18)) cd166 mw947 mw948 mw949 (show decode prog_14_method_68_code 60 = .ok (.invokevirtual 198, 3) by decide +kernel) th20 rfl rfl (Nat.le_of_ble_eq_true rfl) ⟨Nat.le_of_ble_eq_true rfl, Nat.le_of_ble_eq_true rfl⟩ ?_
      by_cases q58 : v_15 = q_17.1
      · rw [if_pos q58] at h
        refine xv_icmp_ne E 269 (show decode prog_14_method_68_code 63 = .ok (.if_icmp .ne (206), 3) by decide +kernel) rfl (fun z => absurd q58 z) (fun _ => ?_)
        refine xv_b E [.aload_n 0] (pc' := 67) (lv' := [(6, .inl (((48 : Int32) * v1) + ((8 : Int32) * v5))), (0, .inr (.inr (some a0))), (1, .inl v1), (2, .inl v2), (3, .inl v3), (4, .inl v4), (5, .inl v5)]) (st' := [.inr (.inr (some a0))]) (by decide +kernel) rfl rfl ?_
        obtain ⟨o_21, h22, h⟩ := bd h
        refine xg_r E 12 44 h22 mw903 (show decode prog_14_method_68_code 67 = .ok (.getfield 125, 3) by decide +kernel) ?_
        refine xv_b E [.iload 6, .iconst 2, .iadd] (pc' := 74) (lv' := [(6, .inl (((48 : Int32) * v1) + ((8 : Int32) * v5))), (0, .inr (.inr (some a0))), (1, .inl v1), (2, .inl v2), (3, .inl v3), (4, .inl v4), (5, .inl v5)]) (st' := [.inl ((((48 : Int32) * v1) + ((8 : Int32) * v5)) + (2 : Int32)), .inr (.inr o_21)]) (by decide +kernel) rfl rfl ?_
        obtain ⟨v_23, h24, h⟩ := bd h
        refine xa_i E h24 (show decode prog_14_method_68_code 74 = .ok (.iaload, 1) by decide +kernel) ?_
        refine xv_b E [.aload_n 0, .iload_n 2, .bipush 9, .iconst 2] (pc' := 80) (lv' := [(6, .inl (((48 : Int32) * v1) + ((8 : Int32) * v5))), (0, .inr (.inr (some a0))), (1, .inl v1), (2, .inl v2), (3, .inl v3), (4, .inl v4), (5, .inl v5)]) (st' := [.inl (2 : Int32), .inl (9 : Int32), .inl v2, .inr (.inr (some a0)), .inl v_23]) (by decide +kernel) rfl rfl ?_
        obtain ⟨b_27, h28, h⟩ := bd h
        obtain ⟨eh28, th28⟩ := g_o_some h28
        obtain ⟨q_25, h26, h⟩ := bd h
        refine xv_cvo E eh28 12 (as := [.inl v2, .inl (9 : Int32), .inl (2 : Int32)]) (t166 G l (c_I_some h26)) cd166 mw947 mw948 mw949 (show decode prog_14_method_68_code 80 = .ok (.invokevirtual 198, 3) by decide +kernel) th28 rfl rfl (Nat.le_of_ble_eq_true rfl) ⟨Nat.le_of_ble_eq_true rfl, Nat.le_of_ble_eq_true rfl⟩ ?_
        by_cases q57 : v_23 = q_25.1
        · rw [if_pos q57] at h
          refine xv_icmp_eq E 89 (show decode prog_14_method_68_code 83 = .ok (.if_icmp .eq (6), 3) by decide +kernel) rfl (fun _ => ?_) (fun z => absurd q57 z)
          refine xv_b E [.iload 4, .aload_n 0] (pc' := 92) (lv' := [(6, .inl (((48 : Int32) * v1) + ((8 : Int32) * v5))), (0, .inr (.inr (some a0))), (1, .inl v1), (2, .inl v2), (3, .inl v3), (4, .inl v4), (5, .inl v5)]) (st' := [.inr (.inr (some a0)), .inl v4]) (by decide +kernel) rfl rfl ?_
          obtain ⟨o_29, h30, h⟩ := bd h
          refine xg_r E 12 44 h30 mw903 (show decode prog_14_method_68_code 92 = .ok (.getfield 125, 3) by decide +kernel) ?_
          refine xv_b E [.iload 6, .iconst 5, .iadd] (pc' := 99) (lv' := [(6, .inl (((48 : Int32) * v1) + ((8 : Int32) * v5))), (0, .inr (.inr (some a0))), (1, .inl v1), (2, .inl v2), (3, .inl v3), (4, .inl v4), (5, .inl v5)]) (st' := [.inl ((((48 : Int32) * v1) + ((8 : Int32) * v5)) + (5 : Int32)), .inr (.inr o_29), .inl v4]) (by decide +kernel) rfl rfl ?_
          obtain ⟨v_31, h32, h⟩ := bd h
          refine xa_i E h32 (show decode prog_14_method_68_code 99 = .ok (.iaload, 1) by decide +kernel) ?_
          by_cases q56 : v4 < v_31
          · rw [if_pos q56] at h
            refine xv_icmp_lt E 104 (show decode prog_14_method_68_code 100 = .ok (.if_icmp .lt (4), 3) by decide +kernel) rfl (fun _ => ?_) (fun z => absurd q56 z)
            refine xv_b E [.aload_n 0] (pc' := 105) (lv' := [(6, .inl (((48 : Int32) * v1) + ((8 : Int32) * v5))), (0, .inr (.inr (some a0))), (1, .inl v1), (2, .inl v2), (3, .inl v3), (4, .inl v4), (5, .inl v5)]) (st' := [.inr (.inr (some a0))]) (by decide +kernel) rfl rfl ?_
            obtain ⟨o_33, h34, h⟩ := bd h
            refine xg_r E 12 45 h34 mw904 (show decode prog_14_method_68_code 105 = .ok (.getfield 128, 3) by decide +kernel) ?_
            refine xv_b E [.bipush 24, .iload_n 1, .imul, .iconst 4, .iload 5, .imul, .iadd, .iload 4, .iadd, .aload_n 0, .iload_n 2] (pc' := 122) (lv' := [(6, .inl (((48 : Int32) * v1) + ((8 : Int32) * v5))), (0, .inr (.inr (some a0))), (1, .inl v1), (2, .inl v2), (3, .inl v3), (4, .inl v4), (5, .inl v5)]) (st' := [.inl v2, .inr (.inr (some a0)), .inl ((((24 : Int32) * v1) + ((4 : Int32) * v5)) + v4), .inr (.inr o_33)]) (by decide +kernel) rfl rfl ?_
            obtain ⟨b_37, h38, h⟩ := bd h
            obtain ⟨eh38, th38⟩ := g_o_some h38
            obtain ⟨q_35, h36, h⟩ := bd h
            refine xv_cvo E eh38 12 (as := [.inl v2]) (t209 G l (c_L_some h36)) cd209 mw1070 mw1071 mw1072 (show decode prog_14_method_68_code 122 = .ok (.invokevirtual 390, 3) by decide +kernel) th38 rfl rfl (Nat.le_of_ble_eq_true rfl) ⟨Nat.le_of_ble_eq_true rfl, Nat.le_of_ble_eq_true rfl⟩ ?_
            obtain ⟨M39, h40, h⟩ := bd h
            refine xs_l E h40 (show decode prog_14_method_68_code 125 = .ok (.lastore, 1) by decide +kernel) ?_
            refine xv_b E [.aload_n 0] (pc' := 127) (lv' := [(6, .inl (((48 : Int32) * v1) + ((8 : Int32) * v5))), (0, .inr (.inr (some a0))), (1, .inl v1), (2, .inl v2), (3, .inl v3), (4, .inl v4), (5, .inl v5)]) (st' := [.inr (.inr (some a0))]) (by decide +kernel) rfl rfl ?_
            obtain ⟨o_41, h42, h⟩ := bd h
            refine xg_r E 12 44 h42 mw903 (show decode prog_14_method_68_code 127 = .ok (.getfield 125, 3) by decide +kernel) ?_
            refine xv_b E [.iload 6, .bipush 6, .iadd, .dup2] (pc' := 136) (lv' := [(6, .inl (((48 : Int32) * v1) + ((8 : Int32) * v5))), (0, .inr (.inr (some a0))), (1, .inl v1), (2, .inl v2), (3, .inl v3), (4, .inl v4), (5, .inl v5)]) (st' := [.inl ((((48 : Int32) * v1) + ((8 : Int32) * v5)) + (6 : Int32)), .inr (.inr o_41), .inl ((((48 : Int32) * v1) + ((8 : Int32) * v5)) + (6 : Int32)), .inr (.inr o_41)]) (by decide +kernel) rfl rfl ?_
            obtain ⟨v_43, h44, h⟩ := bd h
            refine xa_i E h44 (show decode prog_14_method_68_code 136 = .ok (.iaload, 1) by decide +kernel) ?_
            refine xv_b E [.iconst 1, .iload 4, .ishl, .ior] (pc' := 142) (lv' := [(6, .inl (((48 : Int32) * v1) + ((8 : Int32) * v5))), (0, .inr (.inr (some a0))), (1, .inl v1), (2, .inl v2), (3, .inl v3), (4, .inl v4), (5, .inl v5)]) (st' := [.inl (v_43 ||| ((1 : Int32) <<< (v4 &&& 31))), .inl ((((48 : Int32) * v1) + ((8 : Int32) * v5)) + (6 : Int32)), .inr (.inr o_41)]) (by decide +kernel) rfl rfl ?_
            obtain ⟨M45, h46, h⟩ := bd h
            refine xs_i E h46 (show decode prog_14_method_68_code 142 = .ok (.iastore, 1) by decide +kernel) ?_
            refine xv_b E [.aload_n 0] (pc' := 144) (lv' := [(6, .inl (((48 : Int32) * v1) + ((8 : Int32) * v5))), (0, .inr (.inr (some a0))), (1, .inl v1), (2, .inl v2), (3, .inl v3), (4, .inl v4), (5, .inl v5)]) (st' := [.inr (.inr (some a0))]) (by decide +kernel) rfl rfl ?_
            obtain ⟨o_47, h48, h⟩ := bd h
            refine xg_r E 12 44 h48 mw903 (show decode prog_14_method_68_code 144 = .ok (.getfield 125, 3) by decide +kernel) ?_
            refine xv_b E [.iload 6, .bipush 6, .iadd] (pc' := 152) (lv' := [(6, .inl (((48 : Int32) * v1) + ((8 : Int32) * v5))), (0, .inr (.inr (some a0))), (1, .inl v1), (2, .inl v2), (3, .inl v3), (4, .inl v4), (5, .inl v5)]) (st' := [.inl ((((48 : Int32) * v1) + ((8 : Int32) * v5)) + (6 : Int32)), .inr (.inr o_47)]) (by decide +kernel) rfl rfl ?_
            obtain ⟨v_49, h50, h⟩ := bd h
            refine xa_i E h50 (show decode prog_14_method_68_code 152 = .ok (.iaload, 1) by decide +kernel) ?_
            refine xv_b E [.iconst 1, .aload_n 0] (pc' := 155) (lv' := [(6, .inl (((48 : Int32) * v1) + ((8 : Int32) * v5))), (0, .inr (.inr (some a0))), (1, .inl v1), (2, .inl v2), (3, .inl v3), (4, .inl v4), (5, .inl v5)]) (st' := [.inr (.inr (some a0)), .inl (1 : Int32), .inl v_49]) (by decide +kernel) rfl rfl ?_
            obtain ⟨o_51, h52, h⟩ := bd h
            refine xg_r E 12 44 h52 mw903 (show decode prog_14_method_68_code 155 = .ok (.getfield 125, 3) by decide +kernel) ?_
            refine xv_b E [.iload 6, .iconst 5, .iadd] (pc' := 162) (lv' := [(6, .inl (((48 : Int32) * v1) + ((8 : Int32) * v5))), (0, .inr (.inr (some a0))), (1, .inl v1), (2, .inl v2), (3, .inl v3), (4, .inl v4), (5, .inl v5)]) (st' := [.inl ((((48 : Int32) * v1) + ((8 : Int32) * v5)) + (5 : Int32)), .inr (.inr o_51), .inl (1 : Int32), .inl v_49]) (by decide +kernel) rfl rfl ?_
            obtain ⟨v_53, h54, h⟩ := bd h
            refine xa_i E h54 (show decode prog_14_method_68_code 162 = .ok (.iaload, 1) by decide +kernel) ?_
            refine xv_b E [.ishl, .iconst 1, .isub] (pc' := 166) (lv' := [(6, .inl (((48 : Int32) * v1) + ((8 : Int32) * v5))), (0, .inr (.inr (some a0))), (1, .inl v1), (2, .inl v2), (3, .inl v3), (4, .inl v4), (5, .inl v5)]) (st' := [.inl (((1 : Int32) <<< (v_53 &&& 31)) - (1 : Int32)), .inl v_49]) (by decide +kernel) rfl rfl ?_
            by_cases q55 : v_49 = (((1 : Int32) <<< (v_53 &&& 31)) - (1 : Int32))
            · rw [if_pos q55] at h
              refine xv_icmp_eq E 170 (show decode prog_14_method_68_code 166 = .ok (.if_icmp .eq (4), 3) by decide +kernel) rfl (fun _ => ?_) (fun z => absurd q55 z)
              refine xv_b E [.iconst 0, .istore 7] (pc' := 173) (lv' := [(7, .inl (0 : Int32)), (6, .inl (((48 : Int32) * v1) + ((8 : Int32) * v5))), (0, .inr (.inr (some a0))), (1, .inl v1), (2, .inl v2), (3, .inl v3), (4, .inl v4), (5, .inl v5)]) (st' := []) (by decide +kernel) rfl rfl ?_
              obtain rfl := Option.some.inj h
              exact xv_w hN rfl
            · rw [if_neg q55] at h
              refine xv_icmp_eq E 170 (show decode prog_14_method_68_code 166 = .ok (.if_icmp .eq (4), 3) by decide +kernel) rfl (fun z => absurd z q55) (fun _ => ?_)
              obtain rfl := Option.some.inj h
              obtain ⟨rfl, rfl⟩ := Prod.mk.inj (show ((none : Option aV), M45) = (r, M') from hN)
              exact xv_rv E B.1 B.2.1 (show decode prog_14_method_68_code 169 = .ok (.return_, 1) by decide +kernel) rfl rfl
          · rw [if_neg q56] at h
            refine xv_icmp_lt E 104 (show decode prog_14_method_68_code 100 = .ok (.if_icmp .lt (4), 3) by decide +kernel) rfl (fun z => absurd z q56) (fun _ => ?_)
            obtain rfl := Option.some.inj h
            obtain ⟨rfl, rfl⟩ := Prod.mk.inj (show ((none : Option aV), q_25.2) = (r, M') from hN)
            exact xv_rv E B.1 B.2.1 (show decode prog_14_method_68_code 103 = .ok (.return_, 1) by decide +kernel) rfl rfl
        · rw [if_neg q57] at h
          refine xv_icmp_eq E 89 (show decode prog_14_method_68_code 83 = .ok (.if_icmp .eq (6), 3) by decide +kernel) rfl (fun z => absurd z q57) (fun _ => ?_)
          refine xv_goto E 269 (show decode prog_14_method_68_code 86 = .ok (.goto (183), 3) by decide +kernel) rfl ?_
          exact xv_w (sb214_269 E B a0 v1 v2 v3 v4 v5 q_25.2 h hN) rfl
      · rw [if_neg q58] at h
        refine xv_icmp_ne E 269 (show decode prog_14_method_68_code 63 = .ok (.if_icmp .ne (206), 3) by decide +kernel) rfl (fun _ => ?_) (fun z => absurd z q58)
        exact xv_w (sb214_269 E B a0 v1 v2 v3 v4 v5 q_17.2 h hN) rfl
    · rw [if_neg q59] at h
      refine xv_icmp_ne E 269 (show decode prog_14_method_68_code 43 = .ok (.if_icmp .ne (226), 3) by decide +kernel) rfl (fun _ => ?_) (fun z => absurd z q59)
      exact xv_w (sb214_269 E B a0 v1 v2 v3 v4 v5 M h hN) rfl
theorem sb214_173 (E : xE G p (xRm 5 (h_sz M' - z0) (h_sl M' - y0)) s m args c prog_14_method_68_code "ZonedFabricModel" z0 y0 (h_sz M') (h_sl M') 8) (B : xB ym214 none meth) (a0 : Nat) (v1 : Int32) (v2 : Int32) (v5 : Int32) (v6 : Int32) (v7 : Int32) (M : hM) {res : xRes} (h : b214_173 a0 v1 v2 v5 v6 v7 M = some res) (hN : xN (pg214 p l e s m args below meth c G z0 y0 r M') r M' res) : xV G p l e (xRm 5 (h_sz M' - z0) (h_sl M' - y0)) s m args below meth c z0 y0 (h_sz M') (h_sl M') 8 (MQ below (xQc G r M') args s (h_sz M' - z0) (h_sl M' - y0) (xFr G)) 173 [(0, .inr (.inr (some a0))), (1, .inl v1), (2, .inl v2), (5, .inl v5), (6, .inl v6), (7, .inl v7)] [] M := by
  unfold b214_173 at h
  refine xv_b E [.iload 7, .aload_n 0] (pc' := 176) (lv' := [(0, .inr (.inr (some a0))), (1, .inl v1), (2, .inl v2), (5, .inl v5), (6, .inl v6), (7, .inl v7)]) (st' := [.inr (.inr (some a0)), .inl v7]) (by decide +kernel) rfl rfl ?_
  obtain ⟨o_61, h62, h⟩ := bd h
  refine xg_r E 12 44 h62 mw903 (show decode prog_14_method_68_code 176 = .ok (.getfield 125, 3) by decide +kernel) ?_
  refine xv_b E [.iload 6, .iconst 5, .iadd] (pc' := 183) (lv' := [(0, .inr (.inr (some a0))), (1, .inl v1), (2, .inl v2), (5, .inl v5), (6, .inl v6), (7, .inl v7)]) (st' := [.inl (v6 + (5 : Int32)), .inr (.inr o_61), .inl v7]) (by decide +kernel) rfl rfl ?_
  obtain ⟨v_63, h64, h⟩ := bd h
  refine xa_i E h64 (show decode prog_14_method_68_code 183 = .ok (.iaload, 1) by decide +kernel) ?_
  by_cases q93 : v_63 ≤ v7
  · rw [if_pos q93] at h
    refine xv_icmp_ge E 245 (show decode prog_14_method_68_code 184 = .ok (.if_icmp .ge (61), 3) by decide +kernel) rfl (fun _ => ?_) (fun z => absurd q93 z)
    refine xv_b E [.aload_n 0, .iload_n 1, .iload_n 2, .aload_n 0] (pc' := 249) (lv' := [(0, .inr (.inr (some a0))), (1, .inl v1), (2, .inl v2), (5, .inl v5), (6, .inl v6), (7, .inl v7)]) (st' := [.inr (.inr (some a0)), .inl v2, .inl v1, .inr (.inr (some a0))]) (by decide +kernel) rfl rfl ?_
    obtain ⟨o_65, h66, h⟩ := bd h
    refine xg_r E 12 44 h66 mw903 (show decode prog_14_method_68_code 249 = .ok (.getfield 125, 3) by decide +kernel) ?_
    refine xv_b E [.iload 6, .iconst 2, .iadd] (pc' := 256) (lv' := [(0, .inr (.inr (some a0))), (1, .inl v1), (2, .inl v2), (5, .inl v5), (6, .inl v6), (7, .inl v7)]) (st' := [.inl (v6 + (2 : Int32)), .inr (.inr o_65), .inl v2, .inl v1, .inr (.inr (some a0))]) (by decide +kernel) rfl rfl ?_
    obtain ⟨v_67, h68, h⟩ := bd h
    refine xa_i E h68 (show decode prog_14_method_68_code 256 = .ok (.iaload, 1) by decide +kernel) ?_
    refine xv_b E [.iconst 0] (pc' := 258) (lv' := [(0, .inr (.inr (some a0))), (1, .inl v1), (2, .inl v2), (5, .inl v5), (6, .inl v6), (7, .inl v7)]) (st' := [.inl (0 : Int32), .inl v_67, .inl v2, .inl v1, .inr (.inr (some a0))]) (by decide +kernel) rfl rfl ?_
    obtain ⟨b_71, h72, h⟩ := bd h
    obtain ⟨eh72, th72⟩ := g_o_some h72
    obtain ⟨q_69, h70, h⟩ := bd h
    refine xv_cvo E eh72 12 (as := [.inl v1, .inl v2, .inl v_67, .inl (0 : Int32)]) (t213 G l (c_V_some h70)) cd213 mw1086 mw1087 mw1088 (show decode prog_14_method_68_code 258 = .ok (.invokevirtual 410, 3) by decide +kernel) th72 rfl rfl (Nat.le_of_ble_eq_true rfl) ⟨Nat.le_of_ble_eq_true rfl, Nat.le_of_ble_eq_true rfl⟩ ?_
    refine xv_b E [.aload_n 0, .iload_n 1, .iload 5] (pc' := 265) (lv' := [(0, .inr (.inr (some a0))), (1, .inl v1), (2, .inl v2), (5, .inl v5), (6, .inl v6), (7, .inl v7)]) (st' := [.inl v5, .inl v1, .inr (.inr (some a0))]) (by decide +kernel) rfl rfl ?_
    obtain ⟨b_75, h76, h⟩ := bd h
    obtain ⟨eh76, th76⟩ := g_o_some h76
    obtain ⟨q_73, h74, h⟩ := bd h
    refine xv_cvo E eh76 12 (as := [.inl v1, .inl v5]) (t203 G l (c_V_some h74)) cd203 mw1065 mw1066 mw1067 (show decode prog_14_method_68_code 265 = .ok (.invokevirtual 370, 3) by decide +kernel) th76 rfl rfl (Nat.le_of_ble_eq_true rfl) ⟨Nat.le_of_ble_eq_true rfl, Nat.le_of_ble_eq_true rfl⟩ ?_
    obtain rfl := Option.some.inj h
    obtain ⟨rfl, rfl⟩ := Prod.mk.inj (show ((none : Option aV), q_73) = (r, M') from hN)
    exact xv_rv E B.1 B.2.1 (show decode prog_14_method_68_code 268 = .ok (.return_, 1) by decide +kernel) rfl rfl
  · rw [if_neg q93] at h
    refine xv_icmp_ge E 245 (show decode prog_14_method_68_code 184 = .ok (.if_icmp .ge (61), 3) by decide +kernel) rfl (fun z => absurd z q93) (fun _ => ?_)
    refine xv_b E [.aload_n 0] (pc' := 188) (lv' := [(0, .inr (.inr (some a0))), (1, .inl v1), (2, .inl v2), (5, .inl v5), (6, .inl v6), (7, .inl v7)]) (st' := [.inr (.inr (some a0))]) (by decide +kernel) rfl rfl ?_
    obtain ⟨o_77, h78, h⟩ := bd h
    refine xg_r E 12 42 h78 mw901 (show decode prog_14_method_68_code 188 = .ok (.getfield 118, 3) by decide +kernel) ?_
    refine xv_b E [.bipush 32, .iload_n 1, .imul, .bipush 16, .aload_n 0] (pc' := 198) (lv' := [(0, .inr (.inr (some a0))), (1, .inl v1), (2, .inl v2), (5, .inl v5), (6, .inl v6), (7, .inl v7)]) (st' := [.inr (.inr (some a0)), .inl (16 : Int32), .inl ((32 : Int32) * v1), .inr (.inr o_77)]) (by decide +kernel) rfl rfl ?_
    obtain ⟨o_79, h80, h⟩ := bd h
    refine xg_r E 12 44 h80 mw903 (show decode prog_14_method_68_code 198 = .ok (.getfield 125, 3) by decide +kernel) ?_
    refine xv_b E [.iload 6, .iconst 3, .iadd] (pc' := 205) (lv' := [(0, .inr (.inr (some a0))), (1, .inl v1), (2, .inl v2), (5, .inl v5), (6, .inl v6), (7, .inl v7)]) (st' := [.inl (v6 + (3 : Int32)), .inr (.inr o_79), .inl (16 : Int32), .inl ((32 : Int32) * v1), .inr (.inr o_77)]) (by decide +kernel) rfl rfl ?_
    obtain ⟨v_81, h82, h⟩ := bd h
    refine xa_i E h82 (show decode prog_14_method_68_code 205 = .ok (.iaload, 1) by decide +kernel) ?_
    refine xv_b E [.imul, .iadd, .aload_n 0] (pc' := 209) (lv' := [(0, .inr (.inr (some a0))), (1, .inl v1), (2, .inl v2), (5, .inl v5), (6, .inl v6), (7, .inl v7)]) (st' := [.inr (.inr (some a0)), .inl (((32 : Int32) * v1) + ((16 : Int32) * v_81)), .inr (.inr o_77)]) (by decide +kernel) rfl rfl ?_
    obtain ⟨o_83, h84, h⟩ := bd h
    refine xg_r E 12 44 h84 mw903 (show decode prog_14_method_68_code 209 = .ok (.getfield 125, 3) by decide +kernel) ?_
    refine xv_b E [.iload 6, .iconst 4, .iadd] (pc' := 216) (lv' := [(0, .inr (.inr (some a0))), (1, .inl v1), (2, .inl v2), (5, .inl v5), (6, .inl v6), (7, .inl v7)]) (st' := [.inl (v6 + (4 : Int32)), .inr (.inr o_83), .inl (((32 : Int32) * v1) + ((16 : Int32) * v_81)), .inr (.inr o_77)]) (by decide +kernel) rfl rfl ?_
    obtain ⟨v_85, h86, h⟩ := bd h
    refine xa_i E h86 (show decode prog_14_method_68_code 216 = .ok (.iaload, 1) by decide +kernel) ?_
    refine xv_b E [.iadd, .iload 7, .iadd, .aload_n 0] (pc' := 222) (lv' := [(0, .inr (.inr (some a0))), (1, .inl v1), (2, .inl v2), (5, .inl v5), (6, .inl v6), (7, .inl v7)]) (st' := [.inr (.inr (some a0)), .inl (((((32 : Int32) * v1) + ((16 : Int32) * v_81)) + v_85) + v7), .inr (.inr o_77)]) (by decide +kernel) rfl rfl ?_
    obtain ⟨o_87, h88, h⟩ := bd h
    refine xg_r E 12 45 h88 mw904 (show decode prog_14_method_68_code 222 = .ok (.getfield 128, 3) by decide +kernel) ?_
    refine xv_b E [.bipush 24, .iload_n 1, .imul, .iconst 4, .iload 5, .imul, .iadd, .iload 7, .iadd] (pc' := 237) (lv' := [(0, .inr (.inr (some a0))), (1, .inl v1), (2, .inl v2), (5, .inl v5), (6, .inl v6), (7, .inl v7)]) (st' := [.inl ((((24 : Int32) * v1) + ((4 : Int32) * v5)) + v7), .inr (.inr o_87), .inl (((((32 : Int32) * v1) + ((16 : Int32) * v_81)) + v_85) + v7), .inr (.inr o_77)]) (by decide +kernel) rfl rfl ?_
    obtain ⟨w_89, h90, h⟩ := bd h
    refine xa_l E h90 (show decode prog_14_method_68_code 237 = .ok (.laload, 1) by decide +kernel) ?_
    obtain ⟨M91, h92, h⟩ := bd h
    refine xs_l E h92 (show decode prog_14_method_68_code 238 = .ok (.lastore, 1) by decide +kernel) ?_
    refine xv_b E [.iinc 7 1] (pc' := 242) (lv' := [(7, .inl (v7 + (1 : Int32))), (0, .inr (.inr (some a0))), (1, .inl v1), (2, .inl v2), (5, .inl v5), (6, .inl v6)]) (st' := []) (by decide +kernel) rfl rfl ?_
    refine xv_goto E 173 (show decode prog_14_method_68_code 242 = .ok (.goto (-69), 3) by decide +kernel) rfl ?_
    obtain rfl := Option.some.inj h
    exact xv_w hN rfl
end
theorem t214 (G : gX) (l : Launch) {as : List aV} {M : hM} {r : Option aV} {M' : hM} (h : f214 as M = some (r, M')) : xM G l ym214 prog_14_method_68_code 8 none 5 as M r M' := by
  unfold f214 at h
  split at h
  · have hle : ∀ h as M res, k214 h as M = some res → h_sz M ≤ r_sz res ∧ h_sl M ≤ r_sl res := by
      intro h as M res hb
      unfold k214 at hb
      by_cases e0 : h = 12
      · rw [if_pos e0] at hb
        split at hb
        · exact lb214_12 G l _ _ _ _ _ _ M hb
        · cases hb
      · rw [if_neg e0] at hb
        by_cases e1 : h = 173
        · rw [if_pos e1] at hb
          split at hb
          · exact lb214_173 G l _ _ _ _ _ _ M hb
          · cases hb
        · rw [if_neg e1] at hb
          cases hb
    obtain ⟨res, hx, hres⟩ := x_go_ok h
    refine xM_of (by decide) (Nat.le_of_ble_eq_true rfl) ?_ ?_
    · have e1 := lb214_0 G l _ _ _ _ M hx
      have e2 := x_go_le hle hres
      omega
    · intro p e s m args below meth c E B
      refine sb214_0 E B _ _ _ _ M hx (hres _ ?_)
      intro h as M res hb hN
      unfold k214 at hb
      unfold pg214
      by_cases e0 : h = 12
      · rw [if_pos e0] at hb ⊢
        split at hb
        · exact sb214_12 E B _ _ _ _ _ _ M hb hN
        · cases hb
      · rw [if_neg e0] at hb ⊢
        by_cases e1 : h = 173
        · rw [if_pos e1] at hb ⊢
          split at hb
          · exact sb214_173 E B _ _ _ _ _ _ M hb hN
          · cases hb
        · rw [if_neg e1] at hb ⊢
          cases hb
  · cases h
/-! ZFModel.isLogged(II)Z -/
def ym215 : MethodName := ⟨"ZonedFabricModel", "isLogged", "(II)Z"⟩
theorem cd215 : xCd ym215 prog_14_method_64_code 5 (some FieldType.boolean) 2 := ⟨mw1089, mw864, by decide, by decide, by decide +kernel⟩
def b215_0 (a0 : Nat) (v1 : Int32) (v2 : Int32) (M : hM) : Option xRes :=
  some (.inr (5, [.inr (.inr (some a0)), .inl v1, .inl v2, .inl (0 : Int32), .inl (0 : Int32)], M))
def b215_41 (a0 : Nat) (v1 : Int32) (v2 : Int32) (v4 : Int32) (si0 : Int32) (M : hM) : Option xRes :=
  some (.inr (5, [.inr (.inr (some a0)), .inl v1, .inl v2, .inl si0, .inl (v4 + (1 : Int32))], M))
def b215_36 (a0 : Nat) (v1 : Int32) (v2 : Int32) (v4 : Int32) (M : hM) : Option xRes :=
  b215_41 a0 v1 v2 v4 (1 : Int32) M
def b215_5 (a0 : Nat) (v1 : Int32) (v2 : Int32) (v3 : Int32) (v4 : Int32) (M : hM) : Option xRes :=
  Option.bind (g_r M 12 41 (some a0)) fun o_1 =>
  Option.bind (al_i M 20 o_1 v1) fun v_3 =>
  if v_3 ≤ v4 then
    (if v3 = 0 ∨ v3 = 1 then
      (some (.inl (some (.inl v3), M)))
    else
      none)
  else
    (if v3 = 0 then
      (Option.bind (g_r M 12 40 (some a0)) fun o_6 =>
      Option.bind (al_i M 20 o_6 (((8 : Int32) * v1) + v4)) fun v_8 =>
      if v_8 = v2 then
        (b215_36 a0 v1 v2 v4 M)
      else
        (b215_41 a0 v1 v2 v4 (0 : Int32) M))
    else
      (b215_36 a0 v1 v2 v4 M))
def k215 (h : Nat) (as : List aV) (M : hM) : Option xRes :=
  if h = 5 then (match as with | [.inr (.inr (some a0)), .inl v1, .inl v2, .inl v3, .inl v4] => b215_5 a0 v1 v2 v3 v4 M | _ => none) else
  none
def f215 (as : List aV) (M : hM) : xO := match as with
  | [.inr (.inr (some a0)), .inl v1, .inl v2] => x_go k215 (b215_0 a0 v1 v2 M)
  | _ => none
theorem lb215_0 (G : gX) (l : Launch) (a0 : Nat) (v1 : Int32) (v2 : Int32) (M : hM) {res : xRes} (h : b215_0 a0 v1 v2 M = some res) : h_sz M ≤ r_sz res ∧ h_sl M ≤ r_sl res := by
  unfold b215_0 at h
  obtain rfl := Option.some.inj h
  show h_sz M ≤ h_sz M ∧ h_sl M ≤ h_sl M
  omega
theorem lb215_41 (G : gX) (l : Launch) (a0 : Nat) (v1 : Int32) (v2 : Int32) (v4 : Int32) (si0 : Int32) (M : hM) {res : xRes} (h : b215_41 a0 v1 v2 v4 si0 M = some res) : h_sz M ≤ r_sz res ∧ h_sl M ≤ r_sl res := by
  unfold b215_41 at h
  obtain rfl := Option.some.inj h
  show h_sz M ≤ h_sz M ∧ h_sl M ≤ h_sl M
  omega
theorem lb215_36 (G : gX) (l : Launch) (a0 : Nat) (v1 : Int32) (v2 : Int32) (v4 : Int32) (M : hM) {res : xRes} (h : b215_36 a0 v1 v2 v4 M = some res) : h_sz M ≤ r_sz res ∧ h_sl M ≤ r_sl res := by
  unfold b215_36 at h
  have e := lb215_41 G l a0 v1 v2 v4 (1 : Int32) M h
  omega
theorem lb215_5 (G : gX) (l : Launch) (a0 : Nat) (v1 : Int32) (v2 : Int32) (v3 : Int32) (v4 : Int32) (M : hM) {res : xRes} (h : b215_5 a0 v1 v2 v3 v4 M = some res) : h_sz M ≤ r_sz res ∧ h_sl M ≤ r_sl res := by
  unfold b215_5 at h
  obtain ⟨o_1, h2, h⟩ := bd h
  obtain ⟨v_3, h4, h⟩ := bd h
  by_cases q12 : v_3 ≤ v4
  · rw [if_pos q12] at h
    by_cases q5 : v3 = 0 ∨ v3 = 1
    · rw [if_pos q5] at h
      obtain rfl := Option.some.inj h
      show h_sz M ≤ h_sz M ∧ h_sl M ≤ h_sl M
      omega
    · rw [if_neg q5] at h
      cases h
  · rw [if_neg q12] at h
    by_cases q11 : v3 = 0
    · rw [if_pos q11] at h
      obtain ⟨o_6, h7, h⟩ := bd h
      obtain ⟨v_8, h9, h⟩ := bd h
      by_cases q10 : v_8 = v2
      · rw [if_pos q10] at h
        have e := lb215_36 G l a0 v1 v2 v4 M h
        omega
      · rw [if_neg q10] at h
        have e := lb215_41 G l a0 v1 v2 v4 (0 : Int32) M h
        omega
    · rw [if_neg q11] at h
      have e := lb215_36 G l a0 v1 v2 v4 M h
      omega
section
variable {p : Program} {l : Launch} {e : Env} {s : State} {m : MethodId} {args : Array Value} {below : List Frame} {meth : Method} {c : Code} {G : gX} {z0 y0 : Nat} {r : Option aV} {M' : hM}
def pg215 (p : Program) (l : Launch) (e : Env) (s : State) (m : MethodId) (args : Array Value) (below : List Frame) (meth : Method) (c : Code) (G : gX) (z0 y0 : Nat) (r : Option aV) (M' : hM) (h : Nat) (as : List aV) (M : hM) : Prop :=
  if h = 5 then (match as with | [.inr (.inr (some a0)), .inl v1, .inl v2, .inl v3, .inl v4] => xV G p l e (xRm 0 (h_sz M' - z0) (h_sl M' - y0)) s m args below meth c z0 y0 (h_sz M') (h_sl M') 5 (MQ below (xQc G r M') args s (h_sz M' - z0) (h_sl M' - y0) (xFr G)) 5 [(0, .inr (.inr (some a0))), (1, .inl v1), (2, .inl v2), (3, .inl v3), (4, .inl v4)] [] M | _ => False) else
  False
theorem sb215_0 (E : xE G p (xRm 0 (h_sz M' - z0) (h_sl M' - y0)) s m args c prog_14_method_64_code "ZonedFabricModel" z0 y0 (h_sz M') (h_sl M') 5) (B : xB ym215 (some FieldType.boolean) meth) (a0 : Nat) (v1 : Int32) (v2 : Int32) (M : hM) {res : xRes} (h : b215_0 a0 v1 v2 M = some res) (hN : xN (pg215 p l e s m args below meth c G z0 y0 r M') r M' res) : xV G p l e (xRm 0 (h_sz M' - z0) (h_sl M' - y0)) s m args below meth c z0 y0 (h_sz M') (h_sl M') 5 (MQ below (xQc G r M') args s (h_sz M' - z0) (h_sl M' - y0) (xFr G)) 0 [(0, .inr (.inr (some a0))), (1, .inl v1), (2, .inl v2)] [] M := by
  unfold b215_0 at h
  refine xv_b E [.iconst 0, .istore_n 3, .iconst 0, .istore 4] (pc' := 5) (lv' := [(4, .inl (0 : Int32)), (3, .inl (0 : Int32)), (0, .inr (.inr (some a0))), (1, .inl v1), (2, .inl v2)]) (st' := []) (by decide +kernel) rfl rfl ?_
  obtain rfl := Option.some.inj h
  exact xv_w hN rfl
theorem sb215_41 (E : xE G p (xRm 0 (h_sz M' - z0) (h_sl M' - y0)) s m args c prog_14_method_64_code "ZonedFabricModel" z0 y0 (h_sz M') (h_sl M') 5) (B : xB ym215 (some FieldType.boolean) meth) (a0 : Nat) (v1 : Int32) (v2 : Int32) (v4 : Int32) (si0 : Int32) (M : hM) {res : xRes} (h : b215_41 a0 v1 v2 v4 si0 M = some res) (hN : xN (pg215 p l e s m args below meth c G z0 y0 r M') r M' res) : xV G p l e (xRm 0 (h_sz M' - z0) (h_sl M' - y0)) s m args below meth c z0 y0 (h_sz M') (h_sl M') 5 (MQ below (xQc G r M') args s (h_sz M' - z0) (h_sl M' - y0) (xFr G)) 41 [(0, .inr (.inr (some a0))), (1, .inl v1), (2, .inl v2), (4, .inl v4)] [.inl si0] M := by
  unfold b215_41 at h
  refine xv_b E [.istore_n 3, .iinc 4 1] (pc' := 45) (lv' := [(4, .inl (v4 + (1 : Int32))), (3, .inl si0), (0, .inr (.inr (some a0))), (1, .inl v1), (2, .inl v2)]) (st' := []) (by decide +kernel) rfl rfl ?_
  refine xv_goto E 5 (show decode prog_14_method_64_code 45 = .ok (.goto (-40), 3) by decide +kernel) rfl ?_
  obtain rfl := Option.some.inj h
  exact xv_w hN rfl
theorem sb215_36 (E : xE G p (xRm 0 (h_sz M' - z0) (h_sl M' - y0)) s m args c prog_14_method_64_code "ZonedFabricModel" z0 y0 (h_sz M') (h_sl M') 5) (B : xB ym215 (some FieldType.boolean) meth) (a0 : Nat) (v1 : Int32) (v2 : Int32) (v4 : Int32) (M : hM) {res : xRes} (h : b215_36 a0 v1 v2 v4 M = some res) (hN : xN (pg215 p l e s m args below meth c G z0 y0 r M') r M' res) : xV G p l e (xRm 0 (h_sz M' - z0) (h_sl M' - y0)) s m args below meth c z0 y0 (h_sz M') (h_sl M') 5 (MQ below (xQc G r M') args s (h_sz M' - z0) (h_sl M' - y0) (xFr G)) 36 [(0, .inr (.inr (some a0))), (1, .inl v1), (2, .inl v2), (4, .inl v4)] [] M := by
  unfold b215_36 at h
  refine xv_b E [.iconst 1] (pc' := 37) (lv' := [(0, .inr (.inr (some a0))), (1, .inl v1), (2, .inl v2), (4, .inl v4)]) (st' := [.inl (1 : Int32)]) (by decide +kernel) rfl rfl ?_
  refine xv_goto E 41 (show decode prog_14_method_64_code 37 = .ok (.goto (4), 3) by decide +kernel) rfl ?_
  exact xv_w (sb215_41 E B a0 v1 v2 v4 (1 : Int32) M h hN) rfl
theorem sb215_5 (E : xE G p (xRm 0 (h_sz M' - z0) (h_sl M' - y0)) s m args c prog_14_method_64_code "ZonedFabricModel" z0 y0 (h_sz M') (h_sl M') 5) (B : xB ym215 (some FieldType.boolean) meth) (a0 : Nat) (v1 : Int32) (v2 : Int32) (v3 : Int32) (v4 : Int32) (M : hM) {res : xRes} (h : b215_5 a0 v1 v2 v3 v4 M = some res) (hN : xN (pg215 p l e s m args below meth c G z0 y0 r M') r M' res) : xV G p l e (xRm 0 (h_sz M' - z0) (h_sl M' - y0)) s m args below meth c z0 y0 (h_sz M') (h_sl M') 5 (MQ below (xQc G r M') args s (h_sz M' - z0) (h_sl M' - y0) (xFr G)) 5 [(0, .inr (.inr (some a0))), (1, .inl v1), (2, .inl v2), (3, .inl v3), (4, .inl v4)] [] M := by
  unfold b215_5 at h
  refine xv_b E [.iload 4, .aload_n 0] (pc' := 8) (lv' := [(0, .inr (.inr (some a0))), (1, .inl v1), (2, .inl v2), (3, .inl v3), (4, .inl v4)]) (st' := [.inr (.inr (some a0)), .inl v4]) (by decide +kernel) rfl rfl ?_
  obtain ⟨o_1, h2, h⟩ := bd h
  refine xg_r E 12 41 h2 mw900 (show decode prog_14_method_64_code 8 = .ok (.getfield 115, 3) by decide +kernel) ?_
  refine xv_b E [.iload_n 1] (pc' := 12) (lv' := [(0, .inr (.inr (some a0))), (1, .inl v1), (2, .inl v2), (3, .inl v3), (4, .inl v4)]) (st' := [.inl v1, .inr (.inr o_1), .inl v4]) (by decide +kernel) rfl rfl ?_
  obtain ⟨v_3, h4, h⟩ := bd h
  refine xa_i E h4 (show decode prog_14_method_64_code 12 = .ok (.iaload, 1) by decide +kernel) ?_
  by_cases q12 : v_3 ≤ v4
  · rw [if_pos q12] at h
    refine xv_icmp_ge E 48 (show decode prog_14_method_64_code 13 = .ok (.if_icmp .ge (35), 3) by decide +kernel) rfl (fun _ => ?_) (fun z => absurd q12 z)
    refine xv_b E [.iload_n 3] (pc' := 49) (lv' := [(0, .inr (.inr (some a0))), (1, .inl v1), (2, .inl v2), (3, .inl v3), (4, .inl v4)]) (st' := [.inl v3]) (by decide +kernel) rfl rfl ?_
    by_cases q5 : v3 = 0 ∨ v3 = 1
    · rw [if_pos q5] at h
      obtain rfl := Option.some.inj h
      obtain ⟨rfl, rfl⟩ := Prod.mk.inj (show ((some (.inl v3) : Option aV), M) = (r, M') from hN)
      exact xv_ri E B.1 (by rcases q5 with z | z <;> rw [z] <;> rfl) B.2.1 (show decode prog_14_method_64_code 49 = .ok (.ireturn, 1) by decide +kernel) rfl rfl
    · rw [if_neg q5] at h
      cases h
  · rw [if_neg q12] at h
    refine xv_icmp_ge E 48 (show decode prog_14_method_64_code 13 = .ok (.if_icmp .ge (35), 3) by decide +kernel) rfl (fun z => absurd z q12) (fun _ => ?_)
    refine xv_b E [.iload_n 3] (pc' := 17) (lv' := [(0, .inr (.inr (some a0))), (1, .inl v1), (2, .inl v2), (3, .inl v3), (4, .inl v4)]) (st' := [.inl v3]) (by decide +kernel) rfl rfl ?_
    by_cases q11 : v3 = 0
    · rw [if_pos q11] at h
      refine xv_if_ne E 36 (show decode prog_14_method_64_code 17 = .ok (.ifCond .ne (19), 3) by decide +kernel) rfl (fun z => absurd q11 z) (fun _ => ?_)
      refine xv_b E [.aload_n 0] (pc' := 21) (lv' := [(0, .inr (.inr (some a0))), (1, .inl v1), (2, .inl v2), (3, .inl v3), (4, .inl v4)]) (st' := [.inr (.inr (some a0))]) (by decide +kernel) rfl rfl ?_
      obtain ⟨o_6, h7, h⟩ := bd h
      refine xg_r E 12 40 h7 mw899 (show decode prog_14_method_64_code 21 = .ok (.getfield 112, 3) by decide +kernel) ?_
      refine xv_b E [.bipush 8, .iload_n 1, .imul, .iload 4, .iadd] (pc' := 31) (lv' := [(0, .inr (.inr (some a0))), (1, .inl v1), (2, .inl v2), (3, .inl v3), (4, .inl v4)]) (st' := [.inl (((8 : Int32) * v1) + v4), .inr (.inr o_6)]) (by decide +kernel) rfl rfl ?_
      obtain ⟨v_8, h9, h⟩ := bd h
      refine xa_i E h9 (show decode prog_14_method_64_code 31 = .ok (.iaload, 1) by decide +kernel) ?_
      refine xv_b E [.iload_n 2] (pc' := 33) (lv' := [(0, .inr (.inr (some a0))), (1, .inl v1), (2, .inl v2), (3, .inl v3), (4, .inl v4)]) (st' := [.inl v2, .inl v_8]) (by decide +kernel) rfl rfl ?_
      by_cases q10 : v_8 = v2
      · rw [if_pos q10] at h
        refine xv_icmp_ne E 40 (show decode prog_14_method_64_code 33 = .ok (.if_icmp .ne (7), 3) by decide +kernel) rfl (fun z => absurd q10 z) (fun _ => ?_)
        exact xv_w (sb215_36 E B a0 v1 v2 v4 M h hN) rfl
      · rw [if_neg q10] at h
        refine xv_icmp_ne E 40 (show decode prog_14_method_64_code 33 = .ok (.if_icmp .ne (7), 3) by decide +kernel) rfl (fun _ => ?_) (fun z => absurd z q10)
        refine xv_b E [.iconst 0] (pc' := 41) (lv' := [(0, .inr (.inr (some a0))), (1, .inl v1), (2, .inl v2), (3, .inl v3), (4, .inl v4)]) (st' := [.inl (0 : Int32)]) (by decide +kernel) rfl rfl ?_
        exact xv_w (sb215_41 E B a0 v1 v2 v4 (0 : Int32) M h hN) rfl
    · rw [if_neg q11] at h
      refine xv_if_ne E 36 (show decode prog_14_method_64_code 17 = .ok (.ifCond .ne (19), 3) by decide +kernel) rfl (fun _ => ?_) (fun z => absurd z q11)
      exact xv_w (sb215_36 E B a0 v1 v2 v4 M h hN) rfl
end
theorem t215 (G : gX) (l : Launch) {as : List aV} {M : hM} {r : Option aV} {M' : hM} (h : f215 as M = some (r, M')) : xM G l ym215 prog_14_method_64_code 5 (some FieldType.boolean) 0 as M r M' := by
  unfold f215 at h
  split at h
  · have hle : ∀ h as M res, k215 h as M = some res → h_sz M ≤ r_sz res ∧ h_sl M ≤ r_sl res := by
      intro h as M res hb
      unfold k215 at hb
      by_cases e0 : h = 5
      · rw [if_pos e0] at hb
        split at hb
        · exact lb215_5 G l _ _ _ _ _ M hb
        · cases hb
      · rw [if_neg e0] at hb
        cases hb
    obtain ⟨res, hx, hres⟩ := x_go_ok h
    refine xM_of (by decide) (Nat.le_of_ble_eq_true rfl) ?_ ?_
    · have e1 := lb215_0 G l _ _ _ M hx
      have e2 := x_go_le hle hres
      omega
    · intro p e s m args below meth c E B
      refine sb215_0 E B _ _ _ M hx (hres _ ?_)
      intro h as M res hb hN
      unfold k215 at hb
      unfold pg215
      by_cases e0 : h = 5
      · rw [if_pos e0] at hb ⊢
        split at hb
        · exact sb215_5 E B _ _ _ _ _ M hb hN
        · cases hb
      · rw [if_neg e0] at hb ⊢
        cases hb
  · cases h
/-! ZFModel.command(III)V -/
def ym216 : MethodName := ⟨"ZonedFabricModel", "command", "(III)V"⟩
theorem cd216 : xCd ym216 prog_14_method_66_code 10 none 3 := ⟨mw1090, mw864, by decide, by decide, by decide +kernel⟩
def b216_374  (M : hM) : Option xRes :=
  some (.inl (none, M))
def b216_98 (a0 : Nat) (v1 : Int32) (v2 : Int32) (M : hM) : Option xRes :=
  Option.bind (g_o M 12 (some a0)) fun b_35 =>
  Option.bind (c_V (f213 [.inr (.inr (some b_35)), .inl v1, .inl v2, .inl (0 : Int32), .inl (1 : Int32)] M)) fun q_33 =>
  b216_374  q_33
def b216_109 (a0 : Nat) (v1 : Int32) (v2 : Int32) (v3 : Int32) (v4 : Int32) (v5 : Int32) (v6 : Int32) (v7 : Int32) (M : hM) : Option xRes :=
  if v5 = 0 then
    (some (.inr (117, [.inr (.inr (some a0)), .inl v1, .inl v2, .inl v4, .inl v6, .inl v7, .inl (0 : Int32)], M)))
  else
    (Option.bind (g_r M 12 43 (some a0)) fun o_37 =>
    Option.bind (g_r M 12 43 (some a0)) fun o_39 =>
    Option.bind (al_i M 20 o_39 v1) fun v_41 =>
    Option.bind (as_i M 20 o_37 v1 ((v_41 + (1 : Int32)) &&& (65535 : Int32))) fun M43 =>
    Option.bind (g_r M43 12 46 (some a0)) fun o_45 =>
    Option.bind (al_i M43 20 o_45 v1) fun v_47 =>
    Option.bind (g_r M43 12 44 (some a0)) fun o_49 =>
    Option.bind (as_i M43 20 o_49 (((48 : Int32) * v1) + ((8 : Int32) * v_47)) v3) fun M51 =>
    Option.bind (g_r M51 12 44 (some a0)) fun o_53 =>
    Option.bind (g_o M51 12 (some a0)) fun b_57 =>
    Option.bind (c_I (f166 [.inr (.inr (some b_57)), .inl v2, .inl (7 : Int32), .inl (2 : Int32)] M51)) fun q_55 =>
    Option.bind (as_i q_55.2 20 o_53 ((((48 : Int32) * v1) + ((8 : Int32) * v_47)) + (1 : Int32)) q_55.1) fun M59 =>
    Option.bind (g_r M59 12 44 (some a0)) fun o_61 =>
    Option.bind (g_r M59 12 43 (some a0)) fun o_63 =>
    Option.bind (al_i M59 20 o_63 v1) fun v_65 =>
    Option.bind (as_i M59 20 o_61 ((((48 : Int32) * v1) + ((8 : Int32) * v_47)) + (2 : Int32)) v_65) fun M67 =>
    Option.bind (g_r M67 12 44 (some a0)) fun o_69 =>
    Option.bind (as_i M67 20 o_69 ((((48 : Int32) * v1) + ((8 : Int32) * v_47)) + (3 : Int32)) v4) fun M71 =>
    Option.bind (g_r M71 12 44 (some a0)) fun o_73 =>
    Option.bind (as_i M71 20 o_73 ((((48 : Int32) * v1) + ((8 : Int32) * v_47)) + (4 : Int32)) v6) fun M75 =>
    Option.bind (g_r M75 12 44 (some a0)) fun o_77 =>
    Option.bind (as_i M75 20 o_77 ((((48 : Int32) * v1) + ((8 : Int32) * v_47)) + (5 : Int32)) v7) fun M79 =>
    Option.bind (g_r M79 12 44 (some a0)) fun o_81 =>
    Option.bind (as_i M79 20 o_81 ((((48 : Int32) * v1) + ((8 : Int32) * v_47)) + (6 : Int32)) (0 : Int32)) fun M83 =>
    Option.bind (g_r M83 12 44 (some a0)) fun o_85 =>
    Option.bind (g_i M83 12 3 (some a0)) fun v_87 =>
    Option.bind (as_i M83 20 o_85 ((((48 : Int32) * v1) + ((8 : Int32) * v_47)) + (7 : Int32)) v_87) fun M89 =>
    Option.bind (g_r M89 12 46 (some a0)) fun o_91 =>
    Option.bind (al_i M89 20 o_91 v1) fun v_93 =>
    Option.bind (as_i M89 20 o_91 v1 (v_93 + (1 : Int32))) fun M95 =>
    Option.bind (g_r M95 12 43 (some a0)) fun o_97 =>
    Option.bind (al_i M95 20 o_97 v1) fun v_99 =>
    Option.bind (g_o M95 12 (some a0)) fun b_103 =>
    Option.bind (c_I (f212 [.inr (.inr (some b_103)), .inl v1, .inl v2, .inl (10 : Int32), .inl v_99, .inl (0 : Int32)] M95)) fun q_101 =>
    Option.bind (g_o q_101.2 12 (some a0)) fun b_107 =>
    Option.bind (c_V (f167 [.inr (.inr (some b_107)), .inl q_101.1, .inr (.inl (Int32.toInt64 v7)), .inl (1 : Int32)] q_101.2)) fun q_105 =>
    Option.bind (g_o q_105 12 (some a0)) fun b_111 =>
    Option.bind (c_I (f176 [.inr (.inr (some b_111)), .inl v1] q_105)) fun q_109 =>
    Option.bind (g_o q_109.2 12 (some a0)) fun b_115 =>
    Option.bind (c_V (f183 [.inr (.inr (some b_115)), .inl q_109.1, .inl q_101.1] q_109.2)) fun q_113 =>
    b216_374  q_113)
def b216_25 (a0 : Nat) (v1 : Int32) (v2 : Int32) (v3 : Int32) (v4 : Int32) (si0 : Int32) (M : hM) : Option xRes :=
  Option.bind (g_o M 12 (some a0)) fun b_12 =>
  Option.bind (c_I (f165 [.inr (.inr (some b_12)), .inl v2, .inl (15 : Int32)] M)) fun q_10 =>
  Option.bind (g_o q_10.2 12 (some a0)) fun b_16 =>
  Option.bind (c_I (f165 [.inr (.inr (some b_16)), .inl v2, .inl (16 : Int32)] q_10.2)) fun q_14 =>
  Option.bind (g_o q_14.2 12 (some a0)) fun b_20 =>
  Option.bind (c_I (f215 [.inr (.inr (some b_20)), .inl v1, .inl v3] q_14.2)) fun q_18 =>
  if q_18.1 = 0 then
    (b216_98 a0 v1 v2 q_18.2)
  else
    (if (1 : Int32) < v4 then
      (b216_98 a0 v1 v2 q_18.2)
    else
      (if q_14.1 < (1 : Int32) then
        (b216_98 a0 v1 v2 q_18.2)
      else
        (if (4 : Int32) < q_14.1 then
          (b216_98 a0 v1 v2 q_18.2)
        else
          (if (16 : Int32) < (q_10.1 + q_14.1) then
            (b216_98 a0 v1 v2 q_18.2)
          else
            (if si0 = 0 then
              (b216_109 a0 v1 v2 v3 v4 si0 q_10.1 q_14.1 q_18.2)
            else
              (Option.bind (g_r q_18.2 12 46 (some a0)) fun o_22 =>
              Option.bind (al_i q_18.2 20 o_22 v1) fun v_24 =>
              if v_24 = (6 : Int32) then
                (b216_98 a0 v1 v2 q_18.2)
              else
                (b216_109 a0 v1 v2 v3 v4 si0 q_10.1 q_14.1 q_18.2)))))))
def b216_0 (a0 : Nat) (v1 : Int32) (v2 : Int32) (v3 : Int32) (M : hM) : Option xRes :=
  Option.bind (g_o M 12 (some a0)) fun b_3 =>
  Option.bind (c_I (f165 [.inr (.inr (some b_3)), .inl v2, .inl (13 : Int32)] M)) fun q_1 =>
  Option.bind (g_o q_1.2 12 (some a0)) fun b_7 =>
  Option.bind (c_I (f165 [.inr (.inr (some b_7)), .inl v2, .inl (14 : Int32)] q_1.2)) fun q_5 =>
  if q_5.1 = (1 : Int32) then
    (b216_25 a0 v1 v2 v3 q_1.1 (1 : Int32) q_5.2)
  else
    (b216_25 a0 v1 v2 v3 q_1.1 (0 : Int32) q_5.2)
def b216_117 (a0 : Nat) (v1 : Int32) (v2 : Int32) (v4 : Int32) (v6 : Int32) (v7 : Int32) (v8 : Int32) (M : hM) : Option xRes :=
  if v7 ≤ v8 then
    (Option.bind (g_o M 12 (some a0)) fun b_120 =>
    Option.bind (c_V (f213 [.inr (.inr (some b_120)), .inl v1, .inl v2, .inl (0 : Int32), .inl (0 : Int32)] M)) fun q_118 =>
    b216_374  q_118)
  else
    (Option.bind (g_o M 12 (some a0)) fun b_124 =>
    Option.bind (c_I (f212 [.inr (.inr (some b_124)), .inl v1, .inl v2, .inl (11 : Int32), .inl (0 : Int32), .inl v8] M)) fun q_122 =>
    Option.bind (g_r q_122.2 12 42 (some a0)) fun o_126 =>
    Option.bind (al_l q_122.2 23 o_126 (((((32 : Int32) * v1) + ((16 : Int32) * v4)) + v6) + v8)) fun w_128 =>
    Option.bind (g_o q_122.2 12 (some a0)) fun b_132 =>
    Option.bind (c_V (f167 [.inr (.inr (some b_132)), .inl q_122.1, .inr (.inl w_128), .inl (8 : Int32)] q_122.2)) fun q_130 =>
    Option.bind (g_o q_130 12 (some a0)) fun b_136 =>
    Option.bind (c_I (f176 [.inr (.inr (some b_136)), .inl v1] q_130)) fun q_134 =>
    Option.bind (g_o q_134.2 12 (some a0)) fun b_140 =>
    Option.bind (c_V (f183 [.inr (.inr (some b_140)), .inl q_134.1, .inl q_122.1] q_134.2)) fun q_138 =>
    some (.inr (117, [.inr (.inr (some a0)), .inl v1, .inl v2, .inl v4, .inl v6, .inl v7, .inl (v8 + (1 : Int32))], q_138)))
def k216 (h : Nat) (as : List aV) (M : hM) : Option xRes :=
  if h = 117 then (match as with | [.inr (.inr (some a0)), .inl v1, .inl v2, .inl v4, .inl v6, .inl v7, .inl v8] => b216_117 a0 v1 v2 v4 v6 v7 v8 M | _ => none) else
  none
def f216 (as : List aV) (M : hM) : xO := match as with
  | [.inr (.inr (some a0)), .inl v1, .inl v2, .inl v3] => x_go k216 (b216_0 a0 v1 v2 v3 M)
  | _ => none
theorem lb216_374 (G : gX) (l : Launch)  (M : hM) {res : xRes} (h : b216_374  M = some res) : h_sz M ≤ r_sz res ∧ h_sl M ≤ r_sl res := by
  unfold b216_374 at h
  obtain rfl := Option.some.inj h
  show h_sz M ≤ h_sz M ∧ h_sl M ≤ h_sl M
  omega
theorem lb216_98 (G : gX) (l : Launch) (a0 : Nat) (v1 : Int32) (v2 : Int32) (M : hM) {res : xRes} (h : b216_98 a0 v1 v2 M = some res) : h_sz M ≤ r_sz res ∧ h_sl M ≤ r_sl res := by
  unfold b216_98 at h
  obtain ⟨b_35, h36, h⟩ := bd h
  obtain ⟨q_33, h34, h⟩ := bd h
  have eh34 := (t213 G l (c_V_some h34)).1
  have e := lb216_374 G l  q_33 h
  omega
theorem lb216_109 (G : gX) (l : Launch) (a0 : Nat) (v1 : Int32) (v2 : Int32) (v3 : Int32) (v4 : Int32) (v5 : Int32) (v6 : Int32) (v7 : Int32) (M : hM) {res : xRes} (h : b216_109 a0 v1 v2 v3 v4 v5 v6 v7 M = some res) : h_sz M ≤ r_sz res ∧ h_sl M ≤ r_sl res := by
  unfold b216_109 at h
  by_cases q117 : v5 = 0
  · rw [if_pos q117] at h
    obtain rfl := Option.some.inj h
    show h_sz M ≤ h_sz M ∧ h_sl M ≤ h_sl M
    omega
  · rw [if_neg q117] at h
    obtain ⟨o_37, h38, h⟩ := bd h
    obtain ⟨o_39, h40, h⟩ := bd h
    obtain ⟨v_41, h42, h⟩ := bd h
    obtain ⟨M43, h44, h⟩ := bd h
    have eh44 := as_i_sz h44
    obtain ⟨o_45, h46, h⟩ := bd h
    obtain ⟨v_47, h48, h⟩ := bd h
    obtain ⟨o_49, h50, h⟩ := bd h
    obtain ⟨M51, h52, h⟩ := bd h
    have eh52 := as_i_sz h52
    obtain ⟨o_53, h54, h⟩ := bd h
    obtain ⟨b_57, h58, h⟩ := bd h
    obtain ⟨q_55, h56, h⟩ := bd h
    have eh56 := (t166 G l (c_I_some h56)).1
    obtain ⟨M59, h60, h⟩ := bd h
    have eh60 := as_i_sz h60
    obtain ⟨o_61, h62, h⟩ := bd h
    obtain ⟨o_63, h64, h⟩ := bd h
    obtain ⟨v_65, h66, h⟩ := bd h
    obtain ⟨M67, h68, h⟩ := bd h
    have eh68 := as_i_sz h68
    obtain ⟨o_69, h70, h⟩ := bd h
    obtain ⟨M71, h72, h⟩ := bd h
    have eh72 := as_i_sz h72
    obtain ⟨o_73, h74, h⟩ := bd h
    obtain ⟨M75, h76, h⟩ := bd h
    have eh76 := as_i_sz h76
    obtain ⟨o_77, h78, h⟩ := bd h
    obtain ⟨M79, h80, h⟩ := bd h
    have eh80 := as_i_sz h80
    obtain ⟨o_81, h82, h⟩ := bd h
    obtain ⟨M83, h84, h⟩ := bd h
    have eh84 := as_i_sz h84
    obtain ⟨o_85, h86, h⟩ := bd h
    obtain ⟨v_87, h88, h⟩ := bd h
    obtain ⟨M89, h90, h⟩ := bd h
    have eh90 := as_i_sz h90
    obtain ⟨o_91, h92, h⟩ := bd h
    obtain ⟨v_93, h94, h⟩ := bd h
    obtain ⟨M95, h96, h⟩ := bd h
    have eh96 := as_i_sz h96
    obtain ⟨o_97, h98, h⟩ := bd h
    obtain ⟨v_99, h100, h⟩ := bd h
    obtain ⟨b_103, h104, h⟩ := bd h
    obtain ⟨q_101, h102, h⟩ := bd h
    have eh102 := (t212 G l (c_I_some h102)).1
    obtain ⟨b_107, h108, h⟩ := bd h
    obtain ⟨q_105, h106, h⟩ := bd h
    have eh106 := (t167 G l (c_V_some h106)).1
    obtain ⟨b_111, h112, h⟩ := bd h
    obtain ⟨q_109, h110, h⟩ := bd h
    have eh110 := (t176 G l (c_I_some h110)).1
    obtain ⟨b_115, h116, h⟩ := bd h
    obtain ⟨q_113, h114, h⟩ := bd h
    have eh114 := (t183 G l (c_V_some h114)).1
    have e := lb216_374 G l  q_113 h
    omega
theorem lb216_25 (G : gX) (l : Launch) (a0 : Nat) (v1 : Int32) (v2 : Int32) (v3 : Int32) (v4 : Int32) (si0 : Int32) (M : hM) {res : xRes} (h : b216_25 a0 v1 v2 v3 v4 si0 M = some res) : h_sz M ≤ r_sz res ∧ h_sl M ≤ r_sl res := by
  unfold b216_25 at h
  obtain ⟨b_12, h13, h⟩ := bd h
  obtain ⟨q_10, h11, h⟩ := bd h
  have eh11 := (t165 G l (c_I_some h11)).1
  obtain ⟨b_16, h17, h⟩ := bd h
  obtain ⟨q_14, h15, h⟩ := bd h
  have eh15 := (t165 G l (c_I_some h15)).1
  obtain ⟨b_20, h21, h⟩ := bd h
  obtain ⟨q_18, h19, h⟩ := bd h
  have eh19 := (t215 G l (c_I_some h19)).1
  by_cases q32 : q_18.1 = 0
  · rw [if_pos q32] at h
    have e := lb216_98 G l a0 v1 v2 q_18.2 h
    omega
  · rw [if_neg q32] at h
    by_cases q31 : (1 : Int32) < v4
    · rw [if_pos q31] at h
      have e := lb216_98 G l a0 v1 v2 q_18.2 h
      omega
    · rw [if_neg q31] at h
      by_cases q30 : q_14.1 < (1 : Int32)
      · rw [if_pos q30] at h
        have e := lb216_98 G l a0 v1 v2 q_18.2 h
        omega
      · rw [if_neg q30] at h
        by_cases q29 : (4 : Int32) < q_14.1
        · rw [if_pos q29] at h
          have e := lb216_98 G l a0 v1 v2 q_18.2 h
          omega
        · rw [if_neg q29] at h
          by_cases q28 : (16 : Int32) < (q_10.1 + q_14.1)
          · rw [if_pos q28] at h
            have e := lb216_98 G l a0 v1 v2 q_18.2 h
            omega
          · rw [if_neg q28] at h
            by_cases q27 : si0 = 0
            · rw [if_pos q27] at h
              have e := lb216_109 G l a0 v1 v2 v3 v4 si0 q_10.1 q_14.1 q_18.2 h
              omega
            · rw [if_neg q27] at h
              obtain ⟨o_22, h23, h⟩ := bd h
              obtain ⟨v_24, h25, h⟩ := bd h
              by_cases q26 : v_24 = (6 : Int32)
              · rw [if_pos q26] at h
                have e := lb216_98 G l a0 v1 v2 q_18.2 h
                omega
              · rw [if_neg q26] at h
                have e := lb216_109 G l a0 v1 v2 v3 v4 si0 q_10.1 q_14.1 q_18.2 h
                omega
theorem lb216_0 (G : gX) (l : Launch) (a0 : Nat) (v1 : Int32) (v2 : Int32) (v3 : Int32) (M : hM) {res : xRes} (h : b216_0 a0 v1 v2 v3 M = some res) : h_sz M ≤ r_sz res ∧ h_sl M ≤ r_sl res := by
  unfold b216_0 at h
  obtain ⟨b_3, h4, h⟩ := bd h
  obtain ⟨q_1, h2, h⟩ := bd h
  have eh2 := (t165 G l (c_I_some h2)).1
  obtain ⟨b_7, h8, h⟩ := bd h
  obtain ⟨q_5, h6, h⟩ := bd h
  have eh6 := (t165 G l (c_I_some h6)).1
  by_cases q9 : q_5.1 = (1 : Int32)
  · rw [if_pos q9] at h
    have e := lb216_25 G l a0 v1 v2 v3 q_1.1 (1 : Int32) q_5.2 h
    omega
  · rw [if_neg q9] at h
    have e := lb216_25 G l a0 v1 v2 v3 q_1.1 (0 : Int32) q_5.2 h
    omega
theorem lb216_117 (G : gX) (l : Launch) (a0 : Nat) (v1 : Int32) (v2 : Int32) (v4 : Int32) (v6 : Int32) (v7 : Int32) (v8 : Int32) (M : hM) {res : xRes} (h : b216_117 a0 v1 v2 v4 v6 v7 v8 M = some res) : h_sz M ≤ r_sz res ∧ h_sl M ≤ r_sl res := by
  unfold b216_117 at h
  by_cases q142 : v7 ≤ v8
  · rw [if_pos q142] at h
    obtain ⟨b_120, h121, h⟩ := bd h
    obtain ⟨q_118, h119, h⟩ := bd h
    have eh119 := (t213 G l (c_V_some h119)).1
    have e := lb216_374 G l  q_118 h
    omega
  · rw [if_neg q142] at h
    obtain ⟨b_124, h125, h⟩ := bd h
    obtain ⟨q_122, h123, h⟩ := bd h
    have eh123 := (t212 G l (c_I_some h123)).1
    obtain ⟨o_126, h127, h⟩ := bd h
    obtain ⟨w_128, h129, h⟩ := bd h
    obtain ⟨b_132, h133, h⟩ := bd h
    obtain ⟨q_130, h131, h⟩ := bd h
    have eh131 := (t167 G l (c_V_some h131)).1
    obtain ⟨b_136, h137, h⟩ := bd h
    obtain ⟨q_134, h135, h⟩ := bd h
    have eh135 := (t176 G l (c_I_some h135)).1
    obtain ⟨b_140, h141, h⟩ := bd h
    obtain ⟨q_138, h139, h⟩ := bd h
    have eh139 := (t183 G l (c_V_some h139)).1
    obtain rfl := Option.some.inj h
    show h_sz M ≤ h_sz q_138 ∧ h_sl M ≤ h_sl q_138
    omega
section
variable {p : Program} {l : Launch} {e : Env} {s : State} {m : MethodId} {args : Array Value} {below : List Frame} {meth : Method} {c : Code} {G : gX} {z0 y0 : Nat} {r : Option aV} {M' : hM}
def pg216 (p : Program) (l : Launch) (e : Env) (s : State) (m : MethodId) (args : Array Value) (below : List Frame) (meth : Method) (c : Code) (G : gX) (z0 y0 : Nat) (r : Option aV) (M' : hM) (h : Nat) (as : List aV) (M : hM) : Prop :=
  if h = 117 then (match as with | [.inr (.inr (some a0)), .inl v1, .inl v2, .inl v4, .inl v6, .inl v7, .inl v8] => xV G p l e (xRm 5 (h_sz M' - z0) (h_sl M' - y0)) s m args below meth c z0 y0 (h_sz M') (h_sl M') 10 (MQ below (xQc G r M') args s (h_sz M' - z0) (h_sl M' - y0) (xFr G)) 117 [(0, .inr (.inr (some a0))), (1, .inl v1), (2, .inl v2), (4, .inl v4), (6, .inl v6), (7, .inl v7), (8, .inl v8)] [] M | _ => False) else
  False
theorem sb216_374 (E : xE G p (xRm 5 (h_sz M' - z0) (h_sl M' - y0)) s m args c prog_14_method_66_code "ZonedFabricModel" z0 y0 (h_sz M') (h_sl M') 10) (B : xB ym216 none meth)  (M : hM) {res : xRes} (h : b216_374  M = some res) (hN : xN (pg216 p l e s m args below meth c G z0 y0 r M') r M' res) : xV G p l e (xRm 5 (h_sz M' - z0) (h_sl M' - y0)) s m args below meth c z0 y0 (h_sz M') (h_sl M') 10 (MQ below (xQc G r M') args s (h_sz M' - z0) (h_sl M' - y0) (xFr G)) 374 [] [] M := by
  unfold b216_374 at h
  obtain rfl := Option.some.inj h
  obtain ⟨rfl, rfl⟩ := Prod.mk.inj (show ((none : Option aV), M) = (r, M') from hN)
  exact xv_rv E B.1 B.2.1 (show decode prog_14_method_66_code 374 = .ok (.return_, 1) by decide +kernel) rfl rfl
theorem sb216_98 (E : xE G p (xRm 5 (h_sz M' - z0) (h_sl M' - y0)) s m args c prog_14_method_66_code "ZonedFabricModel" z0 y0 (h_sz M') (h_sl M') 10) (B : xB ym216 none meth) (a0 : Nat) (v1 : Int32) (v2 : Int32) (M : hM) {res : xRes} (h : b216_98 a0 v1 v2 M = some res) (hN : xN (pg216 p l e s m args below meth c G z0 y0 r M') r M' res) : xV G p l e (xRm 5 (h_sz M' - z0) (h_sl M' - y0)) s m args below meth c z0 y0 (h_sz M') (h_sl M') 10 (MQ below (xQc G r M') args s (h_sz M' - z0) (h_sl M' - y0) (xFr G)) 98 [(0, .inr (.inr (some a0))), (1, .inl v1), (2, .inl v2)] [] M := by
  unfold b216_98 at h
  refine xv_b E [.aload_n 0, .iload_n 1, .iload_n 2, .iconst 0, .iconst 1] (pc' := 103) (lv' := [(0, .inr (.inr (some a0))), (1, .inl v1), (2, .inl v2)]) (st' := [.inl (1 : Int32), .inl (0 : Int32), .inl v2, .inl v1, .inr (.inr (some a0))]) (by decide +kernel) rfl rfl ?_
  obtain ⟨b_35, h36, h⟩ := bd h
  obtain ⟨eh36, th36⟩ := g_o_some h36
  obtain ⟨q_33, h34, h⟩ := bd h
  refine xv_cvo E eh36 12 (as := [.inl v1, .inl v2, .inl (0 : Int32), .inl (1 : Int32)]) (t213 G l (c_V_some h34)) cd213 mw1086 mw1087 mw1088 (show decode prog_14_method_66_code 103 = .ok (.invokevirtual 410, 3) by decide +kernel) th36 rfl rfl (Nat.le_of_ble_eq_true rfl) ⟨Nat.le_of_ble_eq_true rfl, Nat.le_of_ble_eq_true rfl⟩ ?_
  refine xv_goto E 374 (show decode prog_14_method_66_code 106 = .ok (.goto (268), 3) by decide +kernel) rfl ?_
  exact xv_w (sb216_374 E B  q_33 h hN) rfl
theorem sb216_109 (E : xE G p (xRm 5 (h_sz M' - z0) (h_sl M' - y0)) s m args c prog_14_method_66_code "ZonedFabricModel" z0 y0 (h_sz M') (h_sl M') 10) (B : xB ym216 none meth) (a0 : Nat) (v1 : Int32) (v2 : Int32) (v3 : Int32) (v4 : Int32) (v5 : Int32) (v6 : Int32) (v7 : Int32) (M : hM) {res : xRes} (h : b216_109 a0 v1 v2 v3 v4 v5 v6 v7 M = some res) (hN : xN (pg216 p l e s m args below meth c G z0 y0 r M') r M' res) : xV G p l e (xRm 5 (h_sz M' - z0) (h_sl M' - y0)) s m args below meth c z0 y0 (h_sz M') (h_sl M') 10 (MQ below (xQc G r M') args s (h_sz M' - z0) (h_sl M' - y0) (xFr G)) 109 [(0, .inr (.inr (some a0))), (1, .inl v1), (2, .inl v2), (3, .inl v3), (4, .inl v4), (5, .inl v5), (6, .inl v6), (7, .inl v7)] [] M := by
  unfold b216_109 at h
  refine xv_b E [.iload 5] (pc' := 111) (lv' := [(0, .inr (.inr (some a0))), (1, .inl v1), (2, .inl v2), (3, .inl v3), (4, .inl v4), (5, .inl v5), (6, .inl v6), (7, .inl v7)]) (st' := [.inl v5]) (by decide +kernel) rfl rfl ?_
  by_cases q117 : v5 = 0
  · rw [if_pos q117] at h
    refine xv_if_ne E 194 (show decode prog_14_method_66_code 111 = .ok (.ifCond .ne (83), 3) by decide +kernel) rfl (fun z => absurd q117 z) (fun _ => ?_)
    refine xv_b E [.iconst 0, .istore 8] (pc' := 117) (lv' := [(8, .inl (0 : Int32)), (0, .inr (.inr (some a0))), (1, .inl v1), (2, .inl v2), (3, .inl v3), (4, .inl v4), (5, .inl v5), (6, .inl v6), (7, .inl v7)]) (st' := []) (by decide +kernel) rfl rfl ?_
    obtain rfl := Option.some.inj h
    exact xv_w hN rfl
  · rw [if_neg q117] at h
    refine xv_if_ne E 194 (show decode prog_14_method_66_code 111 = .ok (.ifCond .ne (83), 3) by decide +kernel) rfl (fun _ => ?_) (fun z => absurd z q117)
    refine xv_b E [.aload_n 0] (pc' := 195) (lv' := [(0, .inr (.inr (some a0))), (1, .inl v1), (2, .inl v2), (3, .inl v3), (4, .inl v4), (5, .inl v5), (6, .inl v6), (7, .inl v7)]) (st' := [.inr (.inr (some a0))]) (by decide +kernel) rfl rfl ?_
    obtain ⟨o_37, h38, h⟩ := bd h
    refine xg_r E 12 43 h38 mw902 (show decode prog_14_method_66_code 195 = .ok (.getfield 122, 3) by decide +kernel) ?_
    refine xv_b E [.iload_n 1, .aload_n 0] (pc' := 200) (lv' := [(0, .inr (.inr (some a0))), (1, .inl v1), (2, .inl v2), (3, .inl v3), (4, .inl v4), (5, .inl v5), (6, .inl v6), (7, .inl v7)]) (st' := [.inr (.inr (some a0)), .inl v1, .inr (.inr o_37)]) (by decide +kernel) rfl rfl ?_
    obtain ⟨o_39, h40, h⟩ := bd h
    refine xg_r E 12 43 h40 mw902 (show decode prog_14_method_66_code 200 = .ok (.getfield 122, 3) by decide +kernel) ?_
    refine xv_b E [.iload_n 1] (pc' := 204) (lv' := [(0, .inr (.inr (some a0))), (1, .inl v1), (2, .inl v2), (3, .inl v3), (4, .inl v4), (5, .inl v5), (6, .inl v6), (7, .inl v7)]) (st' := [.inl v1, .inr (.inr o_39), .inl v1, .inr (.inr o_37)]) (by decide +kernel) rfl rfl ?_
    obtain ⟨v_41, h42, h⟩ := bd h
    refine xa_i E h42 (show decode prog_14_method_66_code 204 = .ok (.iaload, 1) by decide +kernel) ?_
    refine xv_b E [.iconst 1, .iadd] (pc' := 207) (lv' := [(0, .inr (.inr (some a0))), (1, .inl v1), (2, .inl v2), (3, .inl v3), (4, .inl v4), (5, .inl v5), (6, .inl v6), (7, .inl v7)]) (st' := [.inl (v_41 + (1 : Int32)), .inl v1, .inr (.inr o_37)]) (by decide +kernel) rfl rfl ?_
    refine xv_ldcw E (65535 : Int32) mw1094 (show decode prog_14_method_66_code 207 = .ok (.ldc_w 413, 3) by decide +kernel) ?_
    refine xv_b E [.iand] (pc' := 211) (lv' := [(0, .inr (.inr (some a0))), (1, .inl v1), (2, .inl v2), (3, .inl v3), (4, .inl v4), (5, .inl v5), (6, .inl v6), (7, .inl v7)]) (st' := [.inl ((v_41 + (1 : Int32)) &&& (65535 : Int32)), .inl v1, .inr (.inr o_37)]) (by decide +kernel) rfl rfl ?_
    obtain ⟨M43, h44, h⟩ := bd h
    refine xs_i E h44 (show decode prog_14_method_66_code 211 = .ok (.iastore, 1) by decide +kernel) ?_
    refine xv_b E [.bipush 48, .iload_n 1, .imul, .bipush 8, .aload_n 0] (pc' := 219) (lv' := [(0, .inr (.inr (some a0))), (1, .inl v1), (2, .inl v2), (3, .inl v3), (4, .inl v4), (5, .inl v5), (6, .inl v6), (7, .inl v7)]) (st' := [.inr (.inr (some a0)), .inl (8 : Int32), .inl ((48 : Int32) * v1)]) (by decide +kernel) rfl rfl ?_
    obtain ⟨o_45, h46, h⟩ := bd h
    refine xg_r E 12 46 h46 mw905 (show decode prog_14_method_66_code 219 = .ok (.getfield 131, 3) by decide +kernel) ?_
    refine xv_b E [.iload_n 1] (pc' := 223) (lv' := [(0, .inr (.inr (some a0))), (1, .inl v1), (2, .inl v2), (3, .inl v3), (4, .inl v4), (5, .inl v5), (6, .inl v6), (7, .inl v7)]) (st' := [.inl v1, .inr (.inr o_45), .inl (8 : Int32), .inl ((48 : Int32) * v1)]) (by decide +kernel) rfl rfl ?_
    obtain ⟨v_47, h48, h⟩ := bd h
    refine xa_i E h48 (show decode prog_14_method_66_code 223 = .ok (.iaload, 1) by decide +kernel) ?_
    refine xv_b E [.imul, .iadd, .istore 8, .aload_n 0] (pc' := 229) (lv' := [(8, .inl (((48 : Int32) * v1) + ((8 : Int32) * v_47))), (0, .inr (.inr (some a0))), (1, .inl v1), (2, .inl v2), (3, .inl v3), (4, .inl v4), (5, .inl v5), (6, .inl v6), (7, .inl v7)]) (st' := [.inr (.inr (some a0))]) (by decide +kernel) rfl rfl ?_
    obtain ⟨o_49, h50, h⟩ := bd h
    refine xg_r E 12 44 h50 mw903 (show decode prog_14_method_66_code 229 = .ok (.getfield 125, 3) by decide +kernel) ?_
    refine xv_b E [.iload 8, .iload_n 3] (pc' := 235) (lv' := [(8, .inl (((48 : Int32) * v1) + ((8 : Int32) * v_47))), (0, .inr (.inr (some a0))), (1, .inl v1), (2, .inl v2), (3, .inl v3), (4, .inl v4), (5, .inl v5), (6, .inl v6), (7, .inl v7)]) (st' := [.inl v3, .inl (((48 : Int32) * v1) + ((8 : Int32) * v_47)), .inr (.inr o_49)]) (by decide +kernel) rfl rfl ?_
    obtain ⟨M51, h52, h⟩ := bd h
    refine xs_i E h52 (show decode prog_14_method_66_code 235 = .ok (.iastore, 1) by decide +kernel) ?_
    refine xv_b E [.aload_n 0] (pc' := 237) (lv' := [(8, .inl (((48 : Int32) * v1) + ((8 : Int32) * v_47))), (0, .inr (.inr (some a0))), (1, .inl v1), (2, .inl v2), (3, .inl v3), (4, .inl v4), (5, .inl v5), (6, .inl v6), (7, .inl v7)]) (st' := [.inr (.inr (some a0))]) (by decide +kernel) rfl rfl ?_
    obtain ⟨o_53, h54, h⟩ := bd h
    refine xg_r E 12 44 h54 mw903 (show decode prog_14_method_66_code 237 = .ok (.getfield 125, 3) by decide +kernel) ?_
    refine xv_b E [.iload 8, .iconst 1, .iadd, .aload_n 0, .iload_n 2, .bipush 7, .iconst 2] (pc' := 249) (lv' := [(8, .inl (((48 : Int32) * v1) + ((8 : Int32) * v_47))), (0, .inr (.inr (some a0))), (1, .inl v1), (2, .inl v2), (3, .inl v3), (4, .inl v4), (5, .inl v5), (6, .inl v6), (7, .inl v7)]) (st' := [.inl (2 : Int32), .inl (7 : Int32), .inl v2, .inr (.inr (some a0)), .inl ((((48 : Int32) * v1) + ((8 : Int32) * v_47)) + (1 : Int32)), .inr (.inr o_53)]) (by decide +kernel) rfl rfl ?_
    obtain ⟨b_57, h58, h⟩ := bd h
    obtain ⟨eh58, th58⟩ := g_o_some h58
    obtain ⟨q_55, h56, h⟩ := bd h
    refine xv_cvo E eh58 12 (as := [.inl v2, .inl (7 : Int32), .inl (2 : Int32)]) (t166 G l (c_I_some h56)) cd166 mw947 mw948 mw949 (show decode prog_14_method_66_code 249 = .ok (.invokevirtual 198, 3) by decide +kernel) th58 rfl rfl (Nat.le_of_ble_eq_true rfl) ⟨Nat.le_of_ble_eq_true rfl, Nat.le_of_ble_eq_true rfl⟩ ?_
    obtain ⟨M59, h60, h⟩ := bd h
    refine xs_i E h60 (show decode prog_14_method_66_code 252 = .ok (.iastore, 1) by decide +kernel) ?_
    refine xv_b E [.aload_n 0] (pc' := 254) (lv' := [(8, .inl (((48 : Int32) * v1) + ((8 : Int32) * v_47))), (0, .inr (.inr (some a0))), (1, .inl v1), (2, .inl v2), (3, .inl v3), (4, .inl v4), (5, .inl v5), (6, .inl v6), (7, .inl v7)]) (st' := [.inr (.inr (some a0))]) (by decide +kernel) rfl rfl ?_
    obtain ⟨o_61, h62, h⟩ := bd h
    refine xg_r E 12 44 h62 mw903 (show decode prog_14_method_66_code 254 = .ok (.getfield 125, 3) by decide +kernel) ?_
    refine xv_b E [.iload 8, .iconst 2, .iadd, .aload_n 0] (pc' := 262) (lv' := [(8, .inl (((48 : Int32) * v1) + ((8 : Int32) * v_47))), (0, .inr (.inr (some a0))), (1, .inl v1), (2, .inl v2), (3, .inl v3), (4, .inl v4), (5, .inl v5), (6, .inl v6), (7, .inl v7)]) (st' := [.inr (.inr (some a0)), .inl ((((48 : Int32) * v1) + ((8 : Int32) * v_47)) + (2 : Int32)), .inr (.inr o_61)]) (by decide +kernel) rfl rfl ?_
    obtain ⟨o_63, h64, h⟩ := bd h
    refine xg_r E 12 43 h64 mw902 (show decode prog_14_method_66_code 262 = .ok (.getfield 122, 3) by decide +kernel) ?_
    refine xv_b E [.iload_n 1] (pc' := 266) (lv' := [(8, .inl (((48 : Int32) * v1) + ((8 : Int32) * v_47))), (0, .inr (.inr (some a0))), (1, .inl v1), (2, .inl v2), (3, .inl v3), (4, .inl v4), (5, .inl v5), (6, .inl v6), (7, .inl v7)]) (st' := [.inl v1, .inr (.inr o_63), .inl ((((48 : Int32) * v1) + ((8 : Int32) * v_47)) + (2 : Int32)), .inr (.inr o_61)]) (by decide +kernel) rfl rfl ?_
    obtain ⟨v_65, h66, h⟩ := bd h
    refine xa_i E h66 (show decode prog_14_method_66_code 266 = .ok (.iaload, 1) by decide +kernel) ?_
    obtain ⟨M67, h68, h⟩ := bd h
    refine xs_i E h68 (show decode prog_14_method_66_code 267 = .ok (.iastore, 1) by decide +kernel) ?_
    refine xv_b E [.aload_n 0] (pc' := 269) (lv' := [(8, .inl (((48 : Int32) * v1) + ((8 : Int32) * v_47))), (0, .inr (.inr (some a0))), (1, .inl v1), (2, .inl v2), (3, .inl v3), (4, .inl v4), (5, .inl v5), (6, .inl v6), (7, .inl v7)]) (st' := [.inr (.inr (some a0))]) (by decide +kernel) rfl rfl ?_
    obtain ⟨o_69, h70, h⟩ := bd h
    refine xg_r E 12 44 h70 mw903 (show decode prog_14_method_66_code 269 = .ok (.getfield 125, 3) by decide +kernel) ?_
    refine xv_b E [.iload 8, .iconst 3, .iadd, .iload 4] (pc' := 278) (lv' := [(8, .inl (((48 : Int32) * v1) + ((8 : Int32) * v_47))), (0, .inr (.inr (some a0))), (1, .inl v1), (2, .inl v2), (3, .inl v3), (4, .inl v4), (5, .inl v5), (6, .inl v6), (7, .inl v7)]) (st' := [.inl v4, .inl ((((48 : Int32) * v1) + ((8 : Int32) * v_47)) + (3 : Int32)), .inr (.inr o_69)]) (by decide +kernel) rfl rfl ?_
    obtain ⟨M71, h72, h⟩ := bd h
    refine xs_i E h72 (show decode prog_14_method_66_code 278 = .ok (.iastore, 1) by decide +kernel) ?_
    refine xv_b E [.aload_n 0] (pc' := 280) (lv' := [(8, .inl (((48 : Int32) * v1) + ((8 : Int32) * v_47))), (0, .inr (.inr (some a0))), (1, .inl v1), (2, .inl v2), (3, .inl v3), (4, .inl v4), (5, .inl v5), (6, .inl v6), (7, .inl v7)]) (st' := [.inr (.inr (some a0))]) (by decide +kernel) rfl rfl ?_
    obtain ⟨o_73, h74, h⟩ := bd h
    refine xg_r E 12 44 h74 mw903 (show decode prog_14_method_66_code 280 = .ok (.getfield 125, 3) by decide +kernel) ?_
    refine xv_b E [.iload 8, .iconst 4, .iadd, .iload 6] (pc' := 289) (lv' := [(8, .inl (((48 : Int32) * v1) + ((8 : Int32) * v_47))), (0, .inr (.inr (some a0))), (1, .inl v1), (2, .inl v2), (3, .inl v3), (4, .inl v4), (5, .inl v5), (6, .inl v6), (7, .inl v7)]) (st' := [.inl v6, .inl ((((48 : Int32) * v1) + ((8 : Int32) * v_47)) + (4 : Int32)), .inr (.inr o_73)]) (by decide +kernel) rfl rfl ?_
    obtain ⟨M75, h76, h⟩ := bd h
    refine xs_i E h76 (show decode prog_14_method_66_code 289 = .ok (.iastore, 1) by decide +kernel) ?_
    refine xv_b E [.aload_n 0] (pc' := 291) (lv' := [(8, .inl (((48 : Int32) * v1) + ((8 : Int32) * v_47))), (0, .inr (.inr (some a0))), (1, .inl v1), (2, .inl v2), (3, .inl v3), (4, .inl v4), (5, .inl v5), (6, .inl v6), (7, .inl v7)]) (st' := [.inr (.inr (some a0))]) (by decide +kernel) rfl rfl ?_
    obtain ⟨o_77, h78, h⟩ := bd h
    refine xg_r E 12 44 h78 mw903 (show decode prog_14_method_66_code 291 = .ok (.getfield 125, 3) by decide +kernel) ?_
    refine xv_b E [.iload 8, .iconst 5, .iadd, .iload 7] (pc' := 300) (lv' := [(8, .inl (((48 : Int32) * v1) + ((8 : Int32) * v_47))), (0, .inr (.inr (some a0))), (1, .inl v1), (2, .inl v2), (3, .inl v3), (4, .inl v4), (5, .inl v5), (6, .inl v6), (7, .inl v7)]) (st' := [.inl v7, .inl ((((48 : Int32) * v1) + ((8 : Int32) * v_47)) + (5 : Int32)), .inr (.inr o_77)]) (by decide +kernel) rfl rfl ?_
    obtain ⟨M79, h80, h⟩ := bd h
    refine xs_i E h80 (show decode prog_14_method_66_code 300 = .ok (.iastore, 1) by decide +kernel) ?_
    refine xv_b E [.aload_n 0] (pc' := 302) (lv' := [(8, .inl (((48 : Int32) * v1) + ((8 : Int32) * v_47))), (0, .inr (.inr (some a0))), (1, .inl v1), (2, .inl v2), (3, .inl v3), (4, .inl v4), (5, .inl v5), (6, .inl v6), (7, .inl v7)]) (st' := [.inr (.inr (some a0))]) (by decide +kernel) rfl rfl ?_
    obtain ⟨o_81, h82, h⟩ := bd h
    refine xg_r E 12 44 h82 mw903 (show decode prog_14_method_66_code 302 = .ok (.getfield 125, 3) by decide +kernel) ?_
    refine xv_b E [.iload 8, .bipush 6, .iadd, .iconst 0] (pc' := 311) (lv' := [(8, .inl (((48 : Int32) * v1) + ((8 : Int32) * v_47))), (0, .inr (.inr (some a0))), (1, .inl v1), (2, .inl v2), (3, .inl v3), (4, .inl v4), (5, .inl v5), (6, .inl v6), (7, .inl v7)]) (st' := [.inl (0 : Int32), .inl ((((48 : Int32) * v1) + ((8 : Int32) * v_47)) + (6 : Int32)), .inr (.inr o_81)]) (by decide +kernel) rfl rfl ?_
    obtain ⟨M83, h84, h⟩ := bd h
    refine xs_i E h84 (show decode prog_14_method_66_code 311 = .ok (.iastore, 1) by decide +kernel) ?_
    refine xv_b E [.aload_n 0] (pc' := 313) (lv' := [(8, .inl (((48 : Int32) * v1) + ((8 : Int32) * v_47))), (0, .inr (.inr (some a0))), (1, .inl v1), (2, .inl v2), (3, .inl v3), (4, .inl v4), (5, .inl v5), (6, .inl v6), (7, .inl v7)]) (st' := [.inr (.inr (some a0))]) (by decide +kernel) rfl rfl ?_
    obtain ⟨o_85, h86, h⟩ := bd h
    refine xg_r E 12 44 h86 mw903 (show decode prog_14_method_66_code 313 = .ok (.getfield 125, 3) by decide +kernel) ?_
    refine xv_b E [.iload 8, .bipush 7, .iadd, .aload_n 0] (pc' := 322) (lv' := [(8, .inl (((48 : Int32) * v1) + ((8 : Int32) * v_47))), (0, .inr (.inr (some a0))), (1, .inl v1), (2, .inl v2), (3, .inl v3), (4, .inl v4), (5, .inl v5), (6, .inl v6), (7, .inl v7)]) (st' := [.inr (.inr (some a0)), .inl ((((48 : Int32) * v1) + ((8 : Int32) * v_47)) + (7 : Int32)), .inr (.inr o_85)]) (by decide +kernel) rfl rfl ?_
    obtain ⟨v_87, h88, h⟩ := bd h
    refine xg_i E 12 3 h88 mw1047 (show decode prog_14_method_66_code 322 = .ok (.getfield 276, 3) by decide +kernel) ?_
    obtain ⟨M89, h90, h⟩ := bd h
    refine xs_i E h90 (show decode prog_14_method_66_code 325 = .ok (.iastore, 1) by decide +kernel) ?_
    refine xv_b E [.aload_n 0] (pc' := 327) (lv' := [(8, .inl (((48 : Int32) * v1) + ((8 : Int32) * v_47))), (0, .inr (.inr (some a0))), (1, .inl v1), (2, .inl v2), (3, .inl v3), (4, .inl v4), (5, .inl v5), (6, .inl v6), (7, .inl v7)]) (st' := [.inr (.inr (some a0))]) (by decide +kernel) rfl rfl ?_
    obtain ⟨o_91, h92, h⟩ := bd h
    refine xg_r E 12 46 h92 mw905 (show decode prog_14_method_66_code 327 = .ok (.getfield 131, 3) by decide +kernel) ?_
    refine xv_b E [.iload_n 1, .dup2] (pc' := 332) (lv' := [(8, .inl (((48 : Int32) * v1) + ((8 : Int32) * v_47))), (0, .inr (.inr (some a0))), (1, .inl v1), (2, .inl v2), (3, .inl v3), (4, .inl v4), (5, .inl v5), (6, .inl v6), (7, .inl v7)]) (st' := [.inl v1, .inr (.inr o_91), .inl v1, .inr (.inr o_91)]) (by decide +kernel) rfl rfl ?_
    obtain ⟨v_93, h94, h⟩ := bd h
    refine xa_i E h94 (show decode prog_14_method_66_code 332 = .ok (.iaload, 1) by decide +kernel) ?_
    refine xv_b E [.iconst 1, .iadd] (pc' := 335) (lv' := [(8, .inl (((48 : Int32) * v1) + ((8 : Int32) * v_47))), (0, .inr (.inr (some a0))), (1, .inl v1), (2, .inl v2), (3, .inl v3), (4, .inl v4), (5, .inl v5), (6, .inl v6), (7, .inl v7)]) (st' := [.inl (v_93 + (1 : Int32)), .inl v1, .inr (.inr o_91)]) (by decide +kernel) rfl rfl ?_
    obtain ⟨M95, h96, h⟩ := bd h
    refine xs_i E h96 (show decode prog_14_method_66_code 335 = .ok (.iastore, 1) by decide +kernel) ?_
    refine xv_b E [.aload_n 0, .iload_n 1, .iload_n 2, .bipush 10, .aload_n 0] (pc' := 342) (lv' := [(8, .inl (((48 : Int32) * v1) + ((8 : Int32) * v_47))), (0, .inr (.inr (some a0))), (1, .inl v1), (2, .inl v2), (3, .inl v3), (4, .inl v4), (5, .inl v5), (6, .inl v6), (7, .inl v7)]) (st' := [.inr (.inr (some a0)), .inl (10 : Int32), .inl v2, .inl v1, .inr (.inr (some a0))]) (by decide +kernel) rfl rfl ?_
    obtain ⟨o_97, h98, h⟩ := bd h
    refine xg_r E 12 43 h98 mw902 (show decode prog_14_method_66_code 342 = .ok (.getfield 122, 3) by decide +kernel) ?_
    refine xv_b E [.iload_n 1] (pc' := 346) (lv' := [(8, .inl (((48 : Int32) * v1) + ((8 : Int32) * v_47))), (0, .inr (.inr (some a0))), (1, .inl v1), (2, .inl v2), (3, .inl v3), (4, .inl v4), (5, .inl v5), (6, .inl v6), (7, .inl v7)]) (st' := [.inl v1, .inr (.inr o_97), .inl (10 : Int32), .inl v2, .inl v1, .inr (.inr (some a0))]) (by decide +kernel) rfl rfl ?_
    obtain ⟨v_99, h100, h⟩ := bd h
    refine xa_i E h100 (show decode prog_14_method_66_code 346 = .ok (.iaload, 1) by decide +kernel) ?_
    refine xv_b E [.iconst 0] (pc' := 348) (lv' := [(8, .inl (((48 : Int32) * v1) + ((8 : Int32) * v_47))), (0, .inr (.inr (some a0))), (1, .inl v1), (2, .inl v2), (3, .inl v3), (4, .inl v4), (5, .inl v5), (6, .inl v6), (7, .inl v7)]) (st' := [.inl (0 : Int32), .inl v_99, .inl (10 : Int32), .inl v2, .inl v1, .inr (.inr (some a0))]) (by decide +kernel) rfl rfl ?_
    obtain ⟨b_103, h104, h⟩ := bd h
    obtain ⟨eh104, th104⟩ := g_o_some h104
    obtain ⟨q_101, h102, h⟩ := bd h
    refine xv_cvo E eh104 12 (as := [.inl v1, .inl v2, .inl (10 : Int32), .inl v_99, .inl (0 : Int32)]) (t212 G l (c_I_some h102)) cd212 mw1082 mw1083 mw1084 (show decode prog_14_method_66_code 348 = .ok (.invokevirtual 394, 3) by decide +kernel) th104 rfl rfl (Nat.le_of_ble_eq_true rfl) ⟨Nat.le_of_ble_eq_true rfl, Nat.le_of_ble_eq_true rfl⟩ ?_
    refine xv_b E [.istore 9, .aload_n 0, .iload 9, .iload 7, .i2l, .iconst 1] (pc' := 360) (lv' := [(9, .inl q_101.1), (8, .inl (((48 : Int32) * v1) + ((8 : Int32) * v_47))), (0, .inr (.inr (some a0))), (1, .inl v1), (2, .inl v2), (3, .inl v3), (4, .inl v4), (5, .inl v5), (6, .inl v6), (7, .inl v7)]) (st' := [.inl (1 : Int32), .inr (.inl (Int32.toInt64 v7)), .inl q_101.1, .inr (.inr (some a0))]) (by decide +kernel) rfl rfl ?_
    obtain ⟨b_107, h108, h⟩ := bd h
    obtain ⟨eh108, th108⟩ := g_o_some h108
    obtain ⟨q_105, h106, h⟩ := bd h
    refine xv_cvo E eh108 12 (as := [.inl q_101.1, .inr (.inl (Int32.toInt64 v7)), .inl (1 : Int32)]) (t167 G l (c_V_some h106)) cd167 mw932 mw933 mw934 (show decode prog_14_method_66_code 360 = .ok (.invokevirtual 190, 3) by decide +kernel) th108 rfl rfl (Nat.le_of_ble_eq_true rfl) ⟨Nat.le_of_ble_eq_true rfl, Nat.le_of_ble_eq_true rfl⟩ ?_
    refine xv_b E [.aload_n 0, .aload_n 0, .iload_n 1] (pc' := 366) (lv' := [(9, .inl q_101.1), (8, .inl (((48 : Int32) * v1) + ((8 : Int32) * v_47))), (0, .inr (.inr (some a0))), (1, .inl v1), (2, .inl v2), (3, .inl v3), (4, .inl v4), (5, .inl v5), (6, .inl v6), (7, .inl v7)]) (st' := [.inl v1, .inr (.inr (some a0)), .inr (.inr (some a0))]) (by decide +kernel) rfl rfl ?_
    obtain ⟨b_111, h112, h⟩ := bd h
    obtain ⟨eh112, th112⟩ := g_o_some h112
    obtain ⟨q_109, h110, h⟩ := bd h
    refine xv_cvo E eh112 12 (as := [.inl v1]) (t176 G l (c_I_some h110)) cd176 mw1040 mw1041 mw1042 (show decode prog_14_method_66_code 366 = .ok (.invokevirtual 352, 3) by decide +kernel) th112 rfl rfl (Nat.le_of_ble_eq_true rfl) ⟨Nat.le_of_ble_eq_true rfl, Nat.le_of_ble_eq_true rfl⟩ ?_
    refine xv_b E [.iload 9] (pc' := 371) (lv' := [(9, .inl q_101.1), (8, .inl (((48 : Int32) * v1) + ((8 : Int32) * v_47))), (0, .inr (.inr (some a0))), (1, .inl v1), (2, .inl v2), (3, .inl v3), (4, .inl v4), (5, .inl v5), (6, .inl v6), (7, .inl v7)]) (st' := [.inl q_101.1, .inl q_109.1, .inr (.inr (some a0))]) (by decide +kernel) rfl rfl ?_
    obtain ⟨b_115, h116, h⟩ := bd h
    obtain ⟨eh116, th116⟩ := g_o_some h116
    obtain ⟨q_113, h114, h⟩ := bd h
    refine xv_cvo E eh116 12 (as := [.inl q_109.1, .inl q_101.1]) (t183 G l (c_V_some h114)) cd183 mw1043 mw1044 mw1045 (show decode prog_14_method_66_code 371 = .ok (.invokevirtual 301, 3) by decide +kernel) th116 rfl rfl (Nat.le_of_ble_eq_true rfl) ⟨Nat.le_of_ble_eq_true rfl, Nat.le_of_ble_eq_true rfl⟩ ?_
    exact xv_w (sb216_374 E B  q_113 h hN) rfl
theorem sb216_25 (E : xE G p (xRm 5 (h_sz M' - z0) (h_sl M' - y0)) s m args c prog_14_method_66_code "ZonedFabricModel" z0 y0 (h_sz M') (h_sl M') 10) (B : xB ym216 none meth) (a0 : Nat) (v1 : Int32) (v2 : Int32) (v3 : Int32) (v4 : Int32) (si0 : Int32) (M : hM) {res : xRes} (h : b216_25 a0 v1 v2 v3 v4 si0 M = some res) (hN : xN (pg216 p l e s m args below meth c G z0 y0 r M') r M' res) : xV G p l e (xRm 5 (h_sz M' - z0) (h_sl M' - y0)) s m args below meth c z0 y0 (h_sz M') (h_sl M') 10 (MQ below (xQc G r M') args s (h_sz M' - z0) (h_sl M' - y0) (xFr G)) 25 [(0, .inr (.inr (some a0))), (1, .inl v1), (2, .inl v2), (3, .inl v3), (4, .inl v4)] [.inl si0] M := by
  unfold b216_25 at h
  refine xv_b E [.istore 5, .aload_n 0, .iload_n 2, .bipush 15] (pc' := 31) (lv' := [(5, .inl si0), (0, .inr (.inr (some a0))), (1, .inl v1), (2, .inl v2), (3, .inl v3), (4, .inl v4)]) (st' := [.inl (15 : Int32), .inl v2, .inr (.inr (some a0))]) (by decide +kernel) rfl rfl ?_
  obtain ⟨b_12, h13, h⟩ := bd h
  obtain ⟨eh13, th13⟩ := g_o_some h13
  obtain ⟨q_10, h11, h⟩ := bd h
  refine xv_cvo E eh13 12 (as := [.inl v2, .inl (15 : Int32)]) (t165 G l (c_I_some h11)) cd165 mw927 mw928 mw929 (show decode prog_14_method_66_code 31 = .ok (.invokevirtual 186, 3) by decide +kernel) th13 rfl rfl (Nat.le_of_ble_eq_true rfl) ⟨Nat.le_of_ble_eq_true rfl, Nat.le_of_ble_eq_true rfl⟩ ?_
  refine xv_b E [.istore 6, .aload_n 0, .iload_n 2, .bipush 16] (pc' := 40) (lv' := [(6, .inl q_10.1), (5, .inl si0), (0, .inr (.inr (some a0))), (1, .inl v1), (2, .inl v2), (3, .inl v3), (4, .inl v4)]) (st' := [.inl (16 : Int32), .inl v2, .inr (.inr (some a0))]) (by decide +kernel) rfl rfl ?_
  obtain ⟨b_16, h17, h⟩ := bd h
  obtain ⟨eh17, th17⟩ := g_o_some h17
  obtain ⟨q_14, h15, h⟩ := bd h
  refine xv_cvo E eh17 12 (as := [.inl v2, .inl (16 : Int32)]) (t165 G l (c_I_some h15)) cd165 mw927 mw928 mw929 (show decode prog_14_method_66_code 40 = .ok (.invokevirtual 186, 3) by decide +kernel) th17 rfl rfl (Nat.le_of_ble_eq_true rfl) ⟨Nat.le_of_ble_eq_true rfl, Nat.le_of_ble_eq_true rfl⟩ ?_
  refine xv_b E [.istore 7, .aload_n 0, .iload_n 1, .iload_n 3] (pc' := 48) (lv' := [(7, .inl q_14.1), (6, .inl q_10.1), (5, .inl si0), (0, .inr (.inr (some a0))), (1, .inl v1), (2, .inl v2), (3, .inl v3), (4, .inl v4)]) (st' := [.inl v3, .inl v1, .inr (.inr (some a0))]) (by decide +kernel) rfl rfl ?_
  obtain ⟨b_20, h21, h⟩ := bd h
  obtain ⟨eh21, th21⟩ := g_o_some h21
  obtain ⟨q_18, h19, h⟩ := bd h
  refine xv_cvo E eh21 12 (as := [.inl v1, .inl v3]) (t215 G l (c_I_some h19)) cd215 mw1091 mw1092 mw1093 (show decode prog_14_method_66_code 48 = .ok (.invokevirtual 407, 3) by decide +kernel) th21 rfl rfl (Nat.le_of_ble_eq_true rfl) ⟨Nat.le_of_ble_eq_true rfl, Nat.le_of_ble_eq_true rfl⟩ ?_
  by_cases q32 : q_18.1 = 0
  · rw [if_pos q32] at h
    refine xv_if_eq E 98 (show decode prog_14_method_66_code 51 = .ok (.ifCond .eq (47), 3) by decide +kernel) rfl (fun _ => ?_) (fun z => absurd q32 z)
    exact xv_w (sb216_98 E B a0 v1 v2 q_18.2 h hN) rfl
  · rw [if_neg q32] at h
    refine xv_if_eq E 98 (show decode prog_14_method_66_code 51 = .ok (.ifCond .eq (47), 3) by decide +kernel) rfl (fun z => absurd z q32) (fun _ => ?_)
    refine xv_b E [.iload 4, .iconst 1] (pc' := 57) (lv' := [(7, .inl q_14.1), (6, .inl q_10.1), (5, .inl si0), (0, .inr (.inr (some a0))), (1, .inl v1), (2, .inl v2), (3, .inl v3), (4, .inl v4)]) (st' := [.inl (1 : Int32), .inl v4]) (by decide +kernel) rfl rfl ?_
    by_cases q31 : (1 : Int32) < v4
    · rw [if_pos q31] at h
      refine xv_icmp_gt E 98 (show decode prog_14_method_66_code 57 = .ok (.if_icmp .gt (41), 3) by decide +kernel) rfl (fun _ => ?_) (fun z => absurd q31 z)
      exact xv_w (sb216_98 E B a0 v1 v2 q_18.2 h hN) rfl
    · rw [if_neg q31] at h
      refine xv_icmp_gt E 98 (show decode prog_14_method_66_code 57 = .ok (.if_icmp .gt (41), 3) by decide +kernel) rfl (fun z => absurd z q31) (fun _ => ?_)
      refine xv_b E [.iload 7, .iconst 1] (pc' := 63) (lv' := [(7, .inl q_14.1), (6, .inl q_10.1), (5, .inl si0), (0, .inr (.inr (some a0))), (1, .inl v1), (2, .inl v2), (3, .inl v3), (4, .inl v4)]) (st' := [.inl (1 : Int32), .inl q_14.1]) (by decide +kernel) rfl rfl ?_
      by_cases q30 : q_14.1 < (1 : Int32)
      · rw [if_pos q30] at h
        refine xv_icmp_lt E 98 (show decode prog_14_method_66_code 63 = .ok (.if_icmp .lt (35), 3) by decide +kernel) rfl (fun _ => ?_) (fun z => absurd q30 z)
        exact xv_w (sb216_98 E B a0 v1 v2 q_18.2 h hN) rfl
      · rw [if_neg q30] at h
        refine xv_icmp_lt E 98 (show decode prog_14_method_66_code 63 = .ok (.if_icmp .lt (35), 3) by decide +kernel) rfl (fun z => absurd z q30) (fun _ => ?_)
        refine xv_b E [.iload 7, .iconst 4] (pc' := 69) (lv' := [(7, .inl q_14.1), (6, .inl q_10.1), (5, .inl si0), (0, .inr (.inr (some a0))), (1, .inl v1), (2, .inl v2), (3, .inl v3), (4, .inl v4)]) (st' := [.inl (4 : Int32), .inl q_14.1]) (by decide +kernel) rfl rfl ?_
        by_cases q29 : (4 : Int32) < q_14.1
        · rw [if_pos q29] at h
          refine xv_icmp_gt E 98 (show decode prog_14_method_66_code 69 = .ok (.if_icmp .gt (29), 3) by decide +kernel) rfl (fun _ => ?_) (fun z => absurd q29 z)
          exact xv_w (sb216_98 E B a0 v1 v2 q_18.2 h hN) rfl
        · rw [if_neg q29] at h
          refine xv_icmp_gt E 98 (show decode prog_14_method_66_code 69 = .ok (.if_icmp .gt (29), 3) by decide +kernel) rfl (fun z => absurd z q29) (fun _ => ?_)
          refine xv_b E [.iload 6, .iload 7, .iadd, .bipush 16] (pc' := 79) (lv' := [(7, .inl q_14.1), (6, .inl q_10.1), (5, .inl si0), (0, .inr (.inr (some a0))), (1, .inl v1), (2, .inl v2), (3, .inl v3), (4, .inl v4)]) (st' := [.inl (16 : Int32), .inl (q_10.1 + q_14.1)]) (by decide +kernel) rfl rfl ?_
          by_cases q28 : (16 : Int32) < (q_10.1 + q_14.1)
          · rw [if_pos q28] at h
            refine xv_icmp_gt E 98 (show decode prog_14_method_66_code 79 = .ok (.if_icmp .gt (19), 3) by decide +kernel) rfl (fun _ => ?_) (fun z => absurd q28 z)
            exact xv_w (sb216_98 E B a0 v1 v2 q_18.2 h hN) rfl
          · rw [if_neg q28] at h
            refine xv_icmp_gt E 98 (show decode prog_14_method_66_code 79 = .ok (.if_icmp .gt (19), 3) by decide +kernel) rfl (fun z => absurd z q28) (fun _ => ?_)
            refine xv_b E [.iload 5] (pc' := 84) (lv' := [(7, .inl q_14.1), (6, .inl q_10.1), (5, .inl si0), (0, .inr (.inr (some a0))), (1, .inl v1), (2, .inl v2), (3, .inl v3), (4, .inl v4)]) (st' := [.inl si0]) (by decide +kernel) rfl rfl ?_
            by_cases q27 : si0 = 0
            · rw [if_pos q27] at h
              refine xv_if_eq E 109 (show decode prog_14_method_66_code 84 = .ok (.ifCond .eq (25), 3) by decide +kernel) rfl (fun _ => ?_) (fun z => absurd q27 z)
              exact xv_w (sb216_109 E B a0 v1 v2 v3 v4 si0 q_10.1 q_14.1 q_18.2 h hN) rfl
            · rw [if_neg q27] at h
              refine xv_if_eq E 109 (show decode prog_14_method_66_code 84 = .ok (.ifCond .eq (25), 3) by decide +kernel) rfl (fun z => absurd z q27) (fun _ => ?_)
              refine xv_b E [.aload_n 0] (pc' := 88) (lv' := [(7, .inl q_14.1), (6, .inl q_10.1), (5, .inl si0), (0, .inr (.inr (some a0))), (1, .inl v1), (2, .inl v2), (3, .inl v3), (4, .inl v4)]) (st' := [.inr (.inr (some a0))]) (by decide +kernel) rfl rfl ?_
              obtain ⟨o_22, h23, h⟩ := bd h
              refine xg_r E 12 46 h23 mw905 (show decode prog_14_method_66_code 88 = .ok (.getfield 131, 3) by decide +kernel) ?_
              refine xv_b E [.iload_n 1] (pc' := 92) (lv' := [(7, .inl q_14.1), (6, .inl q_10.1), (5, .inl si0), (0, .inr (.inr (some a0))), (1, .inl v1), (2, .inl v2), (3, .inl v3), (4, .inl v4)]) (st' := [.inl v1, .inr (.inr o_22)]) (by decide +kernel) rfl rfl ?_
              obtain ⟨v_24, h25, h⟩ := bd h
              refine xa_i E h25 (show decode prog_14_method_66_code 92 = .ok (.iaload, 1) by decide +kernel) ?_
              refine xv_b E [.bipush 6] (pc' := 95) (lv' := [(7, .inl q_14.1), (6, .inl q_10.1), (5, .inl si0), (0, .inr (.inr (some a0))), (1, .inl v1), (2, .inl v2), (3, .inl v3), (4, .inl v4)]) (st' := [.inl (6 : Int32), .inl v_24]) (by decide +kernel) rfl rfl ?_
              by_cases q26 : v_24 = (6 : Int32)
              · rw [if_pos q26] at h
                refine xv_icmp_ne E 109 (show decode prog_14_method_66_code 95 = .ok (.if_icmp .ne (14), 3) by decide +kernel) rfl (fun z => absurd q26 z) (fun _ => ?_)
                exact xv_w (sb216_98 E B a0 v1 v2 q_18.2 h hN) rfl
              · rw [if_neg q26] at h
                refine xv_icmp_ne E 109 (show decode prog_14_method_66_code 95 = .ok (.if_icmp .ne (14), 3) by decide +kernel) rfl (fun _ => ?_) (fun z => absurd z q26)
                exact xv_w (sb216_109 E B a0 v1 v2 v3 v4 si0 q_10.1 q_14.1 q_18.2 h hN) rfl
theorem sb216_0 (E : xE G p (xRm 5 (h_sz M' - z0) (h_sl M' - y0)) s m args c prog_14_method_66_code "ZonedFabricModel" z0 y0 (h_sz M') (h_sl M') 10) (B : xB ym216 none meth) (a0 : Nat) (v1 : Int32) (v2 : Int32) (v3 : Int32) (M : hM) {res : xRes} (h : b216_0 a0 v1 v2 v3 M = some res) (hN : xN (pg216 p l e s m args below meth c G z0 y0 r M') r M' res) : xV G p l e (xRm 5 (h_sz M' - z0) (h_sl M' - y0)) s m args below meth c z0 y0 (h_sz M') (h_sl M') 10 (MQ below (xQc G r M') args s (h_sz M' - z0) (h_sl M' - y0) (xFr G)) 0 [(0, .inr (.inr (some a0))), (1, .inl v1), (2, .inl v2), (3, .inl v3)] [] M := by
  unfold b216_0 at h
  refine xv_b E [.aload_n 0, .iload_n 2, .bipush 13] (pc' := 4) (lv' := [(0, .inr (.inr (some a0))), (1, .inl v1), (2, .inl v2), (3, .inl v3)]) (st' := [.inl (13 : Int32), .inl v2, .inr (.inr (some a0))]) (by decide +kernel) rfl rfl ?_
  obtain ⟨b_3, h4, h⟩ := bd h
  obtain ⟨eh4, th4⟩ := g_o_some h4
  obtain ⟨q_1, h2, h⟩ := bd h
  refine xv_cvo E eh4 12 (as := [.inl v2, .inl (13 : Int32)]) (t165 G l (c_I_some h2)) cd165 mw927 mw928 mw929 (show decode prog_14_method_66_code 4 = .ok (.invokevirtual 186, 3) by decide +kernel) th4 rfl rfl (Nat.le_of_ble_eq_true rfl) ⟨Nat.le_of_ble_eq_true rfl, Nat.le_of_ble_eq_true rfl⟩ ?_
  refine xv_b E [.istore 4, .aload_n 0, .iload_n 2, .bipush 14] (pc' := 13) (lv' := [(4, .inl q_1.1), (0, .inr (.inr (some a0))), (1, .inl v1), (2, .inl v2), (3, .inl v3)]) (st' := [.inl (14 : Int32), .inl v2, .inr (.inr (some a0))]) (by decide +kernel) rfl rfl ?_
  obtain ⟨b_7, h8, h⟩ := bd h
  obtain ⟨eh8, th8⟩ := g_o_some h8
  obtain ⟨q_5, h6, h⟩ := bd h
  refine xv_cvo E eh8 12 (as := [.inl v2, .inl (14 : Int32)]) (t165 G l (c_I_some h6)) cd165 mw927 mw928 mw929 (show decode prog_14_method_66_code 13 = .ok (.invokevirtual 186, 3) by decide +kernel) th8 rfl rfl (Nat.le_of_ble_eq_true rfl) ⟨Nat.le_of_ble_eq_true rfl, Nat.le_of_ble_eq_true rfl⟩ ?_
  refine xv_b E [.iconst 1] (pc' := 17) (lv' := [(4, .inl q_1.1), (0, .inr (.inr (some a0))), (1, .inl v1), (2, .inl v2), (3, .inl v3)]) (st' := [.inl (1 : Int32), .inl q_5.1]) (by decide +kernel) rfl rfl ?_
  by_cases q9 : q_5.1 = (1 : Int32)
  · rw [if_pos q9] at h
    refine xv_icmp_ne E 24 (show decode prog_14_method_66_code 17 = .ok (.if_icmp .ne (7), 3) by decide +kernel) rfl (fun z => absurd q9 z) (fun _ => ?_)
    refine xv_b E [.iconst 1] (pc' := 21) (lv' := [(4, .inl q_1.1), (0, .inr (.inr (some a0))), (1, .inl v1), (2, .inl v2), (3, .inl v3)]) (st' := [.inl (1 : Int32)]) (by decide +kernel) rfl rfl ?_
    refine xv_goto E 25 (show decode prog_14_method_66_code 21 = .ok (.goto (4), 3) by decide +kernel) rfl ?_
    exact xv_w (sb216_25 E B a0 v1 v2 v3 q_1.1 (1 : Int32) q_5.2 h hN) rfl
  · rw [if_neg q9] at h
    refine xv_icmp_ne E 24 (show decode prog_14_method_66_code 17 = .ok (.if_icmp .ne (7), 3) by decide +kernel) rfl (fun _ => ?_) (fun z => absurd z q9)
    refine xv_b E [.iconst 0] (pc' := 25) (lv' := [(4, .inl q_1.1), (0, .inr (.inr (some a0))), (1, .inl v1), (2, .inl v2), (3, .inl v3)]) (st' := [.inl (0 : Int32)]) (by decide +kernel) rfl rfl ?_
    exact xv_w (sb216_25 E B a0 v1 v2 v3 q_1.1 (0 : Int32) q_5.2 h hN) rfl
theorem sb216_117 (E : xE G p (xRm 5 (h_sz M' - z0) (h_sl M' - y0)) s m args c prog_14_method_66_code "ZonedFabricModel" z0 y0 (h_sz M') (h_sl M') 10) (B : xB ym216 none meth) (a0 : Nat) (v1 : Int32) (v2 : Int32) (v4 : Int32) (v6 : Int32) (v7 : Int32) (v8 : Int32) (M : hM) {res : xRes} (h : b216_117 a0 v1 v2 v4 v6 v7 v8 M = some res) (hN : xN (pg216 p l e s m args below meth c G z0 y0 r M') r M' res) : xV G p l e (xRm 5 (h_sz M' - z0) (h_sl M' - y0)) s m args below meth c z0 y0 (h_sz M') (h_sl M') 10 (MQ below (xQc G r M') args s (h_sz M' - z0) (h_sl M' - y0) (xFr G)) 117 [(0, .inr (.inr (some a0))), (1, .inl v1), (2, .inl v2), (4, .inl v4), (6, .inl v6), (7, .inl v7), (8, .inl v8)] [] M := by
  unfold b216_117 at h
  refine xv_b E [.iload 8, .iload 7] (pc' := 121) (lv' := [(0, .inr (.inr (some a0))), (1, .inl v1), (2, .inl v2), (4, .inl v4), (6, .inl v6), (7, .inl v7), (8, .inl v8)]) (st' := [.inl v7, .inl v8]) (by decide +kernel) rfl rfl ?_
  by_cases q142 : v7 ≤ v8
  · rw [if_pos q142] at h
    refine xv_icmp_ge E 183 (show decode prog_14_method_66_code 121 = .ok (.if_icmp .ge (62), 3) by decide +kernel) rfl (fun _ => ?_) (fun z => absurd q142 z)
    refine xv_b E [.aload_n 0, .iload_n 1, .iload_n 2, .iconst 0, .iconst 0] (pc' := 188) (lv' := [(0, .inr (.inr (some a0))), (1, .inl v1), (2, .inl v2), (4, .inl v4), (6, .inl v6), (7, .inl v7), (8, .inl v8)]) (st' := [.inl (0 : Int32), .inl (0 : Int32), .inl v2, .inl v1, .inr (.inr (some a0))]) (by decide +kernel) rfl rfl ?_
    obtain ⟨b_120, h121, h⟩ := bd h
    obtain ⟨eh121, th121⟩ := g_o_some h121
    obtain ⟨q_118, h119, h⟩ := bd h
    refine xv_cvo E eh121 12 (as := [.inl v1, .inl v2, .inl (0 : Int32), .inl (0 : Int32)]) (t213 G l (c_V_some h119)) cd213 mw1086 mw1087 mw1088 (show decode prog_14_method_66_code 188 = .ok (.invokevirtual 410, 3) by decide +kernel) th121 rfl rfl (Nat.le_of_ble_eq_true rfl) ⟨Nat.le_of_ble_eq_true rfl, Nat.le_of_ble_eq_true rfl⟩ ?_
    refine xv_goto E 374 (show decode prog_14_method_66_code 191 = .ok (.goto (183), 3) by decide +kernel) rfl ?_
    exact xv_w (sb216_374 E B  q_118 h hN) rfl
  · rw [if_neg q142] at h
    refine xv_icmp_ge E 183 (show decode prog_14_method_66_code 121 = .ok (.if_icmp .ge (62), 3) by decide +kernel) rfl (fun z => absurd z q142) (fun _ => ?_)
    refine xv_b E [.aload_n 0, .iload_n 1, .iload_n 2, .bipush 11, .iconst 0, .iload 8] (pc' := 132) (lv' := [(0, .inr (.inr (some a0))), (1, .inl v1), (2, .inl v2), (4, .inl v4), (6, .inl v6), (7, .inl v7), (8, .inl v8)]) (st' := [.inl v8, .inl (0 : Int32), .inl (11 : Int32), .inl v2, .inl v1, .inr (.inr (some a0))]) (by decide +kernel) rfl rfl ?_
    obtain ⟨b_124, h125, h⟩ := bd h
    obtain ⟨eh125, th125⟩ := g_o_some h125
    obtain ⟨q_122, h123, h⟩ := bd h
    refine xv_cvo E eh125 12 (as := [.inl v1, .inl v2, .inl (11 : Int32), .inl (0 : Int32), .inl v8]) (t212 G l (c_I_some h123)) cd212 mw1082 mw1083 mw1084 (show decode prog_14_method_66_code 132 = .ok (.invokevirtual 394, 3) by decide +kernel) th125 rfl rfl (Nat.le_of_ble_eq_true rfl) ⟨Nat.le_of_ble_eq_true rfl, Nat.le_of_ble_eq_true rfl⟩ ?_
    refine xv_b E [.istore 9, .aload_n 0, .iload 9, .aload_n 0] (pc' := 141) (lv' := [(9, .inl q_122.1), (0, .inr (.inr (some a0))), (1, .inl v1), (2, .inl v2), (4, .inl v4), (6, .inl v6), (7, .inl v7), (8, .inl v8)]) (st' := [.inr (.inr (some a0)), .inl q_122.1, .inr (.inr (some a0))]) (by decide +kernel) rfl rfl ?_
    obtain ⟨o_126, h127, h⟩ := bd h
    refine xg_r E 12 42 h127 mw901 (show decode prog_14_method_66_code 141 = .ok (.getfield 118, 3) by decide +kernel) ?_
    refine xv_b E [.bipush 32, .iload_n 1, .imul, .bipush 16, .iload 4, .imul, .iadd, .iload 6, .iadd, .iload 8, .iadd] (pc' := 160) (lv' := [(9, .inl q_122.1), (0, .inr (.inr (some a0))), (1, .inl v1), (2, .inl v2), (4, .inl v4), (6, .inl v6), (7, .inl v7), (8, .inl v8)]) (st' := [.inl (((((32 : Int32) * v1) + ((16 : Int32) * v4)) + v6) + v8), .inr (.inr o_126), .inl q_122.1, .inr (.inr (some a0))]) (by decide +kernel) rfl rfl ?_
    obtain ⟨w_128, h129, h⟩ := bd h
    refine xa_l E h129 (show decode prog_14_method_66_code 160 = .ok (.laload, 1) by decide +kernel) ?_
    refine xv_b E [.bipush 8] (pc' := 163) (lv' := [(9, .inl q_122.1), (0, .inr (.inr (some a0))), (1, .inl v1), (2, .inl v2), (4, .inl v4), (6, .inl v6), (7, .inl v7), (8, .inl v8)]) (st' := [.inl (8 : Int32), .inr (.inl w_128), .inl q_122.1, .inr (.inr (some a0))]) (by decide +kernel) rfl rfl ?_
    obtain ⟨b_132, h133, h⟩ := bd h
    obtain ⟨eh133, th133⟩ := g_o_some h133
    obtain ⟨q_130, h131, h⟩ := bd h
    refine xv_cvo E eh133 12 (as := [.inl q_122.1, .inr (.inl w_128), .inl (8 : Int32)]) (t167 G l (c_V_some h131)) cd167 mw932 mw933 mw934 (show decode prog_14_method_66_code 163 = .ok (.invokevirtual 190, 3) by decide +kernel) th133 rfl rfl (Nat.le_of_ble_eq_true rfl) ⟨Nat.le_of_ble_eq_true rfl, Nat.le_of_ble_eq_true rfl⟩ ?_
    refine xv_b E [.aload_n 0, .aload_n 0, .iload_n 1] (pc' := 169) (lv' := [(9, .inl q_122.1), (0, .inr (.inr (some a0))), (1, .inl v1), (2, .inl v2), (4, .inl v4), (6, .inl v6), (7, .inl v7), (8, .inl v8)]) (st' := [.inl v1, .inr (.inr (some a0)), .inr (.inr (some a0))]) (by decide +kernel) rfl rfl ?_
    obtain ⟨b_136, h137, h⟩ := bd h
    obtain ⟨eh137, th137⟩ := g_o_some h137
    obtain ⟨q_134, h135, h⟩ := bd h
    refine xv_cvo E eh137 12 (as := [.inl v1]) (t176 G l (c_I_some h135)) cd176 mw1040 mw1041 mw1042 (show decode prog_14_method_66_code 169 = .ok (.invokevirtual 352, 3) by decide +kernel) th137 rfl rfl (Nat.le_of_ble_eq_true rfl) ⟨Nat.le_of_ble_eq_true rfl, Nat.le_of_ble_eq_true rfl⟩ ?_
    refine xv_b E [.iload 9] (pc' := 174) (lv' := [(9, .inl q_122.1), (0, .inr (.inr (some a0))), (1, .inl v1), (2, .inl v2), (4, .inl v4), (6, .inl v6), (7, .inl v7), (8, .inl v8)]) (st' := [.inl q_122.1, .inl q_134.1, .inr (.inr (some a0))]) (by decide +kernel) rfl rfl ?_
    obtain ⟨b_140, h141, h⟩ := bd h
    obtain ⟨eh141, th141⟩ := g_o_some h141
    obtain ⟨q_138, h139, h⟩ := bd h
    refine xv_cvo E eh141 12 (as := [.inl q_134.1, .inl q_122.1]) (t183 G l (c_V_some h139)) cd183 mw1043 mw1044 mw1045 (show decode prog_14_method_66_code 174 = .ok (.invokevirtual 301, 3) by decide +kernel) th141 rfl rfl (Nat.le_of_ble_eq_true rfl) ⟨Nat.le_of_ble_eq_true rfl, Nat.le_of_ble_eq_true rfl⟩ ?_
    refine xv_b E [.iinc 8 1] (pc' := 180) (lv' := [(8, .inl (v8 + (1 : Int32))), (9, .inl q_122.1), (0, .inr (.inr (some a0))), (1, .inl v1), (2, .inl v2), (4, .inl v4), (6, .inl v6), (7, .inl v7)]) (st' := []) (by decide +kernel) rfl rfl ?_
    refine xv_goto E 117 (show decode prog_14_method_66_code 180 = .ok (.goto (-63), 3) by decide +kernel) rfl ?_
    obtain rfl := Option.some.inj h
    exact xv_w hN rfl
end
theorem t216 (G : gX) (l : Launch) {as : List aV} {M : hM} {r : Option aV} {M' : hM} (h : f216 as M = some (r, M')) : xM G l ym216 prog_14_method_66_code 10 none 5 as M r M' := by
  unfold f216 at h
  split at h
  · have hle : ∀ h as M res, k216 h as M = some res → h_sz M ≤ r_sz res ∧ h_sl M ≤ r_sl res := by
      intro h as M res hb
      unfold k216 at hb
      by_cases e0 : h = 117
      · rw [if_pos e0] at hb
        split at hb
        · exact lb216_117 G l _ _ _ _ _ _ _ M hb
        · cases hb
      · rw [if_neg e0] at hb
        cases hb
    obtain ⟨res, hx, hres⟩ := x_go_ok h
    refine xM_of (by decide) (Nat.le_of_ble_eq_true rfl) ?_ ?_
    · have e1 := lb216_0 G l _ _ _ _ M hx
      have e2 := x_go_le hle hres
      omega
    · intro p e s m args below meth c E B
      refine sb216_0 E B _ _ _ _ M hx (hres _ ?_)
      intro h as M res hb hN
      unfold k216 at hb
      unfold pg216
      by_cases e0 : h = 117
      · rw [if_pos e0] at hb ⊢
        split at hb
        · exact sb216_117 E B _ _ _ _ _ _ _ M hb hN
        · cases hb
      · rw [if_neg e0] at hb ⊢
        cases hb
  · cases h
/-! ZFModel.logs(II)V -/
def ym217 : MethodName := ⟨"ZonedFabricModel", "logs", "(II)V"⟩
theorem cd217 : xCd ym217 prog_14_method_65_code 4 none 2 := ⟨mw1095, mw864, by decide, by decide, by decide +kernel⟩
def b217_67 (a0 : Nat) (v1 : Int32) (v2 : Int32) (M : hM) : Option xRes :=
  Option.bind (g_r M 12 40 (some a0)) fun o_24 =>
  Option.bind (g_r M 12 41 (some a0)) fun o_26 =>
  Option.bind (al_i M 20 o_26 v1) fun v_28 =>
  Option.bind (as_i M 20 o_24 (((8 : Int32) * v1) + v_28) v2) fun M30 =>
  Option.bind (g_r M30 12 41 (some a0)) fun o_32 =>
  Option.bind (al_i M30 20 o_32 v1) fun v_34 =>
  Option.bind (as_i M30 20 o_32 v1 (v_34 + (1 : Int32))) fun M36 =>
  some (.inl (none, M36))
def b217_0 (a0 : Nat) (v1 : Int32) (v2 : Int32) (M : hM) : Option xRes :=
  Option.bind (g_o M 12 (some a0)) fun b_3 =>
  Option.bind (c_I (f215 [.inr (.inr (some b_3)), .inl v1, .inl v2] M)) fun q_1 =>
  if q_1.1 = 0 then
    (Option.bind (g_r q_1.2 12 41 (some a0)) fun o_5 =>
    Option.bind (al_i q_1.2 20 o_5 v1) fun v_7 =>
    if v_7 = (8 : Int32) then
      (some (.inr (23, [.inr (.inr (some a0)), .inl v1, .inl v2, .inl (0 : Int32)], q_1.2)))
    else
      (b217_67 a0 v1 v2 q_1.2))
  else
    (some (.inl (none, q_1.2)))
def b217_23 (a0 : Nat) (v1 : Int32) (v2 : Int32) (v3 : Int32) (M : hM) : Option xRes :=
  if (7 : Int32) ≤ v3 then
    (Option.bind (g_r M 12 41 (some a0)) fun o_11 =>
    Option.bind (as_i M 20 o_11 v1 (7 : Int32)) fun M13 =>
    b217_67 a0 v1 v2 M13)
  else
    (Option.bind (g_r M 12 40 (some a0)) fun o_15 =>
    Option.bind (g_r M 12 40 (some a0)) fun o_17 =>
    Option.bind (al_i M 20 o_17 ((((8 : Int32) * v1) + v3) + (1 : Int32))) fun v_19 =>
    Option.bind (as_i M 20 o_15 (((8 : Int32) * v1) + v3) v_19) fun M21 =>
    some (.inr (23, [.inr (.inr (some a0)), .inl v1, .inl v2, .inl (v3 + (1 : Int32))], M21)))
def k217 (h : Nat) (as : List aV) (M : hM) : Option xRes :=
  if h = 23 then (match as with | [.inr (.inr (some a0)), .inl v1, .inl v2, .inl v3] => b217_23 a0 v1 v2 v3 M | _ => none) else
  none
def f217 (as : List aV) (M : hM) : xO := match as with
  | [.inr (.inr (some a0)), .inl v1, .inl v2] => x_go k217 (b217_0 a0 v1 v2 M)
  | _ => none
theorem lb217_67 (G : gX) (l : Launch) (a0 : Nat) (v1 : Int32) (v2 : Int32) (M : hM) {res : xRes} (h : b217_67 a0 v1 v2 M = some res) : h_sz M ≤ r_sz res ∧ h_sl M ≤ r_sl res := by
  unfold b217_67 at h
  obtain ⟨o_24, h25, h⟩ := bd h
  obtain ⟨o_26, h27, h⟩ := bd h
  obtain ⟨v_28, h29, h⟩ := bd h
  obtain ⟨M30, h31, h⟩ := bd h
  have eh31 := as_i_sz h31
  obtain ⟨o_32, h33, h⟩ := bd h
  obtain ⟨v_34, h35, h⟩ := bd h
  obtain ⟨M36, h37, h⟩ := bd h
  have eh37 := as_i_sz h37
  obtain rfl := Option.some.inj h
  show h_sz M ≤ h_sz M36 ∧ h_sl M ≤ h_sl M36
  omega
theorem lb217_0 (G : gX) (l : Launch) (a0 : Nat) (v1 : Int32) (v2 : Int32) (M : hM) {res : xRes} (h : b217_0 a0 v1 v2 M = some res) : h_sz M ≤ r_sz res ∧ h_sl M ≤ r_sl res := by
  unfold b217_0 at h
  obtain ⟨b_3, h4, h⟩ := bd h
  obtain ⟨q_1, h2, h⟩ := bd h
  have eh2 := (t215 G l (c_I_some h2)).1
  by_cases q10 : q_1.1 = 0
  · rw [if_pos q10] at h
    obtain ⟨o_5, h6, h⟩ := bd h
    obtain ⟨v_7, h8, h⟩ := bd h
    by_cases q9 : v_7 = (8 : Int32)
    · rw [if_pos q9] at h
      obtain rfl := Option.some.inj h
      show h_sz M ≤ h_sz q_1.2 ∧ h_sl M ≤ h_sl q_1.2
      omega
    · rw [if_neg q9] at h
      have e := lb217_67 G l a0 v1 v2 q_1.2 h
      omega
  · rw [if_neg q10] at h
    obtain rfl := Option.some.inj h
    show h_sz M ≤ h_sz q_1.2 ∧ h_sl M ≤ h_sl q_1.2
    omega
theorem lb217_23 (G : gX) (l : Launch) (a0 : Nat) (v1 : Int32) (v2 : Int32) (v3 : Int32) (M : hM) {res : xRes} (h : b217_23 a0 v1 v2 v3 M = some res) : h_sz M ≤ r_sz res ∧ h_sl M ≤ r_sl res := by
  unfold b217_23 at h
  by_cases q23 : (7 : Int32) ≤ v3
  · rw [if_pos q23] at h
    obtain ⟨o_11, h12, h⟩ := bd h
    obtain ⟨M13, h14, h⟩ := bd h
    have eh14 := as_i_sz h14
    have e := lb217_67 G l a0 v1 v2 M13 h
    omega
  · rw [if_neg q23] at h
    obtain ⟨o_15, h16, h⟩ := bd h
    obtain ⟨o_17, h18, h⟩ := bd h
    obtain ⟨v_19, h20, h⟩ := bd h
    obtain ⟨M21, h22, h⟩ := bd h
    have eh22 := as_i_sz h22
    obtain rfl := Option.some.inj h
    show h_sz M ≤ h_sz M21 ∧ h_sl M ≤ h_sl M21
    omega
section
variable {p : Program} {l : Launch} {e : Env} {s : State} {m : MethodId} {args : Array Value} {below : List Frame} {meth : Method} {c : Code} {G : gX} {z0 y0 : Nat} {r : Option aV} {M' : hM}
def pg217 (p : Program) (l : Launch) (e : Env) (s : State) (m : MethodId) (args : Array Value) (below : List Frame) (meth : Method) (c : Code) (G : gX) (z0 y0 : Nat) (r : Option aV) (M' : hM) (h : Nat) (as : List aV) (M : hM) : Prop :=
  if h = 23 then (match as with | [.inr (.inr (some a0)), .inl v1, .inl v2, .inl v3] => xV G p l e (xRm 1 (h_sz M' - z0) (h_sl M' - y0)) s m args below meth c z0 y0 (h_sz M') (h_sl M') 4 (MQ below (xQc G r M') args s (h_sz M' - z0) (h_sl M' - y0) (xFr G)) 23 [(0, .inr (.inr (some a0))), (1, .inl v1), (2, .inl v2), (3, .inl v3)] [] M | _ => False) else
  False
theorem sb217_67 (E : xE G p (xRm 1 (h_sz M' - z0) (h_sl M' - y0)) s m args c prog_14_method_65_code "ZonedFabricModel" z0 y0 (h_sz M') (h_sl M') 4) (B : xB ym217 none meth) (a0 : Nat) (v1 : Int32) (v2 : Int32) (M : hM) {res : xRes} (h : b217_67 a0 v1 v2 M = some res) (hN : xN (pg217 p l e s m args below meth c G z0 y0 r M') r M' res) : xV G p l e (xRm 1 (h_sz M' - z0) (h_sl M' - y0)) s m args below meth c z0 y0 (h_sz M') (h_sl M') 4 (MQ below (xQc G r M') args s (h_sz M' - z0) (h_sl M' - y0) (xFr G)) 67 [(0, .inr (.inr (some a0))), (1, .inl v1), (2, .inl v2)] [] M := by
  unfold b217_67 at h
  refine xv_b E [.aload_n 0] (pc' := 68) (lv' := [(0, .inr (.inr (some a0))), (1, .inl v1), (2, .inl v2)]) (st' := [.inr (.inr (some a0))]) (by decide +kernel) rfl rfl ?_
  obtain ⟨o_24, h25, h⟩ := bd h
  refine xg_r E 12 40 h25 mw899 (show decode prog_14_method_65_code 68 = .ok (.getfield 112, 3) by decide +kernel) ?_
  refine xv_b E [.bipush 8, .iload_n 1, .imul, .aload_n 0] (pc' := 76) (lv' := [(0, .inr (.inr (some a0))), (1, .inl v1), (2, .inl v2)]) (st' := [.inr (.inr (some a0)), .inl ((8 : Int32) * v1), .inr (.inr o_24)]) (by decide +kernel) rfl rfl ?_
  obtain ⟨o_26, h27, h⟩ := bd h
  refine xg_r E 12 41 h27 mw900 (show decode prog_14_method_65_code 76 = .ok (.getfield 115, 3) by decide +kernel) ?_
  refine xv_b E [.iload_n 1] (pc' := 80) (lv' := [(0, .inr (.inr (some a0))), (1, .inl v1), (2, .inl v2)]) (st' := [.inl v1, .inr (.inr o_26), .inl ((8 : Int32) * v1), .inr (.inr o_24)]) (by decide +kernel) rfl rfl ?_
  obtain ⟨v_28, h29, h⟩ := bd h
  refine xa_i E h29 (show decode prog_14_method_65_code 80 = .ok (.iaload, 1) by decide +kernel) ?_
  refine xv_b E [.iadd, .iload_n 2] (pc' := 83) (lv' := [(0, .inr (.inr (some a0))), (1, .inl v1), (2, .inl v2)]) (st' := [.inl v2, .inl (((8 : Int32) * v1) + v_28), .inr (.inr o_24)]) (by decide +kernel) rfl rfl ?_
  obtain ⟨M30, h31, h⟩ := bd h
  refine xs_i E h31 (show decode prog_14_method_65_code 83 = .ok (.iastore, 1) by decide +kernel) ?_
  refine xv_b E [.aload_n 0] (pc' := 85) (lv' := [(0, .inr (.inr (some a0))), (1, .inl v1), (2, .inl v2)]) (st' := [.inr (.inr (some a0))]) (by decide +kernel) rfl rfl ?_
  obtain ⟨o_32, h33, h⟩ := bd h
  refine xg_r E 12 41 h33 mw900 (show decode prog_14_method_65_code 85 = .ok (.getfield 115, 3) by decide +kernel) ?_
  refine xv_b E [.iload_n 1, .dup2] (pc' := 90) (lv' := [(0, .inr (.inr (some a0))), (1, .inl v1), (2, .inl v2)]) (st' := [.inl v1, .inr (.inr o_32), .inl v1, .inr (.inr o_32)]) (by decide +kernel) rfl rfl ?_
  obtain ⟨v_34, h35, h⟩ := bd h
  refine xa_i E h35 (show decode prog_14_method_65_code 90 = .ok (.iaload, 1) by decide +kernel) ?_
  refine xv_b E [.iconst 1, .iadd] (pc' := 93) (lv' := [(0, .inr (.inr (some a0))), (1, .inl v1), (2, .inl v2)]) (st' := [.inl (v_34 + (1 : Int32)), .inl v1, .inr (.inr o_32)]) (by decide +kernel) rfl rfl ?_
  obtain ⟨M36, h37, h⟩ := bd h
  refine xs_i E h37 (show decode prog_14_method_65_code 93 = .ok (.iastore, 1) by decide +kernel) ?_
  obtain rfl := Option.some.inj h
  obtain ⟨rfl, rfl⟩ := Prod.mk.inj (show ((none : Option aV), M36) = (r, M') from hN)
  exact xv_rv E B.1 B.2.1 (show decode prog_14_method_65_code 94 = .ok (.return_, 1) by decide +kernel) rfl rfl
theorem sb217_0 (E : xE G p (xRm 1 (h_sz M' - z0) (h_sl M' - y0)) s m args c prog_14_method_65_code "ZonedFabricModel" z0 y0 (h_sz M') (h_sl M') 4) (B : xB ym217 none meth) (a0 : Nat) (v1 : Int32) (v2 : Int32) (M : hM) {res : xRes} (h : b217_0 a0 v1 v2 M = some res) (hN : xN (pg217 p l e s m args below meth c G z0 y0 r M') r M' res) : xV G p l e (xRm 1 (h_sz M' - z0) (h_sl M' - y0)) s m args below meth c z0 y0 (h_sz M') (h_sl M') 4 (MQ below (xQc G r M') args s (h_sz M' - z0) (h_sl M' - y0) (xFr G)) 0 [(0, .inr (.inr (some a0))), (1, .inl v1), (2, .inl v2)] [] M := by
  unfold b217_0 at h
  refine xv_b E [.aload_n 0, .iload_n 1, .iload_n 2] (pc' := 3) (lv' := [(0, .inr (.inr (some a0))), (1, .inl v1), (2, .inl v2)]) (st' := [.inl v2, .inl v1, .inr (.inr (some a0))]) (by decide +kernel) rfl rfl ?_
  obtain ⟨b_3, h4, h⟩ := bd h
  obtain ⟨eh4, th4⟩ := g_o_some h4
  obtain ⟨q_1, h2, h⟩ := bd h
  refine xv_cvo E eh4 12 (as := [.inl v1, .inl v2]) (t215 G l (c_I_some h2)) cd215 mw1091 mw1092 mw1093 (show decode prog_14_method_65_code 3 = .ok (.invokevirtual 407, 3) by decide +kernel) th4 rfl rfl (Nat.le_of_ble_eq_true rfl) ⟨Nat.le_of_ble_eq_true rfl, Nat.le_of_ble_eq_true rfl⟩ ?_
  by_cases q10 : q_1.1 = 0
  · rw [if_pos q10] at h
    refine xv_if_eq E 10 (show decode prog_14_method_65_code 6 = .ok (.ifCond .eq (4), 3) by decide +kernel) rfl (fun _ => ?_) (fun z => absurd q10 z)
    refine xv_b E [.aload_n 0] (pc' := 11) (lv' := [(0, .inr (.inr (some a0))), (1, .inl v1), (2, .inl v2)]) (st' := [.inr (.inr (some a0))]) (by decide +kernel) rfl rfl ?_
    obtain ⟨o_5, h6, h⟩ := bd h
    refine xg_r E 12 41 h6 mw900 (show decode prog_14_method_65_code 11 = .ok (.getfield 115, 3) by decide +kernel) ?_
    refine xv_b E [.iload_n 1] (pc' := 15) (lv' := [(0, .inr (.inr (some a0))), (1, .inl v1), (2, .inl v2)]) (st' := [.inl v1, .inr (.inr o_5)]) (by decide +kernel) rfl rfl ?_
    obtain ⟨v_7, h8, h⟩ := bd h
    refine xa_i E h8 (show decode prog_14_method_65_code 15 = .ok (.iaload, 1) by decide +kernel) ?_
    refine xv_b E [.bipush 8] (pc' := 18) (lv' := [(0, .inr (.inr (some a0))), (1, .inl v1), (2, .inl v2)]) (st' := [.inl (8 : Int32), .inl v_7]) (by decide +kernel) rfl rfl ?_
    by_cases q9 : v_7 = (8 : Int32)
    · rw [if_pos q9] at h
      refine xv_icmp_ne E 67 (show decode prog_14_method_65_code 18 = .ok (.if_icmp .ne (49), 3) by decide +kernel) rfl (fun z => absurd q9 z) (fun _ => ?_)
      refine xv_b E [.iconst 0, .istore_n 3] (pc' := 23) (lv' := [(3, .inl (0 : Int32)), (0, .inr (.inr (some a0))), (1, .inl v1), (2, .inl v2)]) (st' := []) (by decide +kernel) rfl rfl ?_
      obtain rfl := Option.some.inj h
      exact xv_w hN rfl
    · rw [if_neg q9] at h
      refine xv_icmp_ne E 67 (show decode prog_14_method_65_code 18 = .ok (.if_icmp .ne (49), 3) by decide +kernel) rfl (fun _ => ?_) (fun z => absurd z q9)
      exact xv_w (sb217_67 E B a0 v1 v2 q_1.2 h hN) rfl
  · rw [if_neg q10] at h
    refine xv_if_eq E 10 (show decode prog_14_method_65_code 6 = .ok (.ifCond .eq (4), 3) by decide +kernel) rfl (fun z => absurd z q10) (fun _ => ?_)
    obtain rfl := Option.some.inj h
    obtain ⟨rfl, rfl⟩ := Prod.mk.inj (show ((none : Option aV), q_1.2) = (r, M') from hN)
    exact xv_rv E B.1 B.2.1 (show decode prog_14_method_65_code 9 = .ok (.return_, 1) by decide +kernel) rfl rfl
theorem sb217_23 (E : xE G p (xRm 1 (h_sz M' - z0) (h_sl M' - y0)) s m args c prog_14_method_65_code "ZonedFabricModel" z0 y0 (h_sz M') (h_sl M') 4) (B : xB ym217 none meth) (a0 : Nat) (v1 : Int32) (v2 : Int32) (v3 : Int32) (M : hM) {res : xRes} (h : b217_23 a0 v1 v2 v3 M = some res) (hN : xN (pg217 p l e s m args below meth c G z0 y0 r M') r M' res) : xV G p l e (xRm 1 (h_sz M' - z0) (h_sl M' - y0)) s m args below meth c z0 y0 (h_sz M') (h_sl M') 4 (MQ below (xQc G r M') args s (h_sz M' - z0) (h_sl M' - y0) (xFr G)) 23 [(0, .inr (.inr (some a0))), (1, .inl v1), (2, .inl v2), (3, .inl v3)] [] M := by
  unfold b217_23 at h
  refine xv_b E [.iload_n 3, .bipush 7] (pc' := 26) (lv' := [(0, .inr (.inr (some a0))), (1, .inl v1), (2, .inl v2), (3, .inl v3)]) (st' := [.inl (7 : Int32), .inl v3]) (by decide +kernel) rfl rfl ?_
  by_cases q23 : (7 : Int32) ≤ v3
  · rw [if_pos q23] at h
    refine xv_icmp_ge E 59 (show decode prog_14_method_65_code 26 = .ok (.if_icmp .ge (33), 3) by decide +kernel) rfl (fun _ => ?_) (fun z => absurd q23 z)
    refine xv_b E [.aload_n 0] (pc' := 60) (lv' := [(0, .inr (.inr (some a0))), (1, .inl v1), (2, .inl v2), (3, .inl v3)]) (st' := [.inr (.inr (some a0))]) (by decide +kernel) rfl rfl ?_
    obtain ⟨o_11, h12, h⟩ := bd h
    refine xg_r E 12 41 h12 mw900 (show decode prog_14_method_65_code 60 = .ok (.getfield 115, 3) by decide +kernel) ?_
    refine xv_b E [.iload_n 1, .bipush 7] (pc' := 66) (lv' := [(0, .inr (.inr (some a0))), (1, .inl v1), (2, .inl v2), (3, .inl v3)]) (st' := [.inl (7 : Int32), .inl v1, .inr (.inr o_11)]) (by decide +kernel) rfl rfl ?_
    obtain ⟨M13, h14, h⟩ := bd h
    refine xs_i E h14 (show decode prog_14_method_65_code 66 = .ok (.iastore, 1) by decide +kernel) ?_
    exact xv_w (sb217_67 E B a0 v1 v2 M13 h hN) rfl
  · rw [if_neg q23] at h
    refine xv_icmp_ge E 59 (show decode prog_14_method_65_code 26 = .ok (.if_icmp .ge (33), 3) by decide +kernel) rfl (fun z => absurd z q23) (fun _ => ?_)
    refine xv_b E [.aload_n 0] (pc' := 30) (lv' := [(0, .inr (.inr (some a0))), (1, .inl v1), (2, .inl v2), (3, .inl v3)]) (st' := [.inr (.inr (some a0))]) (by decide +kernel) rfl rfl ?_
    obtain ⟨o_15, h16, h⟩ := bd h
    refine xg_r E 12 40 h16 mw899 (show decode prog_14_method_65_code 30 = .ok (.getfield 112, 3) by decide +kernel) ?_
    refine xv_b E [.bipush 8, .iload_n 1, .imul, .iload_n 3, .iadd, .aload_n 0] (pc' := 40) (lv' := [(0, .inr (.inr (some a0))), (1, .inl v1), (2, .inl v2), (3, .inl v3)]) (st' := [.inr (.inr (some a0)), .inl (((8 : Int32) * v1) + v3), .inr (.inr o_15)]) (by decide +kernel) rfl rfl ?_
    obtain ⟨o_17, h18, h⟩ := bd h
    refine xg_r E 12 40 h18 mw899 (show decode prog_14_method_65_code 40 = .ok (.getfield 112, 3) by decide +kernel) ?_
    refine xv_b E [.bipush 8, .iload_n 1, .imul, .iload_n 3, .iadd, .iconst 1, .iadd] (pc' := 51) (lv' := [(0, .inr (.inr (some a0))), (1, .inl v1), (2, .inl v2), (3, .inl v3)]) (st' := [.inl ((((8 : Int32) * v1) + v3) + (1 : Int32)), .inr (.inr o_17), .inl (((8 : Int32) * v1) + v3), .inr (.inr o_15)]) (by decide +kernel) rfl rfl ?_
    obtain ⟨v_19, h20, h⟩ := bd h
    refine xa_i E h20 (show decode prog_14_method_65_code 51 = .ok (.iaload, 1) by decide +kernel) ?_
    obtain ⟨M21, h22, h⟩ := bd h
    refine xs_i E h22 (show decode prog_14_method_65_code 52 = .ok (.iastore, 1) by decide +kernel) ?_
    refine xv_b E [.iinc 3 1] (pc' := 56) (lv' := [(3, .inl (v3 + (1 : Int32))), (0, .inr (.inr (some a0))), (1, .inl v1), (2, .inl v2)]) (st' := []) (by decide +kernel) rfl rfl ?_
    refine xv_goto E 23 (show decode prog_14_method_65_code 56 = .ok (.goto (-33), 3) by decide +kernel) rfl ?_
    obtain rfl := Option.some.inj h
    exact xv_w hN rfl
end
theorem t217 (G : gX) (l : Launch) {as : List aV} {M : hM} {r : Option aV} {M' : hM} (h : f217 as M = some (r, M')) : xM G l ym217 prog_14_method_65_code 4 none 1 as M r M' := by
  unfold f217 at h
  split at h
  · have hle : ∀ h as M res, k217 h as M = some res → h_sz M ≤ r_sz res ∧ h_sl M ≤ r_sl res := by
      intro h as M res hb
      unfold k217 at hb
      by_cases e0 : h = 23
      · rw [if_pos e0] at hb
        split at hb
        · exact lb217_23 G l _ _ _ _ M hb
        · cases hb
      · rw [if_neg e0] at hb
        cases hb
    obtain ⟨res, hx, hres⟩ := x_go_ok h
    refine xM_of (by decide) (Nat.le_of_ble_eq_true rfl) ?_ ?_
    · have e1 := lb217_0 G l _ _ _ M hx
      have e2 := x_go_le hle hres
      omega
    · intro p e s m args below meth c E B
      refine sb217_0 E B _ _ _ M hx (hres _ ?_)
      intro h as M res hb hN
      unfold k217 at hb
      unfold pg217
      by_cases e0 : h = 23
      · rw [if_pos e0] at hb ⊢
        split at hb
        · exact sb217_23 E B _ _ _ _ M hb hN
        · cases hb
      · rw [if_neg e0] at hb ⊢
        cases hb
  · cases h
/-! ZFModel.discGets(II)V -/
def ym218 : MethodName := ⟨"ZonedFabricModel", "discGets", "(II)V"⟩
theorem cd218 : xCd ym218 prog_14_method_63_code 5 none 2 := ⟨mw1096, mw864, by decide, by decide, by decide +kernel⟩
def b218_203  (M : hM) : Option xRes :=
  some (.inl (none, M))
def b218_0 (a0 : Nat) (v1 : Int32) (v2 : Int32) (M : hM) : Option xRes :=
  Option.bind (g_o M 12 (some a0)) fun b_3 =>
  Option.bind (c_I (f166 [.inr (.inr (some b_3)), .inl v2, .inl (4 : Int32), .inl (3 : Int32)] M)) fun q_1 =>
  Option.bind (g_o q_1.2 12 (some a0)) fun b_7 =>
  Option.bind (c_I (f165 [.inr (.inr (some b_7)), .inl v2, .inl (0 : Int32)] q_1.2)) fun q_5 =>
  if q_5.1 = 7 then
    (Option.bind (g_o q_5.2 12 (some a0)) fun b_12 =>
    Option.bind (c_V (f217 [.inr (.inr (some b_12)), .inl v1, .inl q_1.1] q_5.2)) fun q_10 =>
    Option.bind (g_o q_10 12 (some a0)) fun b_16 =>
    Option.bind (c_I (f176 [.inr (.inr (some b_16)), .inl v1] q_10)) fun q_14 =>
    Option.bind (g_o q_14.2 12 (some a0)) fun b_20 =>
    Option.bind (c_I (f212 [.inr (.inr (some b_20)), .inl v1, .inl v2, .inl (8 : Int32), .inl (0 : Int32), .inl (0 : Int32)] q_14.2)) fun q_18 =>
    Option.bind (g_o q_18.2 12 (some a0)) fun b_24 =>
    Option.bind (c_V (f183 [.inr (.inr (some b_24)), .inl q_14.1, .inl q_18.1] q_18.2)) fun q_22 =>
    b218_203  q_22)
  else
    (if q_5.1 = 8 then
      (b218_203  q_5.2)
    else
      (if q_5.1 = 9 then
        (Option.bind (g_o q_5.2 12 (some a0)) fun b_30 =>
        Option.bind (c_V (f216 [.inr (.inr (some b_30)), .inl v1, .inl v2, .inl q_1.1] q_5.2)) fun q_28 =>
        b218_203  q_28)
      else
        (if q_5.1 = 10 then
          (b218_203  q_5.2)
        else
          (if q_5.1 = 11 then
            (Option.bind (g_o q_5.2 12 (some a0)) fun b_36 =>
            Option.bind (c_V (f214 [.inr (.inr (some b_36)), .inl v1, .inl v2, .inl q_1.1] q_5.2)) fun q_34 =>
            b218_203  q_34)
          else
            (if q_5.1 = 12 then
              (b218_203  q_5.2)
            else
              (if q_5.1 = 13 then
                (some (.inr (107, [.inr (.inr (some a0)), .inl v1, .inl v2, .inl q_1.1, .inl (0 : Int32)], q_5.2)))
              else
                (b218_203  q_5.2)))))))
def b218_175 (a0 : Nat) (v1 : Int32) (v2 : Int32) (v3 : Int32) (v4 : Int32) (M : hM) : Option xRes :=
  some (.inr (107, [.inr (.inr (some a0)), .inl v1, .inl v2, .inl v3, .inl (v4 + (1 : Int32))], M))
def b218_107 (a0 : Nat) (v1 : Int32) (v2 : Int32) (v3 : Int32) (v4 : Int32) (M : hM) : Option xRes :=
  Option.bind (g_r M 12 46 (some a0)) fun o_40 =>
  Option.bind (al_i M 20 o_40 v1) fun v_42 =>
  if v_42 ≤ v4 then
    (Option.bind (g_o M 12 (some a0)) fun b_46 =>
    Option.bind (c_I (f176 [.inr (.inr (some b_46)), .inl v1] M)) fun q_44 =>
    Option.bind (g_o q_44.2 12 (some a0)) fun b_50 =>
    Option.bind (c_I (f212 [.inr (.inr (some b_50)), .inl v1, .inl v2, .inl (14 : Int32), .inl (0 : Int32), .inl (0 : Int32)] q_44.2)) fun q_48 =>
    Option.bind (g_o q_48.2 12 (some a0)) fun b_54 =>
    Option.bind (c_V (f183 [.inr (.inr (some b_54)), .inl q_44.1, .inl q_48.1] q_48.2)) fun q_52 =>
    b218_203  q_52)
  else
    (Option.bind (g_r M 12 44 (some a0)) fun o_56 =>
    Option.bind (al_i M 20 o_56 (((48 : Int32) * v1) + ((8 : Int32) * v4))) fun v_58 =>
    if v_58 = v3 then
      (Option.bind (g_r M 12 44 (some a0)) fun o_60 =>
      Option.bind (al_i M 20 o_60 ((((48 : Int32) * v1) + ((8 : Int32) * v4)) + (1 : Int32))) fun v_62 =>
      Option.bind (g_o M 12 (some a0)) fun b_66 =>
      Option.bind (c_I (f166 [.inr (.inr (some b_66)), .inl v2, .inl (7 : Int32), .inl (2 : Int32)] M)) fun q_64 =>
      if v_62 = q_64.1 then
        (Option.bind (g_o q_64.2 12 (some a0)) fun b_70 =>
        Option.bind (c_V (f203 [.inr (.inr (some b_70)), .inl v1, .inl v4] q_64.2)) fun q_68 =>
        some (.inr (107, [.inr (.inr (some a0)), .inl v1, .inl v2, .inl v3, .inl v4], q_68)))
      else
        (b218_175 a0 v1 v2 v3 v4 q_64.2))
    else
      (b218_175 a0 v1 v2 v3 v4 M))
def k218 (h : Nat) (as : List aV) (M : hM) : Option xRes :=
  if h = 107 then (match as with | [.inr (.inr (some a0)), .inl v1, .inl v2, .inl v3, .inl v4] => b218_107 a0 v1 v2 v3 v4 M | _ => none) else
  none
def f218 (as : List aV) (M : hM) : xO := match as with
  | [.inr (.inr (some a0)), .inl v1, .inl v2] => x_go k218 (b218_0 a0 v1 v2 M)
  | _ => none
theorem lb218_203 (G : gX) (l : Launch)  (M : hM) {res : xRes} (h : b218_203  M = some res) : h_sz M ≤ r_sz res ∧ h_sl M ≤ r_sl res := by
  unfold b218_203 at h
  obtain rfl := Option.some.inj h
  show h_sz M ≤ h_sz M ∧ h_sl M ≤ h_sl M
  omega
theorem lb218_0 (G : gX) (l : Launch) (a0 : Nat) (v1 : Int32) (v2 : Int32) (M : hM) {res : xRes} (h : b218_0 a0 v1 v2 M = some res) : h_sz M ≤ r_sz res ∧ h_sl M ≤ r_sl res := by
  unfold b218_0 at h
  obtain ⟨b_3, h4, h⟩ := bd h
  obtain ⟨q_1, h2, h⟩ := bd h
  have eh2 := (t166 G l (c_I_some h2)).1
  obtain ⟨b_7, h8, h⟩ := bd h
  obtain ⟨q_5, h6, h⟩ := bd h
  have eh6 := (t165 G l (c_I_some h6)).1
  by_cases q9 : q_5.1 = 7
  · rw [if_pos q9] at h
    obtain ⟨b_12, h13, h⟩ := bd h
    obtain ⟨q_10, h11, h⟩ := bd h
    have eh11 := (t217 G l (c_V_some h11)).1
    obtain ⟨b_16, h17, h⟩ := bd h
    obtain ⟨q_14, h15, h⟩ := bd h
    have eh15 := (t176 G l (c_I_some h15)).1
    obtain ⟨b_20, h21, h⟩ := bd h
    obtain ⟨q_18, h19, h⟩ := bd h
    have eh19 := (t212 G l (c_I_some h19)).1
    obtain ⟨b_24, h25, h⟩ := bd h
    obtain ⟨q_22, h23, h⟩ := bd h
    have eh23 := (t183 G l (c_V_some h23)).1
    have e := lb218_203 G l  q_22 h
    omega
  · rw [if_neg q9] at h
    by_cases q26 : q_5.1 = 8
    · rw [if_pos q26] at h
      have e := lb218_203 G l  q_5.2 h
      omega
    · rw [if_neg q26] at h
      by_cases q27 : q_5.1 = 9
      · rw [if_pos q27] at h
        obtain ⟨b_30, h31, h⟩ := bd h
        obtain ⟨q_28, h29, h⟩ := bd h
        have eh29 := (t216 G l (c_V_some h29)).1
        have e := lb218_203 G l  q_28 h
        omega
      · rw [if_neg q27] at h
        by_cases q32 : q_5.1 = 10
        · rw [if_pos q32] at h
          have e := lb218_203 G l  q_5.2 h
          omega
        · rw [if_neg q32] at h
          by_cases q33 : q_5.1 = 11
          · rw [if_pos q33] at h
            obtain ⟨b_36, h37, h⟩ := bd h
            obtain ⟨q_34, h35, h⟩ := bd h
            have eh35 := (t214 G l (c_V_some h35)).1
            have e := lb218_203 G l  q_34 h
            omega
          · rw [if_neg q33] at h
            by_cases q38 : q_5.1 = 12
            · rw [if_pos q38] at h
              have e := lb218_203 G l  q_5.2 h
              omega
            · rw [if_neg q38] at h
              by_cases q39 : q_5.1 = 13
              · rw [if_pos q39] at h
                obtain rfl := Option.some.inj h
                show h_sz M ≤ h_sz q_5.2 ∧ h_sl M ≤ h_sl q_5.2
                omega
              · rw [if_neg q39] at h
                have e := lb218_203 G l  q_5.2 h
                omega
theorem lb218_175 (G : gX) (l : Launch) (a0 : Nat) (v1 : Int32) (v2 : Int32) (v3 : Int32) (v4 : Int32) (M : hM) {res : xRes} (h : b218_175 a0 v1 v2 v3 v4 M = some res) : h_sz M ≤ r_sz res ∧ h_sl M ≤ r_sl res := by
  unfold b218_175 at h
  obtain rfl := Option.some.inj h
  show h_sz M ≤ h_sz M ∧ h_sl M ≤ h_sl M
  omega
theorem lb218_107 (G : gX) (l : Launch) (a0 : Nat) (v1 : Int32) (v2 : Int32) (v3 : Int32) (v4 : Int32) (M : hM) {res : xRes} (h : b218_107 a0 v1 v2 v3 v4 M = some res) : h_sz M ≤ r_sz res ∧ h_sl M ≤ r_sl res := by
  unfold b218_107 at h
  obtain ⟨o_40, h41, h⟩ := bd h
  obtain ⟨v_42, h43, h⟩ := bd h
  by_cases q74 : v_42 ≤ v4
  · rw [if_pos q74] at h
    obtain ⟨b_46, h47, h⟩ := bd h
    obtain ⟨q_44, h45, h⟩ := bd h
    have eh45 := (t176 G l (c_I_some h45)).1
    obtain ⟨b_50, h51, h⟩ := bd h
    obtain ⟨q_48, h49, h⟩ := bd h
    have eh49 := (t212 G l (c_I_some h49)).1
    obtain ⟨b_54, h55, h⟩ := bd h
    obtain ⟨q_52, h53, h⟩ := bd h
    have eh53 := (t183 G l (c_V_some h53)).1
    have e := lb218_203 G l  q_52 h
    omega
  · rw [if_neg q74] at h
    obtain ⟨o_56, h57, h⟩ := bd h
    obtain ⟨v_58, h59, h⟩ := bd h
    by_cases q73 : v_58 = v3
    · rw [if_pos q73] at h
      obtain ⟨o_60, h61, h⟩ := bd h
      obtain ⟨v_62, h63, h⟩ := bd h
      obtain ⟨b_66, h67, h⟩ := bd h
      obtain ⟨q_64, h65, h⟩ := bd h
      have eh65 := (t166 G l (c_I_some h65)).1
      by_cases q72 : v_62 = q_64.1
      · rw [if_pos q72] at h
        obtain ⟨b_70, h71, h⟩ := bd h
        obtain ⟨q_68, h69, h⟩ := bd h
        have eh69 := (t203 G l (c_V_some h69)).1
        obtain rfl := Option.some.inj h
        show h_sz M ≤ h_sz q_68 ∧ h_sl M ≤ h_sl q_68
        omega
      · rw [if_neg q72] at h
        have e := lb218_175 G l a0 v1 v2 v3 v4 q_64.2 h
        omega
    · rw [if_neg q73] at h
      have e := lb218_175 G l a0 v1 v2 v3 v4 M h
      omega
section
variable {p : Program} {l : Launch} {e : Env} {s : State} {m : MethodId} {args : Array Value} {below : List Frame} {meth : Method} {c : Code} {G : gX} {z0 y0 : Nat} {r : Option aV} {M' : hM}
def pg218 (p : Program) (l : Launch) (e : Env) (s : State) (m : MethodId) (args : Array Value) (below : List Frame) (meth : Method) (c : Code) (G : gX) (z0 y0 : Nat) (r : Option aV) (M' : hM) (h : Nat) (as : List aV) (M : hM) : Prop :=
  if h = 107 then (match as with | [.inr (.inr (some a0)), .inl v1, .inl v2, .inl v3, .inl v4] => xV G p l e (xRm 6 (h_sz M' - z0) (h_sl M' - y0)) s m args below meth c z0 y0 (h_sz M') (h_sl M') 5 (MQ below (xQc G r M') args s (h_sz M' - z0) (h_sl M' - y0) (xFr G)) 107 [(0, .inr (.inr (some a0))), (1, .inl v1), (2, .inl v2), (3, .inl v3), (4, .inl v4)] [] M | _ => False) else
  False
theorem sb218_203 (E : xE G p (xRm 6 (h_sz M' - z0) (h_sl M' - y0)) s m args c prog_14_method_63_code "ZonedFabricModel" z0 y0 (h_sz M') (h_sl M') 5) (B : xB ym218 none meth)  (M : hM) {res : xRes} (h : b218_203  M = some res) (hN : xN (pg218 p l e s m args below meth c G z0 y0 r M') r M' res) : xV G p l e (xRm 6 (h_sz M' - z0) (h_sl M' - y0)) s m args below meth c z0 y0 (h_sz M') (h_sl M') 5 (MQ below (xQc G r M') args s (h_sz M' - z0) (h_sl M' - y0) (xFr G)) 203 [] [] M := by
  unfold b218_203 at h
  obtain rfl := Option.some.inj h
  obtain ⟨rfl, rfl⟩ := Prod.mk.inj (show ((none : Option aV), M) = (r, M') from hN)
  exact xv_rv E B.1 B.2.1 (show decode prog_14_method_63_code 203 = .ok (.return_, 1) by decide +kernel) rfl rfl
theorem sb218_0 (E : xE G p (xRm 6 (h_sz M' - z0) (h_sl M' - y0)) s m args c prog_14_method_63_code "ZonedFabricModel" z0 y0 (h_sz M') (h_sl M') 5) (B : xB ym218 none meth) (a0 : Nat) (v1 : Int32) (v2 : Int32) (M : hM) {res : xRes} (h : b218_0 a0 v1 v2 M = some res) (hN : xN (pg218 p l e s m args below meth c G z0 y0 r M') r M' res) : xV G p l e (xRm 6 (h_sz M' - z0) (h_sl M' - y0)) s m args below meth c z0 y0 (h_sz M') (h_sl M') 5 (MQ below (xQc G r M') args s (h_sz M' - z0) (h_sl M' - y0) (xFr G)) 0 [(0, .inr (.inr (some a0))), (1, .inl v1), (2, .inl v2)] [] M := by
  unfold b218_0 at h
  refine xv_b E [.aload_n 0, .iload_n 2, .iconst 4, .iconst 3] (pc' := 4) (lv' := [(0, .inr (.inr (some a0))), (1, .inl v1), (2, .inl v2)]) (st' := [.inl (3 : Int32), .inl (4 : Int32), .inl v2, .inr (.inr (some a0))]) (by decide +kernel) rfl rfl ?_
  obtain ⟨b_3, h4, h⟩ := bd h
  obtain ⟨eh4, th4⟩ := g_o_some h4
  obtain ⟨q_1, h2, h⟩ := bd h
  refine xv_cvo E eh4 12 (as := [.inl v2, .inl (4 : Int32), .inl (3 : Int32)]) (t166 G l (c_I_some h2)) cd166 mw947 mw948 mw949 (show decode prog_14_method_63_code 4 = .ok (.invokevirtual 198, 3) by decide +kernel) th4 rfl rfl (Nat.le_of_ble_eq_true rfl) ⟨Nat.le_of_ble_eq_true rfl, Nat.le_of_ble_eq_true rfl⟩ ?_
  refine xv_b E [.istore_n 3, .aload_n 0, .iload_n 2, .iconst 0] (pc' := 11) (lv' := [(3, .inl q_1.1), (0, .inr (.inr (some a0))), (1, .inl v1), (2, .inl v2)]) (st' := [.inl (0 : Int32), .inl v2, .inr (.inr (some a0))]) (by decide +kernel) rfl rfl ?_
  obtain ⟨b_7, h8, h⟩ := bd h
  obtain ⟨eh8, th8⟩ := g_o_some h8
  obtain ⟨q_5, h6, h⟩ := bd h
  refine xv_cvo E eh8 12 (as := [.inl v2, .inl (0 : Int32)]) (t165 G l (c_I_some h6)) cd165 mw927 mw928 mw929 (show decode prog_14_method_63_code 11 = .ok (.invokevirtual 186, 3) by decide +kernel) th8 rfl rfl (Nat.le_of_ble_eq_true rfl) ⟨Nat.le_of_ble_eq_true rfl, Nat.le_of_ble_eq_true rfl⟩ ?_
  by_cases q9 : q_5.1 = 7
  · rw [if_pos q9] at h
    refine xv_tabIn E (off := 42) 56 (show decode prog_14_method_63_code 14 = .ok (.tableswitch (189) 7 13 #[42, 189, 70, 189, 80, 189, 90], 42) by decide +kernel) (by rw [q9]; decide) (by rw [q9]; decide) (by rw [q9]; rfl) rfl ?_
    refine xv_b E [.aload_n 0, .iload_n 1, .iload_n 3] (pc' := 59) (lv' := [(3, .inl q_1.1), (0, .inr (.inr (some a0))), (1, .inl v1), (2, .inl v2)]) (st' := [.inl q_1.1, .inl v1, .inr (.inr (some a0))]) (by decide +kernel) rfl rfl ?_
    obtain ⟨b_12, h13, h⟩ := bd h
    obtain ⟨eh13, th13⟩ := g_o_some h13
    obtain ⟨q_10, h11, h⟩ := bd h
    refine xv_cvo E eh13 12 (as := [.inl v1, .inl q_1.1]) (t217 G l (c_V_some h11)) cd217 mw1097 mw1098 mw1099 (show decode prog_14_method_63_code 59 = .ok (.invokevirtual 398, 3) by decide +kernel) th13 rfl rfl (Nat.le_of_ble_eq_true rfl) ⟨Nat.le_of_ble_eq_true rfl, Nat.le_of_ble_eq_true rfl⟩ ?_
    refine xv_b E [.aload_n 0, .aload_n 0, .iload_n 1] (pc' := 65) (lv' := [(3, .inl q_1.1), (0, .inr (.inr (some a0))), (1, .inl v1), (2, .inl v2)]) (st' := [.inl v1, .inr (.inr (some a0)), .inr (.inr (some a0))]) (by decide +kernel) rfl rfl ?_
    obtain ⟨b_16, h17, h⟩ := bd h
    obtain ⟨eh17, th17⟩ := g_o_some h17
    obtain ⟨q_14, h15, h⟩ := bd h
    refine xv_cvo E eh17 12 (as := [.inl v1]) (t176 G l (c_I_some h15)) cd176 mw1040 mw1041 mw1042 (show decode prog_14_method_63_code 65 = .ok (.invokevirtual 352, 3) by decide +kernel) th17 rfl rfl (Nat.le_of_ble_eq_true rfl) ⟨Nat.le_of_ble_eq_true rfl, Nat.le_of_ble_eq_true rfl⟩ ?_
    refine xv_b E [.aload_n 0, .iload_n 1, .iload_n 2, .bipush 8, .iconst 0, .iconst 0] (pc' := 75) (lv' := [(3, .inl q_1.1), (0, .inr (.inr (some a0))), (1, .inl v1), (2, .inl v2)]) (st' := [.inl (0 : Int32), .inl (0 : Int32), .inl (8 : Int32), .inl v2, .inl v1, .inr (.inr (some a0)), .inl q_14.1, .inr (.inr (some a0))]) (by decide +kernel) rfl rfl ?_
    obtain ⟨b_20, h21, h⟩ := bd h
    obtain ⟨eh21, th21⟩ := g_o_some h21
    obtain ⟨q_18, h19, h⟩ := bd h
    refine xv_cvo E eh21 12 (as := [.inl v1, .inl v2, .inl (8 : Int32), .inl (0 : Int32), .inl (0 : Int32)]) (t212 G l (c_I_some h19)) cd212 mw1082 mw1083 mw1084 (show decode prog_14_method_63_code 75 = .ok (.invokevirtual 394, 3) by decide +kernel) th21 rfl rfl (Nat.le_of_ble_eq_true rfl) ⟨Nat.le_of_ble_eq_true rfl, Nat.le_of_ble_eq_true rfl⟩ ?_
    obtain ⟨b_24, h25, h⟩ := bd h
    obtain ⟨eh25, th25⟩ := g_o_some h25
    obtain ⟨q_22, h23, h⟩ := bd h
    refine xv_cvo E eh25 12 (as := [.inl q_14.1, .inl q_18.1]) (t183 G l (c_V_some h23)) cd183 mw1043 mw1044 mw1045 (show decode prog_14_method_63_code 78 = .ok (.invokevirtual 301, 3) by decide +kernel) th25 rfl rfl (Nat.le_of_ble_eq_true rfl) ⟨Nat.le_of_ble_eq_true rfl, Nat.le_of_ble_eq_true rfl⟩ ?_
    refine xv_goto E 203 (show decode prog_14_method_63_code 81 = .ok (.goto (122), 3) by decide +kernel) rfl ?_
    exact xv_w (sb218_203 E B  q_22 h hN) rfl
  · rw [if_neg q9] at h
    by_cases q26 : q_5.1 = 8
    · rw [if_pos q26] at h
      refine xv_tabIn E (off := 189) 203 (show decode prog_14_method_63_code 14 = .ok (.tableswitch (189) 7 13 #[42, 189, 70, 189, 80, 189, 90], 42) by decide +kernel) (by rw [q26]; decide) (by rw [q26]; decide) (by rw [q26]; rfl) rfl ?_
      exact xv_w (sb218_203 E B  q_5.2 h hN) rfl
    · rw [if_neg q26] at h
      by_cases q27 : q_5.1 = 9
      · rw [if_pos q27] at h
        refine xv_tabIn E (off := 70) 84 (show decode prog_14_method_63_code 14 = .ok (.tableswitch (189) 7 13 #[42, 189, 70, 189, 80, 189, 90], 42) by decide +kernel) (by rw [q27]; decide) (by rw [q27]; decide) (by rw [q27]; rfl) rfl ?_
        refine xv_b E [.aload_n 0, .iload_n 1, .iload_n 2, .iload_n 3] (pc' := 88) (lv' := [(3, .inl q_1.1), (0, .inr (.inr (some a0))), (1, .inl v1), (2, .inl v2)]) (st' := [.inl q_1.1, .inl v2, .inl v1, .inr (.inr (some a0))]) (by decide +kernel) rfl rfl ?_
        obtain ⟨b_30, h31, h⟩ := bd h
        obtain ⟨eh31, th31⟩ := g_o_some h31
        obtain ⟨q_28, h29, h⟩ := bd h
        refine xv_cvo E eh31 12 (as := [.inl v1, .inl v2, .inl q_1.1]) (t216 G l (c_V_some h29)) cd216 mw1100 mw1101 mw1102 (show decode prog_14_method_63_code 88 = .ok (.invokevirtual 401, 3) by decide +kernel) th31 rfl rfl (Nat.le_of_ble_eq_true rfl) ⟨Nat.le_of_ble_eq_true rfl, Nat.le_of_ble_eq_true rfl⟩ ?_
        refine xv_goto E 203 (show decode prog_14_method_63_code 91 = .ok (.goto (112), 3) by decide +kernel) rfl ?_
        exact xv_w (sb218_203 E B  q_28 h hN) rfl
      · rw [if_neg q27] at h
        by_cases q32 : q_5.1 = 10
        · rw [if_pos q32] at h
          refine xv_tabIn E (off := 189) 203 (show decode prog_14_method_63_code 14 = .ok (.tableswitch (189) 7 13 #[42, 189, 70, 189, 80, 189, 90], 42) by decide +kernel) (by rw [q32]; decide) (by rw [q32]; decide) (by rw [q32]; rfl) rfl ?_
          exact xv_w (sb218_203 E B  q_5.2 h hN) rfl
        · rw [if_neg q32] at h
          by_cases q33 : q_5.1 = 11
          · rw [if_pos q33] at h
            refine xv_tabIn E (off := 80) 94 (show decode prog_14_method_63_code 14 = .ok (.tableswitch (189) 7 13 #[42, 189, 70, 189, 80, 189, 90], 42) by decide +kernel) (by rw [q33]; decide) (by rw [q33]; decide) (by rw [q33]; rfl) rfl ?_
            refine xv_b E [.aload_n 0, .iload_n 1, .iload_n 2, .iload_n 3] (pc' := 98) (lv' := [(3, .inl q_1.1), (0, .inr (.inr (some a0))), (1, .inl v1), (2, .inl v2)]) (st' := [.inl q_1.1, .inl v2, .inl v1, .inr (.inr (some a0))]) (by decide +kernel) rfl rfl ?_
            obtain ⟨b_36, h37, h⟩ := bd h
            obtain ⟨eh37, th37⟩ := g_o_some h37
            obtain ⟨q_34, h35, h⟩ := bd h
            refine xv_cvo E eh37 12 (as := [.inl v1, .inl v2, .inl q_1.1]) (t214 G l (c_V_some h35)) cd214 mw1103 mw1104 mw1105 (show decode prog_14_method_63_code 98 = .ok (.invokevirtual 404, 3) by decide +kernel) th37 rfl rfl (Nat.le_of_ble_eq_true rfl) ⟨Nat.le_of_ble_eq_true rfl, Nat.le_of_ble_eq_true rfl⟩ ?_
            refine xv_goto E 203 (show decode prog_14_method_63_code 101 = .ok (.goto (102), 3) by decide +kernel) rfl ?_
            exact xv_w (sb218_203 E B  q_34 h hN) rfl
          · rw [if_neg q33] at h
            by_cases q38 : q_5.1 = 12
            · rw [if_pos q38] at h
              refine xv_tabIn E (off := 189) 203 (show decode prog_14_method_63_code 14 = .ok (.tableswitch (189) 7 13 #[42, 189, 70, 189, 80, 189, 90], 42) by decide +kernel) (by rw [q38]; decide) (by rw [q38]; decide) (by rw [q38]; rfl) rfl ?_
              exact xv_w (sb218_203 E B  q_5.2 h hN) rfl
            · rw [if_neg q38] at h
              by_cases q39 : q_5.1 = 13
              · rw [if_pos q39] at h
                refine xv_tabIn E (off := 90) 104 (show decode prog_14_method_63_code 14 = .ok (.tableswitch (189) 7 13 #[42, 189, 70, 189, 80, 189, 90], 42) by decide +kernel) (by rw [q39]; decide) (by rw [q39]; decide) (by rw [q39]; rfl) rfl ?_
                refine xv_b E [.iconst 0, .istore 4] (pc' := 107) (lv' := [(4, .inl (0 : Int32)), (3, .inl q_1.1), (0, .inr (.inr (some a0))), (1, .inl v1), (2, .inl v2)]) (st' := []) (by decide +kernel) rfl rfl ?_
                obtain rfl := Option.some.inj h
                exact xv_w hN rfl
              · rw [if_neg q39] at h
                refine xv_tabOut E 203 (show decode prog_14_method_63_code 14 = .ok (.tableswitch (189) 7 13 #[42, 189, 70, 189, 80, 189, 90], 42) by decide +kernel) (sw_out (lo := 7) (hi := 13) (by decide) (by decide) (fun k h1 h2 => ?_)) rfl ?_
                · rcases (show k = 7 ∨ k = 8 ∨ k = 9 ∨ k = 10 ∨ k = 11 ∨ k = 12 ∨ k = 13 by omega) with rfl | rfl | rfl | rfl | rfl | rfl | rfl
                  · exact q9
                  · exact q26
                  · exact q27
                  · exact q32
                  · exact q33
                  · exact q38
                  · exact q39
                · exact xv_w (sb218_203 E B  q_5.2 h hN) rfl
theorem sb218_175 (E : xE G p (xRm 6 (h_sz M' - z0) (h_sl M' - y0)) s m args c prog_14_method_63_code "ZonedFabricModel" z0 y0 (h_sz M') (h_sl M') 5) (B : xB ym218 none meth) (a0 : Nat) (v1 : Int32) (v2 : Int32) (v3 : Int32) (v4 : Int32) (M : hM) {res : xRes} (h : b218_175 a0 v1 v2 v3 v4 M = some res) (hN : xN (pg218 p l e s m args below meth c G z0 y0 r M') r M' res) : xV G p l e (xRm 6 (h_sz M' - z0) (h_sl M' - y0)) s m args below meth c z0 y0 (h_sz M') (h_sl M') 5 (MQ below (xQc G r M') args s (h_sz M' - z0) (h_sl M' - y0) (xFr G)) 175 [(0, .inr (.inr (some a0))), (1, .inl v1), (2, .inl v2), (3, .inl v3), (4, .inl v4)] [] M := by
  unfold b218_175 at h
  refine xv_b E [.iinc 4 1] (pc' := 178) (lv' := [(4, .inl (v4 + (1 : Int32))), (0, .inr (.inr (some a0))), (1, .inl v1), (2, .inl v2), (3, .inl v3)]) (st' := []) (by decide +kernel) rfl rfl ?_
  refine xv_goto E 107 (show decode prog_14_method_63_code 178 = .ok (.goto (-71), 3) by decide +kernel) rfl ?_
  obtain rfl := Option.some.inj h
  exact xv_w hN rfl
theorem sb218_107 (E : xE G p (xRm 6 (h_sz M' - z0) (h_sl M' - y0)) s m args c prog_14_method_63_code "ZonedFabricModel" z0 y0 (h_sz M') (h_sl M') 5) (B : xB ym218 none meth) (a0 : Nat) (v1 : Int32) (v2 : Int32) (v3 : Int32) (v4 : Int32) (M : hM) {res : xRes} (h : b218_107 a0 v1 v2 v3 v4 M = some res) (hN : xN (pg218 p l e s m args below meth c G z0 y0 r M') r M' res) : xV G p l e (xRm 6 (h_sz M' - z0) (h_sl M' - y0)) s m args below meth c z0 y0 (h_sz M') (h_sl M') 5 (MQ below (xQc G r M') args s (h_sz M' - z0) (h_sl M' - y0) (xFr G)) 107 [(0, .inr (.inr (some a0))), (1, .inl v1), (2, .inl v2), (3, .inl v3), (4, .inl v4)] [] M := by
  unfold b218_107 at h
  refine xv_b E [.iload 4, .aload_n 0] (pc' := 110) (lv' := [(0, .inr (.inr (some a0))), (1, .inl v1), (2, .inl v2), (3, .inl v3), (4, .inl v4)]) (st' := [.inr (.inr (some a0)), .inl v4]) (by decide +kernel) rfl rfl ?_
  obtain ⟨o_40, h41, h⟩ := bd h
  refine xg_r E 12 46 h41 mw905 (show decode prog_14_method_63_code 110 = .ok (.getfield 131, 3) by decide +kernel) ?_
  refine xv_b E [.iload_n 1] (pc' := 114) (lv' := [(0, .inr (.inr (some a0))), (1, .inl v1), (2, .inl v2), (3, .inl v3), (4, .inl v4)]) (st' := [.inl v1, .inr (.inr o_40), .inl v4]) (by decide +kernel) rfl rfl ?_
  obtain ⟨v_42, h43, h⟩ := bd h
  refine xa_i E h43 (show decode prog_14_method_63_code 114 = .ok (.iaload, 1) by decide +kernel) ?_
  by_cases q74 : v_42 ≤ v4
  · rw [if_pos q74] at h
    refine xv_icmp_ge E 181 (show decode prog_14_method_63_code 115 = .ok (.if_icmp .ge (66), 3) by decide +kernel) rfl (fun _ => ?_) (fun z => absurd q74 z)
    refine xv_b E [.aload_n 0, .aload_n 0, .iload_n 1] (pc' := 184) (lv' := [(0, .inr (.inr (some a0))), (1, .inl v1), (2, .inl v2), (3, .inl v3), (4, .inl v4)]) (st' := [.inl v1, .inr (.inr (some a0)), .inr (.inr (some a0))]) (by decide +kernel) rfl rfl ?_
    obtain ⟨b_46, h47, h⟩ := bd h
    obtain ⟨eh47, th47⟩ := g_o_some h47
    obtain ⟨q_44, h45, h⟩ := bd h
    refine xv_cvo E eh47 12 (as := [.inl v1]) (t176 G l (c_I_some h45)) cd176 mw1040 mw1041 mw1042 (show decode prog_14_method_63_code 184 = .ok (.invokevirtual 352, 3) by decide +kernel) th47 rfl rfl (Nat.le_of_ble_eq_true rfl) ⟨Nat.le_of_ble_eq_true rfl, Nat.le_of_ble_eq_true rfl⟩ ?_
    refine xv_b E [.aload_n 0, .iload_n 1, .iload_n 2, .bipush 14, .iconst 0, .iconst 0] (pc' := 194) (lv' := [(0, .inr (.inr (some a0))), (1, .inl v1), (2, .inl v2), (3, .inl v3), (4, .inl v4)]) (st' := [.inl (0 : Int32), .inl (0 : Int32), .inl (14 : Int32), .inl v2, .inl v1, .inr (.inr (some a0)), .inl q_44.1, .inr (.inr (some a0))]) (by decide +kernel) rfl rfl ?_
    obtain ⟨b_50, h51, h⟩ := bd h
    obtain ⟨eh51, th51⟩ := g_o_some h51
    obtain ⟨q_48, h49, h⟩ := bd h
    refine xv_cvo E eh51 12 (as := [.inl v1, .inl v2, .inl (14 : Int32), .inl (0 : Int32), .inl (0 : Int32)]) (t212 G l (c_I_some h49)) cd212 mw1082 mw1083 mw1084 (show decode prog_14_method_63_code 194 = .ok (.invokevirtual 394, 3) by decide +kernel) th51 rfl rfl (Nat.le_of_ble_eq_true rfl) ⟨Nat.le_of_ble_eq_true rfl, Nat.le_of_ble_eq_true rfl⟩ ?_
    obtain ⟨b_54, h55, h⟩ := bd h
    obtain ⟨eh55, th55⟩ := g_o_some h55
    obtain ⟨q_52, h53, h⟩ := bd h
    refine xv_cvo E eh55 12 (as := [.inl q_44.1, .inl q_48.1]) (t183 G l (c_V_some h53)) cd183 mw1043 mw1044 mw1045 (show decode prog_14_method_63_code 197 = .ok (.invokevirtual 301, 3) by decide +kernel) th55 rfl rfl (Nat.le_of_ble_eq_true rfl) ⟨Nat.le_of_ble_eq_true rfl, Nat.le_of_ble_eq_true rfl⟩ ?_
    refine xv_goto E 203 (show decode prog_14_method_63_code 200 = .ok (.goto (3), 3) by decide +kernel) rfl ?_
    exact xv_w (sb218_203 E B  q_52 h hN) rfl
  · rw [if_neg q74] at h
    refine xv_icmp_ge E 181 (show decode prog_14_method_63_code 115 = .ok (.if_icmp .ge (66), 3) by decide +kernel) rfl (fun z => absurd z q74) (fun _ => ?_)
    refine xv_b E [.aload_n 0] (pc' := 119) (lv' := [(0, .inr (.inr (some a0))), (1, .inl v1), (2, .inl v2), (3, .inl v3), (4, .inl v4)]) (st' := [.inr (.inr (some a0))]) (by decide +kernel) rfl rfl ?_
    obtain ⟨o_56, h57, h⟩ := bd h
    refine xg_r E 12 44 h57 mw903 (show decode prog_14_method_63_code 119 = .ok (.getfield 125, 3) by decide +kernel) ?_
    refine xv_b E [.bipush 48, .iload_n 1, .imul, .bipush 8, .iload 4, .imul, .iadd] (pc' := 132) (lv' := [(0, .inr (.inr (some a0))), (1, .inl v1), (2, .inl v2), (3, .inl v3), (4, .inl v4)]) (st' := [.inl (((48 : Int32) * v1) + ((8 : Int32) * v4)), .inr (.inr o_56)]) (by decide +kernel) rfl rfl ?_
    obtain ⟨v_58, h59, h⟩ := bd h
    refine xa_i E h59 (show decode prog_14_method_63_code 132 = .ok (.iaload, 1) by decide +kernel) ?_
    refine xv_b E [.iload_n 3] (pc' := 134) (lv' := [(0, .inr (.inr (some a0))), (1, .inl v1), (2, .inl v2), (3, .inl v3), (4, .inl v4)]) (st' := [.inl v3, .inl v_58]) (by decide +kernel) rfl rfl ?_
    by_cases q73 : v_58 = v3
    · rw [if_pos q73] at h
      refine xv_icmp_ne E 175 (show decode prog_14_method_63_code 134 = .ok (.if_icmp .ne (41), 3) by decide +kernel) rfl (fun z => absurd q73 z) (fun _ => ?_)
      refine xv_b E [.aload_n 0] (pc' := 138) (lv' := [(0, .inr (.inr (some a0))), (1, .inl v1), (2, .inl v2), (3, .inl v3), (4, .inl v4)]) (st' := [.inr (.inr (some a0))]) (by decide +kernel) rfl rfl ?_
      obtain ⟨o_60, h61, h⟩ := bd h
      refine xg_r E 12 44 h61 mw903 (show decode prog_14_method_63_code 138 = .ok (.getfield 125, 3) by decide +kernel) ?_
      refine xv_b E [.bipush 48, .iload_n 1, .imul, .bipush 8, .iload 4, .imul, .iadd, .iconst 1, .iadd] (pc' := 153) (lv' := [(0, .inr (.inr (some a0))), (1, .inl v1), (2, .inl v2), (3, .inl v3), (4, .inl v4)]) (st' := [.inl ((((48 : Int32) * v1) + ((8 : Int32) * v4)) + (1 : Int32)), .inr (.inr o_60)]) (by decide +kernel) rfl rfl ?_
      obtain ⟨v_62, h63, h⟩ := bd h
      refine xa_i E h63 (show decode prog_14_method_63_code 153 = .ok (.iaload, 1) by decide +kernel) ?_
      refine xv_b E [.aload_n 0, .iload_n 2, .bipush 7, .iconst 2] (pc' := 159) (lv' := [(0, .inr (.inr (some a0))), (1, .inl v1), (2, .inl v2), (3, .inl v3), (4, .inl v4)]) (st' := [.inl (2 : Int32), .inl (7 : Int32), .inl v2, .inr (.inr (some a0)), .inl v_62]) (by decide +kernel) rfl rfl ?_
      obtain ⟨b_66, h67, h⟩ := bd h
      obtain ⟨eh67, th67⟩ := g_o_some h67
      obtain ⟨q_64, h65, h⟩ := bd h
      refine xv_cvo E eh67 12 (as := [.inl v2, .inl (7 : Int32), .inl (2 : Int32)]) (t166 G l (c_I_some h65)) cd166 mw947 mw948 mw949 (show decode prog_14_method_63_code 159 = .ok (.invokevirtual 198, 3) by decide +kernel) th67 rfl rfl (Nat.le_of_ble_eq_true rfl) ⟨Nat.le_of_ble_eq_true rfl, Nat.le_of_ble_eq_true rfl⟩ ?_
      by_cases q72 : v_62 = q_64.1
      · rw [if_pos q72] at h
        refine xv_icmp_ne E 175 (show decode prog_14_method_63_code 162 = .ok (.if_icmp .ne (13), 3) by decide +kernel) rfl (fun z => absurd q72 z) (fun _ => ?_)
        refine xv_b E [.aload_n 0, .iload_n 1, .iload 4] (pc' := 169) (lv' := [(0, .inr (.inr (some a0))), (1, .inl v1), (2, .inl v2), (3, .inl v3), (4, .inl v4)]) (st' := [.inl v4, .inl v1, .inr (.inr (some a0))]) (by decide +kernel) rfl rfl ?_
        obtain ⟨b_70, h71, h⟩ := bd h
        obtain ⟨eh71, th71⟩ := g_o_some h71
        obtain ⟨q_68, h69, h⟩ := bd h
        refine xv_cvo E eh71 12 (as := [.inl v1, .inl v4]) (t203 G l (c_V_some h69)) cd203 mw1065 mw1066 mw1067 (show decode prog_14_method_63_code 169 = .ok (.invokevirtual 370, 3) by decide +kernel) th71 rfl rfl (Nat.le_of_ble_eq_true rfl) ⟨Nat.le_of_ble_eq_true rfl, Nat.le_of_ble_eq_true rfl⟩ ?_
        refine xv_goto E 107 (show decode prog_14_method_63_code 172 = .ok (.goto (-65), 3) by decide +kernel) rfl ?_
        obtain rfl := Option.some.inj h
        exact xv_w hN rfl
      · rw [if_neg q72] at h
        refine xv_icmp_ne E 175 (show decode prog_14_method_63_code 162 = .ok (.if_icmp .ne (13), 3) by decide +kernel) rfl (fun _ => ?_) (fun z => absurd z q72)
        exact xv_w (sb218_175 E B a0 v1 v2 v3 v4 q_64.2 h hN) rfl
    · rw [if_neg q73] at h
      refine xv_icmp_ne E 175 (show decode prog_14_method_63_code 134 = .ok (.if_icmp .ne (41), 3) by decide +kernel) rfl (fun _ => ?_) (fun z => absurd z q73)
      exact xv_w (sb218_175 E B a0 v1 v2 v3 v4 M h hN) rfl
end
theorem t218 (G : gX) (l : Launch) {as : List aV} {M : hM} {r : Option aV} {M' : hM} (h : f218 as M = some (r, M')) : xM G l ym218 prog_14_method_63_code 5 none 6 as M r M' := by
  unfold f218 at h
  split at h
  · have hle : ∀ h as M res, k218 h as M = some res → h_sz M ≤ r_sz res ∧ h_sl M ≤ r_sl res := by
      intro h as M res hb
      unfold k218 at hb
      by_cases e0 : h = 107
      · rw [if_pos e0] at hb
        split at hb
        · exact lb218_107 G l _ _ _ _ _ M hb
        · cases hb
      · rw [if_neg e0] at hb
        cases hb
    obtain ⟨res, hx, hres⟩ := x_go_ok h
    refine xM_of (by decide) (Nat.le_of_ble_eq_true rfl) ?_ ?_
    · have e1 := lb218_0 G l _ _ _ M hx
      have e2 := x_go_le hle hres
      omega
    · intro p e s m args below meth c E B
      refine sb218_0 E B _ _ _ M hx (hres _ ?_)
      intro h as M res hb hN
      unfold k218 at hb
      unfold pg218
      by_cases e0 : h = 107
      · rw [if_pos e0] at hb ⊢
        split at hb
        · exact sb218_107 E B _ _ _ _ _ M hb hN
        · cases hb
      · rw [if_neg e0] at hb ⊢
        cases hb
  · cases h
